/-! Pure rows: numbers, reads, writes -/
theorem fu_eq : fu = 1000 := rfl
theorem cl_nI {j : Nat} (h : j < 2 ^ 31) : (nI j).toNatClampNeg = j := nI_clamp h
theorem rd_i {M : Mm} {k n : Nat} {x : Int32} (j : Nat) (hx : x = nI j) (hj : j < n) (hn : n ≤ 1000) : rd M k n x = some (M.1 k j) := by
  subst hx
  unfold rd
  rw [if_neg (nI_in hj (by omega)), nI_clamp (by omega)]
theorem wr_i {M : Mm} {k n : Nat} {x v : Int32} (j : Nat) (hx : x = nI j) (hj : j < n) (hn : n ≤ 1000) : wr M k n x v = some (stI M k j v) := by
  subst hx
  unfold wr
  rw [if_neg (nI_in hj (by omega)), nI_clamp (by omega)]
theorem rdT_i {f : Nat → Int32} {n : Nat} {x : Int32} (j : Nat) (hx : x = nI j) (hj : j < n) (hn : n < 2 ^ 31) : rdT f n x = some (f j) := by
  subst hx
  unfold rdT
  rw [if_neg (nI_in hj (by omega)), nI_clamp (by omega)]
theorem rd_b {β : Type} {M : Mm} {k n : Nat} {x : Int32} {f : Int32 → Option β} (j : Nat) (hx : x = nI j) (hj : j < n) (hn : n ≤ 1000) : (rd M k n x).bind f = f (M.1 k j) := by rw [rd_i j hx hj hn]; rfl
theorem wr_b {β : Type} {M : Mm} {k n : Nat} {x v : Int32} {f : Mm → Option β} (j : Nat) (hx : x = nI j) (hj : j < n) (hn : n ≤ 1000) : (wr M k n x v).bind f = f (stI M k j v) := by rw [wr_i j hx hj hn]; rfl
theorem rdT_b {β : Type} {g : Nat → Int32} {n : Nat} {x : Int32} {f : Int32 → Option β} (j : Nat) (hx : x = nI j) (hj : j < n) (hn : n ≤ 1000) : (rdT g n x).bind f = f (g j) := by rw [rdT_i j hx hj (by omega)]; rfl
theorem so_b {α β : Type} {a : α} {f : α → Option β} : (some a).bind f = f a := rfl
theorem lt_e {α β : Type} {a : α} {k : α → β} : lt a k = k a := rfl
theorem jn_e {α β : Type} {K : α} {b : α → β} : jn K b = b K := rfl
/-- reads behind writes -/
theorem stI_1 (M : Mm) (k j : Nat) (v : Int32) (a b : Nat) : (stI M k j v).1 a b = if a = k then (if b = j then v else M.1 k b) else M.1 a b := by
  unfold stI stA upd
  by_cases h : a = k <;> simp [h]
theorem stI_2 (M : Mm) (k j : Nat) (v : Int32) : (stI M k j v).2 = M.2 := rfl
theorem stI_c (M : Mm) (k j : Nat) (v : Int32) (a : Nat) (h : a ≠ k) : (stI M k j v).1 a = M.1 a := stA_ne _ _ _ _ h
theorem stA_1 (M : Mm) (k : Nat) (f : Nat → Int32) (a : Nat) : (stA M k f).1 a = if a = k then f else M.1 a := by
  unfold stA; by_cases h : a = k <;> simp [h]
theorem stA_2 (M : Mm) (k : Nat) (f : Nat → Int32) : (stA M k f).2 = M.2 := rfl
theorem stL_1 (M : Mm) (k j : Nat) (v : Int64) : (stL M k j v).1 = M.1 := rfl
theorem stL_2 (M : Mm) (k j : Nat) (v : Int64) : (stL M k j v).2 k j = v := by simp [stL, vp_updL]
/-- the numbers as ints -/
theorem tI_add {a b : Int32} (h1 : -2147483648 ≤ a.toInt + b.toInt) (h2 : a.toInt + b.toInt < 2147483648) : (a + b).toInt = a.toInt + b.toInt := by
  rw [Int32.toInt_add]; exact Int.bmod_eq_of_le (by simpa using h1) (by simpa using h2)
theorem tI_sub {a b : Int32} (h1 : -2147483648 ≤ a.toInt - b.toInt) (h2 : a.toInt - b.toInt < 2147483648) : (a - b).toInt = a.toInt - b.toInt := by
  rw [Int32.toInt_sub]; exact Int.bmod_eq_of_le (by simpa using h1) (by simpa using h2)
theorem tI_mul {a b : Int32} (h1 : -2147483648 ≤ a.toInt * b.toInt) (h2 : a.toInt * b.toInt < 2147483648) : (a * b).toInt = a.toInt * b.toInt := by
  rw [Int32.toInt_mul]; exact Int.bmod_eq_of_le (by simpa using h1) (by simpa using h2)
theorem tI_neg {a : Int32} (h1 : -2147483648 ≤ -a.toInt) (h2 : -a.toInt < 2147483648) : (-a).toInt = -a.toInt := by
  rw [Int32.toInt_neg]; exact Int.bmod_eq_of_le (by simpa using h1) (by simpa using h2)
theorem tI_le {a b : Int32} : a ≤ b ↔ a.toInt ≤ b.toInt := Int32.le_iff_toInt_le
theorem tI_lt {a b : Int32} : a < b ↔ a.toInt < b.toInt := Int32.lt_iff_toInt_lt
theorem tI_eq {a b : Int32} : a = b ↔ a.toInt = b.toInt := Int32.toInt_inj.symm
/-- small masks, by the kernel: bit b of m -/
def bt (m b : Nat) : Bool := m.testBit b
theorem bt_shr : ∀ m, m < 64 → ∀ b, b < 7 → ((nI m >>> (nI b &&& 31)) &&& 1) = if bt m b then 1 else 0 := by decide +kernel
theorem or_b : ∀ m, m < 64 → ∀ b, b < 6 → (nI m ||| ((1 : Int32) <<< (nI b &&& 31))) = nI (m ||| 2 ^ b) := by decide +kernel
theorem or_lt : ∀ m, m < 64 → ∀ b, b < 6 → m ||| 2 ^ b < 64 := by decide +kernel
theorem or_lt' : ∀ n, n < 7 → ∀ m, m < 2 ^ n → ∀ b, b < n → m ||| 2 ^ b < 2 ^ n := by decide +kernel
theorem or_gt : ∀ m, m < 64 → ∀ b, b < 6 → bt m b = false → m < m ||| 2 ^ b := by decide +kernel
theorem or_bt : ∀ m, m < 64 → ∀ b, b < 6 → ∀ c, c < 7 → bt (m ||| 2 ^ b) c = (bt m c || c == b) := by decide +kernel
theorem sub_b : ∀ m, m < 64 → ∀ b, b < 6 → bt m b = true → nI m - ((1 : Int32) <<< (nI b &&& 31)) = nI (m - 2 ^ b) := by decide +kernel
theorem and_b : ∀ m, m < 64 → ∀ b, b < 6 → bt m b = true → (nI m &&& (((1 : Int32) <<< (nI b &&& 31)) ^^^ -1)) = nI (m - 2 ^ b) := by decide +kernel
theorem sub_lt : ∀ n, n < 7 → ∀ m, m < 2 ^ n → ∀ b, m - 2 ^ b < 2 ^ n := fun n _ m h b => Nat.lt_of_le_of_lt (Nat.sub_le _ _) h
theorem all_m : ∀ n, n < 7 → ((1 : Int32) <<< (nI n &&& 31)) - 1 = nI (2 ^ n - 1) := by decide +kernel
