/-! which bends are free: the reference's isFree, the folder's crossesAt, hitOf, freeAt -/
def fr (r : Nat → Int32) (n m b : Nat) : Prop := bt m b = false ∧ htS r n (nI m) b = 0
theorem bt_iff {m b : Nat} (hm : m < 64) (hb : b < 7) : (((nI m >>> (nI b &&& 31)) &&& (1 : Int32)) = (1 : Int32)) ↔ bt m b = true := by
  rw [bt_shr m hm b hb]
  cases bt m b <;> simp
theorem bt_iff0 {m b : Nat} (hm : m < 64) (hb : b < 7) : (((nI m >>> (nI b &&& 31)) &&& (1 : Int32)) = (0 : Int32)) ↔ bt m b = false := by
  rw [bt_shr m hm b hb]
  cases bt m b <;> simp
theorem pw_le {n m : Nat} (hn : n ≤ 6) (hm : m < 2 ^ n) : m < 64 := Nat.lt_of_lt_of_le hm (Nat.pow_le_pow_right (by decide) hn)
theorem isFree_ok {r : Nat → Int32} {n : Nat} (hw : WfR r n) {M : Mm} (hS : Nwk M r) {m b : Nat} (hm : m < 64) (hb : b < n) : ∃ M', fX7_isFree (nI b) (nI m) M = some (ic (fr r n m b) 1 0, M') ∧ Oth M M' [60, 61, 62] := by
  have hn := hw.1
  unfold fX7_isFree
  rw [has_ok, so_b]
  obtain ⟨M1, e1, o1⟩ := hitBy_ok hw (nI m) hS b hb
  by_cases h : bt m b = true
  · rw [if_pos ((bt_iff hm (by omega)).mpr h)]
    exact ⟨M, by rw [if_neg z10, ic_f (fun g => by rw [g.1] at h; cases h)], Oth.refl _ _⟩
  · rw [if_neg (fun g => h ((bt_iff hm (by omega)).mp g))]
    refine ⟨M1, ?_, o1⟩
    rw [if_pos rfl, e1, so_b]
    by_cases g : htS r n (nI m) b = 0
    · rw [if_pos g, ic_t ⟨by simpa using h, g⟩]
    · rw [if_neg g, ic_f (fun q => g q.2)]
noncomputable def frN (r : Nat → Int32) (n m : Nat) : Nat → Nat
  | 0 => 0
  | b + 1 => frN r n m b + ic (fr r n m b) (2 ^ b) 0
noncomputable def frS (r : Nat → Int32) (n m : Nat) : Nat := frN r n m n
theorem bt_ext : ∀ x, x < 64 → ∀ y, y < 64 → (∀ b, b < 6 → bt x b = bt y b) → x = y := by decide +kernel
theorem bt_add : ∀ k, k < 6 → ∀ x, x < 2 ^ k → ∀ b, b < 7 → bt (x + 2 ^ k) b = (bt x b || b == k) := by decide +kernel
theorem bt_hi : ∀ k, k < 7 → ∀ x, x < 2 ^ k → ∀ b, b < 7 → k ≤ b → bt x b = false := by decide +kernel
theorem bt_sub : ∀ x, x < 64 → ∀ k, k < 6 → bt x k = true → ∀ b, b < 6 → bt (x - 2 ^ k) b = (bt x b && b != k) := by decide +kernel
theorem frN_ok (r : Nat → Int32) (n m : Nat) : ∀ k, k ≤ 6 → frN r n m k < 2 ^ k ∧ ∀ b, b < 6 → (bt (frN r n m k) b = true ↔ (b < k ∧ fr r n m b))
  | 0, _ => ⟨Nat.zero_lt_one, fun b hb => by rw [frN]; simp [bt]⟩
  | k + 1, hk => by
    obtain ⟨h1, h2⟩ := frN_ok r n m k (by omega)
    rw [frN]
    by_cases g : fr r n m k
    · rw [ic_t g]
      refine ⟨by rw [Nat.pow_succ]; omega, fun b hb => ?_⟩
      rw [bt_add k (by omega) _ h1 b (by omega)]
      by_cases e : b = k
      · subst e; simp [g]
      · simp [e, h2 b hb]; intro _; omega
    · rw [ic_f g]
      refine ⟨by rw [Nat.pow_succ]; omega, fun b hb => ?_⟩
      rw [Nat.add_zero, h2 b hb]
      constructor
      · rintro ⟨a1, a2⟩; exact ⟨by omega, a2⟩
      · rintro ⟨a1, a2⟩
        refine ⟨?_, a2⟩
        rcases Nat.lt_or_ge b k with h | h
        · exact h
        · have : b = k := by omega
          subst this
          exact absurd a2 g
theorem frS_lt {r : Nat → Int32} {n : Nat} (hw : WfR r n) (m : Nat) : frS r n m < 64 := pw_le hw.1 (frN_ok r n m n hw.1).1
theorem frS_bt {r : Nat → Int32} {n : Nat} (hw : WfR r n) (m : Nat) {b : Nat} (hb : b < 6) : bt (frS r n m) b = true ↔ (b < n ∧ fr r n m b) := (frN_ok r n m n hw.1).2 b hb
theorem frS_eq {r : Nat → Int32} {n : Nat} (hw : WfR r n) (m x : Nat) (hx : x < 64) (h : ∀ b, b < 6 → (bt x b = true ↔ (b < n ∧ fr r n m b))) : x = frS r n m := by
  refine bt_ext x hx _ (frS_lt hw m) (fun b hb => ?_)
  have a := h b hb
  have c := frS_bt hw m hb
  cases h1 : bt x b <;> cases h2 : bt (frS r n m) b <;> simp_all
/-- the folder's caches: unknown, or right -/
def CacheC (M : Mm) (r : Nat → Int32) (n : Nat) : Prop := ∀ m, m < 64 → M.1 12 m = -1 ∨ M.1 12 m = ic (crs r n (nI m)) 1 0
def CacheF (M : Mm) (r : Nat → Int32) (n : Nat) : Prop := ∀ m, m < 2 ^ n → M.1 11 m = -1 ∨ M.1 11 m = nI (frS r n m)
def CI (M : Mm) (r : Nat → Int32) (n : Nat) : Prop := Shk M 1 r ∧ (M.1 7 0 = 0 ∧ M.1 8 0 = 0) ∧ CacheC M r n ∧ CacheF M r n
theorem TrR.z {M : Mm} {r : Nat → Int32} {n : Nat} {c : Int32} (h : TrR M r n c) : M.1 7 0 = 0 ∧ M.1 8 0 = 0 := h.2.1 0 (by omega)
theorem n1_01 {p : Prop} : ¬ (ic p (1 : Int32) 0 = -1) := by
  by_cases h : p
  · rw [ic_t h]; decide
  · rw [ic_f h]; decide
theorem ic_is1 {p : Prop} {α : Type} {a b : α} : (if (ic p (1 : Int32) 0) = 1 then a else b) = ic p a b := by
  by_cases h : p
  · rw [ic_t h, ic_t h, if_pos rfl]
  · rw [ic_f h, ic_f h, if_neg (by decide)]
theorem trace_ci {r : Nat → Int32} {n : Nat} (hw : WfR r n) (c : Int32) {M : Mm} (h : CI M r n) : ∃ M', fX3_trace c M = some ((), M') ∧ Oth M M' [6, 7, 8, 9] ∧ TrR M' r n c ∧ CI M' r n := by
  obtain ⟨M', e, o, t⟩ := trace_ok hw c h.1 h.2.1
  refine ⟨M', e, o, t, h.1.oth o (by decide), t.z, ?_, ?_⟩
  · intro m hm; rw [o.2 12 (by decide)]; exact h.2.2.1 m hm
  · intro m hm; rw [o.2 11 (by decide)]; exact h.2.2.2 m hm
theorem crossAt_ok {r : Nat → Int32} {n : Nat} (hw : WfR r n) {M : Mm} (h : CI M r n) {m : Nat} (hm : m < 64) : ∃ M', fX1_crossesAt (nI m) M = some (ic (crs r n (nI m)) 1 0, M') ∧ Oth M M' [6, 7, 8, 9, 12] ∧ CI M' r n := by
  unfold fX1_crossesAt
  rw [rd_b m rfl hm (by omega), jn_e]
  by_cases g : M.1 12 m = -1
  · obtain ⟨M1, e1, o1, t1, c1⟩ := trace_ci hw (nI m) h
    simp only []
    rw [if_pos g, e1, so_b]
    simp only []
    rw [cross_ok hw _ t1, so_b]
    simp only [ic_0]
    have fin : ∀ v : Int32, v = ic (crs r n (nI m)) 1 0 → ∃ M', ((wr M1 12 64 (nI m) v).bind fun N => (rd N 12 64 (nI m)).bind fun v4 => if v4 = 1 then some ((1 : Int32), N) else some (0, N)) = some (ic (crs r n (nI m)) 1 0, M') ∧ Oth M M' [6, 7, 8, 9, 12] ∧ CI M' r n := by
      intro v hv
      rw [wr_b m rfl hm (by omega), rd_b m rfl hm (by omega)]
      have o2 : Oth M1 (stI M1 12 m v) [6, 7, 8, 9, 12] := (Oth.refl M1 _).put (by decide)
      refine ⟨stI M1 12 m v, ?_, (o1.mono (by decide)).trans o2, c1.1.oth o2 (by decide), ?_, ?_, ?_⟩
      · rw [stI_1, if_pos rfl, if_pos rfl, hv, ic_is1]
        by_cases q : crs r n (nI m)
        · rw [ic_t q, ic_t q]
        · rw [ic_f q, ic_f q]
      · rw [stI_c _ _ _ _ _ (by decide), stI_c _ _ _ _ _ (by decide)]; exact c1.2.1
      · intro k hk
        rw [stI_1, if_pos rfl]
        by_cases q : k = m
        · subst q; rw [if_pos rfl]; exact Or.inr hv
        · rw [if_neg q]; exact c1.2.2.1 k hk
      · intro k hk
        rw [stI_c _ _ _ _ _ (by decide)]
        exact c1.2.2.2 k hk
    by_cases q : crs r n (nI m)
    · rw [ic_t (a := (wr M1 12 64 (nI m) 1).bind _) q]; exact fin 1 (ic_t q).symm
    · rw [ic_f (b := (wr M1 12 64 (nI m) 0).bind _) q]; exact fin 0 (ic_f q).symm
  · have g2 := (h.2.2.1 m hm).resolve_left g
    rw [if_neg g]
    simp only []
    rw [rd_b m rfl hm (by omega), g2, ic_is1]
    refine ⟨M, ?_, Oth.refl _ _, h⟩
    by_cases q : crs r n (nI m)
    · rw [ic_t q, ic_t q]
    · rw [ic_f q, ic_f q]
theorem hitOf_ok {r : Nat → Int32} {n : Nat} (hw : WfR r n) {M : Mm} (h : CI M r n) {m b : Nat} (hm : m < 64) (hb : b < n) : ∃ M', fX1_hitOf (nI m) (nI b) M = some (htS r n (nI m) b, M') ∧ Oth M M' [6, 7, 8, 9, 12] ∧ CI M' r n := by
  have hn := hw.1
  unfold fX1_hitOf
  obtain ⟨M1, e1, o1, t1, c1⟩ := trace_ci hw (nI m) h
  rw [e1, so_b]
  simp only []
  rw [press_ok hw _ c1.1 t1 b hb, so_b]
  obtain ⟨M2, e2, o2, c2⟩ := crossAt_ok hw c1 (m := m ||| 2 ^ b) (or_lt m hm b (by omega))
  rw [← or_b m hm b (by omega)] at e2
  have oo := (o1.mono (l' := [6, 7, 8, 9, 12]) (by decide)).trans o2
  unfold htS
  by_cases hB : anyB r n (nI m) b
  · rw [ic_t hB, ic_t hB]
    exact ⟨M1, by rw [if_neg z10], o1.mono (by decide), c1⟩
  · rw [ic_f hB, ic_f hB]
    by_cases hA : anyA r n (nI m) b
    · rw [ic_t hA, ic_t hA]
      exact ⟨M1, by rw [if_neg (show ¬ ((2 : Int32) = 0) by decide)], o1.mono (by decide), c1⟩
    · rw [ic_f hA, ic_f hA, if_pos rfl, e2, so_b]
      simp only [ic_0]
      refine ⟨M2, ?_, oo, c2⟩
      rw [or_b m hm b (by omega)]
      by_cases q : crs r n (nI (m ||| 2 ^ b))
      · rw [ic_t q, ic_t q]
      · rw [ic_f q, ic_f q]
