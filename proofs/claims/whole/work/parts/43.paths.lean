/-! the folder counts the ways forward -/
theorem fill_loop (K : Mm → Option (Unit × Mm)) {k n : Nat} (hn : n ≤ 500) (v : Int32) : ∀ (d f i : Nat) (M : Mm), i + d = n → d < f → (∀ j, j < i → M.1 k j = v) → ∃ M', lJ7_fill_53178_5 K k n v (nI n) f (nI i) M = K M' ∧ Oth M M' [k] ∧ ∀ j, j < n → M'.1 k j = v := by
  intro d
  induction d with
  | zero =>
    intro f i M hi hf h
    obtain ⟨f, rfl⟩ : ∃ g, f = g + 1 := ⟨f - 1, by omega⟩
    have hi : i = n := by omega
    subst hi
    exact ⟨M, by rw [lJ7_fill_53178_5, if_pos (nI_le (Nat.le_refl _) (by omega))], Oth.refl _ _, h⟩
  | succ d ih =>
    intro f i M hi hf h
    obtain ⟨f, rfl⟩ : ∃ g, f = g + 1 := ⟨f - 1, by omega⟩
    rw [lJ7_fill_53178_5, if_neg (nI_ge (by omega) (by omega)), wr_b i rfl (by omega) (by omega), nI_n1]
    have o1 : Oth M (stI M k i v) [k] := (Oth.refl M _).put (List.mem_singleton.mpr rfl)
    refine ex_o o1 (ih f (i + 1) _ (by omega) (by omega) (fun j hj => ?_))
    rw [stI_1, if_pos rfl]
    by_cases e : j = i
    · rw [if_pos e]
    · rw [if_neg e]; exact h j (by omega)
theorem fill_ok {k n : Nat} (hn : n ≤ 500) (v : Int32) (M : Mm) : ∃ M', fJ7_fill_53178 k n v M = some ((), M') ∧ Oth M M' [k] ∧ ∀ j, j < n → M'.1 k j = v := by
  unfold fJ7_fill_53178
  rw [lt_e]
  exact fill_loop (fun N7 => some ((), N7)) hn v n fu 0 M (by omega) (by rw [fu_eq]; omega) (fun j hj => absurd hj (Nat.not_lt_zero _))
theorem allBends_ok {r : Nat → Int32} {n : Nat} (hw : WfR r n) {M : Mm} (hS : Shk M 1 r) : fX4_allBends M = some (nI (2 ^ n - 1), M) := by
  unfold fX4_allBends
  rw [hS.1, hw.2.1, all_m n (by have := hw.1; omega)]
def sT (g : Nat → Nat) : Nat → Nat → Nat
  | 0, _ => 0
  | c + 1, i => g i + sT g c (i + 1)
theorem sT_c {g h : Nat → Nat} : ∀ (c i : Nat), (∀ m, i ≤ m → m < i + c → g m = h m) → sT g c i = sT h c i
  | 0, _, _ => rfl
  | c + 1, i, e => by rw [sT, sT, e i (Nat.le_refl _) (by omega), sT_c c (i + 1) (fun m a b => e m (by omega) (by omega))]
theorem sT_add {g h : Nat → Nat} {j d : Nat} : ∀ (c i : Nat), i ≤ j → j < i + c → (∀ m, i ≤ m → m < i + c → m ≠ j → h m = g m) → h j = g j + d → sT h c i = sT g c i + d
  | 0, i, h1, h2, _, _ => by omega
  | c + 1, i, h1, h2, h3, h4 => by
    rw [sT, sT]
    by_cases e : j = i
    · subst e
      rw [h4, sT_c c (j + 1) (g := h) (h := g) (fun m a b => h3 m (by omega) (by omega) (by omega))]
      omega
    · rw [h3 i (Nat.le_refl _) (by omega) (fun q => e q.symm), sT_add c (i + 1) (by omega) (by omega) (fun m a b q => h3 m (by omega) (by omega) q) h4]
      omega
theorem sT_ge {g : Nat → Nat} : ∀ (c i j : Nat), i ≤ j → j < i + c → g j ≤ sT g c i
  | 0, i, j, h1, h2 => by omega
  | c + 1, i, j, h1, h2 => by
    rw [sT]
    by_cases e : j = i
    · subst e; omega
    · have := sT_ge (g := g) c (i + 1) j (by omega) (by omega)
      omega
/-- the numbers of ways so far, masks below i done -/
def Pa (N : Mm) (r : Nat → Int32) (n s i : Nat) (a : Nat → Nat) : Prop := (∀ m, m < 64 → N.1 13 m = nI (a m)) ∧ sT (fun m => a m * cN r n m) (2 ^ n - i) i = cN r n s ∧ sT (fun m => a m * gB m) (2 ^ n - i) i ≤ 46656 ∧ (∀ m, m < i → a m ≤ 46656 ∧ (0 < a m → N.1 11 m = nI (frS r n m) ∧ ∀ b, b < n → fr r n m b → 0 < a (m ||| 2 ^ b))) ∧ 0 < a s
theorem pa_bd {N : Mm} {r : Nat → Int32} {n s i : Nat} {a : Nat → Nat} (hn : n ≤ 6) (h : Pa N r n s i a) {m : Nat} (hm : m < 2 ^ n) : a m ≤ 46656 := by
  rcases Nat.lt_or_ge m i with q | q
  · exact (h.2.2.2.1 m q).1
  · have h1 := sT_ge (g := fun m => a m * gB m) (2 ^ n - i) i m q (by omega)
    have h2 := (gB_bd m (pw_le hn hm)).1
    have h3 : a m * 1 ≤ a m * gB m := Nat.mul_le_mul_left _ h2
    have h4 := h.2.2.1
    have h1 : a m * gB m ≤ sT (fun m => a m * gB m) (2 ^ n - i) i := h1
    omega
/-- within mask m, the bends below i done -/
theorem pf52 {r : Nat → Int32} {n : Nat} (hw : WfR r n) (K : Mm → Option (Int32 × Mm)) (c4 : Int32) {m : Nat} (hm : m < 2 ^ n - 1) (a0 : Nat → Nat) : ∀ (d f i : Nat) (N : Mm) (a : Nat → Nat), i + d = n → d < f → Shk N 1 r → (∀ k, k < 64 → N.1 13 k = nI (a k)) → (∀ k, k ≤ m → a k = a0 k) → (∀ k, a0 k ≤ a k) → (0 < a0 m → ∀ b, b < i → fr r n m b → 0 < a (m ||| 2 ^ b)) → sT (fun k => a k * cN r n k) (2 ^ n - (m + 1)) (m + 1) = sT (fun k => a0 k * cN r n k) (2 ^ n - (m + 1)) (m + 1) + a0 m * sB (fun b => ic (fr r n m b) (cN r n (m ||| 2 ^ b)) 0) i → 6 * sT (fun k => a k * gB k) (2 ^ n - (m + 1)) (m + 1) ≤ 6 * sT (fun k => a0 k * gB k) (2 ^ n - (m + 1)) (m + 1) + a0 m * (i * gB m) → ∃ N', lX1_pathsFrom_52 K c4 (nI m) (nI (frS r n m)) f (nI i) N = K N' ∧ Oth N N' [13] ∧ ∃ a' : Nat → Nat, (∀ k, k < 64 → N'.1 13 k = nI (a' k)) ∧ (∀ k, k ≤ m → a' k = a0 k) ∧ (∀ k, a0 k ≤ a' k) ∧ (0 < a0 m → ∀ b, b < n → fr r n m b → 0 < a' (m ||| 2 ^ b)) ∧ sT (fun k => a' k * cN r n k) (2 ^ n - (m + 1)) (m + 1) = sT (fun k => a0 k * cN r n k) (2 ^ n - (m + 1)) (m + 1) + a0 m * cN r n m ∧ sT (fun k => a' k * gB k) (2 ^ n - (m + 1)) (m + 1) ≤ sT (fun k => a0 k * gB k) (2 ^ n - (m + 1)) (m + 1) + a0 m * gB m := by
  have hn := hw.1
  have hm2 : m < 2 ^ n := by omega
  have h64 := pw_le hn hm2
  intro d
  induction d with
  | zero =>
    intro f i N a hi hf hS hA hK hG hP hC hB
    obtain ⟨f, rfl⟩ : ∃ g, f = g + 1 := ⟨f - 1, by omega⟩
    have hi : i = n := by omega
    subst hi
    refine ⟨N, ?_, Oth.refl _ _, a, hA, hK, hG, hP, ?_, ?_⟩
    · rw [lX1_pathsFrom_52, hS.1, hw.2.1, if_pos (nI_le (Nat.le_refl _) (by omega))]
    · rw [hC, cN_eq hn hm2, ic_f (by omega), Nat.zero_add]
    · have : a0 m * (i * gB m) ≤ a0 m * (6 * gB m) := Nat.mul_le_mul_left _ (Nat.mul_le_mul_right _ hn)
      have e : a0 m * (6 * gB m) = 6 * (a0 m * gB m) := by rw [← Nat.mul_assoc, Nat.mul_comm (a0 m) 6, Nat.mul_assoc]
      rw [e] at this
      omega
  | succ d ih =>
    intro f i N a hi hf hS hA hK hG hP hC hB
    obtain ⟨f, rfl⟩ : ∃ g, f = g + 1 := ⟨f - 1, by omega⟩
    have hin : i < n := by omega
    rw [lX1_pathsFrom_52, hS.1, hw.2.1, if_neg (nI_ge (by omega) (by omega)), nI_n1]
    by_cases g : fr r n m i
    · rw [if_pos ((bt_iff (frS_lt hw m) (by omega)).mpr ((frS_bt hw m (by omega)).mpr ⟨hin, g⟩)), or_b m h64 i (by omega), rd_b (m ||| 2 ^ i) rfl (or_lt m h64 i (by omega)) (by omega), rd_b m rfl h64 (by omega), wr_b (m ||| 2 ^ i) rfl (or_lt m h64 i (by omega)) (by omega), hA _ (or_lt m h64 i (by omega)), hA m h64, nI_add]
      have h1 := or_gt m h64 i (by omega) g.1
      have h2 := or_lt' n (by omega) m hm2 i hin
      generalize hv : m ||| 2 ^ i = k9 at *
      have o1 : Oth N (stI N 13 k9 (nI (a k9 + a m))) [13] := (Oth.refl N _).put (by decide)
      refine ex_o o1 (ih f (i + 1) _ (fun k => if k = k9 then a k9 + a m else a k) (by omega) (by omega) (hS.oth o1 (by decide)) (fun k hk => ?_) (fun k hk => ?_) (fun k => ?_) (fun hp b hb hfr => ?_) ?_ ?_)
      · rw [stI_1, if_pos rfl]
        by_cases e : k = k9
        · rw [if_pos e]; simp only [if_pos e]
        · rw [if_neg e]; simp only [if_neg e]; exact hA k hk
      · simp only [if_neg (show k ≠ k9 by omega)]; exact hK k hk
      · by_cases e : k = k9
        · simp only [if_pos e]; have := hG k; rw [e] at this ⊢; omega
        · simp only [if_neg e]; exact hG k
      · by_cases e : (m ||| 2 ^ b) = k9
        · simp only [if_pos e]
          have := hK m (Nat.le_refl _)
          omega
        · simp only [if_neg e]
          refine hP hp b ?_ hfr
          rcases Nat.lt_or_ge b i with h | h
          · exact h
          · have : b = i := by omega
            subst this
            exact absurd hv e
      · rw [sT_add (g := fun k => a k * cN r n k) (h := fun k => (if k = k9 then a k9 + a m else a k) * cN r n k) (j := k9) (d := a m * cN r n k9) (2 ^ n - (m + 1)) (m + 1) (by omega) (by omega) (fun k _ _ e => by simp only [if_neg e]) (by simp only [if_true]; rw [Nat.add_mul]), hC, sB, ic_t g, hv, hK m (Nat.le_refl _), Nat.mul_add]
        omega
      · rw [sT_add (g := fun k => a k * gB k) (h := fun k => (if k = k9 then a k9 + a m else a k) * gB k) (j := k9) (d := a m * gB k9) (2 ^ n - (m + 1)) (m + 1) (by omega) (by omega) (fun k _ _ e => by simp only [if_neg e]) (by simp only [if_true]; rw [Nat.add_mul]), hK m (Nat.le_refl _)]
        have h5 := gB_dn m h64 i (by omega) g.1
        rw [hv] at h5
        have h6 : a0 m * (6 * gB k9) ≤ a0 m * gB m := Nat.mul_le_mul_left _ h5
        have e1 : a0 m * (6 * gB k9) = 6 * (a0 m * gB k9) := by rw [← Nat.mul_assoc, Nat.mul_comm (a0 m) 6, Nat.mul_assoc]
        have e2 : a0 m * ((i + 1) * gB m) = a0 m * (i * gB m) + a0 m * gB m := by rw [Nat.add_mul, Nat.one_mul, Nat.mul_add]
        rw [e1] at h6
        rw [e2]
        omega
    · rw [if_neg (fun h => g ((frS_bt hw m (by omega)).mp ((bt_iff (frS_lt hw m) (by omega)).mp h)).2)]
      refine ih f (i + 1) N a (by omega) (by omega) hS hA hK hG (fun hp b hb hfr => ?_) ?_ ?_
      · refine hP hp b ?_ hfr
        rcases Nat.lt_or_ge b i with h | h
        · exact h
        · have : b = i := by omega
          subst this
          exact absurd hfr g
      · rw [hC, sB, ic_f g]; rfl
      · refine Nat.le_trans hB ?_
        have : a0 m * (i * gB m) ≤ a0 m * ((i + 1) * gB m) := Nat.mul_le_mul_left _ (Nat.mul_le_mul_right _ (by omega))
        omega
theorem pf25 {r : Nat → Int32} {n : Nat} (hw : WfR r n) (K : Mm → Option (Int32 × Mm)) (s : Nat) : ∀ (d f i : Nat) (N : Mm) (a : Nat → Nat), i + d = 2 ^ n - 1 → d < f → CI N r n → Pa N r n s i a → ∃ N', lX1_pathsFrom_25 K (nI (2 ^ n - 1)) f (nI i) N = K N' ∧ Oth N N' [6, 7, 8, 9, 11, 12, 13] ∧ (CI N' r n ∧ Kn N N' ∧ ∃ a', Pa N' r n s (2 ^ n - 1) a') := by
  have hn := hw.1
  have hp2 := Nat.pow_le_pow_right (show 0 < 2 by decide) hn
  intro d
  induction d with
  | zero =>
    intro f i N a hi hf hC hP
    obtain ⟨f, rfl⟩ : ∃ g, f = g + 1 := ⟨f - 1, by omega⟩
    have hi : i = 2 ^ n - 1 := by omega
    rw [hi] at hP ⊢
    refine ⟨N, ?_, Oth.refl _ _, hC, fun k _ => rfl, a, hP⟩
    rw [lX1_pathsFrom_25, if_pos (nI_le (Nat.le_refl _) (by omega))]
  | succ d ih =>
    intro f i N a hi hf hC hP
    obtain ⟨f, rfl⟩ : ∃ g, f = g + 1 := ⟨f - 1, by omega⟩
    have hi2 : i < 2 ^ n := by omega
    have hi64 := pw_le hn hi2
    have ha := pa_bd hn hP hi2
    obtain ⟨c', hc'⟩ : ∃ c', 2 ^ n - i = c' + 1 := ⟨2 ^ n - i - 1, by omega⟩
    have hcc : 2 ^ n - (i + 1) = c' := by omega
    obtain ⟨p1, p2, p3, p4, p5⟩ := hP
    rw [hc', sT] at p2 p3
    rw [lX1_pathsFrom_25, if_neg (nI_ge (by omega) (by omega)), rd_b i rfl hi64 (by omega), p1 i hi64, nI_n1]
    by_cases g : a i = 0
    · rw [g, if_pos (show nI 0 = 0 from rfl)]
      refine ih f (i + 1) N a (by omega) (by omega) hC ⟨p1, ?_, ?_, fun m hm => ?_, p5⟩
      · rw [hcc]; rw [g, Nat.zero_mul, Nat.zero_add] at p2; exact p2
      · rw [hcc]; rw [g, Nat.zero_mul, Nat.zero_add] at p3; exact p3
      · rcases Nat.lt_or_ge m i with h | h
        · exact p4 m h
        · have : m = i := by omega
          subst this
          exact ⟨ha, fun q => by omega⟩
    · rw [if_neg (nI_ne0 (by omega) (by omega))]
      obtain ⟨N1, e1, o1, c1, k1, kn1⟩ := freeAt_ok hw hC hi2
      have n13 : N1.1 13 = N.1 13 := o1.2 13 (by decide)
      rw [e1, so_b, show (0 : Int32) = nI 0 from rfl]
      obtain ⟨N2, e2, o2, a', b1, b2, b3, b4, b5, b6⟩ := pf52 hw (fun N19 => lX1_pathsFrom_25 K (nI (2 ^ n - 1)) f (nI (i + 1)) N19) (nI (2 ^ n - 1)) (m := i) (by omega) a n fu 0 N1 a (by omega) (by rw [fu_eq]; omega) c1.1 (fun k hk => by rw [n13]; exact p1 k hk) (fun _ _ => rfl) (fun _ => Nat.le_refl _) (fun _ b hb => absurd hb (Nat.not_lt_zero _)) (by rw [sB, Nat.mul_zero]; rfl) (by rw [Nat.zero_mul, Nat.mul_zero, Nat.add_zero]; exact Nat.le_refl _)
      rw [e2]
      have n11 : N2.1 11 = N1.1 11 := o2.2 11 (by decide)
      have c2 : CI N2 r n := by
        refine ⟨c1.1.oth o2 (by decide), ?_, fun m hm => ?_, fun m hm => ?_⟩
        · rw [o2.2 7 (by decide), o2.2 8 (by decide)]; exact c1.2.1
        · rw [o2.2 12 (by decide)]; exact c1.2.2.1 m hm
        · rw [n11]; exact c1.2.2.2 m hm
      have kn2 : Kn N N2 := fun k hk => by rw [n11]; exact kn1 k hk
      have o12 := (o1.mono (l' := [6, 7, 8, 9, 11, 12, 13]) (by decide)).trans (o2.mono (by decide))
      rw [hcc] at b5 b6
      have pa2 : Pa N2 r n s (i + 1) a' := by
        refine ⟨b1, ?_, ?_, fun m hm => ?_, Nat.lt_of_lt_of_le p5 (b3 s)⟩
        · rw [hcc, b5]; omega
        · rw [hcc]; omega
        · rcases Nat.lt_or_ge m i with h | h
          · rw [b2 m (by omega)]
            refine ⟨(p4 m h).1, fun q => ⟨?_, fun b hb hfr => Nat.lt_of_lt_of_le (((p4 m h).2 q).2 b hb hfr) (b3 _)⟩⟩
            have h9 := ((p4 m h).2 q).1
            rw [kn2 m (by rw [h9]; exact nI_ne_m1 _ (frS_lt hw m))]
            exact h9
          · have : m = i := by omega
            subst this
            rw [b2 m (Nat.le_refl _)]
            refine ⟨ha, fun q => ⟨by rw [n11]; exact k1, fun b hb hfr => b4 q b hb hfr⟩⟩
      obtain ⟨N3, e3, o3, c3, kn3, a3, pa3⟩ := ih f (i + 1) N2 a' (by omega) (by omega) c2 pa2
      exact ⟨N3, e3, o12.trans o3, c3, fun k hk => by rw [kn3 k (by rw [kn2 k hk]; exact hk)]; exact kn2 k hk, a3, pa3⟩
/-- what stands behind pathsFrom(0) for the masks met -/
def Met0 (N : Mm) (r : Nat → Int32) (n : Nat) (a : Nat → Nat) : Prop := (∀ m, m < 2 ^ n → N.1 13 m = nI (a m) ∧ a m ≤ 46656) ∧ (∀ m, m < 2 ^ n - 1 → 0 < a m → N.1 11 m = nI (frS r n m) ∧ ∀ b, b < n → fr r n m b → 0 < a (m ||| 2 ^ b)) ∧ 0 < a 0
theorem pathsFrom_ok {r : Nat → Int32} {n : Nat} (hw : WfR r n) {M : Mm} (hC : CI M r n) {s : Nat} (hs : s < 2 ^ n) : ∃ M', fX1_pathsFrom (nI s) M = some (nI (cN r n s), M') ∧ Oth M M' [6, 7, 8, 9, 11, 12, 13] ∧ CI M' r n ∧ Kn M M' ∧ (s = 0 → ∃ a, Met0 M' r n a) := by
  have hn := hw.1
  have hp2 := Nat.pow_le_pow_right (show 0 < 2 by decide) hn
  have hs64 := pw_le hn hs
  unfold fX1_pathsFrom
  rw [allBends_ok hw hC.1, so_b]
  obtain ⟨M1, e1, o1, f1⟩ := fill_ok (k := 13) (n := 64) (by decide) 0 M
  simp only []
  rw [e1, so_b, wr_b s rfl hs64 (by omega)]
  have o2 : Oth M (stI M1 13 s 1) [13] := o1.put (by decide)
  have c2 : CI (stI M1 13 s 1) r n := by
    refine ⟨hC.1.oth o2 (by decide), ?_, fun m hm => ?_, fun m hm => ?_⟩
    · rw [o2.2 7 (by decide), o2.2 8 (by decide)]; exact hC.2.1
    · rw [o2.2 12 (by decide)]; exact hC.2.2.1 m hm
    · rw [o2.2 11 (by decide)]; exact hC.2.2.2 m hm
  have z0 : ∀ (g : Nat → Nat) (c i : Nat), s < i → sT (fun m => (if m = s then 1 else 0) * g m) c i = 0 := by
    intro g c
    induction c with
    | zero => intro i _; rfl
    | succ c ih => intro i hi; rw [sT, ih (i + 1) (by omega)]; simp only [if_neg (show i ≠ s by omega)]; omega
  obtain ⟨c', hc'⟩ : ∃ c', 2 ^ n - s = c' + 1 := ⟨2 ^ n - s - 1, by omega⟩
  have pa0 : Pa (stI M1 13 s 1) r n s s (fun m => if m = s then 1 else 0) := by
    refine ⟨fun m hm => ?_, ?_, ?_, fun m hm => ?_, by simp⟩
    · rw [stI_1, if_pos rfl]
      by_cases e : m = s
      · simp only [if_pos e]; rfl
      · simp only [if_neg e]; exact f1 m hm
    · rw [hc', sT, z0 _ _ _ (Nat.lt_succ_self s)]; simp
    · rw [hc', sT, z0 _ _ _ (Nat.lt_succ_self s)]; simp; exact (gB_bd s hs64).2
    · simp only [if_neg (show m ≠ s by omega)]
      exact ⟨Nat.zero_le _, fun q => absurd q (Nat.lt_irrefl _)⟩
  obtain ⟨M3, e3, o3, c3, kn3, a, pa⟩ := pf25 hw (fun N8 => (rd N8 13 64 (nI (2 ^ n - 1))).bind fun v26 => some (v26, N8)) s (2 ^ n - 1 - s) fu s _ _ (by omega) (by rw [fu_eq]; omega) c2 pa0
  have hall : 2 ^ n - 1 < 2 ^ n := by omega
  have ha64 := pw_le hn hall
  have hfin : a (2 ^ n - 1) = cN r n s := by
    have h1 := pa.2.1
    rw [show 2 ^ n - (2 ^ n - 1) = 0 + 1 by omega, sT, sT, cN_eq (r := r) hn hall, ic_t rfl, sB_all0 n (fun b hb => ic_f (all_nfr hn hb))] at h1
    omega
  refine ⟨M3, ?_, (o2.mono (by decide)).trans o3, c3, fun k hk => ?_, fun h0 => ⟨a, fun m hm => ⟨pa.1 m (pw_le hn hm), pa_bd hn pa hm⟩, fun m hm q => (pa.2.2.2.1 m hm).2 q, ?_⟩⟩
  · rw [e3, rd_b (2 ^ n - 1) rfl ha64 (by omega), pa.1 _ ha64, hfin]
  · rw [kn3 k (by rw [o2.2 11 (by decide)]; exact hk), o2.2 11 (by decide)]
  · have h9 := pa.2.2.2.2
    rw [h0] at h9
    exact h9
