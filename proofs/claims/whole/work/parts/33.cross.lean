/-! crossesItself -/
theorem reaches_ok (a b lo hi : Int32) (M : Mm) : fX3_reaches a b lo hi M = some (ic ((a ≤ hi ∨ b ≤ hi) ∧ (lo ≤ a ∨ lo ≤ b)) 1 0, M) := by
  unfold fX3_reaches
  rw [jn_e]
  have e1 : ∀ x y : Int32, (x < y) ↔ ¬ (y ≤ x) := fun x y => by rw [tI_lt, tI_le]; omega
  by_cases h1 : a ≤ hi
  · rw [if_pos h1]
    by_cases h2 : lo ≤ a
    · rw [if_pos h2, ic_t ⟨Or.inl h1, Or.inl h2⟩]
    · rw [if_neg h2]
      by_cases h3 : lo ≤ b
      · rw [if_neg (fun h => (e1 _ _).mp h h3), ic_t ⟨Or.inl h1, Or.inr h3⟩]
      · rw [if_pos ((e1 _ _).mpr h3), ic_f (fun h => h.2.elim h2 h3)]
  · rw [if_neg h1]
    by_cases h4 : b ≤ hi
    · rw [if_neg (fun h => (e1 _ _).mp h h4)]
      by_cases h2 : lo ≤ a
      · rw [if_pos h2, ic_t ⟨Or.inr h4, Or.inl h2⟩]
      · rw [if_neg h2]
        by_cases h3 : lo ≤ b
        · rw [if_neg (fun h => (e1 _ _).mp h h3), ic_t ⟨Or.inr h4, Or.inr h3⟩]
        · rw [if_pos ((e1 _ _).mpr h3), ic_f (fun h => h.2.elim h2 h3)]
    · rw [if_pos ((e1 _ _).mpr h4), ic_f (fun h => h.1.elim h1 h4)]
theorem ic_0 {p : Prop} {α : Type} {a b : α} : (if (ic p (1 : Int32) 0) = (0 : Int32) then a else b) = ic p b a := by
  by_cases h : p
  · rw [ic_t h, ic_t h, if_neg (by decide)]
  · rw [ic_f h, ic_f h, if_pos rfl]
theorem mn_tI (x y : Int32) : (mn x y).toInt = if y.toInt < x.toInt then y.toInt else x.toInt := by
  unfold mn
  by_cases h : y < x
  · rw [if_pos h, if_pos (tI_lt.mp h)]
  · rw [if_neg h, if_neg (fun k => h (tI_lt.mpr k))]
theorem mx_tI (x y : Int32) : (mx x y).toInt = if x.toInt < y.toInt then y.toInt else x.toInt := by
  unfold mx
  by_cases h : x < y
  · rw [if_pos h, if_pos (tI_lt.mp h)]
  · rw [if_neg h, if_neg (fun k => h (tI_lt.mpr k))]
theorem reach_ovl (a b c d : Int32) : ((c ≤ mx a b ∨ d ≤ mx a b) ∧ (mn a b ≤ c ∨ mn a b ≤ d)) ↔ ovl a.toInt b.toInt c.toInt d.toInt := by
  simp only [tI_le, mn_tI, mx_tI, ovl]
  split <;> split <;> omega
theorem cross_in {r : Nat → Int32} {n : Nat} (hw : WfR r n) (c : Int32) {M : Mm} (hT : TrR M r n c) (K : Mm → Option (Int32 × Mm)) (i : Nat) (hi : i ≤ n) : ∀ (d f j : Nat), j + d = n + 1 → d < f → lX3_crossesItself_89 K (nI i) (mn (pxS r n c i) (pxS r n c (i + 1))) (mx (pxS r n c i) (pxS r n c (i + 1))) (mn (pyS r n c i) (pyS r n c (i + 1))) (mx (pyS r n c i) (pyS r n c (i + 1))) f (nI j) M = ic (∃ e, j ≤ e ∧ e ≤ n ∧ metS r n c i e) (some (1, M)) (K M) := by
  intro d
  have hn := hw.1
  induction d with
  | zero =>
    intro f j hj hf
    obtain ⟨f, rfl⟩ : ∃ g, f = g + 1 := ⟨f - 1, by omega⟩
    have hj : j = n + 1 := by omega
    subst hj
    rw [lX3_crossesItself_89, hT.1, if_pos (nI_le (Nat.le_refl _) (by omega)), ic_f]
    rintro ⟨e, h1, h2, -⟩
    omega
  | succ d ih =>
    intro f j hj hf
    obtain ⟨f, rfl⟩ : ∃ g, f = g + 1 := ⟨f - 1, by omega⟩
    rw [lX3_crossesItself_89, hT.1, if_neg (nI_ge (by omega) (by omega)), rd_b j rfl (by omega) (by omega), rd_b (j + 1) (nI_n1 j) (by omega) (by omega), reaches_ok, so_b]
    simp only [(hT.2.1 j (by omega)).1, (hT.2.1 (j + 1) (by omega)).1, reach_ovl, ic_0]
    rw [rd_b j rfl (by omega) (by omega), rd_b (j + 1) (nI_n1 j) (by omega) (by omega), reaches_ok, so_b]
    simp only [(hT.2.1 j (by omega)).2, (hT.2.1 (j + 1) (by omega)).2, reach_ovl, ic_0, nI_n1]
    rw [ih f (j + 1) (by omega) (by omega)]
    by_cases h1 : metS r n c i j
    · rw [ic_t h1.1, ic_t h1.2, ic_t ⟨j, Nat.le_refl _, by omega, h1⟩]
    · have h2 : (∃ e, j + 1 ≤ e ∧ e ≤ n ∧ metS r n c i e) ↔ ∃ e, j ≤ e ∧ e ≤ n ∧ metS r n c i e := by
        constructor
        · rintro ⟨e, a1, a2, a3⟩
          exact ⟨e, by omega, a2, a3⟩
        · rintro ⟨e, a1, a2, a3⟩
          refine ⟨e, ?_, a2, a3⟩
          rcases Nat.lt_or_ge j e with h | h
          · exact h
          · have : e = j := by omega
            subst this
            exact absurd a3 h1
      rw [ic_c h2]
      by_cases h3 : ovl (pxS r n c i).toInt (pxS r n c (i + 1)).toInt (pxS r n c j).toInt (pxS r n c (j + 1)).toInt
      · rw [ic_t h3, ic_f (fun h => h1 ⟨h3, h⟩)]
      · rw [ic_f h3]
theorem cross_out {r : Nat → Int32} {n : Nat} (hw : WfR r n) (c : Int32) {M : Mm} (hT : TrR M r n c) (K : Mm → Option (Int32 × Mm)) : ∀ (d f i : Nat), i + d = n + 1 → d < f → lX3_crossesItself_2 K f (nI i) M = ic (∃ k e, i ≤ k ∧ k + 3 ≤ e ∧ e ≤ n ∧ metS r n c k e) (some (1, M)) (K M) := by
  intro d
  have hn := hw.1
  induction d with
  | zero =>
    intro f i hi hf
    obtain ⟨f, rfl⟩ : ∃ g, f = g + 1 := ⟨f - 1, by omega⟩
    have hi : i = n + 1 := by omega
    subst hi
    rw [lX3_crossesItself_2, hT.1, if_pos (nI_le (Nat.le_refl _) (by omega)), ic_f]
    rintro ⟨k, e, h1, h2, h3, -⟩
    omega
  | succ d ih =>
    intro f i hi hf
    obtain ⟨f, rfl⟩ : ∃ g, f = g + 1 := ⟨f - 1, by omega⟩
    rw [lX3_crossesItself_2, hT.1, if_neg (nI_ge (by omega) (by omega)), rd_b i rfl (by omega) (by omega), rd_b (i + 1) (nI_n1 i) (by omega) (by omega), lt_e, rd_b i rfl (by omega) (by omega), rd_b (i + 1) (nI_n1 i) (by omega) (by omega), lt_e, rd_b i rfl (by omega) (by omega), rd_b (i + 1) (nI_n1 i) (by omega) (by omega), lt_e, rd_b i rfl (by omega) (by omega), rd_b (i + 1) (nI_n1 i) (by omega) (by omega), lt_e, lt_e]
    simp only [(hT.2.1 i (by omega)).1, (hT.2.1 (i + 1) (by omega)).1, (hT.2.1 i (by omega)).2, (hT.2.1 (i + 1) (by omega)).2, nI_n1, show nI i + (3 : Int32) = nI (i + 3) from nI_add i 3]
    rcases Nat.lt_or_ge (n + 1) (i + 3) with h9 | h9
    · -- no second flange far enough
      rw [show fu = 999 + 1 from rfl, lX3_crossesItself_89, hT.1, if_pos (nI_le (by omega) (by omega)), ih f (i + 1) (by omega) (by omega)]
      refine ic_c ⟨?_, ?_⟩
      · rintro ⟨k, e, h1, h2, h3, h4⟩
        omega
      · rintro ⟨k, e, h1, h2, h3, h4⟩
        omega
    · rw [cross_in hw c hT _ i (by omega) (n + 1 - (i + 3)) fu (i + 3) (by omega) (by rw [fu_eq]; omega), ih f (i + 1) (by omega) (by omega)]
      by_cases h1 : ∃ e, i + 3 ≤ e ∧ e ≤ n ∧ metS r n c i e
      · obtain ⟨e, a1, a2, a3⟩ := h1
        rw [ic_t ⟨e, a1, a2, a3⟩, ic_t ⟨i, e, Nat.le_refl _, a1, a2, a3⟩]
      · rw [ic_f h1]
        refine ic_c ⟨?_, ?_⟩
        · rintro ⟨k, e, b1, b2, b3, b4⟩
          exact ⟨k, e, by omega, b2, b3, b4⟩
        · rintro ⟨k, e, b1, b2, b3, b4⟩
          refine ⟨k, e, ?_, b2, b3, b4⟩
          rcases Nat.lt_or_ge i k with h | h
          · exact h
          · have : k = i := by omega
            subst this
            exact absurd ⟨e, b2, b3, b4⟩ h1
theorem cross_ok {r : Nat → Int32} {n : Nat} (hw : WfR r n) (c : Int32) {M : Mm} (hT : TrR M r n c) : fX3_crossesItself M = some (ic (crs r n c) 1 0, M) := by
  unfold fX3_crossesItself
  rw [show (0 : Int32) = nI 0 from rfl, cross_out hw c hT _ (n + 1) fu 0 (by omega) (by rw [fu_eq]; have := hw.1; omega)]
  have h : (∃ k e, 0 ≤ k ∧ k + 3 ≤ e ∧ e ≤ n ∧ metS r n c k e) ↔ crs r n c := by
    rw [crs3 hw c]
    constructor
    · rintro ⟨k, e, -, h⟩; exact ⟨k, e, h⟩
    · rintro ⟨k, e, h⟩; exact ⟨k, e, Nat.zero_le _, h⟩
  rw [ic_c h]
  by_cases hc : crs r n c
  · rw [ic_t hc, ic_t hc]
  · rw [ic_f hc, ic_f hc]
