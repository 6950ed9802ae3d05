theorem rd_v {M : Mm} {k n : Nat} {x v : Int32} (j : Nat) (hx : x = nI j) (hj : j < n) (hn : n ≤ 1000) (hv : M.1 k j = v) : rd M k n x = some v := by rw [rd_i j hx hj hn, hv]
theorem bel_iff {r : Nat → Int32} {n : Nat} (hw : WfR r n) (c : Int32) (b k : Nat) (hb : b < n) (hk : k ≤ n) : (((lxS r n c b k ≤ r 21 ∨ lxS r n c b (k + 1) ≤ r 21) ∧ (-(r 21) ≤ lxS r n c b k ∨ -(r 21) ≤ lxS r n c b (k + 1))) ∧ ((lyS r n c b k ≤ (-1) ∨ lyS r n c b (k + 1) ≤ (-1)) ∧ ((-1000) ≤ lyS r n c b k ∨ (-1000) ≤ lyS r n c b (k + 1)))) ↔ belS r n c b k := by
  have h1 := ly_bd hw c b k hb (by omega)
  have m : ∀ x : Int32, x ≤ (-1) ↔ x < 0 := fun x => by
    rw [tI_le, tI_lt, show (-1 : Int32).toInt = -1 by decide, show (0 : Int32).toInt = 0 by decide]; omega
  have t : (-1000 : Int32) ≤ lyS r n c b k := by rw [tI_le, show (-1000 : Int32).toInt = -1000 by decide]; exact h1
  unfold belS
  rw [m, m]
  exact ⟨fun h => ⟨h.2.1, h.1⟩, fun h => ⟨h.2, h.1, Or.inl t⟩⟩
theorem ex_lt {P : Nat → Prop} {i : Nat} : (∃ k, k < i + 1 ∧ P k) ↔ ((∃ k, k < i ∧ P k) ∨ P i) := by
  constructor
  · rintro ⟨k, h1, h2⟩
    rcases Nat.lt_or_ge k i with h | h
    · exact Or.inl ⟨k, h, h2⟩
    · have : k = i := by omega
      subst this
      exact Or.inr h2
  · rintro (⟨k, h1, h2⟩ | h)
    · exact ⟨k, by omega, h2⟩
    · exact ⟨i, by omega, h⟩
theorem hit_loop {r : Nat → Int32} {n : Nat} (hw : WfR r n) (c a1 : Int32) {M : Mm} (hS : Nwk M r) (b : Nat) (hb : b < n) (hL : ∀ j, j ≤ n + 1 → M.1 60 j = lxS r n c b j ∧ M.1 61 j = ly0 r n c b j) (K : Int32 → Int32 → Mm → Option (Int32 × Mm)) : ∀ (d f i : Nat) (x7 x8 : Int32), i + d = n + 1 → d < f → x7 = ic (∃ k, k < i ∧ belS r n c b k) 1 0 → x8 = ic (∃ k, k < i ∧ aboS r n c b k) 1 0 → lX7_hitBy_29 K (nI b) a1 (r (8 + b)) f x7 x8 (nI i) M = K (ic (anyB r n c b) 1 0) (ic (anyA r n c b) 1 0) M := by
  intro d
  have hn := hw.1
  induction d with
  | zero =>
    intro f i x7 x8 hi hf h7 h8
    obtain ⟨f, rfl⟩ : ∃ g, f = g + 1 := ⟨f - 1, by omega⟩
    have hi : i = n + 1 := by omega
    subst hi
    rw [lX7_hitBy_29, rd_b (x := 0) 0 rfl (by omega) (by omega), hS 0 (by omega), hw.2.1, if_pos (nI_lt (by omega) (by omega)), h7, h8]
    congr 1
    · exact ic_c ⟨fun ⟨k, h1, h2⟩ => ⟨k, by omega, h2⟩, fun ⟨k, h1, h2⟩ => ⟨k, by omega, h2⟩⟩
    · exact ic_c ⟨fun ⟨k, h1, h2⟩ => ⟨k, by omega, h2⟩, fun ⟨k, h1, h2⟩ => ⟨k, by omega, h2⟩⟩
  | succ d ih =>
    intro f i x7 x8 hi hf h7 h8
    obtain ⟨f, rfl⟩ : ∃ g, f = g + 1 := ⟨f - 1, by omega⟩
    rw [lX7_hitBy_29, rd_b (x := 0) 0 rfl (by omega) (by omega), hS 0 (by omega), hw.2.1, if_neg (nI_nlt (by omega) (by omega)), jn_e, jn_e]
    have f1 : rd M 55 26 21 = some (r 21) := rd_v 21 rfl (by omega) (by omega) (hS 21 (by omega))
    have f2 : rd M 55 26 22 = some (r 22) := rd_v 22 rfl (by omega) (by omega) (hS 22 (by omega))
    simp only [nI_n1, within_ok (show i < 7 by omega), so_b, (hL i (by omega)).1, (hL i (by omega)).2, (hL (i + 1) (by omega)).1, (hL (i + 1) (by omega)).2, lyS_eq, f1, f2, ic_0]
    rw [ic_c (bel_iff hw c b i hb (by omega))]
    have z : (-(0 : Int32)) = 0 := by decide
    rw [z]
    have key : ∀ v : Int32, v = ic (∃ k, k < i + 1 ∧ belS r n c b k) 1 0 → (if x8 = 0 then (if r 22 ≤ 0 then lX7_hitBy_29 K (nI b) a1 (r (8 + b)) f v 0 (nI (i + 1)) M else ic (((lxS r n c b i ≤ 0 ∨ lxS r n c b (i + 1) ≤ 0) ∧ (0 ≤ lxS r n c b i ∨ 0 ≤ lxS r n c b (i + 1))) ∧ ((lyS r n c b i ≤ r 22 ∨ lyS r n c b (i + 1) ≤ r 22) ∧ (1 ≤ lyS r n c b i ∨ 1 ≤ lyS r n c b (i + 1)))) (lX7_hitBy_29 K (nI b) a1 (r (8 + b)) f v 1 (nI (i + 1)) M) (lX7_hitBy_29 K (nI b) a1 (r (8 + b)) f v 0 (nI (i + 1)) M)) else lX7_hitBy_29 K (nI b) a1 (r (8 + b)) f v 1 (nI (i + 1)) M) = K (ic (anyB r n c b) 1 0) (ic (anyA r n c b) 1 0) M := by
      intro v hv
      by_cases g : ∃ k, k < i ∧ aboS r n c b k
      · rw [if_neg (by rw [h8, ic_t g]; exact z10), ih f (i + 1) v 1 (by omega) (by omega) hv (ic_t (ex_lt.mpr (Or.inl g))).symm]
      · rw [if_pos (by rw [h8, ic_f g])]
        have no : ¬ aboS r n c b i → (0 : Int32) = ic (∃ k, k < i + 1 ∧ aboS r n c b k) 1 0 := fun h => (ic_f (fun k => (ex_lt.mp k).elim g h)).symm
        by_cases g1 : r 22 ≤ 0
        · rw [if_pos g1, ih f (i + 1) v 0 (by omega) (by omega) hv (no (fun h => (le_nlt _ _).mp h.1 g1))]
        · rw [if_neg g1]
          by_cases g2 : (((lxS r n c b i ≤ 0 ∨ lxS r n c b (i + 1) ≤ 0) ∧ (0 ≤ lxS r n c b i ∨ 0 ≤ lxS r n c b (i + 1))) ∧ ((lyS r n c b i ≤ r 22 ∨ lyS r n c b (i + 1) ≤ r 22) ∧ (1 ≤ lyS r n c b i ∨ 1 ≤ lyS r n c b (i + 1))))
          · rw [ic_t g2, ih f (i + 1) v 1 (by omega) (by omega) hv (ic_t (ex_lt.mpr (Or.inr ⟨(le_nlt _ _).mpr g1, g2.1, g2.2⟩))).symm]
          · rw [ic_f g2, ih f (i + 1) v 0 (by omega) (by omega) hv (no (fun h => g2 ⟨h.2.1, h.2.2⟩))]
    by_cases g : ∃ k, k < i ∧ belS r n c b k
    · rw [if_neg (by rw [h7, ic_t g]; exact z10)]
      exact key 1 (ic_t (ex_lt.mpr (Or.inl g))).symm
    · rw [if_pos (by rw [h7, ic_f g])]
      by_cases g1 : belS r n c b i
      · rw [ic_t g1]
        exact key 1 (ic_t (ex_lt.mpr (Or.inr g1))).symm
      · rw [ic_f g1]
        exact key 0 (ic_f (fun h => (ex_lt.mp h).elim g g1)).symm
theorem gl_iff (a b c d : Int32) : gs a b < ls c d ↔ ¬ (c.toInt ≤ a.toInt ∨ c.toInt ≤ b.toInt ∨ d.toInt ≤ a.toInt ∨ d.toInt ≤ b.toInt) := by
  simp only [tI_lt, gs_tI, ls_tI]
  generalize a.toInt = x; generalize b.toInt = y; generalize c.toInt = u; generalize d.toInt = v
  split <;> split <;> omega
theorem met_ok {r : Nat → Int32} {n : Nat} (hw : WfR r n) (c : Int32) {M : Mm} (hT : TrM M r n c) {a e : Nat} (ha : a ≤ n) (he : e ≤ n) : fX7_areMet (nI a) (nI e) M = some (ic (metS r n c a e) 1 0, M) := by
  have hn := hw.1
  unfold fX7_areMet
  have a1 : rd M 60 8 (nI a) = some (pxS r n c a) := rd_v a rfl (by omega) (by omega) ((hT.1 a (by omega)).1)
  have a2 : rd M 60 8 (nI a + 1) = some (pxS r n c (a + 1)) := rd_v (a + 1) (nI_n1 a) (by omega) (by omega) ((hT.1 (a + 1) (by omega)).1)
  have a3 : rd M 60 8 (nI e) = some (pxS r n c e) := rd_v e rfl (by omega) (by omega) ((hT.1 e (by omega)).1)
  have a4 : rd M 60 8 (nI e + 1) = some (pxS r n c (e + 1)) := rd_v (e + 1) (nI_n1 e) (by omega) (by omega) ((hT.1 (e + 1) (by omega)).1)
  have b1 : rd M 61 8 (nI a) = some (pyS r n c a) := rd_v a rfl (by omega) (by omega) ((hT.1 a (by omega)).2)
  have b2 : rd M 61 8 (nI a + 1) = some (pyS r n c (a + 1)) := rd_v (a + 1) (nI_n1 a) (by omega) (by omega) ((hT.1 (a + 1) (by omega)).2)
  have b3 : rd M 61 8 (nI e) = some (pyS r n c e) := rd_v e rfl (by omega) (by omega) ((hT.1 e (by omega)).2)
  have b4 : rd M 61 8 (nI e + 1) = some (pyS r n c (e + 1)) := rd_v (e + 1) (nI_n1 e) (by omega) (by omega) ((hT.1 (e + 1) (by omega)).2)
  simp only [a1, a2, a3, a4, b1, b2, b3, b4, so_b, greater_ok, lesser_ok, jn_e, if_true, if_neg z10, gl_iff]
  unfold metS ovl
  generalize (pxS r n c a).toInt = x0; generalize (pxS r n c (a + 1)).toInt = x1; generalize (pxS r n c e).toInt = x2; generalize (pxS r n c (e + 1)).toInt = x3
  generalize (pyS r n c a).toInt = y0; generalize (pyS r n c (a + 1)).toInt = y1; generalize (pyS r n c e).toInt = y2; generalize (pyS r n c (e + 1)).toInt = y3
  by_cases h1 : x2 ≤ x0 ∨ x2 ≤ x1 ∨ x3 ≤ x0 ∨ x3 ≤ x1
  · rw [if_neg (fun h => h h1)]
    by_cases h2 : x0 ≤ x2 ∨ x0 ≤ x3 ∨ x1 ≤ x2 ∨ x1 ≤ x3
    · rw [if_neg (fun h => h h2)]
      by_cases h3 : y2 ≤ y0 ∨ y2 ≤ y1 ∨ y3 ≤ y0 ∨ y3 ≤ y1
      · rw [if_neg (fun h => h h3)]
        by_cases h4 : y0 ≤ y2 ∨ y0 ≤ y3 ∨ y1 ≤ y2 ∨ y1 ≤ y3
        · rw [if_neg (fun h => h h4), ic_t ⟨⟨h1, h2⟩, h3, h4⟩]
        · rw [if_pos h4, ic_f (fun h => h4 h.2.2)]
      · rw [if_pos h3, ic_f (fun h => h3 h.2.1)]
    · rw [if_pos h2, ic_f (fun h => h2 h.1.2)]
  · rw [if_pos h1, ic_f (fun h => h1 h.1.1)]
