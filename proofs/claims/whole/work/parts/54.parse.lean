/-! the text read by both -/
def PR (M N : Mm) (L p c : Nat) : Prop := L ≤ 120 ∧ p ≤ L ∧ 2 * c ≤ p ∧ M.1 50 3 = nI L ∧ M.1 50 5 = nI p ∧ M.1 50 4 = nI c ∧ N.1 54 6 = nI L ∧ N.1 54 14 = nI p ∧ N.1 54 15 = nI c ∧ ∀ j, j < L → N.1 59 j = M.1 51 j
theorem PR.adv {M N : Mm} {L p c : Nat} (h : PR M N L p c) (hp : p < L) : PR (stI M 50 5 (nI (p + 1))) (stI N 54 14 (nI (p + 1))) L (p + 1) c := by
  obtain ⟨h1, h2, h3, h4, h5, h6, h7, h8, h9, h10⟩ := h
  refine ⟨h1, hp, by omega, ?_, ?_, ?_, ?_, ?_, ?_, fun j hj => ?_⟩
  · rw [stI_1, if_pos rfl, if_neg (by decide)]; exact h4
  · rw [stI_1, if_pos rfl, if_pos rfl]
  · rw [stI_1, if_pos rfl, if_neg (by decide)]; exact h6
  · rw [stI_1, if_pos rfl, if_neg (by decide)]; exact h7
  · rw [stI_1, if_pos rfl, if_pos rfl]
  · rw [stI_1, if_pos rfl, if_neg (by decide)]; exact h9
  · rw [stI_c _ 54 _ _ 59 (by decide), stI_c _ 50 _ _ 51 (by decide)]; exact h10 j hj
theorem PR.put {M N : Mm} {L p c : Nat} (h : PR M N L p c) {k j k' j' : Nat} {v v' : Int32} (hk : k = 52 ∨ k = 53) (hk' : k' = 67 ∨ k' = 68) : PR (stI M k j v) (stI N k' j' v') L p c := by
  have a50 : (stI M k j v).1 50 = M.1 50 := stI_c _ _ _ _ _ (by omega)
  have a51 : (stI M k j v).1 51 = M.1 51 := stI_c _ _ _ _ _ (by omega)
  have a54 : (stI N k' j' v').1 54 = N.1 54 := stI_c _ _ _ _ _ (by omega)
  have a59 : (stI N k' j' v').1 59 = N.1 59 := stI_c _ _ _ _ _ (by omega)
  unfold PR
  rw [a50, a51, a54, a59]
  exact h
noncomputable def hrS (M : Mm) (L p : Nat) : Int32 := ic (p < L) (M.1 51 p) (-1)
theorem here_ok {M N : Mm} {L p c : Nat} (h : PR M N L p c) : fX7_here N = some (hrS M L p, N) := by
  obtain ⟨h1, h2, h3, h4, h5, h6, h7, h8, h9, h10⟩ := h
  unfold fX7_here hrS
  rw [h7, h8]
  by_cases q : p < L
  · rw [if_neg (nI_ge q (by omega)), rd_b p rfl (by omega) (by decide), h10 p q, ic_t q]
  · rw [if_pos (nI_le (by omega) (by omega)), ic_f q]
theorem hr_t {M : Mm} {L p : Nat} (q : p < L) : hrS M L p = M.1 51 p := ic_t q
theorem hr_f {M : Mm} {L p : Nat} (q : ¬ p < L) : hrS M L p = -1 := ic_f q
theorem blank_loop (K : Mm → Option (Unit × Mm)) (K' : Mm → Option (Unit × Mm)) : ∀ (d f f' p : Nat) {M N : Mm} {L c : Nat}, PR M N L p c → p + d = L → d < f → d < f' → ∃ p' M' N', p ≤ p' ∧ lX2_skipBlanks_0 K f M = K M' ∧ lX7_blanks_0 K' f' N = K' N' ∧ PR M' N' L p' c ∧ Oth M M' [50] ∧ OthX N N' [] [14] := by
  intro d
  induction d with
  | zero =>
    intro f f' p M N L c h hd hf hf'
    obtain ⟨f, rfl⟩ : ∃ g, f = g + 1 := ⟨f - 1, by omega⟩
    obtain ⟨f', rfl⟩ : ∃ g, f' = g + 1 := ⟨f' - 1, by omega⟩
    refine ⟨p, M, N, Nat.le_refl _, ?_, ?_, h, Oth.refl _ _, OthX.refl _ _ _⟩
    · obtain ⟨h1, h2, h3, h4, h5, h6, h7, h8, h9, h10⟩ := h
      rw [lX2_skipBlanks_0, h4, h5, if_pos (nI_le (by omega) (by omega))]
    · rw [lX7_blanks_0, here_ok h, so_b, hr_f (by omega)]
      exact if_neg (show ¬ (-1 : Int32) = 32 by decide)
  | succ d ih =>
    intro f f' p M N L c h hd hf hf'
    obtain ⟨f, rfl⟩ : ∃ g, f = g + 1 := ⟨f - 1, by omega⟩
    obtain ⟨f', rfl⟩ : ∃ g, f' = g + 1 := ⟨f' - 1, by omega⟩
    have hp : p < L := by omega
    have hh := h
    obtain ⟨h1, h2, h3, h4, h5, h6, h7, h8, h9, h10⟩ := h
    rw [lX2_skipBlanks_0, h4, h5, if_neg (nI_ge hp (by omega)), rd_b p rfl (by omega) (by decide), lX7_blanks_0, here_ok hh, so_b, hr_t hp]
    simp only []
    by_cases q : M.1 51 p = 32
    · rw [if_pos q, if_pos q, lt_e, lt_e, h8, nI_n1]
      obtain ⟨p', M', N', a1, a2, a3, a4, a5, a6⟩ := ih f f' (p + 1) (hh.adv hp) (by omega) (by omega) (by omega)
      refine ⟨p', M', N', by omega, a2, a3, a4, ((Oth.refl M _).put (by decide)).trans a5, OthX.trans ⟨fun k x y => stI_c _ _ _ _ _ y, fun j x => ?_⟩ a6⟩
      rw [stI_1, if_pos rfl, if_neg (fun e => x (by rw [e]; decide))]
    · rw [if_neg q, if_neg q]
      exact ⟨p, M, N, Nat.le_refl _, rfl, rfl, hh, Oth.refl _ _, OthX.refl _ _ _⟩
theorem blank_sim {M N : Mm} {L p c : Nat} (h : PR M N L p c) : ∃ p' M' N', p ≤ p' ∧ fX2_skipBlanks M = some ((), M') ∧ fX7_blanks N = some ((), N') ∧ PR M' N' L p' c ∧ Oth M M' [50] ∧ OthX N N' [] [14] := by
  have := blank_loop (fun N3 => some ((), N3)) (fun N3 => some ((), N3)) (L - p) fu fu p h (by have := h.2.1; omega) (by rw [fu_eq]; have := h.1; omega) (by rw [fu_eq]; have := h.1; omega)
  exact this
def dg (M : Mm) (L p : Nat) : Prop := p < L ∧ (48 : Int32) ≤ M.1 51 p ∧ M.1 51 p ≤ 57
theorem fig_ok {M N : Mm} {L p c : Nat} (h : PR M N L p c) : fX2_isFigureAt M = some (ic (dg M L p) 1 0, M) := by
  obtain ⟨h1, h2, h3, h4, h5, h6, h7, h8, h9, h10⟩ := h
  unfold fX2_isFigureAt
  rw [h4, h5]
  by_cases q : p < L
  · rw [if_neg (nI_ge q (by omega)), rd_b p rfl (by omega) (by decide)]
    by_cases q1 : (48 : Int32) ≤ M.1 51 p
    · rw [if_neg (fun e => (le_nlt _ _).mp e q1), rd_b p rfl (by omega) (by decide)]
      by_cases q2 : M.1 51 p ≤ 57
      · rw [if_neg (fun e => (le_nlt _ _).mp e q2), ic_t ⟨q, q1, q2⟩]
      · rw [if_pos ((le_nlt _ _).mpr q2), ic_f (fun e => q2 e.2.2)]
    · rw [if_pos ((le_nlt _ _).mpr q1), ic_f (fun e => q1 e.2.1)]
  · rw [if_pos (nI_le (by omega) (by omega)), ic_f (fun e => q e.1)]
theorem figm_ok {M N : Mm} {L p c : Nat} (h : PR M N L p c) : fX7_within (hrS M L p) 48 57 N = some (ic (dg M L p) 1 0, N) := by
  rw [within_m]
  have e : ((48 : Int32) ≤ hrS M L p ∧ hrS M L p ≤ 57) ↔ dg M L p := by
    by_cases q : p < L
    · rw [hr_t q]; exact ⟨fun x => ⟨q, x⟩, fun x => x.2⟩
    · rw [hr_f q]; exact ⟨fun x => absurd x (by decide), fun x => absurd x.1 q⟩
  rw [ic_c e]
theorem stX {N : Mm} {j : Nat} {v : Int32} {l fs : List Nat} (h : j ∈ fs) : OthX N (stI N 54 j v) l fs := ⟨fun k x y => stI_c _ _ _ _ _ y, fun i x => by rw [stI_1, if_pos rfl, if_neg (fun e => x (by rw [e]; exact h))]⟩
theorem stY {N : Mm} {k j : Nat} {v : Int32} {l fs : List Nat} (h : k ∈ l) (h54 : k ≠ 54) : OthX N (stI N k j v) l fs := ⟨fun a x y => stI_c _ _ _ _ _ (fun e => x (by rw [e]; exact h)), fun i x => by rw [stI_c _ _ _ _ _ (Ne.symm h54)]⟩
/-- one number -/
theorem num_sim {M N : Mm} {L p c q : Nat} (h : PR M N L p c) (hc : c < 60) (hq : q < 3) : ∃ v p' M' N', p ≤ p' ∧ fX2_readNumber (nI q) M = some (v, M') ∧ fX7_passesNumber (nI (3 * c + q)) N = some (v, N') ∧ (v = 0 ∨ v = 1) ∧ PR M' N' L p' c ∧ Oth M M' [50, 53] ∧ OthX N N' [68] [14] ∧ (v = 1 → M'.1 53 (3 * c + q) = N'.1 68 (3 * c + q)) ∧ (∀ j, j ≠ 3 * c + q → M'.1 53 j = M.1 53 j ∧ N'.1 68 j = N.1 68 j) := by
  obtain ⟨p1, M1, N1, hp1, e1, e2, h1, o1, x1⟩ := blank_sim h
  have r53 : M1.1 53 = M.1 53 := o1.2 53 (by decide)
  have r68 : N1.1 68 = N.1 68 := x1.1 68 (by decide) (by decide)
  have ix : ∀ c q : Nat, nI c * (3 : Int32) + nI q = nI (3 * c + q) := fun c q => by rw [show (3 : Int32) = nI 3 from rfl, pk_mul, nI_add, Nat.mul_comm]
  -- the end of both: the number stands at p2, x
  have fin : ∀ (p2 : Nat) (x : Int32) (M2 N2 : Mm), PR M2 N2 L p2 c → Oth M1 M2 [50] → OthX N1 N2 [] [14] → p1 ≤ p2 → ∃ v p' M' N', p ≤ p' ∧ ((wr M2 53 180 (M2.1 50 4 * 3 + nI q) x).bind fun N10 => (fX2_isFigureAt N10).bind fun w11 => if w11.1 = (0 : Int32) then some ((1 : Int32), w11.2) else some ((0 : Int32), w11.2)) = some (v, M') ∧ ((wr N2 68 180 (nI (3 * c + q)) x).bind fun N17 => (fX7_here N17).bind fun w18 => (fX7_within w18.1 48 57 w18.2).bind fun w19 => if w19.1 = (0 : Int32) then some ((1 : Int32), w19.2) else some ((0 : Int32), w19.2)) = some (v, N') ∧ (v = 0 ∨ v = 1) ∧ PR M' N' L p' c ∧ Oth M M' [50, 53] ∧ OthX N N' [68] [14] ∧ (v = 1 → M'.1 53 (3 * c + q) = N'.1 68 (3 * c + q)) ∧ (∀ j, j ≠ 3 * c + q → M'.1 53 j = M.1 53 j ∧ N'.1 68 j = N.1 68 j) := by
    intro p2 x M2 N2 h2 o2 x2 hp2
    rw [h2.2.2.2.2.2.1, ix, wr_b (3 * c + q) rfl (by omega) (by decide), wr_b (3 * c + q) rfl (by omega) (by decide)]
    have h3 : PR (stI M2 53 (3 * c + q) x) (stI N2 68 (3 * c + q) x) L p2 c := h2.put (Or.inr rfl) (Or.inr rfl)
    rw [fig_ok h3, so_b, here_ok h3, so_b]
    simp only []
    rw [figm_ok h3, so_b]
    simp only [ic_0]
    have hM : Oth M (stI M2 53 (3 * c + q) x) [50, 53] := ((o1.mono (by decide)).trans (o2.mono (by decide))).put (by decide)
    have hN : OthX N (stI N2 68 (3 * c + q) x) [68] [14] := ((x1.mono (by decide) (by decide)).trans (x2.mono (by decide) (by decide))).trans (stY (by decide) (by decide))
    have same : (stI M2 53 (3 * c + q) x).1 53 (3 * c + q) = (stI N2 68 (3 * c + q) x).1 68 (3 * c + q) := by rw [stI_1, if_pos rfl, if_pos rfl, stI_1, if_pos rfl, if_pos rfl]
    have oth : ∀ j, j ≠ 3 * c + q → (stI M2 53 (3 * c + q) x).1 53 j = M.1 53 j ∧ (stI N2 68 (3 * c + q) x).1 68 j = N.1 68 j := fun j hj => by
      rw [stI_1, if_pos rfl, if_neg hj, stI_1, if_pos rfl, if_neg hj, o2.2 53 (by decide), r53, x2.1 68 (by decide) (by decide), r68]
      exact ⟨rfl, rfl⟩
    by_cases g : dg (stI M2 53 (3 * c + q) x) L p2
    · rw [ic_t g, ic_t g]
      exact ⟨0, p2, _, _, by omega, rfl, rfl, Or.inl rfl, h3, hM, hN, fun e => absurd e (by decide), oth⟩
    · rw [ic_f g, ic_f g]
      exact ⟨1, p2, _, _, by omega, rfl, rfl, Or.inr rfl, h3, hM, hN, fun _ => same, oth⟩
  unfold fX2_readNumber fX7_passesNumber
  rw [e1, so_b, e2, so_b]
  simp only []
  rw [fig_ok h1, so_b, show fu = 997 + 1 + 1 + 1 from rfl, lX7_passesNumber_8, here_ok h1, so_b]
  simp only []
  rw [figm_ok h1, so_b]
  simp only [ic_0]
  by_cases g1 : dg M1 L p1
  · rw [ic_t g1, ic_t g1, if_neg (show ¬ (2 : Int32) ≤ 0 by decide), here_ok h1, so_b, hr_t g1.1, rd_b p1 h1.2.2.2.2.1 (by have := g1.1; have := h1.1; omega) (by decide)]
    simp only []
    rw [lt_e, lt_e, lt_e, lt_e, h1.2.2.2.2.1, h1.2.2.2.2.2.2.2.1, nI_n1, show (10 : Int32) * 0 = 0 from rfl, Int32.zero_add]
    have h2 := h1.adv g1.1
    have o2 : Oth M1 (stI M1 50 5 (nI (p1 + 1))) [50] := (Oth.refl M1 _).put (by decide)
    have x2 : OthX N1 (stI N1 54 14 (nI (p1 + 1))) [] [14] := stX (by decide)
    generalize hM2 : stI M1 50 5 (nI (p1 + 1)) = M2 at h2 o2 ⊢
    generalize hN2 : stI N1 54 14 (nI (p1 + 1)) = N2 at h2 x2 ⊢
    rw [fig_ok h2, so_b, jn_e, lX7_passesNumber_8, here_ok h2, so_b]
    simp only []
    rw [figm_ok h2, so_b]
    simp only [ic_0]
    by_cases g2 : dg M2 L (p1 + 1)
    · rw [ic_t g2, ic_t g2, if_neg (show ¬ (2 : Int32) ≤ 0 + 1 by decide), here_ok h2, so_b, hr_t g2.1, rd_b (p1 + 1) h2.2.2.2.2.1 (by have := g2.1; have := h2.1; omega) (by decide)]
      simp only []
      rw [lt_e, lt_e, lt_e, lt_e, h2.2.2.2.2.1, h2.2.2.2.2.2.2.2.1, nI_n1]
      have h3 := h2.adv g2.1
      have o3 : Oth M1 (stI M2 50 5 (nI (p1 + 1 + 1))) [50] := o2.put (by decide)
      have x3 : OthX N1 (stI N2 54 14 (nI (p1 + 1 + 1))) [] [14] := x2.trans (stX (by decide))
      generalize hM3 : stI M2 50 5 (nI (p1 + 1 + 1)) = M3 at h3 o3 ⊢
      generalize hN3 : stI N2 54 14 (nI (p1 + 1 + 1)) = N3 at h3 x3 ⊢
      rw [lX7_passesNumber_8, here_ok h3, so_b]
      simp only []
      rw [figm_ok h3, so_b]
      simp only [ic_0]
      have := fin (p1 + 1 + 1) (10 * (M1.1 51 p1 - 48) + M2.1 51 (p1 + 1) - 48) M3 N3 h3 o3 x3 (by omega)
      by_cases g3 : dg M3 L (p1 + 1 + 1)
      · rw [ic_t g3, if_pos (show (2 : Int32) ≤ 0 + 1 + 1 by decide)]
        simp only [if_neg (show ¬ (0 : Int32) + 1 + 1 ≤ 0 by decide)]
        exact this
      · rw [ic_f g3]
        simp only [if_neg (show ¬ (0 : Int32) + 1 + 1 ≤ 0 by decide)]
        exact this
    · rw [ic_f g2, ic_f g2]
      simp only [if_neg (show ¬ (0 : Int32) + 1 ≤ 0 by decide)]
      exact fin (p1 + 1) (M1.1 51 p1 - 48) M2 N2 h2 o2 x2 (by omega)
  · rw [ic_f g1, ic_f g1, wr_b (3 * c + q) rfl (by omega) (by decide), if_pos (show (0 : Int32) ≤ 0 by decide)]
    refine ⟨0, p1, M1, stI N1 68 (3 * c + q) 0, hp1, rfl, rfl, Or.inl rfl, ?_, o1.mono (by decide), (x1.mono (by decide) (by decide)).trans (stY (by decide) (by decide)), fun e => absurd e (by decide), fun j hj => ?_⟩
    · have a54 : (stI N1 68 (3 * c + q) 0).1 54 = N1.1 54 := stI_c _ _ _ _ _ (by decide)
      have a59 : (stI N1 68 (3 * c + q) 0).1 59 = N1.1 59 := stI_c _ _ _ _ _ (by decide)
      unfold PR
      rw [a54, a59]
      exact h1
    · rw [r53, stI_1, if_pos rfl, if_neg hj, r68]
      exact ⟨rfl, rfl⟩
