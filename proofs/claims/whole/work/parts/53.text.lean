/-! the text's calls, the counters, back -/
theorem RelP.text {M M' N N' : Mm} {r : Nat → Int32} {n s nx L L' : Nat} (h : RelP M N r n s nx L) (o : Oth M M' [50, 51, 52, 53]) (o' : OthX N N' (59 :: scM) [6, 14, 15]) (t : Txt M' N' L') : RelP M' N' r n s nx L' := by
  obtain ⟨h1, h2, h3, h4, h5, h6⟩ := h
  refine ⟨h1, h2.oth o (fun k a b q => ?_), h3.ox o' (by decide), h4.mv o o' (by decide) (fun d hd i hi => (ring_lo _ (mod6 _) i hi).2.2.2) (by decide) (by decide), t, ?_⟩
  · simp only [List.mem_cons, List.not_mem_nil, or_false] at q
    omega
  · obtain ⟨b1, b2, b3⟩ := h6
    unfold Cnt
    rw [o.2 0 (by decide), o'.1 58 (by decide) (by decide)]
    exact ⟨b1, b2, b3⟩
theorem pub_type (x : Int32) : Same (fX6_type x) (fX7_type x) := by
  intro M N ⟨r, n, s, nx, L, h⟩
  obtain ⟨b1, b2, b3, b4⟩ := h.2.2.2.2.1
  unfold fX6_type fX7_type
  rw [within_c, so_b, within_m, so_b]
  simp only [ic_0]
  by_cases g : (0 : Int32) ≤ x ∧ x ≤ 127
  · rw [ic_t g, ic_t g, b2, b3]
    by_cases q : L = 120
    · rw [if_neg (show ¬ nI L < (120 : Int32) by rw [q]; decide), if_pos (show nI L = (120 : Int32) by rw [q]; rfl)]
      exact ref_same h (Or.inr (Or.inr rfl))
    · rw [if_pos (show nI L < (120 : Int32) from nI_lt (b := 120) (by omega) (by omega)), if_neg (show ¬ nI L = (120 : Int32) from fun e => q ((nI_eq (by omega) (by omega)).mp (show nI L = nI 120 from e)))]
      unfold fX2_append
      rw [b2, wr_b L rfl (by omega) (by decide), wr_b L rfl (by omega) (by decide), lt_e, lt_e, so_b]
      have e5 : (stI M 51 L x).1 50 3 = nI L := by rw [stI_c _ _ _ _ _ (by decide)]; exact b2
      have e6 : (stI N 59 L x).1 54 6 = nI L := by rw [stI_c _ _ _ _ _ (by decide)]; exact b3
      simp only []
      rw [e5, e6, nI_n1]
      have v5 : (stI (stI M 51 L x) 50 3 (nI (L + 1))).1 50 3 = nI (L + 1) := by rw [stI_1, if_pos rfl, if_pos rfl]
      have v6 : (stI (stI N 59 L x) 54 6 (nI (L + 1))).1 54 6 = nI (L + 1) := by rw [stI_1, if_pos rfl, if_pos rfl]
      rw [v5, v6]
      refine ⟨nI (L + 1), _, _, rfl, rfl, (h.text (L' := L + 1) (((Oth.refl M _).put (by decide)).put (by decide)) ⟨fun k a b => ?_, fun j hj => ?_⟩ ⟨by omega, v5, v6, fun j hj => ?_⟩).rel⟩
      · rw [stI_c _ _ _ _ _ b, stI_c _ _ _ _ _ (fun e => a (by rw [e]; decide))]
      · rw [stI_1, if_pos rfl, if_neg (fun e => hj (by rw [e]; decide)), stI_c _ _ _ _ _ (by decide)]
      · rw [stI_c _ 50 _ _ 51 (by decide), stI_c _ 54 _ _ 59 (by decide), stI_1, if_pos rfl, stI_1, if_pos rfl]
        by_cases e : j = L
        · rw [if_pos e, if_pos e]
        · rw [if_neg e, if_neg e]; exact b4 j (by omega)
  · rw [ic_f g, ic_f g]
    exact ref_same h (Or.inl rfl)
theorem pub_clear : Same fX6_clear fX7_clear := by
  intro M N ⟨r, n, s, nx, L, h⟩
  obtain ⟨b1, b2, b3, b4⟩ := h.2.2.2.2.1
  unfold fX6_clear fX7_clear
  rw [lt_e, lt_e, lt_e, lt_e, b2, b3]
  refine ⟨nI L, _, _, rfl, rfl, (h.text (L' := 0) ((Oth.refl M _).put (by decide)) ⟨fun k a b => ?_, fun j hj => ?_⟩ ⟨by omega, ?_, ?_, fun j hj => absurd hj (Nat.not_lt_zero _)⟩).rel⟩
  · rw [stI_c _ _ _ _ _ b]
  · rw [stI_1, if_pos rfl, if_neg (fun e => hj (by rw [e]; decide))]
  · rw [stI_1, if_pos rfl, if_pos rfl]; rfl
  · rw [stI_1, if_pos rfl, if_pos rfl]; rfl
theorem told_val {M N : Mm} {r : Nat → Int32} {n s nx L : Nat} (h : RelP M N r n s nx L) {w : Nat} (hw5 : w < 5) : ∃ v, fX6_told (nI w) M = some (v, M) ∧ fX7_toldIs (nI w) N = some (v, N) := by
  obtain ⟨b1, b2, b3, b4⟩ := h.2.2.2.2.1
  obtain ⟨c1, c2, c3⟩ := h.2.2.2.2.2
  obtain ⟨a1, a2, a3, a4, a5, a6⟩ := h.2.2.2.1
  unfold fX6_told fX7_toldIs
  rcases (show w = 0 ∨ w = 1 ∨ w = 2 ∨ w = 3 ∨ w = 4 by omega) with rfl | rfl | rfl | rfl | rfl
  · rw [if_pos (show nI 0 = (0 : Int32) from rfl), if_neg (show ¬ (3 : Int32) ≤ nI 0 by decide), rd_b 0 rfl (by decide) (by decide), c1]
    exact ⟨_, rfl, rfl⟩
  · rw [if_neg (show ¬ nI 1 = (0 : Int32) by decide), if_pos (show nI 1 = (1 : Int32) from rfl), if_neg (show ¬ (3 : Int32) ≤ nI 1 by decide), rd_b 1 rfl (by decide) (by decide), c2]
    exact ⟨_, rfl, rfl⟩
  · rw [if_neg (show ¬ nI 2 = (0 : Int32) by decide), if_neg (show ¬ nI 2 = (1 : Int32) by decide), if_pos (show nI 2 = (2 : Int32) from rfl), if_neg (show ¬ (3 : Int32) ≤ nI 2 by decide), rd_b 2 rfl (by decide) (by decide), c3]
    exact ⟨_, rfl, rfl⟩
  · rw [if_neg (show ¬ nI 3 = (0 : Int32) by decide), if_neg (show ¬ nI 3 = (1 : Int32) by decide), if_neg (show ¬ nI 3 = (2 : Int32) by decide), if_pos (show nI 3 = (3 : Int32) from rfl), if_pos (show (3 : Int32) ≤ nI 3 by decide), if_pos (show nI 3 = (3 : Int32) from rfl), b2, b3]
    exact ⟨_, rfl, rfl⟩
  · rw [if_neg (show ¬ nI 4 = (0 : Int32) by decide), if_neg (show ¬ nI 4 = (1 : Int32) by decide), if_neg (show ¬ nI 4 = (2 : Int32) by decide), if_neg (show ¬ nI 4 = (3 : Int32) by decide), if_pos (show nI 4 = (4 : Int32) from rfl), if_pos (show (3 : Int32) ≤ nI 4 by decide), if_neg (show ¬ nI 4 = (3 : Int32) by decide), a4, a5]
    exact ⟨_, rfl, rfl⟩
theorem pub_told (w : Int32) : Same (fX6_told w) (fX7_told w) := by
  intro M N ⟨r, n, s, nx, L, h⟩
  by_cases g : (0 : Int32) ≤ w ∧ w ≤ 4
  · obtain ⟨v, v1, v2, rfl⟩ := rng (a := 0) (b := 4) (by decide) (by decide) g
    obtain ⟨z, e1, e2⟩ := told_val h (show v < 5 by omega)
    refine ⟨z, M, N, e1, ?_, h.rel⟩
    unfold fX7_told
    rw [within_m, so_b]
    simp only [ic_0]
    rw [ic_t g, e2, so_b]
  · have nw : ∀ k : Nat, k ≤ 4 → ¬ w = nI k := fun k hk q => g (by rw [q]; exact rng_i (a := 0) (b := 4) (by decide) (Nat.zero_le _) hk)
    unfold fX6_told fX7_told
    rw [if_neg (show ¬ w = (0 : Int32) from nw 0 (by decide)), if_neg (show ¬ w = (1 : Int32) from nw 1 (by decide)), if_neg (show ¬ w = (2 : Int32) from nw 2 (by decide)), if_neg (show ¬ w = (3 : Int32) from nw 3 (by decide)), if_neg (show ¬ w = (4 : Int32) from nw 4 (by decide)), within_m, so_b]
    simp only [ic_0]
    rw [ic_f g]
    exact ref_same h (Or.inl rfl)
theorem bk27 (K : Mm → Option (Int32 × Mm)) {rr : Nat → Int32} {s : Nat} (hs : s < 5) : ∀ (d f i : Nat) (N : Mm), i + d = 26 → d < f → N.1 54 3 = nI s → (∀ j, j < 26 → N.1 57 (26 * s + j) = rr j) → (∀ j, j < i → N.1 55 j = rr j) → ∃ N', lX7_back_27 K f (nI i) N = K N' ∧ Oth N N' [55] ∧ Nwk N' rr := by
  intro d
  induction d with
  | zero =>
    intro f i N hi hf h3 h1 h2
    obtain ⟨f, rfl⟩ : ∃ g, f = g + 1 := ⟨f - 1, by omega⟩
    have hi : i = 26 := by omega
    subst hi
    exact ⟨N, by rw [lX7_back_27, if_pos (by decide)], Oth.refl _ _, h2⟩
  | succ d ih =>
    intro f i N hi hf h3 h1 h2
    obtain ⟨f, rfl⟩ : ∃ g, f = g + 1 := ⟨f - 1, by omega⟩
    rw [lX7_back_27, if_neg (by rw [show (26 : Int32) = nI 26 from rfl]; exact nI_ge (by omega) (by omega)), h3, i26, rd_b (26 * s + i) rfl (by omega) (by decide), wr_b i rfl (by omega) (by decide), nI_n1, h1 i (by omega)]
    have o1 : Oth N (stI N 55 i (rr i)) [55] := (Oth.refl N _).put (by decide)
    refine ex_o o1 (ih f (i + 1) _ (by omega) (by omega) (by rw [o1.2 54 (by decide)]; exact h3) (fun j hj => by rw [o1.2 57 (by decide)]; exact h1 j hj) (fun j hj => ?_))
    rw [stI_1, if_pos rfl]
    by_cases e : j = i
    · rw [if_pos e, e]
    · rw [if_neg e]; exact h2 j (by omega)
theorem pub_back : Same fX6_back fX7_back := by
  intro M N ⟨r, n, s, nx, L, h⟩
  have hrel := h
  obtain ⟨h1, h2, h3, ⟨a1, a2, a3, a4, a5, a6⟩, h5, h6⟩ := h
  unfold fX6_back fX7_back
  rw [a4, a5]
  by_cases q : s = 0
  · rw [if_pos (show nI s = 0 by rw [q]; rfl), if_pos (show nI s = 0 by rw [q]; rfl)]
    exact ref_same hrel (Or.inr (Or.inl rfl))
  · obtain ⟨s, rfl⟩ : ∃ t, s = t + 1 := ⟨s - 1, by omega⟩
    rw [if_neg (show ¬ nI (s + 1) = 0 from nI_ne0 (by omega) (by omega)), if_neg (show ¬ nI (s + 1) = 0 from nI_ne0 (by omega) (by omega)), lt_e, nI_pred]
    obtain ⟨rr, nn, w1, w2, w3⟩ := a6 0 (by omega)
    rw [Nat.sub_zero] at w2
    have hx : (nx + 5) % 6 < 6 := mod6 _
    unfold fX0_restoreLast
    rw [lt_e, lt_e, a3, last_nx nx a2]
    have e1 : (stI M 18 1 (nI ((nx + 5) % 6))).1 18 2 = nI (s + 1) := by rw [stI_1, if_pos rfl, if_neg (by decide)]; exact a4
    rw [e1, nI_pred]
    have o1 : Oth M (stI (stI M 18 1 (nI ((nx + 5) % 6))) 18 2 (nI s)) [18] := ((Oth.refl M _).put (by decide)).put (by decide)
    have f1 : (stI (stI M 18 1 (nI ((nx + 5) % 6))) 18 2 (nI s)).1 18 1 = nI ((nx + 5) % 6) := by rw [stI_1, if_pos rfl, if_neg (by decide), stI_1, if_pos rfl, if_pos rfl]
    have f2 : (stI (stI M 18 1 (nI ((nx + 5) % 6))) 18 2 (nI s)).1 18 2 = nI s := by rw [stI_1, if_pos rfl, if_pos rfl]
    generalize hM1 : stI (stI M 18 1 (nI ((nx + 5) % 6))) 18 2 (nI s) = M1 at o1 f1 f2 ⊢
    rw [rdR_b _ f1 hx]
    obtain ⟨M2, e2, o2, s2⟩ := copy_ok (M := M1) (kt := 1) (ko := ringK ((nx + 5) % 6)) (Or.inl (by unfold ringK; omega)) (w2.ring o1 (fun i hi => (ring_lo _ hx i hi).2.1))
    rw [e2, so_b, so_b]
    have o12 : Oth M M2 [1, 2, 3, 4, 5, 18] := (o1.mono (by decide)).trans (o2.mono (by decide))
    obtain ⟨M3, e3, o3, p3⟩ := forget_ok (n := nn) s2 (by rw [o12.2 7 (by decide), o12.2 8 (by decide)]; exact h2.1.2.1) w1.1.1
    have o13 : Oth M M3 [1, 2, 3, 4, 5, 10, 11, 12, 18] := (o12.mono (by decide)).trans (o3.mono (by decide))
    simp only []
    rw [e3, so_b]
    have g2 : M3.1 18 2 = nI s := by rw [o3.2 18 (by decide), o2.2 18 (by decide)]; exact f2
    have g1 : M3.1 18 1 = nI ((nx + 5) % 6) := by rw [o3.2 18 (by decide), o2.2 18 (by decide)]; exact f1
    have n0 : (stI N 54 3 (nI s)).1 54 3 = nI s := by rw [stI_1, if_pos rfl, if_pos rfl]
    rw [show (0 : Int32) = nI 0 from rfl]
    obtain ⟨N1, e4, o4, k4⟩ := bk27 (fun N5 => some (N5.1 54 3, N5)) (rr := rr) (s := s) (by omega) 26 fu 0 (stI N 54 3 (nI s)) (by omega) (by rw [fu_eq]; omega) n0 (fun j hj => by rw [stI_c _ _ _ _ _ (by decide)]; exact w3 j hj) (fun j hj => absurd hj (Nat.not_lt_zero _))
    have n1 : N1.1 54 3 = nI s := by rw [o4.2 54 (by decide)]; exact n0
    simp only []
    rw [g2, e4, n1]
    have oN : ∀ k, k ≠ 55 → k ≠ 54 → N1.1 k = N.1 k := fun k x y => by rw [o4.2 k (fun z => x (List.mem_singleton.mp z)), stI_c _ _ _ _ _ y]
    have oF : ∀ j, j ≠ 3 → N1.1 54 j = N.1 54 j := fun j x => by rw [o4.2 54 (by decide), stI_1, if_pos rfl, if_neg x]
    have rl : ∀ a, a < 6 → ∀ i, i < 5 → ringK a + i ∉ [1, 2, 3, 4, 5, 10, 11, 12, 18] := by decide
    refine ⟨nI s, M3, N1, rfl, rfl, rr, nn, s, (nx + 5) % 6, L, w1, p3, k4, ⟨by omega, hx, g1, g2, n1, fun d hd => ?_⟩, ?_, ?_⟩
    · obtain ⟨r2, n2, b1, b2, b3⟩ := a6 (d + 1) (by omega)
      refine ⟨r2, n2, b1, ?_, fun j hj => ?_⟩
      · rw [show ((nx + 5) % 6 + 5 - d) % 6 = (nx + 5 - (d + 1)) % 6 by omega]
        exact b2.ring o13 (rl _ (mod6 _))
      · rw [oN 57 (by decide) (by decide), ← b3 j hj, show s + 1 - 1 - (d + 1) = s - 1 - d by omega]
    · obtain ⟨b1, b2, b3, b4⟩ := h5
      exact ⟨b1, by rw [o13.2 50 (by decide)]; exact b2, by rw [oF 6 (by decide)]; exact b3, fun j hj => by rw [o13.2 51 (by decide), oN 59 (by decide) (by decide)]; exact b4 j hj⟩
    · obtain ⟨b1, b2, b3⟩ := h6
      unfold Cnt
      rw [o13.2 0 (by decide), oN 58 (by decide) (by decide)]
      exact ⟨b1, b2, b3⟩
