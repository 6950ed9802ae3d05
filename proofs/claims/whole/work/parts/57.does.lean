theorem RelP.same {M M' N N' : Mm} {r : Nat → Int32} {n s nx L : Nat} (h : RelP M N r n s nx L) (o : Oth M M' wk) (p : PI M' r n) (o' : OthX N N' (55 :: scM) [14, 15]) (hN : Nwk N' r) : RelP M' N' r n s nx L := by
  obtain ⟨h1, h2, h3, h4, h5, h6⟩ := h
  refine ⟨h1, p, hN, h4.mv o o' (by decide) (fun d hd i hi => (ring_lo _ (mod6 _) i hi).1) (by decide) (by decide), ?_, ?_⟩
  · obtain ⟨b1, b2, b3, b4⟩ := h5
    exact ⟨b1, by rw [o.2 50 (by decide)]; exact b2, by rw [o'.2 6 (by decide)]; exact b3, fun j hj => by rw [o.2 51 (by decide), o'.1 59 (by decide) (by decide)]; exact b4 j hj⟩
  · obtain ⟨b1, b2, b3⟩ := h6
    unfold Cnt
    rw [o.2 0 (by decide), o'.1 58 (by decide) (by decide)]
    exact ⟨b1, b2, b3⟩
theorem Od.mv {M M' N N' : Mm} {i : Nat} (h : Od M N i) (h1 : M'.1 52 = M.1 52) (h2 : M'.1 53 = M.1 53) (h3 : N'.1 67 = N.1 67) (h4 : N'.1 68 = N.1 68) : Od M' N' i := by
  unfold Od
  rw [h1, h2, h3, h4]
  exact h
theorem aside_loop (K : Mm → Option (Int32 × Mm)) : ∀ (d f i : Nat) (N : Mm), i + d = 26 → d < f → (∀ j, j < i → N.1 56 j = N.1 55 j) → ∃ N', lX7_does_17 K f (nI i) N = K N' ∧ Oth N N' [56] ∧ ∀ j, j < 26 → N'.1 56 j = N'.1 55 j := by
  intro d
  induction d with
  | zero =>
    intro f i N hi hf h1
    obtain ⟨f, rfl⟩ : ∃ g, f = g + 1 := ⟨f - 1, by omega⟩
    have hi : i = 26 := by omega
    subst hi
    exact ⟨N, by rw [lX7_does_17, if_pos (by decide)], Oth.refl _ _, h1⟩
  | succ d ih =>
    intro f i N hi hf h1
    obtain ⟨f, rfl⟩ : ∃ g, f = g + 1 := ⟨f - 1, by omega⟩
    rw [lX7_does_17, if_neg (by rw [show (26 : Int32) = nI 26 from rfl]; exact nI_ge (by omega) (by omega)), rd_b i rfl (by omega) (by decide), wr_b i rfl (by omega) (by decide), nI_n1]
    have o1 : Oth N (stI N 56 i (N.1 55 i)) [56] := (Oth.refl N _).put (by decide)
    refine ex_o o1 (ih f (i + 1) _ (by omega) (by omega) (fun j hj => ?_))
    rw [stI_c _ 56 _ _ 55 (by decide), stI_1, if_pos rfl]
    by_cases e : j = i
    · rw [if_pos e, e]
    · rw [if_neg e]; exact h1 j (by omega)
theorem swap_loop (K : Mm → Option (Unit × Mm)) (a b : Nat → Int32) : ∀ (d f i : Nat) (N : Mm), i + d = 26 → d < f → (∀ j, j < i → N.1 55 j = b j ∧ N.1 56 j = a j) → (∀ j, i ≤ j → j < 26 → N.1 55 j = a j ∧ N.1 56 j = b j) → ∃ N', lX7_changesAside_2 K f (nI i) N = K N' ∧ Oth N N' [55, 56] ∧ ∀ j, j < 26 → N'.1 55 j = b j ∧ N'.1 56 j = a j := by
  intro d
  induction d with
  | zero =>
    intro f i N hi hf h1 h2
    obtain ⟨f, rfl⟩ : ∃ g, f = g + 1 := ⟨f - 1, by omega⟩
    have hi : i = 26 := by omega
    subst hi
    exact ⟨N, by rw [lX7_changesAside_2, if_pos (by decide)], Oth.refl _ _, h1⟩
  | succ d ih =>
    intro f i N hi hf h1 h2
    obtain ⟨f, rfl⟩ : ∃ g, f = g + 1 := ⟨f - 1, by omega⟩
    rw [lX7_changesAside_2, if_neg (by rw [show (26 : Int32) = nI 26 from rfl]; exact nI_ge (by omega) (by omega)), rd_b i rfl (by omega) (by decide), rd_b i rfl (by omega) (by decide), wr_b i rfl (by omega) (by decide), wr_b i rfl (by omega) (by decide), nI_n1, (h2 i (Nat.le_refl _) (by omega)).1, (h2 i (Nat.le_refl _) (by omega)).2]
    have o1 : Oth N (stI (stI N 55 i (b i)) 56 i (a i)) [55, 56] := ((Oth.refl N _).put (by decide)).put (by decide)
    refine ex_o o1 (ih f (i + 1) _ (by omega) (by omega) (fun j hj => ?_) (fun j h5 h6 => ?_))
    · rw [stI_c _ 56 _ _ 55 (by decide), stI_1, if_pos rfl, stI_1, if_pos rfl, stI_c _ 55 _ _ 56 (by decide)]
      by_cases e : j = i
      · rw [if_pos e, if_pos e, e]; exact ⟨rfl, rfl⟩
      · rw [if_neg e, if_neg e]; exact h1 j (by omega)
    · rw [stI_c _ 56 _ _ 55 (by decide), stI_1, if_pos rfl, stI_1, if_pos rfl, stI_c _ 55 _ _ 56 (by decide), if_neg (by omega), if_neg (by omega)]
      exact h2 j (by omega) h6
theorem swap_ok (N : Mm) : ∃ N', fX7_changesAside N = some ((), N') ∧ Oth N N' [55, 56] ∧ ∀ j, j < 26 → N'.1 55 j = N.1 56 j ∧ N'.1 56 j = N.1 55 j := by
  unfold fX7_changesAside
  exact swap_loop (fun N4 => some ((), N4)) (N.1 55) (N.1 56) 26 fu 0 N (by omega) (by rw [fu_eq]; omega) (fun j hj => absurd hj (Nat.not_lt_zero _)) (fun j _ _ => ⟨rfl, rfl⟩)
theorem does_loop (K K' : Int32 → Mm → Option (Int32 × Mm)) {c : Nat} (hc : c ≤ 60) : ∀ (d f f' i : Nat) {M N : Mm} {r : Nat → Int32} {n : Nat}, i + d = c → d < f → d < f' → Wf2 r n → PI M r n → Nwk N r → M.1 50 4 = nI c → N.1 54 15 = nI c → (∀ u, u < c → Od M N u) →
    (∃ u M' N', u < c ∧ lX6_does_31 K f (nI i) M = K (nI u) M' ∧ lX7_does_43 K' f' (nI i) N = K' (nI u) N' ∧ Oth M M' wk ∧ OthX N N' wN3 [] ∧ cor M') ∨
    (∃ M' N' r' n', lX6_does_31 K f (nI i) M = ((fX0_keepStaged M').bind (fun w10 => some ((w10.2.1 50 4), w10.2))) ∧ lX7_does_43 K' f' (nI i) N = K' (nI c) N' ∧ Oth M M' wk ∧ OthX N N' wN3 [] ∧ Wf2 r' n' ∧ PI M' r' n' ∧ Nwk N' r') := by
  intro d
  induction d with
  | zero =>
    intro f f' i M N r n hi hf hf' hw hp hN h4 h15 hO
    obtain ⟨f, rfl⟩ : ∃ g, f = g + 1 := ⟨f - 1, by omega⟩
    obtain ⟨f', rfl⟩ : ∃ g, f' = g + 1 := ⟨f' - 1, by omega⟩
    have hi : i = c := by omega
    subst hi
    refine Or.inr ⟨M, N, r, n, ?_, ?_, Oth.refl _ _, OthX.refl _ _ _, hw, hp, hN⟩
    · rw [lX6_does_31, h4, if_pos (nI_le (Nat.le_refl _) (by omega))]
    · rw [lX7_does_43, h15, if_pos (nI_le (Nat.le_refl _) (by omega))]
  | succ d ih =>
    intro f f' i M N r n hi hf hf' hw hp hN h4 h15 hO
    obtain ⟨f, rfl⟩ : ∃ g, f = g + 1 := ⟨f - 1, by omega⟩
    obtain ⟨f', rfl⟩ : ∃ g, f' = g + 1 := ⟨f' - 1, by omega⟩
    rw [lX6_does_31, h4, if_neg (nI_ge (by omega) (by omega)), lX7_does_43, h15, if_neg (nI_ge (by omega) (by omega))]
    rcases perf_sim hw hp hN (show i < 60 by omega) (hO i (by omega)) with ⟨v, M1, N1, hv, e1, e2, o1, x1, c1⟩ | ⟨v, M1, N1, r1, n1, hv, e1, e2, o1, x1, w1, p1, k1⟩
    · rw [e1, so_b, e2, so_b]
      simp only []
      rw [isRef_c hv, so_b, if_neg z10, if_pos trivial]
      exact Or.inl ⟨i, M1, N1, by omega, rfl, rfl, o1, x1, c1⟩
    · rw [e1, so_b, e2, so_b]
      simp only []
      rw [isRef_ok hv, so_b, if_neg z10, nI_n1]
      simp only []
      rw [if_pos trivial]
      rcases ih f f' (i + 1) (by omega) (by omega) (by omega) w1 p1 k1 (by rw [o1.2 50 (by decide)]; exact h4) (by rw [x1.2 15 (by decide)]; exact h15) (fun u hu => (hO u hu).mv (o1.2 52 (by decide)) (o1.2 53 (by decide)) (x1.1 67 (by decide) (by decide)) (x1.1 68 (by decide) (by decide))) with ⟨u, M2, N2, a1, a2, a3, a4, a5, a6⟩ | ⟨M2, N2, r2, n2, a1, a2, a3, a4, a5, a6, a7⟩
      · exact Or.inl ⟨u, M2, N2, a1, a2, a3, o1.trans a4, x1.trans a5, a6⟩
      · exact Or.inr ⟨M2, N2, r2, n2, a1, a2, o1.trans a3, x1.trans a4, a5, a6, a7⟩
theorem nI_m1 {p : Nat} (hp : p < 2 ^ 31) : ¬ nI p = (-1 : Int32) := fun e => by
  have h := nI_tI hp
  rw [e, show (-1 : Int32).toInt = -1 by decide] at h
  omega
theorem PR.txt {M N : Mm} {L p c : Nat} (h : PR M N L p c) : Txt M N L := ⟨h.1, h.2.2.2.1, h.2.2.2.2.2.2.1, fun j hj => (h.2.2.2.2.2.2.2.2.2 j hj).symm⟩
theorem pub_does : Same fX6_does fX7_does := by
  intro M N ⟨r, n, s, nx, L, h⟩
  unfold fX6_does fX7_does
  rcases read_sim h.2.2.2.2.1 with ⟨p, c, M1, N1, e1, e2, h1, o1, x1⟩ | ⟨p, c, M1, N1, e1, e2, h1, o1, x1, hO⟩
  · rw [e1, so_b, e2, so_b]
    simp only []
    rw [if_neg (nI_m1 (by have := h1.1; have := h1.2.1; omega)), if_pos trivial, h1.2.2.2.2.2.2.2.1]
    exact ⟨_, M1, N1, rfl, rfl, (h.text (o1.mono (by decide)) (x1.mono (by decide) (by decide)) h1.txt).rel⟩
  · rw [e1, so_b, e2, so_b]
    simp only []
    rw [if_pos trivial, if_neg z10]
    have hc : c ≤ 60 := by have := h1.1; have := h1.2.1; have := h1.2.2.1; omega
    have hR := h.text (o1.mono (by decide)) (x1.mono (by decide) (by decide)) h1.txt
    have hx := hR.2.2.2.1.2.1
    obtain ⟨M2, e3, o2, s2⟩ := stage_ok hx hR.2.2.2.1.2.2.1 hR.2.1.1.1
    obtain ⟨M2', e3', hR2, s2'⟩ := stage_rel hR
    have e : M2' = M2 := by rw [e3] at e3'; cases e3'; rfl
    subst e
    rw [e3, so_b]
    simp only []
    rw [show (0 : Int32) = nI 0 from rfl]
    obtain ⟨N2, e4, o4, k4⟩ := aside_loop (fun N5 => lX7_does_43 (fun x13 N14 => (fX7_changesAside N14).bind fun w18 => if (w18.2.1 54 15) ≤ x13 then (fX7_leaves w18.2).bind fun w19 => (fX7_changesAside w19.2).bind fun w20 => some (w20.2.1 54 15, w20.2) else some (-2000 - x13, w18.2)) fu (nI 0) N5) 26 fu 0 N1 (by omega) (by rw [fu_eq]; omega) (fun j hj => absurd hj (Nat.not_lt_zero _))
    rw [e4]
    have hN1 := hR.2.2.1
    have hN2 : Nwk N2 r := hN1.oth o4 (by decide)
    have m4 : M2'.1 50 4 = nI c := by rw [o2.2 50 (ring_out2 nx hx).1]; exact h1.2.2.2.2.2.1
    have n15 : N2.1 54 15 = nI c := by rw [o4.2 54 (by decide)]; exact h1.2.2.2.2.2.2.2.2.1
    rcases does_loop (fun x6 N7 => (fX0_restoreStaged N7).bind fun w13 => (fX1_forget w13.2).bind fun w14 => some (-2000 - x6, w14.2)) (fun x13 N14 => (fX7_changesAside N14).bind fun w18 => if (w18.2.1 54 15) ≤ x13 then (fX7_leaves w18.2).bind fun w19 => (fX7_changesAside w19.2).bind fun w20 => some (w20.2.1 54 15, w20.2) else some (-2000 - x13, w18.2)) hc c fu fu 0 (by omega) (by rw [fu_eq]; omega) (by rw [fu_eq]; omega) hR2.1 hR2.2.1 hN2 m4 n15 (fun u hu => (hO u hu).mv (o2.2 52 (ring_out2 nx hx).2.2.1) (o2.2 53 (ring_out2 nx hx).2.2.2) (o4.2 67 (by decide)) (o4.2 68 (by decide))) with ⟨u, M3, N3, hu, a1, a2, o3, x3, c3⟩ | ⟨M3, N3, r3, n3, a1, a2, o3, x3, w3, p3, k3⟩
    · rw [a1, a2]
      obtain ⟨N4, e5, o5, k5⟩ := swap_ok N3
      rw [e5, so_b]
      simp only []
      have n4 : N4.1 54 15 = nI c := by rw [o5.2 54 (by decide), x3.2 15 (by decide)]; exact n15
      rw [n4, if_neg (nI_ge hu (by omega))]
      unfold fX0_restoreStaged
      rw [rdR_b nx (by rw [o3.2 18 (by decide)]; exact hR2.2.2.2.1.2.2.1) hx]
      obtain ⟨M4, e6, o6, s6⟩ := copy_ok (M := M3) (kt := 1) (ko := ringK nx) (Or.inl (by unfold ringK; omega)) (s2.ring o3 (fun i hi => (ring_lo _ hx i hi).1))
      rw [e6, so_b, so_b]
      simp only []
      obtain ⟨M5, e7, o7, p7⟩ := forget_ok (n := n) s6 (by rw [o6.2 7 (by decide), o6.2 8 (by decide)]; exact c3) hR2.1.1.1
      rw [e7, so_b]
      refine ⟨_, M5, N4, rfl, rfl, (hR2.same ((o3.trans (o6.mono (by decide))).trans (o7.mono (by decide))) p7 (((o4.xm (by decide) (by decide)).trans (x3.mono (by decide) (by decide))).trans (o5.xm (by decide) (by decide))) (fun j hj => ?_)).rel⟩
      rw [(k5 j hj).1, x3.1 56 (by decide) (by decide), k4 j hj]
      exact hN2 j hj
    · rw [a1, a2]
      obtain ⟨N4, e5, o5, k5⟩ := swap_ok N3
      rw [e5, so_b]
      simp only []
      have n4 : N4.1 54 15 = nI c := by rw [o5.2 54 (by decide), x3.2 15 (by decide)]; exact n15
      rw [n4, if_pos (nI_le (Nat.le_refl _) (by omega))]
      have hR4 : RelP M2' N4 r n s nx L := hR2.same (Oth.refl _ _) hR2.2.1 (((o4.xm (by decide) (by decide)).trans (x3.mono (by decide) (by decide))).trans (o5.xm (by decide) (by decide))) (fun j hj => by
        rw [(k5 j hj).1, x3.1 56 (by decide) (by decide), k4 j hj]
        exact hN2 j hj)
      obtain ⟨M5, e6, N5, e7, k7, x7, fin⟩ := push_rel hR4 s2' o3 w3 p3
      obtain ⟨M6, e8, o8, -, -⟩ := keepStaged_ok hx hR2.2.2.2.1.1 (M := M3) (by rw [o3.2 18 (by decide)]; exact hR2.2.2.2.1.2.2.1) (by rw [o3.2 18 (by decide)]; exact hR2.2.2.2.1.2.2.2.1)
      have e : M6 = M5 := by rw [e6] at e8; cases e8; rfl
      subst e
      rw [e6, so_b, e7, so_b]
      simp only []
      obtain ⟨N6, e9, o9, k9⟩ := swap_ok N5
      rw [e9, so_b]
      simp only []
      have v5 : M6.1 50 4 = nI c := by rw [o8.2 50 (by decide), o3.2 50 (by decide)]; exact m4
      have v6 : N6.1 54 15 = nI c := by rw [o9.2 54 (by decide), x7.2 15 (by decide)]; exact n4
      rw [v5, v6]
      refine ⟨_, M6, N6, rfl, rfl, (fin N6 (o9.xm (by decide) (by decide)) (fun j hj => ?_)).rel⟩
      rw [(k9 j hj).1, x7.1 56 (by decide) (by decide), (k5 j hj).2]
      exact k3 j hj
