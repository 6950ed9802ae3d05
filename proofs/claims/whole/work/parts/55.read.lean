def nbK (x : Int32) : Option Nat := if x = 97 then some 0 else if x = 98 then some 3 else if x = 107 then some 2 else if x = 109 then some 1 else if x = 112 then some 2 else if x = 115 then some 1 else if x = 117 then some 1 else none
def nbV : Option Nat → Int32
  | none => -1
  | some k => nI k
theorem nbS (k : Nat) : nbV (some k) = nI k := rfl
theorem nb_ok (x : Int32) (M : Mm) : fX2_numbersBehind x M = some (nbV (nbK x), M) := by
  unfold fX2_numbersBehind nbK
  repeat' split
  all_goals rfl
theorem nbm_ok (x : Int32) (M : Mm) : fX7_numbersOf x M = some (nbV (nbK x), M) := nb_ok x M
theorem nbK_le {x : Int32} {k : Nat} (h : nbK x = some k) : k ≤ 3 := by
  unfold nbK at h
  repeat' split at h
  all_goals first | (cases h; decide) | cases h
def Od (M N : Mm) (i : Nat) : Prop := ∃ x k, nbK x = some k ∧ M.1 52 i = x ∧ N.1 67 i = x ∧ ∀ q, q < k → M.1 53 (3 * i + q) = N.1 68 (3 * i + q)
theorem nums_loop (K K' : Mm → Option (Int32 × Mm)) {k c : Nat} (hk : k ≤ 3) (hc : c < 60) : ∀ (d f f' q p : Nat) {M N : Mm} {L : Nat}, PR M N L p c → q + d = k → d < f → d < f' → (∀ u, u < q → M.1 53 (3 * c + u) = N.1 68 (3 * c + u)) →
    (∃ p' M' N', p ≤ p' ∧ lX2_readOrder_43 K (nI k) f (nI q) M = some (0, M') ∧ lX7_passesOne_39 K' (nI k) f' (nI q) N = some (0, N') ∧ PR M' N' L p' c ∧ Oth M M' [50, 53] ∧ OthX N N' [68] [14]) ∨
    (∃ p' M' N', p ≤ p' ∧ lX2_readOrder_43 K (nI k) f (nI q) M = K M' ∧ lX7_passesOne_39 K' (nI k) f' (nI q) N = K' N' ∧ PR M' N' L p' c ∧ Oth M M' [50, 53] ∧ OthX N N' [68] [14] ∧ (∀ u, u < k → M'.1 53 (3 * c + u) = N'.1 68 (3 * c + u)) ∧ ∀ j, j < 3 * c → M'.1 53 j = M.1 53 j ∧ N'.1 68 j = N.1 68 j) := by
  intro d
  induction d with
  | zero =>
    intro f f' q p M N L h hd hf hf' hu
    obtain ⟨f, rfl⟩ : ∃ g, f = g + 1 := ⟨f - 1, by omega⟩
    obtain ⟨f', rfl⟩ : ∃ g, f' = g + 1 := ⟨f' - 1, by omega⟩
    have hq : q = k := by omega
    subst hq
    refine Or.inr ⟨p, M, N, Nat.le_refl _, ?_, ?_, h, Oth.refl _ _, OthX.refl _ _ _, hu, fun _ _ => ⟨rfl, rfl⟩⟩
    · rw [lX2_readOrder_43, if_pos (nI_le (Nat.le_refl _) (by omega))]
    · rw [lX7_passesOne_39, if_pos (nI_le (Nat.le_refl _) (by omega))]
  | succ d ih =>
    intro f f' q p M N L h hd hf hf' hu
    obtain ⟨f, rfl⟩ : ∃ g, f = g + 1 := ⟨f - 1, by omega⟩
    obtain ⟨f', rfl⟩ : ∃ g, f' = g + 1 := ⟨f' - 1, by omega⟩
    obtain ⟨v, p1, M1, N1, hp1, e1, e2, hv, h1, o1, x1, hs, ho⟩ := num_sim h hc (show q < 3 by omega)
    rw [lX2_readOrder_43, lX7_passesOne_39, if_neg (nI_ge (by omega) (by omega)), if_neg (nI_ge (by omega) (by omega)), h.2.2.2.2.2.2.2.2.1, show (3 : Int32) * nI c + nI q = nI (3 * c + q) by rw [show (3 : Int32) = nI 3 from rfl, pk_mul, nI_add], e1, so_b, e2, so_b]
    simp only []
    rcases hv with rfl | rfl
    · rw [if_pos rfl, if_pos rfl]
      exact Or.inl ⟨p1, M1, N1, hp1, rfl, rfl, h1, o1, x1⟩
    · rw [if_neg z10, if_neg z10, nI_n1]
      rcases ih f f' (q + 1) p1 h1 (by omega) (by omega) (by omega) (fun u hu2 => by
        by_cases e : u = q
        · rw [e]; exact hs rfl
        · rw [(ho _ (by omega)).1, (ho _ (by omega)).2]; exact hu u (by omega)) with ⟨p2, M2, N2, a1, a2, a3, a4, a5, a6⟩ | ⟨p2, M2, N2, a1, a2, a3, a4, a5, a6, a7, a8⟩
      · exact Or.inl ⟨p2, M2, N2, by omega, a2, a3, a4, o1.trans a5, x1.trans a6⟩
      · exact Or.inr ⟨p2, M2, N2, by omega, a2, a3, a4, o1.trans a5, x1.trans a6, a7, fun j hj => ⟨((a8 j hj).1).trans (ho j (by omega)).1, ((a8 j hj).2).trans (ho j (by omega)).2⟩⟩
def kM (N9 : Mm) : Option (Int32 × Mm) := (fX2_skipBlanks N9).bind (fun w13 => (if (w13.2.1 50 3) ≤ (w13.2.1 50 5) then some ((0 : Int32), w13.2) else (rd w13.2 51 120 (w13.2.1 50 5)).bind (fun v14 => (if v14 = (59 : Int32) then lt (stI w13.2 50 5 ((w13.2.1 50 5) + (1 : Int32))) (fun N15 => some ((1 : Int32), N15)) else some ((0 : Int32), w13.2)))))
def kN (N10 : Mm) : Option (Int32 × Mm) := (fX7_blanks N10).bind (fun w14 => (fX7_here w14.2).bind (fun w15 => (if w15.1 = (59 : Int32) then lt (stI w15.2 54 14 ((w15.2.1 54 14) + (1 : Int32))) (fun N16 => lt (stI N16 54 15 ((N16.1 54 15) + (1 : Int32))) (fun N17 => (fX7_blanks N17).bind (fun w18 => some ((1 : Int32), w18.2)))) else some ((0 : Int32), w15.2))))
theorem ro_eq {M N : Mm} {L p c k : Nat} (h : PR M N L p c) (hp : p < L) (hx : nbK (M.1 51 p) = some k) : fX2_readOrder M = lX2_readOrder_43 kM (nI k) fu (nI 0) (stI (stI M 52 c (M.1 51 p)) 50 5 (nI (p + 1))) := by
  obtain ⟨h1, h2, h3, h4, h5, h6, h7, h8, h9, h10⟩ := h
  have hk := nbK_le hx
  unfold fX2_readOrder
  rw [h5, rd_b p rfl (by omega) (by decide), nb_ok, so_b, hx, nbS]
  simp only []
  rw [if_pos (show (0 : Int32) ≤ nI k from nI_le (a := 0) (Nat.zero_le _) (by omega)), h6, wr_b c rfl (by omega) (by decide), lt_e, stI_c _ 52 _ _ 50 (by decide), h5, nI_n1]
  rfl
theorem po_eq {M N : Mm} {L p c k : Nat} (h : PR M N L p c) (hp : p < L) (hx : nbK (M.1 51 p) = some k) : fX7_passesOne N = lX7_passesOne_39 kN (nI k) fu (nI 0) (stI (stI N 67 c (M.1 51 p)) 54 14 (nI (p + 1))) := by
  have hh := h
  obtain ⟨h1, h2, h3, h4, h5, h6, h7, h8, h9, h10⟩ := h
  have hk := nbK_le hx
  unfold fX7_passesOne
  rw [here_ok hh, so_b, hr_t hp, nbm_ok, so_b, hx, nbS]
  simp only []
  rw [if_pos (show (0 : Int32) ≤ nI k from nI_le (a := 0) (Nat.zero_le _) (by omega)), here_ok hh, so_b, hr_t hp, h9, wr_b c rfl (by omega) (by decide), lt_e, stI_c _ 67 _ _ 54 (by decide), h8, nI_n1]
  rfl
theorem PR.cnt {M N : Mm} {L p c : Nat} (h : PR M N L p c) (hc : 2 * (c + 1) ≤ p) : PR (stI M 50 4 (nI (c + 1))) (stI N 54 15 (nI (c + 1))) L p (c + 1) := by
  obtain ⟨h1, h2, h3, h4, h5, h6, h7, h8, h9, h10⟩ := h
  refine ⟨h1, h2, hc, ?_, ?_, ?_, ?_, ?_, ?_, fun j hj => ?_⟩
  · rw [stI_1, if_pos rfl, if_neg (by decide)]; exact h4
  · rw [stI_1, if_pos rfl, if_neg (by decide)]; exact h5
  · rw [stI_1, if_pos rfl, if_pos rfl]
  · rw [stI_1, if_pos rfl, if_neg (by decide)]; exact h7
  · rw [stI_1, if_pos rfl, if_neg (by decide)]; exact h8
  · rw [stI_1, if_pos rfl, if_pos rfl]
  · rw [stI_c _ 54 _ _ 59 (by decide), stI_c _ 50 _ _ 51 (by decide)]; exact h10 j hj
theorem order_sim {M N : Mm} {L p c : Nat} (h : PR M N L p c) (hp : p < L) (hO : ∀ i, i < c → Od M N i) :
    (∃ p' M' N', fX2_readOrder M = some (0, M') ∧ fX7_passesOne N = some (0, N') ∧ PR M' N' L p' c ∧ Oth M M' [50, 52, 53] ∧ OthX N N' [67, 68] [14, 15]) ∨
    (∃ p' M1 M' N', fX2_readOrder M = some (1, M1) ∧ fX7_passesOne N = some (1, N') ∧ p < p' ∧ fX2_skipBlanks (stI M1 50 4 (M1.1 50 4 + 1)) = some ((), M') ∧ PR M' N' L p' (c + 1) ∧ Oth M M' [50, 52, 53] ∧ OthX N N' [67, 68] [14, 15] ∧ ∀ i, i < c + 1 → Od M' N' i) := by
  have hc : c < 60 := by have := h.1; have := h.2.2.1; omega
  cases hx : nbK (M.1 51 p) with
  | none =>
    refine Or.inl ⟨p, M, N, ?_, ?_, h, Oth.refl _ _, OthX.refl _ _ _⟩
    · unfold fX2_readOrder
      rw [h.2.2.2.2.1, rd_b p rfl (by have := h.1; omega) (by decide), nb_ok, so_b, hx]
      exact if_neg (show ¬ (0 : Int32) ≤ -1 by decide)
    · unfold fX7_passesOne
      rw [here_ok h, so_b, hr_t hp, nbm_ok, so_b, hx]
      exact if_neg (show ¬ (0 : Int32) ≤ -1 by decide)
  | some k =>
    have hk := nbK_le hx
    rw [ro_eq h hp hx, po_eq h hp hx]
    have h2 : PR (stI (stI M 52 c (M.1 51 p)) 50 5 (nI (p + 1))) (stI (stI N 67 c (M.1 51 p)) 54 14 (nI (p + 1))) L (p + 1) c := (h.put (Or.inl rfl) (Or.inl rfl)).adv hp
    have o2 : Oth M (stI (stI M 52 c (M.1 51 p)) 50 5 (nI (p + 1))) [50, 52, 53] := ((Oth.refl M _).put (by decide)).put (by decide)
    have x2 : OthX N (stI (stI N 67 c (M.1 51 p)) 54 14 (nI (p + 1))) [67, 68] [14, 15] := (stY (by decide) (by decide)).trans (stX (by decide))
    have l2 : (stI (stI M 52 c (M.1 51 p)) 50 5 (nI (p + 1))).1 52 = upd (M.1 52) c (M.1 51 p) := by
      rw [stI_c _ 50 _ _ 52 (by decide)]; funext j; rw [stI_1, if_pos rfl]; rfl
    have l3 : (stI (stI N 67 c (M.1 51 p)) 54 14 (nI (p + 1))).1 67 = upd (N.1 67) c (M.1 51 p) := by
      rw [stI_c _ 54 _ _ 67 (by decide)]; funext j; rw [stI_1, if_pos rfl]; rfl
    have l4 : (stI (stI M 52 c (M.1 51 p)) 50 5 (nI (p + 1))).1 53 = M.1 53 := by rw [stI_c _ 50 _ _ 53 (by decide), stI_c _ 52 _ _ 53 (by decide)]
    have l5 : (stI (stI N 67 c (M.1 51 p)) 54 14 (nI (p + 1))).1 68 = N.1 68 := by rw [stI_c _ 54 _ _ 68 (by decide), stI_c _ 67 _ _ 68 (by decide)]
    generalize stI (stI M 52 c (M.1 51 p)) 50 5 (nI (p + 1)) = M2 at h2 o2 l2 l4 ⊢
    generalize stI (stI N 67 c (M.1 51 p)) 54 14 (nI (p + 1)) = N2 at h2 x2 l3 l5 ⊢
    rcases nums_loop kM kN hk hc k fu fu 0 (p + 1) h2 (by omega) (by rw [fu_eq]; omega) (by rw [fu_eq]; omega) (fun u hu => absurd hu (Nat.not_lt_zero _)) with ⟨p3, M3, N3, a1, a2, a3, a4, a5, a6⟩ | ⟨p3, M3, N3, a1, a2, a3, a4, a5, a6, a7, a8⟩
    · exact Or.inl ⟨p3, M3, N3, a2, a3, a4, o2.trans (a5.mono (by decide)), x2.trans (a6.mono (by decide) (by decide))⟩
    · rw [a2, a3]
      obtain ⟨p4, M4, N4, hp4, e1, e2, h4, o4, x4⟩ := blank_sim a4
      have oM4 : Oth M M4 [50, 52, 53] := (o2.trans (a5.mono (by decide))).trans (o4.mono (by decide))
      have xN4 : OthX N N4 [67, 68] [14, 15] := (x2.trans (a6.mono (by decide) (by decide))).trans (x4.mono (by decide) (by decide))
      unfold kM kN
      rw [e1, so_b, e2, so_b]
      simp only []
      rw [here_ok h4, so_b, h4.2.2.2.1, h4.2.2.2.2.1]
      simp only []
      by_cases q : p4 < L
      · rw [if_neg (nI_ge q (by have := h4.1; omega)), rd_b p4 rfl (by have := h4.1; omega) (by decide), hr_t q]
        by_cases g : M4.1 51 p4 = 59
        · rw [if_pos g, if_pos g, lt_e, lt_e, lt_e, h4.2.2.2.2.2.2.2.1, nI_n1]
          have h5 := h4.adv q
          have b15 : (stI N4 54 14 (nI (p4 + 1))).1 54 15 = nI c := h5.2.2.2.2.2.2.2.2.1
          have b4 : (stI M4 50 5 (nI (p4 + 1))).1 50 4 = nI c := h5.2.2.2.2.2.1
          rw [b15, nI_n1]
          have h6 := h5.cnt (by have := h.2.2.1; omega)
          obtain ⟨p7, M7, N7, hp7, e7, e8, h7, o7, x7⟩ := blank_sim h6
          rw [e8, so_b]
          refine Or.inr ⟨p7, _, M7, N7, rfl, rfl, by omega, by rw [b4, nI_n1]; exact e7, h7, ((oM4.put (by decide)).put (by decide)).trans (o7.mono (by decide)), ((xN4.trans (stX (by decide))).trans (stX (by decide))).trans (x7.mono (by decide) (by decide)), fun i hi => ?_⟩
          have c52 : M7.1 52 = upd (M.1 52) c (M.1 51 p) := by rw [o7.2 52 (by decide), stI_c _ 50 _ _ 52 (by decide), stI_c _ 50 _ _ 52 (by decide), o4.2 52 (by decide), a5.2 52 (by decide), l2]
          have c53 : M7.1 53 = M3.1 53 := by rw [o7.2 53 (by decide), stI_c _ 50 _ _ 53 (by decide), stI_c _ 50 _ _ 53 (by decide), o4.2 53 (by decide)]
          have c67 : N7.1 67 = upd (N.1 67) c (M.1 51 p) := by rw [x7.1 67 (by decide) (by decide), stI_c _ 54 _ _ 67 (by decide), stI_c _ 54 _ _ 67 (by decide), x4.1 67 (by decide) (by decide), a6.1 67 (by decide) (by decide), l3]
          have c68 : N7.1 68 = N3.1 68 := by rw [x7.1 68 (by decide) (by decide), stI_c _ 54 _ _ 68 (by decide), stI_c _ 54 _ _ 68 (by decide), x4.1 68 (by decide) (by decide)]
          unfold Od
          rw [c52, c53, c67, c68]
          by_cases e : i = c
          · subst e
            exact ⟨M.1 51 p, k, hx, pk_us, pk_us, a7⟩
          · obtain ⟨x, kk, y1, y2, y3, y4⟩ := hO i (by omega)
            have := nbK_le y1
            refine ⟨x, kk, y1, by rw [pk_un e]; exact y2, by rw [pk_un e]; exact y3, fun u hu => ?_⟩
            rw [(a8 _ (by omega)).1, (a8 _ (by omega)).2, l4, l5]
            exact y4 u hu
        · rw [if_neg g, if_neg g]
          exact Or.inl ⟨p4, M4, N4, rfl, rfl, h4, oM4, xN4⟩
      · rw [if_pos (nI_le (by omega) (by have := h4.2.1; have := h4.1; omega)), hr_f q, if_neg (show ¬ (-1 : Int32) = 59 by decide)]
        exact Or.inl ⟨p4, M4, N4, rfl, rfl, h4, oM4, xN4⟩
theorem read_loop (K : Mm → Option (Int32 × Mm)) (K' : Int32 → Mm → Option (Int32 × Mm)) : ∀ (d f f' p : Nat) {M N : Mm} {L c : Nat}, PR M N L p c → (∀ i, i < c → Od M N i) → L - p ≤ d → d < f → d + 1 < f' →
    (∃ p' c' M' N', lX2_read_30 K f M = some (nI p', M') ∧ lX7_isRead_19 K' f' 1 N = K' 0 N' ∧ PR M' N' L p' c' ∧ Oth M M' [50, 52, 53] ∧ OthX N N' [67, 68] [14, 15]) ∨
    (∃ p' c' M' N', lX2_read_30 K f M = K M' ∧ lX7_isRead_19 K' f' 1 N = K' 1 N' ∧ PR M' N' L p' c' ∧ Oth M M' [50, 52, 53] ∧ OthX N N' [67, 68] [14, 15] ∧ ∀ i, i < c' → Od M' N' i) := by
  intro d
  induction d with
  | zero =>
    intro f f' p M N L c h hO hd hf hf'
    obtain ⟨f, rfl⟩ : ∃ g, f = g + 1 := ⟨f - 1, by omega⟩
    obtain ⟨f', rfl⟩ : ∃ g, f' = g + 1 := ⟨f' - 1, by omega⟩
    have := h.1
    have := h.2.1
    refine Or.inr ⟨p, c, M, N, ?_, ?_, h, Oth.refl _ _, OthX.refl _ _ _, hO⟩
    · rw [lX2_read_30, h.2.2.2.1, h.2.2.2.2.1, if_pos (nI_le (by omega) (by omega))]
    · rw [lX7_isRead_19, if_neg z10, h.2.2.2.2.2.2.1, h.2.2.2.2.2.2.2.1, if_pos (nI_le (by omega) (by omega))]
  | succ d ih =>
    intro f f' p M N L c h hO hd hf hf'
    obtain ⟨f, rfl⟩ : ∃ g, f = g + 1 := ⟨f - 1, by omega⟩
    obtain ⟨f', rfl⟩ : ∃ g, f' = g + 1 := ⟨f' - 1, by omega⟩
    have hL := h.1
    have hpL := h.2.1
    have h2c := h.2.2.1
    by_cases q : p < L
    · rw [lX2_read_30, h.2.2.2.1, h.2.2.2.2.1, if_neg (nI_ge q (by omega)), h.2.2.2.2.2.1, if_neg (show ¬ (60 : Int32) ≤ nI c from nI_ge (b := 60) (by omega) (by omega)), lX7_isRead_19, if_neg z10, h.2.2.2.2.2.2.1, h.2.2.2.2.2.2.2.1, if_neg (nI_ge q (by omega))]
      rcases order_sim h q hO with ⟨p1, M1, N1, e1, e2, h1, o1, x1⟩ | ⟨p1, M1, M2, N1, e1, e2, hlt, e3, h1, o1, x1, hO1⟩
      · rw [e1, so_b, e2, so_b]
        simp only []
        obtain ⟨f', rfl⟩ : ∃ g, f' = g + 1 := ⟨f' - 1, by omega⟩
        rw [if_pos trivial, h1.2.2.2.2.1, lX7_isRead_19, if_pos rfl]
        exact Or.inl ⟨p1, c, M1, N1, rfl, rfl, h1, o1, x1⟩
      · rw [e1, so_b, e2, so_b]
        simp only []
        rw [if_neg z10, lt_e, e3, so_b]
        rcases ih f f' p1 h1 hO1 (by omega) (by omega) (by omega) with ⟨p3, c3, M3, N3, a1, a2, a3, a4, a5⟩ | ⟨p3, c3, M3, N3, a1, a2, a3, a4, a5, a6⟩
        · exact Or.inl ⟨p3, c3, M3, N3, a1, a2, a3, o1.trans a4, x1.trans a5⟩
        · exact Or.inr ⟨p3, c3, M3, N3, a1, a2, a3, o1.trans a4, x1.trans a5, a6⟩
    · refine Or.inr ⟨p, c, M, N, ?_, ?_, h, Oth.refl _ _, OthX.refl _ _ _, hO⟩
      · rw [lX2_read_30, h.2.2.2.1, h.2.2.2.2.1, if_pos (nI_le (by omega) (by omega))]
      · rw [lX7_isRead_19, if_neg z10, h.2.2.2.2.2.2.1, h.2.2.2.2.2.2.2.1, if_pos (nI_le (by omega) (by omega))]
theorem read_sim {M N : Mm} {L : Nat} (h : Txt M N L) :
    (∃ p c M' N', fX2_read M = some (nI p, M') ∧ fX7_isRead N = some (0, N') ∧ PR M' N' L p c ∧ Oth M M' [50, 52, 53] ∧ OthX N N' [67, 68] [14, 15]) ∨
    (∃ p c M' N', fX2_read M = some (-1, M') ∧ fX7_isRead N = some (1, N') ∧ PR M' N' L p c ∧ Oth M M' [50, 52, 53] ∧ OthX N N' [67, 68] [14, 15] ∧ ∀ i, i < c → Od M' N' i) := by
  obtain ⟨b1, b2, b3, b4⟩ := h
  have h0 : PR (stI (stI M 50 5 0) 50 4 0) (stI (stI N 54 14 0) 54 15 0) L 0 0 := by
    refine ⟨b1, Nat.zero_le _, Nat.zero_le _, ?_, ?_, ?_, ?_, ?_, ?_, fun j hj => ?_⟩
    · simp [stI_1, b2]
    · simp [stI_1]; rfl
    · simp [stI_1]; rfl
    · simp [stI_1, b3]
    · simp [stI_1]; rfl
    · simp [stI_1]; rfl
    · simp [stI_1]; exact (b4 j hj).symm
  have o0 : Oth M (stI (stI M 50 5 0) 50 4 0) [50, 52, 53] := ((Oth.refl M _).put (by decide)).put (by decide)
  have x0 : OthX N (stI (stI N 54 14 0) 54 15 0) [67, 68] [14, 15] := (stX (by decide)).trans (stX (by decide))
  obtain ⟨p1, M1, N1, hp1, e1, e2, h1, o1, x1⟩ := blank_sim h0
  have oM := o0.trans (o1.mono (l' := [50, 52, 53]) (by decide))
  have xN := x0.trans (x1.mono (l' := [67, 68]) (fs' := [14, 15]) (by decide) (by decide))
  unfold fX2_read fX7_isRead
  rw [lt_e, lt_e, lt_e, lt_e, e1, so_b, e2, so_b]
  simp only []
  rw [h1.2.2.2.1, h1.2.2.2.2.1]
  have hL := h1.2.1
  by_cases q : p1 < L
  · rw [if_pos (nI_lt q (by omega))]
    have un : ((fX7_passesOne N1).bind fun w4 => lX7_isRead_19 (fun x8 N9 => (ckZ x8).bind fun r => some (r, N9)) fu w4.1 w4.2) = lX7_isRead_19 (fun x8 N9 => (ckZ x8).bind fun r => some (r, N9)) (fu + 1) 1 N1 := by
      rw [lX7_isRead_19, if_neg z10, h1.2.2.2.2.2.2.1, h1.2.2.2.2.2.2.2.1, if_neg (nI_ge q (by omega))]
    rw [un]
    rcases read_loop (fun N6 => some (-1, N6)) (fun x8 N9 => (ckZ x8).bind fun r => some (r, N9)) 120 fu (fu + 1) p1 h1 (fun i hi => absurd hi (Nat.not_lt_zero _)) (by omega) (by rw [fu_eq]; decide) (by rw [fu_eq]; decide) with ⟨p3, c3, M3, N3, a1, a2, a3, a4, a5⟩ | ⟨p3, c3, M3, N3, a1, a2, a3, a4, a5, a6⟩
    · exact Or.inl ⟨p3, c3, M3, N3, a1, by rw [a2]; rfl, a3, oM.trans a4, xN.trans a5⟩
    · exact Or.inr ⟨p3, c3, M3, N3, a1, by rw [a2]; rfl, a3, oM.trans a4, xN.trans a5, a6⟩
  · have hLp : p1 = L := by omega
    rw [if_neg (nI_nlt (by omega) (by omega))]
    refine Or.inl ⟨p1, 0, M1, N1, by rw [hLp], ?_, h1, oM, xN⟩
    have e9 : fX7_passesOne N1 = some (0, N1) := by
      unfold fX7_passesOne
      rw [here_ok h1, so_b, hr_f q, nbm_ok, so_b, show nbK (-1) = none by decide]
      exact if_neg (show ¬ (0 : Int32) ≤ -1 by decide)
    rw [e9, so_b, show fu = 999 + 1 from rfl, lX7_isRead_19, if_pos rfl]
    rfl
