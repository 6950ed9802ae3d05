/-! the reference's hitBy -/
def ly0 (r : Nat → Int32) (n : Nat) (c : Int32) (b k : Nat) : Int32 := (pyS r n c k - pyS r n c (b + 1)) * sX (hdS r n c (b + 1)).toNatClampNeg - (pxS r n c k - pxS r n c (b + 1)) * sY (hdS r n c (b + 1)).toNatClampNeg
theorem turns_loop {r : Nat → Int32} {n : Nat} (hw : WfR r n) (c : Int32) (K : Mm → Option (Unit × Mm)) (b : Nat) {q : Nat} (hq : q < 4) (eq : hdS r n c (b + 1) = nI q) : ∀ (d f i : Nat) (M : Mm), i + d = n + 2 → d < f → Nwk M r → (∀ j, j < i → M.1 60 j = lxS r n c b j ∧ M.1 61 j = ly0 r n c b j) → (∀ j, i ≤ j → j ≤ n + 1 → M.1 60 j = pxS r n c j ∧ M.1 61 j = pyS r n c j) → ∃ M', lX7_turnsTo_31 K (pxS r n c (b + 1)) (pyS r n c (b + 1)) (nI q) f (nI i) M = K M' ∧ Oth M M' [60, 61, 62] ∧ ∀ j, j ≤ n + 1 → M'.1 60 j = lxS r n c b j ∧ M'.1 61 j = ly0 r n c b j := by
  intro d
  have hn := hw.1
  have hc : (nI q).toNatClampNeg = q := nI_clamp (by omega)
  induction d with
  | zero =>
    intro f i M hi hf hS h1 h2
    obtain ⟨f, rfl⟩ : ∃ g, f = g + 1 := ⟨f - 1, by omega⟩
    refine ⟨M, ?_, Oth.refl _ _, fun j hj => h1 j (by omega)⟩
    rw [lX7_turnsTo_31, rd_b (x := 0) 0 rfl (by omega) (by omega), hS 0 (by omega), hw.2.1, show nI n + (2 : Int32) = nI (n + 2) from nI_add n 2, if_pos (nI_le (by omega) (by omega))]
  | succ d ih =>
    intro f i M hi hf hS h1 h2
    obtain ⟨f, rfl⟩ : ∃ g, f = g + 1 := ⟨f - 1, by omega⟩
    rw [lX7_turnsTo_31, rd_b (x := 0) 0 rfl (by omega) (by omega), hS 0 (by omega), hw.2.1, show nI n + (2 : Int32) = nI (n + 2) from nI_add n 2, if_neg (nI_ge (by omega) (by omega)), rd_b i rfl (by omega) (by omega), lt_e, rd_b i rfl (by omega) (by omega), lt_e, alongX_ok hq, so_b, alongY_ok hq, so_b, wr_b i rfl (by omega) (by omega), alongX_ok hq, so_b, alongY_ok hq, so_b, wr_b i rfl (by omega) (by omega), nI_n1]
    simp only [(h2 i (Nat.le_refl _) (by omega)).1, (h2 i (Nat.le_refl _) (by omega)).2]
    have ex : sX q * (pxS r n c i - pxS r n c (b + 1)) + sY q * (pyS r n c i - pyS r n c (b + 1)) = lxS r n c b i := by
      rw [lxS, eq, hc, Int32.mul_comm (sX q), Int32.mul_comm (sY q)]
    have ey : sX q * (pyS r n c i - pyS r n c (b + 1)) - sY q * (pxS r n c i - pxS r n c (b + 1)) = ly0 r n c b i := by
      rw [ly0, eq, hc, Int32.mul_comm (sX q), Int32.mul_comm (sY q)]
    rw [ex, ey]
    have o1 : Oth M (stI (stI M 60 i (lxS r n c b i)) 61 i (ly0 r n c b i)) [60, 61, 62] := ((Oth.refl M _).put (by decide)).put (by decide)
    refine ex_o o1 (ih f (i + 1) _ (by omega) (by omega) (hS.oth o1 (by decide)) (fun j hj => ?_) (fun j hj hj' => ?_))
    · by_cases hj2 : j = i
      · subst hj2; simp [stI_1]
      · have := h1 j (by omega)
        simp [stI_1, hj2, this]
    · have hj2 : j ≠ i := by omega
      have := h2 j (by omega) hj'
      simp [stI_1, hj2, this]
theorem turns_ok {r : Nat → Int32} {n : Nat} (hw : WfR r n) (c : Int32) {M : Mm} (hS : Nwk M r) (hT : TrM M r n c) (b : Nat) (hb : b < n) : ∃ M', fX7_turnsTo (nI b) M = some ((), M') ∧ Oth M M' [60, 61, 62] ∧ ∀ j, j ≤ n + 1 → M'.1 60 j = lxS r n c b j ∧ M'.1 61 j = ly0 r n c b j := by
  have hn := hw.1
  obtain ⟨q, hq, eq⟩ := hd_ok hw c (b + 1)
  unfold fX7_turnsTo
  rw [rd_b (b + 1) (nI_n1 b) (by omega) (by omega), rd_b (b + 1) (nI_n1 b) (by omega) (by omega), rd_b (b + 1) (nI_n1 b) (by omega) (by omega), (hT.1 (b + 1) (by omega)).1, (hT.1 (b + 1) (by omega)).2, hT.2 (b + 1) (by omega), eq, show (0 : Int32) = nI 0 from rfl]
  exact turns_loop hw c _ b hq eq (n + 2) fu 0 M (by omega) (by rw [fu_eq]; omega) hS (fun j hj => absurd hj (by omega)) (fun j _ hj => hT.1 j hj)
def ls (a b : Int32) : Int32 := if b ≤ a then b else a
def gs (a b : Int32) : Int32 := if a ≤ b then b else a
theorem lesser_ok (a b : Int32) (M : Mm) : fX7_lesser a b M = some (ls a b, M) := by
  unfold fX7_lesser ls
  split <;> rfl
theorem greater_ok (a b : Int32) (M : Mm) : fX7_greater a b M = some (gs a b, M) := by
  unfold fX7_greater gs
  split <;> rfl
theorem ls_tI (x y : Int32) : (ls x y).toInt = if y.toInt ≤ x.toInt then y.toInt else x.toInt := by
  unfold ls
  by_cases h : y ≤ x
  · rw [if_pos h, if_pos (tI_le.mp h)]
  · rw [if_neg h, if_neg (fun k => h (tI_le.mpr k))]
theorem gs_tI (x y : Int32) : (gs x y).toInt = if x.toInt ≤ y.toInt then y.toInt else x.toInt := by
  unfold gs
  by_cases h : x ≤ y
  · rw [if_pos h, if_pos (tI_le.mp h)]
  · rw [if_neg h, if_neg (fun k => h (tI_le.mpr k))]
theorem ls_le (x y z : Int32) : z < ls x y ↔ ¬ (x ≤ z ∨ y ≤ z) := by
  simp only [tI_le, tI_lt, ls_tI]
  generalize x.toInt = a; generalize y.toInt = b; generalize z.toInt = d
  split <;> omega
theorem gs_le (x y z : Int32) : gs x y < z ↔ ¬ (z ≤ x ∨ z ≤ y) := by
  simp only [tI_le, tI_lt, gs_tI]
  generalize x.toInt = a; generalize y.toInt = b; generalize z.toInt = d
  split <;> omega
theorem within_ok {M : Mm} {k : Nat} (hk : k < 7) (wide way low high : Int32) : fX7_isWithin (nI k) wide way low high M = some (ic (((M.1 60 k ≤ wide ∨ M.1 60 (k + 1) ≤ wide) ∧ (-wide ≤ M.1 60 k ∨ -wide ≤ M.1 60 (k + 1))) ∧ ((way * M.1 61 k ≤ high ∨ way * M.1 61 (k + 1) ≤ high) ∧ (low ≤ way * M.1 61 k ∨ low ≤ way * M.1 61 (k + 1)))) 1 0, M) := by
  unfold fX7_isWithin
  rw [rd_b k rfl (by omega) (by omega), rd_b (k + 1) (nI_n1 k) (by omega) (by omega), lesser_ok, so_b, rd_b k rfl (by omega) (by omega), rd_b (k + 1) (nI_n1 k) (by omega) (by omega), greater_ok, so_b, rd_b k rfl (by omega) (by omega), rd_b (k + 1) (nI_n1 k) (by omega) (by omega), lesser_ok, so_b, rd_b k rfl (by omega) (by omega), rd_b (k + 1) (nI_n1 k) (by omega) (by omega), greater_ok, so_b]
  simp only [ls_le, gs_le]
  by_cases h1 : M.1 60 k ≤ wide ∨ M.1 60 (k + 1) ≤ wide
  · rw [if_neg (fun h => h h1)]
    by_cases h2 : -wide ≤ M.1 60 k ∨ -wide ≤ M.1 60 (k + 1)
    · rw [if_neg (fun h => h h2)]
      by_cases h3 : way * M.1 61 k ≤ high ∨ way * M.1 61 (k + 1) ≤ high
      · rw [if_neg (fun h => h h3)]
        by_cases h4 : low ≤ way * M.1 61 k ∨ low ≤ way * M.1 61 (k + 1)
        · rw [if_neg (fun h => h h4), ic_t ⟨⟨h1, h2⟩, h3, h4⟩]
        · rw [if_pos h4, ic_f (fun h => h4 h.2.2)]
      · rw [if_pos h3, ic_f (fun h => h3 h.2.1)]
    · rw [if_pos h2, ic_f (fun h => h2 h.1.2)]
  · rw [if_pos h1, ic_f (fun h => h1 h.1.1)]
theorem lyS_eq (r : Nat → Int32) (n : Nat) (c : Int32) (b k : Nat) : r (8 + b) * ly0 r n c b k = lyS r n c b k := rfl
theorem ly_bd {r : Nat → Int32} {n : Nat} (hw : WfR r n) (c : Int32) (b k : Nat) (hb : b < n) (hk : k ≤ n + 1) : -1000 ≤ (lyS r n c b k).toInt := by
  have hn := hw.1
  obtain ⟨q, hq, eq⟩ := hd_ok hw c (b + 1)
  have hc : (hdS r n c (b + 1)).toNatClampNeg = q := by rw [eq]; exact nI_clamp (by omega)
  obtain ⟨⟨a1, a2⟩, a3, a4⟩ := px_bd hw c k hk
  obtain ⟨⟨b1, b2⟩, b3, b4⟩ := px_bd hw c (b + 1) (by omega)
  unfold lyS
  rw [hc]
  generalize hx : (pxS r n c k).toInt = x at *
  generalize hy : (pyS r n c k).toInt = y at *
  generalize hx' : (pxS r n c (b + 1)).toInt = x' at *
  generalize hy' : (pyS r n c (b + 1)).toInt = y' at *
  have d1 := subI hx hx' (by omega) (by omega)
  have d2 := subI hy hy' (by omega) (by omega)
  generalize pxS r n c k - pxS r n c (b + 1) = dx at *
  generalize pyS r n c k - pyS r n c (b + 1) = dy at *
  obtain ⟨c0, c1, c2, c3, e0, e1, e2, e3⟩ := m_one dx
  obtain ⟨f0, f1, f2, f3, g0, g1, g2, g3⟩ := m_one dy
  have key : ∃ v : Int, (dy * sX q - dx * sY q).toInt = v ∧ -1000 ≤ v ∧ v ≤ 1000 := by
    have z0 : (0 : Int32).toInt = 0 := by decide
    rcases (show q = 0 ∨ q = 1 ∨ q = 2 ∨ q = 3 by omega) with rfl | rfl | rfl | rfl
    · rw [f0, e0]; exact ⟨_, subI d2 z0 (by omega) (by omega), by omega, by omega⟩
    · rw [f1, e1]; exact ⟨_, subI z0 d1 (by omega) (by omega), by omega, by omega⟩
    · rw [f2, e2]; exact ⟨_, subI (negI d2 (by omega) (by omega)) z0 (by omega) (by omega), by omega, by omega⟩
    · rw [f3, e3]; exact ⟨_, subI z0 (negI d1 (by omega) (by omega)) (by omega) (by omega), by omega, by omega⟩
  obtain ⟨v, hv, h1, h2⟩ := key
  generalize dy * sX q - dx * sY q = u at *
  rcases hw.2.2.2.1 b hb with h | h
  · rw [h, Int32.one_mul, hv]; exact h1
  · rw [h, Int32.neg_mul, Int32.one_mul, negI hv (by omega) (by omega)]; omega
