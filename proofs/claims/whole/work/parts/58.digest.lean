/-! the digest -/
theorem RelP.hash {M N N' : Mm} {r : Nat → Int32} {n s nx L : Nat} (h : RelP M N r n s nx L) (e : N'.1 = N.1) : RelP M N' r n s nx L := by
  unfold RelP Nwk Hist Txt Cnt at *
  rw [e]
  exact h
def hx (x : Int64) (v : Int32) : Int64 := 31 * x + v.toInt64
theorem mix_ok (v : Int32) (N : Mm) : fX7_mix v N = some ((), stL N 54 18 (hx (N.2 54 18) v)) := rfl
theorem dg_told {M : Mm} {r : Nat → Int32} {n s nx L : Nat} (K : Int64 → Mm → Option (Int64 × Mm)) (K' : Mm → Option (Int64 × Mm)) : ∀ (d f f' i : Nat) (x : Int64) (N : Mm), RelP M N r n s nx L → N.2 54 18 = x → i + d = 5 → d < f → d < f' → ∃ x' N', lX6_digest_6 K f x (nI i) M = K x' M ∧ lX7_digest_9 K' f' (nI i) N = K' N' ∧ N'.1 = N.1 ∧ N'.2 54 18 = x' := by
  intro d
  induction d with
  | zero =>
    intro f f' i x N h hx0 hi hf hf'
    obtain ⟨f, rfl⟩ : ∃ g, f = g + 1 := ⟨f - 1, by omega⟩
    obtain ⟨f', rfl⟩ : ∃ g, f' = g + 1 := ⟨f' - 1, by omega⟩
    have hi : i = 5 := by omega
    subst hi
    exact ⟨x, N, by rw [lX6_digest_6, if_pos (by decide)], by rw [lX7_digest_9, if_pos (by decide)], rfl, hx0⟩
  | succ d ih =>
    intro f f' i x N h hx0 hi hf hf'
    obtain ⟨f, rfl⟩ : ∃ g, f = g + 1 := ⟨f - 1, by omega⟩
    obtain ⟨f', rfl⟩ : ∃ g, f' = g + 1 := ⟨f' - 1, by omega⟩
    obtain ⟨v, e1, e2⟩ := told_val h (show i < 5 by omega)
    rw [lX6_digest_6, if_neg (show ¬ (4 : Int32) < nI i from nI_nlt (a := 4) (by omega) (by omega)), e1, so_b, lt_e, lX7_digest_9, if_neg (show ¬ (5 : Int32) ≤ nI i from nI_ge (b := 5) (by omega) (by omega)), e2, so_b]
    simp only []
    rw [mix_ok, so_b, nI_n1, hx0]
    obtain ⟨x', N', a1, a2, a3, a4⟩ := ih f f' (i + 1) (hx x v) (stL N 54 18 (hx x v)) (h.hash rfl) (stL_2 _ _ _ _) (by omega) (by omega) (by omega)
    exact ⟨x', N', a1, a2, a3, a4⟩
theorem dg_count {M : Mm} {r : Nat → Int32} {n s nx L : Nat} (K : Int64 → Mm → Option (Int64 × Mm)) (K' : Mm → Option (Int64 × Mm)) : ∀ (d f f' i : Nat) (x : Int64) (N : Mm), RelP M N r n s nx L → N.2 54 18 = x → i + d = 11 → d < f → d < f' → ∃ x' N', lX6_digest_32 K f x (nI i) M = K x' M ∧ lX7_digest_31 K' f' (nI i) N = K' N' ∧ N'.1 = N.1 ∧ N'.2 54 18 = x' := by
  intro d
  induction d with
  | zero =>
    intro f f' i x N h hx0 hi hf hf'
    obtain ⟨f, rfl⟩ : ∃ g, f = g + 1 := ⟨f - 1, by omega⟩
    obtain ⟨f', rfl⟩ : ∃ g, f' = g + 1 := ⟨f' - 1, by omega⟩
    have hi : i = 11 := by omega
    subst hi
    exact ⟨x, N, by rw [lX6_digest_32, if_pos (by decide)], by rw [lX7_digest_31, if_pos (by decide)], rfl, hx0⟩
  | succ d ih =>
    intro f f' i x N h hx0 hi hf hf'
    obtain ⟨f, rfl⟩ : ∃ g, f = g + 1 := ⟨f - 1, by omega⟩
    obtain ⟨f', rfl⟩ : ∃ g, f' = g + 1 := ⟨f' - 1, by omega⟩
    obtain ⟨v, e1, e2⟩ := count_val h (show i < 11 by omega)
    rw [lX6_digest_32, if_neg (show ¬ (10 : Int32) < nI i from nI_nlt (a := 10) (by omega) (by omega)), e1, so_b, lt_e, lX7_digest_31, if_neg (show ¬ (11 : Int32) ≤ nI i from nI_ge (b := 11) (by omega) (by omega)), e2, so_b]
    simp only []
    rw [mix_ok, so_b, nI_n1, hx0]
    obtain ⟨x', N', a1, a2, a3, a4⟩ := ih f f' (i + 1) (hx x v) (stL N 54 18 (hx x v)) (h.hash rfl) (stL_2 _ _ _ _) (by omega) (by omega) (by omega)
    exact ⟨x', N', a1, a2, a3, a4⟩
theorem dm4 : ∀ x, x < 24 → irm (nI x) 4 = nI (x % 4) ∧ nI x / 4 = nI (x / 4) := by decide +kernel
theorem dg_of1 {M : Mm} {r : Nat → Int32} {n s nx L b : Nat} (hb : b < n) (K : Int64 → Mm → Option (Int64 × Mm)) (K' : Mm → Option (Int64 × Mm)) : ∀ (d f f' w : Nat) (x : Int64) (N : Mm), RelP M N r n s nx L → N.2 54 18 = x → w + d = 4 → d < f → ∃ x' N', lX6_digest_90 K (nI b) f x (nI w) M = K x' M ∧ lX7_digest_64 K' (f' + d) (nI (4 * b + w)) N = lX7_digest_64 K' f' (nI (4 * b + 4)) N' ∧ N'.1 = N.1 ∧ N'.2 54 18 = x' := by
  intro d
  induction d with
  | zero =>
    intro f f' w x N h hx0 hi hf
    obtain ⟨f, rfl⟩ : ∃ g, f = g + 1 := ⟨f - 1, by omega⟩
    have hi : w = 4 := by omega
    subst hi
    exact ⟨x, N, by rw [lX6_digest_90, if_pos (by decide)], rfl, rfl, hx0⟩
  | succ d ih =>
    intro f f' w x N h hx0 hi hf
    obtain ⟨f, rfl⟩ : ∃ g, f = g + 1 := ⟨f - 1, by omega⟩
    have hn := h.1.1.1
    obtain ⟨v, e1, e2, -⟩ := of_val h hb (show w < 4 by omega)
    obtain ⟨d1, d2⟩ := dm4 (4 * b + w) (by omega)
    have q1 : (4 * b + w) % 4 = w := by omega
    have q2 : (4 * b + w) / 4 = b := by omega
    rw [q1] at d1
    rw [q2] at d2
    rw [lX6_digest_90, if_neg (show ¬ (3 : Int32) < nI w from nI_nlt (a := 3) (by omega) (by omega)), e1, so_b, lt_e, show f' + (d + 1) = (f' + d) + 1 from rfl, lX7_digest_64, rd_b (x := 0) 0 rfl (by decide) (by decide), h.2.2.1 0 (by decide), h.1.1.2.1, if_neg (show ¬ (4 : Int32) * nI n ≤ nI (4 * b + w) by rw [show (4 : Int32) = nI 4 from rfl, pk_mul]; exact nI_ge (by omega) (by omega)), d1, d2, e2, so_b]
    simp only []
    rw [mix_ok, so_b, nI_n1, nI_n1, hx0]
    obtain ⟨x', N', a1, a2, a3, a4⟩ := ih f f' (w + 1) (hx x v) (stL N 54 18 (hx x v)) (h.hash rfl) (stL_2 _ _ _ _) (by omega) (by omega)
    exact ⟨x', N', a1, a2, a3, a4⟩
theorem dg_of {M : Mm} {r : Nat → Int32} {n s nx L : Nat} (K : Int64 → Mm → Option (Int64 × Mm)) (K' : Mm → Option (Int64 × Mm)) : ∀ (d f f' b : Nat) (x : Int64) (N : Mm), RelP M N r n s nx L → N.2 54 18 = x → b + d = n → d < f → 4 * d < f' → ∃ x' N', lX6_digest_76 K f x (nI b) M = K x' M ∧ lX7_digest_64 K' f' (nI (4 * b)) N = K' N' ∧ N'.1 = N.1 ∧ N'.2 54 18 = x' := by
  intro d
  induction d with
  | zero =>
    intro f f' b x N h hx0 hi hf hf'
    obtain ⟨f, rfl⟩ : ∃ g, f = g + 1 := ⟨f - 1, by omega⟩
    obtain ⟨f', rfl⟩ : ∃ g, f' = g + 1 := ⟨f' - 1, by omega⟩
    have hn := h.1.1.1
    have hi : b = n := by omega
    subst hi
    exact ⟨x, N, by rw [lX6_digest_76, h.2.1.1.1.1, h.1.1.2.1, if_pos (nI_le (Nat.le_refl _) (by omega))], by rw [lX7_digest_64, rd_b (x := 0) 0 rfl (by decide) (by decide), h.2.2.1 0 (by decide), h.1.1.2.1, if_pos (show (4 : Int32) * nI b ≤ nI (4 * b) by rw [show (4 : Int32) = nI 4 from rfl, pk_mul]; exact nI_le (Nat.le_refl _) (by omega))], rfl, hx0⟩
  | succ d ih =>
    intro f f' b x N h hx0 hi hf hf'
    obtain ⟨f, rfl⟩ : ∃ g, f = g + 1 := ⟨f - 1, by omega⟩
    obtain ⟨f', rfl⟩ : ∃ g, f' = g + 4 := ⟨f' - 4, by omega⟩
    have hn := h.1.1.1
    rw [lX6_digest_76, h.2.1.1.1.1, h.1.1.2.1, if_neg (nI_ge (by omega) (by omega)), nI_n1]
    obtain ⟨x1, N1, a1, a2, a3, a4⟩ := dg_of1 (show b < n by omega) (fun x37 N38 => lX6_digest_76 K f x37 (nI (b + 1)) N38) K' 4 fu f' 0 x N h hx0 (by omega) (by rw [fu_eq]; omega)
    obtain ⟨x2, N2, b1, b2, b3, b4⟩ := ih f f' (b + 1) x1 N1 (h.hash a3) a4 (by omega) (by omega) (by omega)
    refine ⟨x2, N2, ?_, ?_, b3.trans a3, b4⟩
    · exact a1.trans b1
    · exact a2.trans b2
theorem jointC {M N : Mm} {r : Nat → Int32} {n s nx L : Nat} (h : RelP M N r n s nx L) {k w : Nat} (hk : k ≤ n + 1) (hw2 : w < 2) : ∃ M', fX6_joint (nI k) (nI w) M = some (if w = 0 then pxS r n (r 20) k else pyS r n (r 20) k, M') ∧ RelP M' N r n s nx L := by
  have hw := h.1.1
  have hn := hw.1
  have hS := h.2.1.1.1
  obtain ⟨M1, e1, o1, t1, c1⟩ := trace_ci hw (r 20) h.2.1.1
  refine ⟨M1, ?_, h.quiet (o1.mono (by decide)) (h.2.1.trace o1 c1) (OthX.refl _ _ _)⟩
  unfold fX6_joint
  rw [within_c, so_b, hS.1, hw.2.1, nI_n1]
  simp only [ic_0]
  rw [ic_t (show (0 : Int32) ≤ nI _ ∧ nI _ ≤ nI (n + 1) from rng_i (a := 0) (b := n + 1) (by omega) (Nat.zero_le _) hk), within_c, so_b]
  simp only [ic_0]
  rw [ic_t (show (0 : Int32) ≤ nI _ ∧ nI _ ≤ 1 from rng_i (a := 0) (b := 1) (by decide) (Nat.zero_le _) (by omega)), hS.2.2.2.2.1, e1, so_b]
  simp only []
  by_cases q : w = 0
  · rw [if_pos (show nI w = (0 : Int32) by rw [q]; rfl), rd_b k rfl (by omega) (by decide), (t1.2.1 k hk).1, if_pos q]
  · rw [if_neg (nI_ne0 (by omega) (by omega)), rd_b k rfl (by omega) (by decide), (t1.2.1 k hk).2, if_neg q]
theorem dg_joint {r : Nat → Int32} {n s nx L : Nat} (K : Int64 → Mm → Option (Int64 × Mm)) (K' : Mm → Option (Int64 × Mm)) : ∀ (d f f' k : Nat) (x : Int64) (M N : Mm), RelP M N r n s nx L → TrM N r n (r 20) → N.2 54 18 = x → k + d = n + 2 → d < f → d < f' → ∃ x' M' N', lX6_digest_125 K f x (nI k) M = K x' M' ∧ lX7_digest_109 K' f' (nI k) N = K' N' ∧ RelP M' N' r n s nx L ∧ N'.2 54 18 = x' := by
  intro d
  induction d with
  | zero =>
    intro f f' k x M N h hT hx0 hi hf hf'
    obtain ⟨f, rfl⟩ : ∃ g, f = g + 1 := ⟨f - 1, by omega⟩
    obtain ⟨f', rfl⟩ : ∃ g, f' = g + 1 := ⟨f' - 1, by omega⟩
    have hn := h.1.1.1
    have hi : k = n + 2 := by omega
    subst hi
    refine ⟨x, M, N, ?_, ?_, h, hx0⟩
    · rw [lX6_digest_125, h.2.1.1.1.1, h.1.1.2.1, nI_n1, if_pos (nI_lt (by omega) (by omega))]
    · rw [lX7_digest_109, rd_b (x := 0) 0 rfl (by decide) (by decide), h.2.2.1 0 (by decide), h.1.1.2.1, if_pos (show nI n + (2 : Int32) ≤ nI (n + 2) by rw [show nI n + (2 : Int32) = nI (n + 2) from nI_add n 2]; exact nI_le (Nat.le_refl _) (by omega))]
  | succ d ih =>
    intro f f' k x M N h hT hx0 hi hf hf'
    obtain ⟨f, rfl⟩ : ∃ g, f = g + 1 := ⟨f - 1, by omega⟩
    obtain ⟨f', rfl⟩ : ∃ g, f' = g + 1 := ⟨f' - 1, by omega⟩
    have hn := h.1.1.1
    obtain ⟨M1, e1, h1⟩ := jointC h (show k ≤ n + 1 by omega) (show 0 < 2 by decide)
    obtain ⟨M2, e2, h2⟩ := jointC h1 (show k ≤ n + 1 by omega) (show 1 < 2 by decide)
    rw [lX6_digest_125, h.2.1.1.1.1, h.1.1.2.1, nI_n1, if_neg (nI_nlt (by omega) (by omega)), show fX6_joint (nI k) 0 M = _ from e1, so_b, lt_e]
    simp only []
    rw [show fX6_joint (nI k) 1 M1 = _ from e2, so_b, lt_e]
    rw [lX7_digest_109, rd_b (x := 0) 0 rfl (by decide) (by decide), h.2.2.1 0 (by decide), h.1.1.2.1, if_neg (show ¬ nI n + (2 : Int32) ≤ nI k by rw [show nI n + (2 : Int32) = nI (n + 2) from nI_add n 2]; exact nI_ge (by omega) (by omega)), rd_b k rfl (by omega) (by decide), (hT.1 k (by omega)).1, mix_ok, so_b]
    simp only []
    rw [rd_b k rfl (by omega) (by decide), stL_1, (hT.1 k (by omega)).2, mix_ok, so_b, stL_2, hx0, nI_n1]
    exact ih f f' (k + 1) _ M2 _ ((h2.hash rfl).hash rfl) hT (stL_2 _ _ _ _) (by omega) (by omega) (by omega)
theorem dg_box {r : Nat → Int32} {n s nx L : Nat} (K : Int64 → Mm → Option (Int64 × Mm)) (K' : Mm → Option (Int64 × Mm)) : ∀ (d f f' k : Nat) (x : Int64) (M N : Mm), RelP M N r n s nx L → N.2 54 18 = x → k + d = 4 → d < f → d < f' → ∃ x' M' N', lX6_digest_174 K f x (nI k) M = K x' M' ∧ lX7_digest_149 K' f' (nI k) N = K' N' ∧ RelP M' N' r n s nx L ∧ N'.2 54 18 = x' := by
  intro d
  induction d with
  | zero =>
    intro f f' k x M N h hx0 hi hf hf'
    obtain ⟨f, rfl⟩ : ∃ g, f = g + 1 := ⟨f - 1, by omega⟩
    obtain ⟨f', rfl⟩ : ∃ g, f' = g + 1 := ⟨f' - 1, by omega⟩
    have hi : k = 4 := by omega
    subst hi
    exact ⟨x, M, N, by rw [lX6_digest_174, if_pos (by decide)], by rw [lX7_digest_149, if_pos (by decide)], h, hx0⟩
  | succ d ih =>
    intro f f' k x M N h hx0 hi hf hf'
    obtain ⟨f, rfl⟩ : ∃ g, f = g + 1 := ⟨f - 1, by omega⟩
    obtain ⟨f', rfl⟩ : ∃ g, f' = g + 1 := ⟨f' - 1, by omega⟩
    obtain ⟨M1, N1, e1, e2, h1⟩ := box_val h (show k < 4 by omega)
    obtain ⟨N2, e3, o3⟩ := boxIs_ok h.1.1 (show k < 4 by omega) h.2.2.1
    have e : N2 = N1 := by rw [e2] at e3; cases e3; rfl
    subst e
    rw [lX6_digest_174, if_neg (show ¬ (3 : Int32) < nI k from nI_nlt (a := 3) (by omega) (by omega)), e1, so_b, lt_e, lX7_digest_149, if_neg (show ¬ (4 : Int32) ≤ nI k from nI_ge (b := 4) (by omega) (by omega)), e2, so_b]
    simp only []
    rw [mix_ok, so_b, nI_n1, o3.1, hx0]
    exact ih f f' (k + 1) _ M1 _ (h1.hash rfl) (stL_2 _ _ _ _) (by omega) (by omega) (by omega)
theorem Dn.mv {N N' : Mm} {r : Nat → Int32} {n i : Nat} (h : Dn N r n i) (h1 : N'.1 63 = N.1 63) (h2 : N'.1 64 = N.1 64) (h3 : N'.1 65 = N.1 65) : Dn N' r n i := by
  unfold Dn
  rw [h1, h2, h3]
  exact h
theorem dg_end {M N : Mm} {r : Nat → Int32} {n s nx L : Nat} {x : Int64} (h : RelP M N r n s nx L) (hx0 : N.2 54 18 = x) : ∃ y M' N', ((fX1_plan M).bind (fun w66 => (fX1_freeAt (w66.2.1 1 5) w66.2).bind (fun w67 => lt (((31 : Int64) * x) + (w67.1).toInt64) (fun x68 => lt (((31 : Int64) * x68) + ((w67.2.1 10 9)).toInt64) (fun x69 => lt (((31 : Int64) * x69) + ((w67.2.1 10 11)).toInt64) (fun x70 => lt (((31 : Int64) * x70) + ((w67.2.1 10 10)).toInt64) (fun x71 => (fX1_pathsFrom (w67.2.1 1 5) w67.2).bind (fun w72 => some ((((31 : Int64) * x71) + (w72.1).toInt64), w72.2))))))))) = some (y, M') ∧ ((fX7_free N).bind (fun w50 => (fX7_mix w50.1 w50.2).bind (fun w51 => (fX7_laysOrders w51.2).bind (fun w52 => (rd w52.2 64 64 (0 : Int32)).bind (fun v53 => (fX7_mix v53 w52.2).bind (fun w54 => (fX7_changesIs (0 : Int32) w54.2).bind (fun w55 => (fX7_mix w55.1 w55.2).bind (fun w56 => (fX7_changesIs (1 : Int32) w56.2).bind (fun w57 => (fX7_mix w57.1 w57.2).bind (fun w58 => (rd w58.2 55 26 (20 : Int32)).bind (fun v59 => (rd w58.2 64 64 v59).bind (fun v60 => (fX7_mix v60 w58.2).bind (fun w61 => some ((w61.2.2 54 18), w61.2)))))))))))))) = some (y, N') ∧ RelP M' N' r n s nx L := by
  have hw := h.1.1
  have hn := hw.1
  obtain ⟨m, hm, hr⟩ := hw.2.2.2.2.2.1
  obtain ⟨M1, e1, o1, p1, k1⟩ := plan_ok hw h.2.1
  obtain ⟨M2, e2, o2, c2, -, -⟩ := freeAt_ok hw p1.1 hm
  obtain ⟨M3, e3, o3, c3, -, -⟩ := pathsFrom_ok hw c2 hm
  have p3 : PI M3 r n := by
    refine ⟨c3, ?_⟩
    unfold PlanOk
    rw [o3.2 10 (by decide), o3.2 15 (by decide), o3.2 16 (by decide), o2.2 10 (by decide), o2.2 15 (by decide), o2.2 16 (by decide)]
    exact p1.2
  obtain ⟨k11, k10⟩ := chC k1
  obtain ⟨N1, f1, q1⟩ := freeM_ok hw hm hr h.2.2.1
  have hN1 := h.2.2.1.oth q1 (by decide)
  obtain ⟨N2, f2, q2, d2⟩ := laysOrders_ok hw (N := stL N1 54 18 (hx x (nI (frS r n m)))) hN1
  have hN2 : Nwk N2 r := Nwk.oth (M := stL N1 54 18 (hx x (nI (frS r n m)))) hN1 q2 (by decide)
  obtain ⟨N3, f3, q3⟩ := chIs_ok hw (w := 0) (by decide) (N := stL N2 54 18 (hx (hx x (nI (frS r n m))) (nI (cN r n 0)))) hN2 d2
  have hN3 : Nwk N3 r := Nwk.oth (M := stL N2 54 18 (hx (hx x (nI (frS r n m))) (nI (cN r n 0)))) hN2 q3 (by decide)
  have d3 : Dn N3 r n 0 := d2.mv (q3.2 63 (by decide)) (q3.2 64 (by decide)) (q3.2 65 (by decide))
  obtain ⟨N4, f4, q4⟩ := chIs_ok hw (w := 1) (by decide) (N := stL N3 54 18 (hx (hx (hx x (nI (frS r n m))) (nI (cN r n 0))) (ic (cN r n 0 = 0) (-1000) (nI (sq r n (1 - 0) n).2.2)))) hN3 d3
  have hN4 : Nwk N4 r := Nwk.oth (M := stL N3 54 18 (hx (hx (hx x (nI (frS r n m))) (nI (cN r n 0))) (ic (cN r n 0 = 0) (-1000) (nI (sq r n (1 - 0) n).2.2)))) hN3 q4 (by decide)
  have d4 : Dn N4 r n 0 := d3.mv (q4.2 63 (by decide)) (q4.2 64 (by decide)) (q4.2 65 (by decide))
  have xN : OthX N N4 scM [14, 15] := by
    have a1 : OthX N N1 scM [14, 15] := q1.xm (by decide) (by decide)
    have a2 : OthX N1 N2 scM [14, 15] := ⟨(q2.xm (l' := scM) (fs := [14, 15]) (by decide) (by decide)).1, (q2.xm (l' := scM) (fs := [14, 15]) (by decide) (by decide)).2⟩
    have a3 : OthX N2 N3 scM [14, 15] := ⟨(q3.xm (l' := scM) (fs := [14, 15]) (by decide) (by decide)).1, (q3.xm (l' := scM) (fs := [14, 15]) (by decide) (by decide)).2⟩
    have a4 : OthX N3 N4 scM [14, 15] := ⟨(q4.xm (l' := scM) (fs := [14, 15]) (by decide) (by decide)).1, (q4.xm (l' := scM) (fs := [14, 15]) (by decide) (by decide)).2⟩
    exact ((a1.trans a2).trans a3).trans a4
  refine ⟨hx (hx (hx (hx (hx x (nI (frS r n m))) (nI (cN r n 0))) (ic (cN r n 0 = 0) (-1000) (nI (sq r n (1 - 0) n).2.2))) (ic (cN r n 0 = 0) (-1000) (nI (sq r n (1 - 1) n).2.2))) (nI (cN r n m)), M3, stL (stL N4 54 18 (hx (hx (hx (hx x (nI (frS r n m))) (nI (cN r n 0))) (ic (cN r n 0 = 0) (-1000) (nI (sq r n (1 - 0) n).2.2))) (ic (cN r n 0 = 0) (-1000) (nI (sq r n (1 - 1) n).2.2)))) 54 18 (hx (hx (hx (hx (hx x (nI (frS r n m))) (nI (cN r n 0))) (ic (cN r n 0 = 0) (-1000) (nI (sq r n (1 - 0) n).2.2))) (ic (cN r n 0 = 0) (-1000) (nI (sq r n (1 - 1) n).2.2))) (nI (cN r n m))), ?_, ?_, ?_⟩
  · rw [e1, so_b]
    simp only []
    rw [p1.1.1.2.2.2.2.1, hr, e2, so_b, lt_e, lt_e, lt_e, lt_e]
    simp only []
    rw [c2.1.2.2.2.2.1, hr, e3, so_b, o2.2 10 (by decide), k1.1, k11, k10]
    rfl
  · rw [f1, so_b]
    simp only []
    rw [mix_ok, so_b, q1.1, hx0]
    simp only []
    rw [f2, so_b]
    simp only []
    rw [rd_b (x := 0) 0 rfl (by decide) (by decide), (d2 0 (Nat.zero_le _) (Nat.pow_pos (by decide))).2.1, mix_ok, so_b, q2.1, stL_2]
    simp only []
    rw [show fX7_changesIs 0 _ = _ from f3, so_b]
    simp only []
    rw [mix_ok, so_b, q3.1, stL_2]
    simp only []
    rw [show fX7_changesIs 1 _ = _ from f4, so_b]
    simp only []
    rw [mix_ok, so_b, q4.1, stL_2]
    simp only []
    rw [rd_b (x := 20) 20 rfl (by decide) (by decide), stL_1, hN4 20 (by decide), hr, rd_b m rfl (pw_le hn hm) (by decide), stL_1, (d4 m (Nat.zero_le _) hm).2.1, mix_ok, so_b, stL_2]
    simp only [stL_2]
  · exact (h.quiet ((o1.trans (o2.mono (by decide))).trans (o3.mono (by decide))) p3 xN).hash rfl
def SameL (f g : Mm → Option (Int64 × Mm)) : Prop := ∀ M N, Rel M N → ∃ v M' N', f M = some (v, M') ∧ g N = some (v, N') ∧ Rel M' N'
theorem pub_digest : SameL fX6_digest fX7_digest := by
  intro M N ⟨r, n, s, nx, L, h⟩
  have hw := h.1.1
  have hn := hw.1
  unfold fX6_digest fX7_digest
  rw [lt_e, lt_e]
  have h0 : RelP M (stL N 54 18 2934) r n s nx L := h.hash rfl
  obtain ⟨x1, N1, a1, a2, a3, a4⟩ := dg_told _ _ 5 fu fu 0 2934 (stL N 54 18 2934) h0 (stL_2 _ _ _ _) (by omega) (by rw [fu_eq]; omega) (by rw [fu_eq]; omega)
  rw [show (0 : Int32) = nI 0 from rfl]
  rw [a1, a2]
  have h1 : RelP M N1 r n s nx L := h0.hash a3
  obtain ⟨x2, N2, b1, b2, b3, b4⟩ := dg_count _ _ 11 fu fu 0 x1 N1 h1 a4 (by omega) (by rw [fu_eq]; omega) (by rw [fu_eq]; omega)
  rw [b1, b2]
  have h2 : RelP M N2 r n s nx L := h1.hash b3
  rw [rd_b 0 rfl (by decide) (by decide), lt_e, h.2.1.1.1.2.1 0 (by decide), rd_b (x := 1) 1 rfl (by decide) (by decide), h2.2.2.1 1 (by decide), mix_ok, so_b, b4]
  have h3 : RelP M (stL N2 54 18 (hx x2 (r 1))) r n s nx L := h2.hash rfl
  obtain ⟨x4, N4, c1, c2, c3, c4⟩ := dg_of _ _ n fu fu 0 (hx x2 (r 1)) (stL N2 54 18 (hx x2 (r 1))) h3 (stL_2 _ _ _ _) (by omega) (by rw [fu_eq]; omega) (by rw [fu_eq]; omega)
  rw [show (31 : Int64) * x2 + (r (1 + 0)).toInt64 = hx x2 (r 1) from rfl]
  simp only []
  rw [c1, show nI 0 = nI (4 * 0) from rfl, c2]
  have h4 : RelP M N4 r n s nx L := h3.hash c3
  rw [rd_b (x := 20) 20 rfl (by decide) (by decide), h4.2.2.1 20 (by decide)]
  obtain ⟨N5, d1, d2, d3⟩ := lays_ok hw (r 20) h4.2.2.1
  rw [d1, so_b]
  have h5 : RelP M N5 r n s nx L := h4.quiet (Oth.refl _ _) h4.2.1 (d2.xm (by decide) (by decide))
  obtain ⟨x6, M6, N6, e1, e2, h6, e4⟩ := dg_joint _ _ (n + 2) fu fu 0 x4 M N5 h5 d3 (by rw [d2.1]; exact c4) (by omega) (by rw [fu_eq]; omega) (by rw [fu_eq]; omega)
  simp only []
  rw [show nI (4 * 0) = nI 0 from rfl, e1, e2]
  obtain ⟨x7, M7, N7, g1, g2, h7, g4⟩ := dg_box _ _ 4 fu fu 0 x6 M6 N6 h6 e4 (by omega) (by rw [fu_eq]; omega) (by rw [fu_eq]; omega)
  rw [g1, g2]
  obtain ⟨y, M8, N8, k1, k2, h8⟩ := dg_end h7 g4
  exact ⟨y, M8, N8, k1, k2, h8.rel⟩
