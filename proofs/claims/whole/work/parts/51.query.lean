/-! the public calls that ask -/
theorem ref_same {M N : Mm} {r : Nat → Int32} {n s nx L : Nat} (h : RelP M N r n s nx L) {c : Int32} (hc : c = -1001 ∨ c = -1002 ∨ c = -1003) : ∃ v M' N', (fX6_refused c M).bind (fun w => some (w.1, w.2)) = some (v, M') ∧ (fX7_counts c N).bind (fun w => some (w.1, w.2)) = some (v, N') ∧ Rel M' N' := by
  obtain ⟨M', N', e1, e2, h'⟩ := refuse_ok h hc
  exact ⟨c, M', N', by rw [e1]; rfl, by rw [e2]; rfl, h'.rel⟩
theorem one_of (x : Int32) : (0 ≤ x ∧ x ≤ (3 : Int32)) ↔ (x = 0 ∨ x = 1 ∨ x = 2 ∨ x = 3) := by
  constructor
  · intro h
    obtain ⟨v, h1, h2, rfl⟩ := rng (a := 0) (b := 3) (by decide) (by decide) h
    rcases (show v = 0 ∨ v = 1 ∨ v = 2 ∨ v = 3 by omega) with rfl | rfl | rfl | rfl <;> decide
  · rintro (rfl | rfl | rfl | rfl) <;> decide
theorem one_of1 (x : Int32) : (0 ≤ x ∧ x ≤ (1 : Int32)) ↔ (x = 0 ∨ x = 1) := by
  constructor
  · intro h
    obtain ⟨v, h1, h2, rfl⟩ := rng (a := 0) (b := 1) (by decide) (by decide) h
    rcases (show v = 0 ∨ v = 1 by omega) with rfl | rfl <;> decide
  · rintro (rfl | rfl) <;> decide
/-- of a bend that there is, what 0 to 3: both answer, nothing changes -/
theorem of_val {M N : Mm} {r : Nat → Int32} {n s nx L : Nat} (h : RelP M N r n s nx L) {b w : Nat} (hb : b < n) (hw4 : w < 4) : ∃ v, fX6_of (nI b) (nI w) M = some (v, M) ∧ fX7_ofBend (nI b) (nI w) N = some (v, N) ∧ fX7_of (nI b) (nI w) N = some (v, N) := by
  have hw := h.1.1
  have hn := hw.1
  have hS := h.2.1.1.1
  have hN := h.2.2.1
  obtain ⟨m, hm, hr⟩ := hw.2.2.2.2.2.1
  have h64 := pw_le hn hm
  have key : ∃ v, fX6_of (nI b) (nI w) M = some (v, M) ∧ fX7_ofBend (nI b) (nI w) N = some (v, N) := by
    unfold fX6_of fX7_ofBend
    rw [hasBend_ok hw hS, so_b]
    simp only [ic_0]
    rw [ic_t ⟨b, hb, rfl⟩]
    rcases (show w = 0 ∨ w = 1 ∨ w = 2 ∨ w = 3 by omega) with rfl | rfl | rfl | rfl
    · rw [if_pos (show nI 0 = (0 : Int32) from rfl), if_pos (show nI 0 = (0 : Int32) from rfl), rd_b (b + 1) (nI_n1 b) (by omega) (by decide), rd_b (x := 1 + nI b + 1) (1 + (b + 1)) (by rw [show (1 : Int32) + nI b = nI (1 + b) from nI_add 1 b, nI_n1]; rfl) (by omega) (by decide), hS.2.1 (b + 1) (by omega), hN (1 + (b + 1)) (by omega)]
      exact ⟨_, rfl, rfl⟩
    · rw [if_neg (show ¬ nI 1 = (0 : Int32) by decide), if_neg (show ¬ nI 1 = (0 : Int32) by decide), if_pos (show nI 1 = (1 : Int32) from rfl), if_pos (show nI 1 = (1 : Int32) from rfl), rd_b b rfl (by omega) (by decide), rd_b (x := 8 + nI b) (8 + b) (nI_add 8 b) (by omega) (by decide), hS.2.2.1 b (by omega), hN (8 + b) (by omega)]
      exact ⟨_, rfl, rfl⟩
    · rw [if_neg (show ¬ nI 2 = (0 : Int32) by decide), if_neg (show ¬ nI 2 = (0 : Int32) by decide), if_neg (show ¬ nI 2 = (1 : Int32) by decide), if_neg (show ¬ nI 2 = (1 : Int32) by decide), if_pos (show nI 2 = (2 : Int32) from rfl), if_pos (show nI 2 = (2 : Int32) from rfl), rd_b b rfl (by omega) (by decide), rd_b (x := 14 + nI b) (14 + b) (nI_add 14 b) (by omega) (by decide), hS.2.2.2.1 b (by omega), hN (14 + b) (by omega)]
      exact ⟨_, rfl, rfl⟩
    · rw [if_neg (show ¬ nI 3 = (0 : Int32) by decide), if_neg (show ¬ nI 3 = (0 : Int32) by decide), if_neg (show ¬ nI 3 = (1 : Int32) by decide), if_neg (show ¬ nI 3 = (1 : Int32) by decide), if_neg (show ¬ nI 3 = (2 : Int32) by decide), if_neg (show ¬ nI 3 = (2 : Int32) by decide), if_pos (show nI 3 = (3 : Int32) from rfl), isMade_ok (n := n) hS h64 hr (by omega), so_b]
      simp only [ic_0]
      rw [rd_b (x := 20) 20 rfl (by decide) (by decide), hN 20 (by decide), hr, bt_shr m h64 b (by omega)]
      by_cases g : bt m b = true
      · rw [ic_t g, if_pos g]; exact ⟨1, rfl, rfl⟩
      · rw [ic_f g, if_neg g]; exact ⟨0, rfl, rfl⟩
  obtain ⟨v, e1, e2⟩ := key
  refine ⟨v, e1, e2, ?_⟩
  unfold fX7_of
  rw [isBend_ok hw hN, so_b]
  simp only [ic_0]
  rw [ic_t ⟨b, hb, rfl⟩, within_m, so_b]
  simp only [ic_0]
  rw [ic_t (show (0 : Int32) ≤ nI _ ∧ nI _ ≤ 3 from rng_i (a := 0) (b := 3) (by decide) (Nat.zero_le _) (by omega)), e2, so_b]
theorem pub_of (x w : Int32) : Same (fX6_of x w) (fX7_of x w) := by
  intro M N ⟨r, n, s, nx, L, h⟩
  have hw := h.1.1
  by_cases g : ∃ b, b < n ∧ x = nI b
  · by_cases g2 : (0 : Int32) ≤ w ∧ w ≤ 3
    · obtain ⟨b, hb, rfl⟩ := g
      obtain ⟨v, v1, v2, rfl⟩ := rng (a := 0) (b := 3) (by decide) (by decide) g2
      obtain ⟨z, e1, e2, e3⟩ := of_val h hb (show v < 4 by omega)
      exact ⟨z, M, N, e1, e3, h.rel⟩
    · have nw : ¬ w = 0 ∧ ¬ w = 1 ∧ ¬ w = 2 ∧ ¬ w = 3 := by
        have := fun q => g2 ((one_of w).mpr q)
        exact ⟨fun q => this (Or.inl q), fun q => this (Or.inr (Or.inl q)), fun q => this (Or.inr (Or.inr (Or.inl q))), fun q => this (Or.inr (Or.inr (Or.inr q)))⟩
      unfold fX6_of fX7_of
      rw [hasBend_ok hw h.2.1.1.1, so_b, isBend_ok hw h.2.2.1, so_b]
      simp only [ic_0]
      rw [ic_t g, ic_t g, if_neg nw.1, if_neg nw.2.1, if_neg nw.2.2.1, if_neg nw.2.2.2, within_m, so_b]
      simp only [ic_0]
      rw [ic_f g2]
      exact ref_same h (Or.inl rfl)
  · unfold fX6_of fX7_of
    rw [hasBend_ok hw h.2.1.1.1, so_b, isBend_ok hw h.2.2.1, so_b]
    simp only [ic_0]
    rw [ic_f g, ic_f g]
    exact ref_same h (Or.inl rfl)
theorem PI.trace {M M' : Mm} {r : Nat → Int32} {n : Nat} (hp : PI M r n) (o : Oth M M' [6, 7, 8, 9]) (c : CI M' r n) : PI M' r n := hp.cross (o.mono (by decide)) c
/-- a joint that there is -/
theorem joint_val {M N : Mm} {r : Nat → Int32} {n s nx L : Nat} (h : RelP M N r n s nx L) {k w : Nat} (hk : k ≤ n + 1) (hw2 : w < 2) : ∃ M' N', fX6_joint (nI k) (nI w) M = some (if w = 0 then pxS r n (r 20) k else pyS r n (r 20) k, M') ∧ fX7_joint (nI k) (nI w) N = some (if w = 0 then pxS r n (r 20) k else pyS r n (r 20) k, N') ∧ RelP M' N' r n s nx L := by
  have hw := h.1.1
  have hn := hw.1
  have hS := h.2.1.1.1
  have hN := h.2.2.1
  obtain ⟨M1, e1, o1, t1, c1⟩ := trace_ci hw (r 20) h.2.1.1
  obtain ⟨N1, e2, o2, t2⟩ := lays_ok hw (r 20) hN
  refine ⟨M1, N1, ?_, ?_, h.quiet (o1.mono (by decide)) (h.2.1.trace o1 c1) ((o2.xm (by decide) (by decide)))⟩
  · unfold fX6_joint
    rw [within_c, so_b, hS.1, hw.2.1, nI_n1]
    simp only [ic_0]
    rw [ic_t (show (0 : Int32) ≤ nI _ ∧ nI _ ≤ nI (n + 1) from rng_i (a := 0) (b := n + 1) (by omega) (Nat.zero_le _) hk), within_c, so_b]
    simp only [ic_0]
    rw [ic_t (show (0 : Int32) ≤ nI _ ∧ nI _ ≤ 1 from rng_i (a := 0) (b := 1) (by decide) (Nat.zero_le _) (by omega)), hS.2.2.2.2.1, e1, so_b]
    simp only []
    by_cases q : w = 0
    · rw [if_pos (show nI w = (0 : Int32) by rw [q]; rfl), rd_b k rfl (by omega) (by decide), (t1.2.1 k hk).1, if_pos q]
    · rw [if_neg (nI_ne0 (by omega) (by omega)), rd_b k rfl (by omega) (by decide), (t1.2.1 k hk).2, if_neg q]
  · unfold fX7_joint
    rw [rd_b (x := 0) 0 rfl (by decide) (by decide), hN 0 (by decide), hw.2.1, nI_n1, within_m, so_b]
    simp only [ic_0]
    rw [ic_t (show (0 : Int32) ≤ nI _ ∧ nI _ ≤ nI (n + 1) from rng_i (a := 0) (b := n + 1) (by omega) (Nat.zero_le _) hk), within_m, so_b]
    simp only [ic_0]
    rw [ic_t (show (0 : Int32) ≤ nI _ ∧ nI _ ≤ 1 from rng_i (a := 0) (b := 1) (by decide) (Nat.zero_le _) (by omega)), rd_b (x := 20) 20 rfl (by decide) (by decide), hN 20 (by decide), e2, so_b]
    simp only []
    by_cases q : w = 0
    · rw [if_pos (show nI w = (0 : Int32) by rw [q]; rfl), rd_b k rfl (by omega) (by decide), (t2.1 k hk).1, if_pos q]
    · rw [if_neg (nI_ne0 (by omega) (by omega)), rd_b k rfl (by omega) (by decide), (t2.1 k hk).2, if_neg q]
theorem pub_joint (x w : Int32) : Same (fX6_joint x w) (fX7_joint x w) := by
  intro M N ⟨r, n, s, nx, L, h⟩
  have hw := h.1.1
  have hn := hw.1
  by_cases g : (0 : Int32) ≤ x ∧ x ≤ nI (n + 1)
  · by_cases g2 : (0 : Int32) ≤ w ∧ w ≤ 1
    · obtain ⟨k, k1, k2, rfl⟩ := rng (a := 0) (b := n + 1) (by decide) (by omega) g
      obtain ⟨v, v1, v2, rfl⟩ := rng (a := 0) (b := 1) (by decide) (by decide) g2
      obtain ⟨M', N', e1, e2, h'⟩ := joint_val h k2 (show v < 2 by omega)
      exact ⟨_, M', N', e1, e2, h'.rel⟩
    · unfold fX6_joint fX7_joint
      rw [within_c, so_b, h.2.1.1.1.1, rd_b (x := 0) 0 rfl (by decide) (by decide), h.2.2.1 0 (by decide), hw.2.1, nI_n1, within_m, so_b]
      simp only [ic_0]
      rw [ic_t g, ic_t g, within_c, so_b, within_m, so_b]
      simp only [ic_0]
      rw [ic_f g2, ic_f g2]
      exact ref_same h (Or.inl rfl)
  · unfold fX6_joint fX7_joint
    rw [within_c, so_b, h.2.1.1.1.1, rd_b (x := 0) 0 rfl (by decide) (by decide), h.2.2.1 0 (by decide), hw.2.1, nI_n1, within_m, so_b]
    simp only [ic_0]
    rw [ic_f g, ic_f g]
    exact ref_same h (Or.inl rfl)
/-- the least or greatest so far -/
def bxF (op : Int32 → Int32 → Int32) (g : Nat → Int32) : Nat → Int32
  | 0 => g 0
  | k + 1 => op (bxF op g k) (g (k + 1))
theorem ls_mn (x y : Int32) : ls x y = mn x y := by
  unfold ls mn
  by_cases h : y < x
  · rw [if_pos h, if_pos (by rw [tI_le]; have := tI_lt.mp h; omega)]
  · rw [if_neg h]
    by_cases k : y ≤ x
    · rw [if_pos k]
      refine tI_eq.mpr ?_
      have := tI_le.mp k
      have : ¬ y.toInt < x.toInt := fun q => h (tI_lt.mpr q)
      omega
    · rw [if_neg k]
theorem gs_mx (x y : Int32) : gs x y = mx x y := by
  unfold gs mx
  by_cases h : x < y
  · rw [if_pos h, if_pos (by rw [tI_le]; have := tI_lt.mp h; omega)]
  · rw [if_neg h]
    by_cases k : x ≤ y
    · rw [if_pos k]
      refine tI_eq.mpr ?_
      have := tI_le.mp k
      have : ¬ x.toInt < y.toInt := fun q => h (tI_lt.mpr q)
      omega
    · rw [if_neg k]
theorem least_loop {M : Mm} {n kr : Nat} (hn : n ≤ 6) (h6 : M.1 6 3 = nI (n + 1)) {g : Nat → Int32} (hg : ∀ j, j ≤ n + 1 → M.1 kr j = g j) (K : Int32 → Option (Int32 × Mm)) : ∀ (d f i : Nat), i + d = n + 1 → d < f → lX3_least_6 K kr M f (bxF mn g i) (nI (i + 1)) = K (bxF mn g (n + 1)) := by
  intro d
  induction d with
  | zero =>
    intro f i hi hf
    obtain ⟨f, rfl⟩ : ∃ g, f = g + 1 := ⟨f - 1, by omega⟩
    have hi : i = n + 1 := by omega
    subst hi
    rw [lX3_least_6, h6, if_pos (nI_lt (by omega) (by omega))]
  | succ d ih =>
    intro f i hi hf
    obtain ⟨f, rfl⟩ : ∃ g, f = g + 1 := ⟨f - 1, by omega⟩
    rw [lX3_least_6, h6, if_neg (nI_nlt (by omega) (by omega)), rd_b (i + 1) rfl (by omega) (by decide), lt_e, hg (i + 1) (by omega), nI_n1]
    exact ih f (i + 1) (by omega) (by omega)
theorem least_ok {M : Mm} {n kr : Nat} (hn : n ≤ 6) (h6 : M.1 6 3 = nI (n + 1)) {g : Nat → Int32} (hg : ∀ j, j ≤ n + 1 → M.1 kr j = g j) : fX3_least kr M = some (bxF mn g (n + 1), M) := by
  unfold fX3_least
  rw [rd_b (x := 0) 0 rfl (by decide) (by decide), hg 0 (by omega)]
  exact least_loop hn h6 hg _ (n + 1) fu 0 (by omega) (by rw [fu_eq]; omega)
theorem great_loop {M : Mm} {n kr : Nat} (hn : n ≤ 6) (h6 : M.1 6 3 = nI (n + 1)) {g : Nat → Int32} (hg : ∀ j, j ≤ n + 1 → M.1 kr j = g j) (K : Int32 → Option (Int32 × Mm)) : ∀ (d f i : Nat), i + d = n + 1 → d < f → lX3_greatest_6 K kr M f (bxF mx g i) (nI (i + 1)) = K (bxF mx g (n + 1)) := by
  intro d
  induction d with
  | zero =>
    intro f i hi hf
    obtain ⟨f, rfl⟩ : ∃ g, f = g + 1 := ⟨f - 1, by omega⟩
    have hi : i = n + 1 := by omega
    subst hi
    rw [lX3_greatest_6, h6, if_pos (nI_lt (by omega) (by omega))]
  | succ d ih =>
    intro f i hi hf
    obtain ⟨f, rfl⟩ : ∃ g, f = g + 1 := ⟨f - 1, by omega⟩
    rw [lX3_greatest_6, h6, if_neg (nI_nlt (by omega) (by omega)), rd_b (i + 1) rfl (by omega) (by decide), lt_e, hg (i + 1) (by omega), nI_n1]
    exact ih f (i + 1) (by omega) (by omega)
theorem great_ok {M : Mm} {n kr : Nat} (hn : n ≤ 6) (h6 : M.1 6 3 = nI (n + 1)) {g : Nat → Int32} (hg : ∀ j, j ≤ n + 1 → M.1 kr j = g j) : fX3_greatest kr M = some (bxF mx g (n + 1), M) := by
  unfold fX3_greatest
  rw [rd_b (x := 0) 0 rfl (by decide) (by decide), hg 0 (by omega)]
  exact great_loop hn h6 hg _ (n + 1) fu 0 (by omega) (by rw [fu_eq]; omega)
noncomputable def bxV (r : Nat → Int32) (n w : Nat) : Int32 := bxF (if w < 2 then mn else mx) (if w % 2 = 0 then pxS r n (r 20) else pyS r n (r 20)) (n + 1)
theorem irm2 : ∀ w, w < 4 → ((irm (nI w) 2 = 0) ↔ w % 2 = 0) ∧ (((2 : Int32) ≤ nI w) ↔ ¬ w < 2) := by decide
theorem boxm_loop {r : Nat → Int32} {n w : Nat} (hw : WfR r n) (hw4 : w < 4) {N : Mm} (hN : Nwk N r) (hT : TrM N r n (r 20)) (K : Int32 → Mm → Option (Int32 × Mm)) : ∀ (d f i : Nat), i + d = n + 1 → d < f → lX7_boxIs_15 K (nI w) f (bxF (if w < 2 then mn else mx) (if w % 2 = 0 then pxS r n (r 20) else pyS r n (r 20)) i) (nI (i + 1)) N = K (bxV r n w) N := by
  have hn := hw.1
  have f0 : rd N 55 26 0 = some (nI n) := rd_v 0 rfl (by decide) (by decide) ((hN 0 (by decide)).trans hw.2.1)
  have e2 : nI n + (2 : Int32) = nI (n + 2) := nI_add n 2
  intro d
  induction d with
  | zero =>
    intro f i hi hf
    obtain ⟨f, rfl⟩ : ∃ g, f = g + 1 := ⟨f - 1, by omega⟩
    have hi : i = n + 1 := by omega
    subst hi
    rw [lX7_boxIs_15, f0, so_b, e2, if_pos (nI_le (by omega) (by omega))]
    rfl
  | succ d ih =>
    intro f i hi hf
    obtain ⟨f, rfl⟩ : ∃ g, f = g + 1 := ⟨f - 1, by omega⟩
    rw [lX7_boxIs_15, f0, so_b, e2, if_neg (nI_ge (by omega) (by omega)), jn_e]
    have gx : rd N 60 8 (nI (i + 1)) = some (pxS r n (r 20) (i + 1)) := rd_v (i + 1) rfl (by omega) (by decide) (hT.1 (i + 1) (by omega)).1
    have gy : rd N 61 8 (nI (i + 1)) = some (pyS r n (r 20) (i + 1)) := rd_v (i + 1) rfl (by omega) (by decide) (hT.1 (i + 1) (by omega)).2
    have key := ih f (i + 1) (by omega) (by omega)
    rw [bxF] at key
    simp only [gx, gy, so_b, greater_ok, lesser_ok, gs_mx, ls_mn, nI_n1]
    by_cases p1 : w % 2 = 0
    · rw [if_pos ((irm2 w hw4).1.mpr p1)]
      simp only [if_pos p1] at key ⊢
      by_cases p2 : w < 2
      · rw [if_neg (fun q => (irm2 w hw4).2.mp q p2)]
        simp only [if_pos p2] at key ⊢
        exact key
      · rw [if_pos ((irm2 w hw4).2.mpr p2)]
        simp only [if_neg p2] at key ⊢
        exact key
    · rw [if_neg (fun q => p1 ((irm2 w hw4).1.mp q))]
      simp only [if_neg p1] at key ⊢
      by_cases p2 : w < 2
      · rw [if_neg (fun q => (irm2 w hw4).2.mp q p2)]
        simp only [if_pos p2] at key ⊢
        exact key
      · rw [if_pos ((irm2 w hw4).2.mpr p2)]
        simp only [if_neg p2] at key ⊢
        exact key
theorem boxIs_ok {r : Nat → Int32} {n w : Nat} (hw : WfR r n) (hw4 : w < 4) {N : Mm} (hN : Nwk N r) : ∃ N', fX7_boxIs (nI w) N = some (bxV r n w, N') ∧ Oth N N' [60, 61, 62] := by
  unfold fX7_boxIs
  rw [rd_b (x := 20) 20 rfl (by decide) (by decide), hN 20 (by decide)]
  obtain ⟨N1, e1, o1, t1⟩ := lays_ok hw (r 20) hN
  rw [e1, so_b]
  have := boxm_loop hw hw4 (hN.oth o1 (by decide)) t1 (fun x8 N9 => some (x8, N9)) (n + 1) fu 0 (by omega) (by rw [fu_eq]; have := hw.1; omega)
  have z : bxF (if w < 2 then mn else mx) (if w % 2 = 0 then pxS r n (r 20) else pyS r n (r 20)) 0 = 0 := by
    rw [bxF]
    by_cases p1 : w % 2 = 0
    · rw [if_pos p1]; rfl
    · rw [if_neg p1]; rfl
  rw [z] at this
  exact ⟨N1, this, o1⟩
theorem box_val {M N : Mm} {r : Nat → Int32} {n s nx L : Nat} (h : RelP M N r n s nx L) {w : Nat} (hw4 : w < 4) : ∃ M' N', fX6_box (nI w) M = some (bxV r n w, M') ∧ fX7_boxIs (nI w) N = some (bxV r n w, N') ∧ RelP M' N' r n s nx L := by
  have hw := h.1.1
  have hn := hw.1
  obtain ⟨M1, e1, o1, t1, c1⟩ := trace_ci hw (r 20) h.2.1.1
  obtain ⟨N1, e2, o2⟩ := boxIs_ok hw hw4 h.2.2.1
  refine ⟨M1, N1, ?_, e2, h.quiet (o1.mono (by decide)) (h.2.1.trace o1 c1) ((o2.xm (by decide) (by decide)))⟩
  unfold fX6_box
  rw [within_c, so_b]
  simp only [ic_0]
  rw [ic_t (show (0 : Int32) ≤ nI _ ∧ nI _ ≤ 3 from rng_i (a := 0) (b := 3) (by decide) (Nat.zero_le _) (by omega)), h.2.1.1.1.2.2.2.2.1, e1, so_b]
  simp only []
  unfold bxV
  by_cases p1 : w % 2 = 0
  · rw [if_pos ((irm2 w hw4).1.mpr p1)]
    simp only [if_pos p1]
    by_cases p2 : w < 2
    · rw [if_neg (fun q => (irm2 w hw4).2.mp q p2), least_ok hn t1.1 (fun j hj => (t1.2.1 j hj).1), so_b]
      simp only [if_pos p2]
    · rw [if_pos ((irm2 w hw4).2.mpr p2), great_ok hn t1.1 (fun j hj => (t1.2.1 j hj).1), so_b]
      simp only [if_neg p2]
  · rw [if_neg (fun q => p1 ((irm2 w hw4).1.mp q))]
    simp only [if_neg p1]
    by_cases p2 : w < 2
    · rw [if_neg (fun q => (irm2 w hw4).2.mp q p2), least_ok hn t1.1 (fun j hj => (t1.2.1 j hj).2), so_b]
      simp only [if_pos p2]
    · rw [if_pos ((irm2 w hw4).2.mpr p2), great_ok hn t1.1 (fun j hj => (t1.2.1 j hj).2), so_b]
      simp only [if_neg p2]
theorem pub_box (w : Int32) : Same (fX6_box w) (fX7_box w) := by
  intro M N ⟨r, n, s, nx, L, h⟩
  by_cases g : (0 : Int32) ≤ w ∧ w ≤ 3
  · obtain ⟨v, v1, v2, rfl⟩ := rng (a := 0) (b := 3) (by decide) (by decide) g
    obtain ⟨M', N', e1, e2, h'⟩ := box_val h (show v < 4 by omega)
    refine ⟨_, M', N', e1, ?_, h'.rel⟩
    unfold fX7_box
    rw [within_m, so_b]
    simp only [ic_0]
    rw [ic_t g, e2, so_b]
  · unfold fX6_box fX7_box
    rw [within_c, so_b, within_m, so_b]
    simp only [ic_0]
    rw [ic_f g, ic_f g]
    exact ref_same h (Or.inl rfl)
