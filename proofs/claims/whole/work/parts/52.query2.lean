theorem pub_hits (x : Int32) : Same (fX6_hits x) (fX7_hits x) := by
  intro M N ⟨r, n, s, nx, L, h⟩
  have hw := h.1.1
  have hn := hw.1
  have hS := h.2.1.1.1
  obtain ⟨m, hm, hr⟩ := hw.2.2.2.2.2.1
  have h64 := pw_le hn hm
  unfold fX6_hits fX7_hits
  rw [hasBend_ok hw hS, so_b, isBend_ok hw h.2.2.1, so_b]
  simp only [ic_0]
  by_cases g : ∃ b, b < n ∧ x = nI b
  · rw [ic_t g, ic_t g]
    obtain ⟨b, hb, rfl⟩ := g
    rw [isMade_ok (n := n) hS h64 hr (by omega), so_b, rd_b (x := 20) 20 rfl (by decide) (by decide), h.2.2.1 20 (by decide), hr, has_b h64 (by omega), so_b]
    simp only [ic_0]
    by_cases q : bt m b = true
    · rw [ic_t q, ic_t q]
      exact ref_same h (Or.inr (Or.inl rfl))
    · rw [ic_f q, ic_f q, rd_b (x := 20) 20 rfl (by decide) (by decide), h.2.2.1 20 (by decide), hr, hS.2.2.2.2.1, hr]
      obtain ⟨M1, e1, o1, c1⟩ := hitOf_ok hw h.2.1.1 h64 hb
      obtain ⟨N1, e2, o2⟩ := hitBy_ok hw (nI m) h.2.2.1 b hb
      rw [e1, so_b, e2, so_b]
      exact ⟨_, M1, N1, rfl, rfl, (h.quiet (o1.mono (by decide)) (h.2.1.cross o1 c1) ((o2.xm (by decide) (by decide)))).rel⟩
  · rw [ic_f g, ic_f g]
    exact ref_same h (Or.inl rfl)
theorem PI.free {M M' : Mm} {r : Nat → Int32} {n : Nat} (hp : PI M r n) (o : Oth M M' [6, 7, 8, 9, 11, 12]) (c : CI M' r n) : PI M' r n := by
  refine ⟨c, ?_⟩
  unfold PlanOk
  rw [o.2 10 (by decide), o.2 15 (by decide), o.2 16 (by decide)]
  exact hp.2
theorem free_loop {r : Nat → Int32} {n m : Nat} (hw : WfR r n) (hm : m < 2 ^ n) (hr : r 20 = nI m) (K : Int32 → Mm → Option (Int32 × Mm)) : ∀ (d f i x : Nat) (N : Mm), i + d = n → d < f → Nwk N r → x < 64 → (∀ b, b < 6 → (bt x b = true ↔ (b < i ∧ fr r n m b))) → ∃ N', lX7_free_4 K f (nI x) (nI i) N = K (nI (frS r n m)) N' ∧ Oth N N' [60, 61, 62] := by
  have hn := hw.1
  have h64 := pw_le hn hm
  intro d
  induction d with
  | zero =>
    intro f i x N hi hf hN hx hb
    obtain ⟨f, rfl⟩ : ∃ g, f = g + 1 := ⟨f - 1, by omega⟩
    have hi : i = n := by omega
    subst hi
    refine ⟨N, ?_, Oth.refl _ _⟩
    rw [lX7_free_4, rd_b (x := 0) 0 rfl (by decide) (by decide), hN 0 (by decide), hw.2.1, if_pos (nI_le (Nat.le_refl _) (by omega)), frS_eq hw m x hx hb]
  | succ d ih =>
    intro f i x N hi hf hN hx hb
    obtain ⟨f, rfl⟩ : ∃ g, f = g + 1 := ⟨f - 1, by omega⟩
    obtain ⟨N1, e1, o1⟩ := isFree_ok hw hN h64 (show i < n by omega)
    rw [lX7_free_4, rd_b (x := 0) 0 rfl (by decide) (by decide), hN 0 (by decide), hw.2.1, if_neg (nI_ge (by omega) (by omega)), rd_b (x := 20) 20 rfl (by decide) (by decide), hN 20 (by decide), hr, e1, so_b]
    simp only [ic_0, lt_e, nI_n1, or_b x hx i (show i < 6 by omega)]
    have z : nI x ||| (0 : Int32) = nI x := Int32.or_zero
    rw [z]
    by_cases g : fr r n m i
    · rw [ic_t g]
      obtain ⟨N2, e2, o2⟩ := ih f (i + 1) (x ||| 2 ^ i) N1 (by omega) (by omega) (hN.oth o1 (by decide)) (or_lt x hx i (by omega)) (fun b h6 => by
        rw [or_bt x hx i (by omega) b (by omega)]
        by_cases e : b = i
        · subst e; simp [g]
        · have : (b == i) = false := by simp [e]
          rw [this, Bool.or_false, hb b h6]
          constructor
          · rintro ⟨a1, a2⟩; exact ⟨by omega, a2⟩
          · rintro ⟨a1, a2⟩; exact ⟨by omega, a2⟩)
      exact ⟨N2, e2, o1.trans o2⟩
    · rw [ic_f g]
      obtain ⟨N2, e2, o2⟩ := ih f (i + 1) x N1 (by omega) (by omega) (hN.oth o1 (by decide)) hx (fun b h6 => by
        rw [hb b h6]
        constructor
        · rintro ⟨a1, a2⟩; exact ⟨by omega, a2⟩
        · rintro ⟨a1, a2⟩
          refine ⟨?_, a2⟩
          rcases Nat.lt_or_ge b i with h | h
          · exact h
          · have : b = i := by omega
            subst this
            exact absurd a2 g)
      exact ⟨N2, e2, o1.trans o2⟩
theorem freeM_ok {r : Nat → Int32} {n m : Nat} (hw : WfR r n) (hm : m < 2 ^ n) (hr : r 20 = nI m) {N : Mm} (hN : Nwk N r) : ∃ N', fX7_free N = some (nI (frS r n m), N') ∧ Oth N N' [60, 61, 62] := by
  unfold fX7_free
  exact free_loop hw hm hr (fun x5 N6 => some (x5, N6)) n fu 0 0 N (by omega) (by rw [fu_eq]; have := hw.1; omega) hN (by decide) (fun b hb => by simp [bt])
theorem pub_free : Same fX6_free fX7_free := by
  intro M N ⟨r, n, s, nx, L, h⟩
  have hw := h.1.1
  obtain ⟨m, hm, hr⟩ := hw.2.2.2.2.2.1
  obtain ⟨M1, e1, o1, c1, -, -⟩ := freeAt_ok hw h.2.1.1 hm
  obtain ⟨N1, e2, o2⟩ := freeM_ok hw hm hr h.2.2.1
  refine ⟨_, M1, N1, ?_, e2, (h.quiet (o1.mono (by decide)) (h.2.1.free o1 c1) ((o2.xm (by decide) (by decide)))).rel⟩
  unfold fX6_free
  rw [h.2.1.1.1.2.2.2.2.1, hr, e1, so_b]
theorem oX {N N' : Mm} {l : List Nat} (o : Oth N N' l) (h : 54 ∉ l) (h' : ∀ k, k ∈ l → k ∈ scM) : OthX N N' scM [14, 15] := (o.x (fs := []) h).mono h' (fun _ q => absurd q List.not_mem_nil)
theorem pub_orders : Same fX6_orders fX7_orders := by
  intro M N ⟨r, n, s, nx, L, h⟩
  have hw := h.1.1
  obtain ⟨M1, e1, o1, p1, k1⟩ := plan_ok hw h.2.1
  obtain ⟨N1, e2, o2, d2⟩ := laysOrders_ok hw h.2.2.1
  refine ⟨nI (cN r n 0), M1, N1, ?_, ?_, (h.quiet o1 p1 (oX o2 (by decide) (by decide))).rel⟩
  · unfold fX6_orders
    rw [e1, so_b]
    simp only []
    rw [k1.1]
  · unfold fX7_orders
    rw [e2, so_b]
    simp only []
    rw [rd_b (x := 0) 0 rfl (by decide) (by decide), (d2 0 (Nat.zero_le _) (Nat.pow_pos (by decide))).2.1]
theorem pub_ways : Same fX6_ways fX7_ways := by
  intro M N ⟨r, n, s, nx, L, h⟩
  have hw := h.1.1
  obtain ⟨m, hm, hr⟩ := hw.2.2.2.2.2.1
  obtain ⟨M1, e1, o1, c1, -, -⟩ := pathsFrom_ok hw h.2.1.1 hm
  obtain ⟨N1, e2, o2, d2⟩ := laysOrders_ok hw h.2.2.1
  have p1 : PI M1 r n := by
    refine ⟨c1, ?_⟩
    unfold PlanOk
    rw [o1.2 10 (by decide), o1.2 15 (by decide), o1.2 16 (by decide)]
    exact h.2.1.2
  refine ⟨nI (cN r n m), M1, N1, ?_, ?_, (h.quiet (o1.mono (by decide)) p1 (oX o2 (by decide) (by decide))).rel⟩
  · unfold fX6_ways
    rw [h.2.1.1.1.2.2.2.2.1, hr, e1, so_b]
  · unfold fX7_ways
    rw [e2, so_b]
    simp only []
    rw [rd_b (x := 20) 20 rfl (by decide) (by decide), o2.2 55 (by decide), h.2.2.1 20 (by decide), hr, rd_b m rfl (pw_le hw.1 hm) (by decide), (d2 m (Nat.zero_le _) hm).2.1]
theorem cN0_bd {r : Nat → Int32} {n : Nat} (hn : n ≤ 6) : cN r n 0 ≤ 46656 := Nat.le_trans (cN_bd hn 0 (Nat.pow_pos (by decide))) (gB_bd 0 (by decide)).2
theorem pub_order (x w : Int32) : Same (fX6_order x w) (fX7_order x w) := by
  intro M N ⟨r, n, s, nx, L, h⟩
  have hw := h.1.1
  have hn := hw.1
  have hbd := cN0_bd (r := r) hn
  unfold fX6_order fX7_order
  rw [hasBend_ok hw h.2.1.1.1, so_b, isBend_ok hw h.2.2.1, so_b]
  simp only [ic_0]
  by_cases g : ∃ b, b < n ∧ x = nI b
  · rw [ic_t g, ic_t g, within_c, so_b, within_m, so_b]
    simp only [ic_0]
    by_cases g2 : (0 : Int32) ≤ w ∧ w ≤ 1
    · rw [ic_t g2, ic_t g2]
      obtain ⟨b, hb, rfl⟩ := g
      obtain ⟨v, v1, v2, rfl⟩ := rng (a := 0) (b := 1) (by decide) (by decide) g2
      obtain ⟨M1, e1, o1, p1, k1⟩ := plan_ok hw h.2.1
      obtain ⟨N1, e2, o2, d2⟩ := laysOrders_ok hw h.2.2.1
      have hN1 := h.2.2.1.oth o2 (by decide)
      unfold fX7_orders
      rw [e1, so_b, e2, so_b]
      simp only []
      rw [rd_b (x := 0) 0 rfl (by decide) (by decide), (d2 0 (Nat.zero_le _) (Nat.pow_pos (by decide))).2.1, so_b]
      simp only []
      by_cases q : cN r n 0 = 0
      · have kk := (k1.2.1 q).1 b hb
        rw [q, if_pos (show nI 0 = (0 : Int32) from rfl)]
        refine ⟨-1000, M1, N1, ?_, rfl, (h.quiet o1 p1 (oX o2 (by decide) (by decide))).rel⟩
        rw [rd_b b rfl (by omega) (by decide), rd_b b rfl (by omega) (by decide), kk.1, kk.2]
        by_cases z : nI v = (0 : Int32)
        · rw [if_pos z]
        · rw [if_neg z]
      · have kk := (k1.2.2 (by omega)).1 b hb
        rw [if_neg (show ¬ nI (cN r n 0) = 0 from nI_ne0 (by omega) (by omega))]
        obtain ⟨N2, e3, o3, f3⟩ := laysRow_ok hw (what := v) (by omega) (by omega) hN1 d2
        rw [e3, so_b]
        simp only []
        simp only [rd_b b rfl (show b < 6 by omega) (show 6 ≤ 1000 by decide), f3 b hb, kk.1, kk.2]
        refine ⟨nI (rowN r n v b), M1, N2, ?_, rfl, (h.quiet o1 p1 ((oX o2 (by decide) (by decide)).trans (oX o3 (by decide) (by decide)))).rel⟩
        rcases (show v = 0 ∨ v = 1 by omega) with rfl | rfl
        · rw [if_pos (show nI 0 = (0 : Int32) from rfl)]
        · rw [if_neg (show ¬ nI 1 = (0 : Int32) by decide)]
    · rw [ic_f g2, ic_f g2]
      exact ref_same h (Or.inl rfl)
  · rw [ic_f g, ic_f g]
    exact ref_same h (Or.inl rfl)
/-- changesIs behind laysOrders -/
theorem chIs_ok {r : Nat → Int32} {n w : Nat} (hw : WfR r n) (hw2 : w < 2) {N : Mm} (hN : Nwk N r) (hD : Dn N r n 0) : ∃ N', fX7_changesIs (nI w) N = some (ic (cN r n 0 = 0) (-1000) (nI (sq r n (1 - w) n).2.2), N') ∧ Oth N N' [66] := by
  have hn := hw.1
  have hbd := cN0_bd (r := r) hn
  unfold fX7_changesIs
  rw [rd_b (x := 0) 0 rfl (by decide) (by decide), (hD 0 (Nat.zero_le _) (Nat.pow_pos (by decide))).2.1]
  by_cases q : cN r n 0 = 0
  · rw [ic_t q, q, if_pos (show nI 0 = (0 : Int32) from rfl)]
    exact ⟨N, rfl, Oth.refl _ _⟩
  · rw [ic_f q, if_neg (nI_ne0 (by omega) (by omega))]
    obtain ⟨N1, e1, o1, -⟩ := laysRow_ok hw (what := 1 - w) (by omega) (by omega) hN hD
    have e : (1 : Int32) - nI w = nI (1 - w) := by
      rcases (show w = 0 ∨ w = 1 by omega) with rfl | rfl <;> decide
    rw [e, e1, so_b]
    exact ⟨N1, rfl, o1⟩
theorem chC {M : Mm} {r : Nat → Int32} {n : Nat} (k : PlanOk M r n) : M.1 10 11 = ic (cN r n 0 = 0) (-1000) (nI (sq r n (1 - 0) n).2.2) ∧ M.1 10 10 = ic (cN r n 0 = 0) (-1000) (nI (sq r n (1 - 1) n).2.2) := by
  by_cases q : cN r n 0 = 0
  · rw [ic_t q, ic_t q]; exact ⟨(k.2.1 q).2.2, (k.2.1 q).2.1⟩
  · rw [ic_f q, ic_f q]; exact ⟨(k.2.2 (by omega)).2.2, (k.2.2 (by omega)).2.1⟩
theorem pub_changes (w : Int32) : Same (fX6_changes w) (fX7_changes w) := by
  intro M N ⟨r, n, s, nx, L, h⟩
  have hw := h.1.1
  unfold fX6_changes fX7_changes
  rw [within_c, so_b, within_m, so_b]
  simp only [ic_0]
  by_cases g2 : (0 : Int32) ≤ w ∧ w ≤ 1
  · rw [ic_t g2, ic_t g2]
    obtain ⟨v, v1, v2, rfl⟩ := rng (a := 0) (b := 1) (by decide) (by decide) g2
    obtain ⟨M1, e1, o1, p1, k1⟩ := plan_ok hw h.2.1
    obtain ⟨N1, e2, o2, d2⟩ := laysOrders_ok hw h.2.2.1
    obtain ⟨N2, e3, o3⟩ := chIs_ok hw (show v < 2 by omega) (h.2.2.1.oth o2 (by decide)) d2
    rw [e1, so_b, e2, so_b]
    simp only []
    rw [e3, so_b]
    refine ⟨_, M1, N2, ?_, rfl, (h.quiet o1 p1 ((oX o2 (by decide) (by decide)).trans (oX o3 (by decide) (by decide)))).rel⟩
    obtain ⟨c1, c2⟩ := chC k1
    rcases (show v = 0 ∨ v = 1 by omega) with rfl | rfl
    · rw [if_pos (show nI 0 = (0 : Int32) from rfl), c1]
    · rw [if_neg (show ¬ nI 1 = (0 : Int32) by decide), c2]
  · rw [ic_f g2, ic_f g2]
    exact ref_same h (Or.inl rfl)
/-- lengths -/
def sL (r : Nat → Int32) : Nat → Int32
  | 0 => r 1
  | k + 1 => sL r k + r (1 + (k + 1))
noncomputable def tS (r : Nat → Int32) (m : Nat) : Nat → Int32
  | 0 => 0
  | k + 1 => tS r m k + ic (bt m k = true) (r (23 + tl r k)) 0
theorem allLen_loop {r : Nat → Int32} {n : Nat} (hw : WfR r n) {M : Mm} (hS : Shk M 1 r) (K : Int32 → Option (Int32 × Mm)) : ∀ (d f i : Nat), i + d = n → d < f → lX4_allLengths_4 K M f (sL r i) (nI (i + 1)) = K (sL r n) := by
  have hn := hw.1
  intro d
  induction d with
  | zero =>
    intro f i hi hf
    obtain ⟨f, rfl⟩ : ∃ g, f = g + 1 := ⟨f - 1, by omega⟩
    have hi : i = n := by omega
    subst hi
    rw [lX4_allLengths_4, hS.1, hw.2.1, if_pos (nI_lt (by omega) (by omega))]
  | succ d ih =>
    intro f i hi hf
    obtain ⟨f, rfl⟩ : ∃ g, f = g + 1 := ⟨f - 1, by omega⟩
    rw [lX4_allLengths_4, hS.1, hw.2.1, if_neg (nI_nlt (by omega) (by omega)), rd_b (i + 1) rfl (by omega) (by decide), lt_e, hS.2.1 (i + 1) (by omega), nI_n1]
    exact ih f (i + 1) (by omega) (by omega)
theorem allLen_ok {r : Nat → Int32} {n : Nat} (hw : WfR r n) {M : Mm} (hS : Shk M 1 r) : fX4_allLengths M = some (sL r n, M) := by
  unfold fX4_allLengths
  rw [show fu = 999 + 1 from rfl, lX4_allLengths_4, hS.1, hw.2.1, if_neg (by rw [show (0 : Int32) = nI 0 from rfl]; exact nI_nlt (Nat.zero_le _) (by have := hw.1; omega)), rd_b (x := 0) 0 rfl (by decide) (by decide), lt_e, hS.2.1 0 (by decide), show (0 : Int32) + 1 = nI (0 + 1) from rfl]
  have := allLen_loop hw hS (fun x5 => some (x5, M)) n 999 0 (by omega) (by have := hw.1; omega)
  rw [sL] at this
  rw [show (0 : Int32) + r (1 + 0) = r 1 from Int32.zero_add _]
  exact this
theorem lenLess_loop {r : Nat → Int32} {n m : Nat} (hw : WfR r n) (hm : m < 64) {M : Mm} (hS : Shk M 1 r) (K : Int32 → Option (Int32 × Mm)) (x : Int32) : ∀ (d f i : Nat), i + d = n → d < f → lX4_lengthLess_10 K (nI m) M f (x - tS r m i) (nI i) = K (x - tS r m n) := by
  have hn := hw.1
  intro d
  induction d with
  | zero =>
    intro f i hi hf
    obtain ⟨f, rfl⟩ : ∃ g, f = g + 1 := ⟨f - 1, by omega⟩
    have hi : i = n := by omega
    subst hi
    rw [lX4_lengthLess_10, hS.1, hw.2.1, if_pos (nI_le (Nat.le_refl _) (by omega))]
  | succ d ih =>
    intro f i hi hf
    obtain ⟨f, rfl⟩ : ∃ g, f = g + 1 := ⟨f - 1, by omega⟩
    obtain ⟨t1, t2⟩ := tl_ok hw (show i < n by omega)
    have key := ih f (i + 1) (by omega) (by omega)
    rw [lX4_lengthLess_10, hS.1, hw.2.1, if_neg (nI_ge (by omega) (by omega)), nI_n1]
    by_cases g : bt m i = true
    · rw [if_pos ((bt_iff hm (by omega)).mpr g), rd_b i rfl (by omega) (by decide), hS.2.2.2.1 i (by omega), t1, rd_b (tl r i) rfl t2 (by decide), lt_e, hS.2.2.2.2.2.2.2 _ t2]
      rw [tS, ic_t g] at key
      rw [show x - tS r m i - r (23 + tl r i) = x - (tS r m i + r (23 + tl r i)) by grind]
      exact key
    · rw [if_neg (fun h => g ((bt_iff hm (by omega)).mp h))]
      rw [tS, ic_f g, Int32.add_zero] at key
      exact key
theorem lenLess_ok {r : Nat → Int32} {n m : Nat} (hw : WfR r n) (hm : m < 64) {M : Mm} (hS : Shk M 1 r) : fX4_lengthLess (nI m) M = some (10 * sL r n - tS r m n, M) := by
  unfold fX4_lengthLess
  rw [allLen_ok hw hS, so_b, lt_e]
  have := lenLess_loop hw hm hS (fun x8 => some (x8, M)) (10 * sL r n) n fu 0 (by omega) (by rw [fu_eq]; have := hw.1; omega)
  rw [tS, Int32.sub_zero] at this
  exact this
theorem longBy_loop {r : Nat → Int32} {n m : Nat} (hw : WfR r n) (hm : m < 64) {N : Mm} (hN : Nwk N r) (K : Int32 → Mm → Option (Int32 × Mm)) : ∀ (d f i : Nat), i + d = n → d < f → lX7_longBy_12 K (nI m) f (10 * sL r i - tS r m i) (nI i) N = K (10 * sL r n - tS r m n) N := by
  have hn := hw.1
  intro d
  induction d with
  | zero =>
    intro f i hi hf
    obtain ⟨f, rfl⟩ : ∃ g, f = g + 1 := ⟨f - 1, by omega⟩
    have hi : i = n := by omega
    subst hi
    rw [lX7_longBy_12, rd_b (x := 0) 0 rfl (by decide) (by decide), hN 0 (by decide), hw.2.1, if_pos (nI_le (Nat.le_refl _) (by omega))]
  | succ d ih =>
    intro f i hi hf
    obtain ⟨f, rfl⟩ : ∃ g, f = g + 1 := ⟨f - 1, by omega⟩
    obtain ⟨t1, t2⟩ := tl_ok hw (show i < n by omega)
    have key := ih f (i + 1) (by omega) (by omega)
    rw [lX7_longBy_12, rd_b (x := 0) 0 rfl (by decide) (by decide), hN 0 (by decide), hw.2.1, if_neg (nI_ge (by omega) (by omega)), rd_b (x := 1 + nI i + 1) (1 + (i + 1)) (by rw [show (1 : Int32) + nI i = nI (1 + i) from nI_add 1 i, nI_n1]; rfl) (by omega) (by decide), hN (1 + (i + 1)) (by omega), has_b hm (by omega), so_b]
    simp only [ic_0, nI_n1]
    by_cases g : bt m i = true
    · rw [ic_t g, rd_b (x := 14 + nI i) (14 + i) (nI_add 14 i) (by omega) (by decide), hN (14 + i) (by omega), t1, rd_b (x := 23 + nI (tl r i)) (23 + tl r i) (nI_add 23 _) (by omega) (by decide), hN (23 + tl r i) (by omega), lt_e]
      rw [sL, tS, ic_t g] at key
      rw [show 10 * sL r i - tS r m i + (10 * r (1 + (i + 1)) - r (23 + tl r i)) = 10 * (sL r i + r (1 + (i + 1))) - (tS r m i + r (23 + tl r i)) by grind]
      exact key
    · rw [ic_f g, lt_e]
      rw [sL, tS, ic_f g] at key
      rw [show 10 * sL r i - tS r m i + (10 * r (1 + (i + 1)) - 0) = 10 * (sL r i + r (1 + (i + 1))) - (tS r m i + 0) by grind]
      exact key
theorem longBy_ok {r : Nat → Int32} {n m : Nat} (hw : WfR r n) (hm : m < 64) {N : Mm} (hN : Nwk N r) : fX7_longBy (nI m) N = some (10 * sL r n - tS r m n, N) := by
  unfold fX7_longBy
  rw [rd_b (x := 1) 1 rfl (by decide) (by decide), hN 1 (by decide), lt_e]
  have := longBy_loop hw hm hN (fun x8 N9 => some (x8, N9)) n fu 0 (by omega) (by rw [fu_eq]; have := hw.1; omega)
  rw [tS, sL, Int32.sub_zero] at this
  exact this
theorem sL_nI {r : Nat → Int32} {n : Nat} (hw : WfR r n) : ∀ k, k ≤ n → ∃ v, v ≤ 20 * (k + 1) ∧ sL r k = nI v
  | 0, _ => by
    obtain ⟨v, -, h2, h3⟩ := hw.2.2.1 0 (Nat.zero_le _)
    exact ⟨v, by omega, h3⟩
  | k + 1, hk => by
    obtain ⟨v, h1, h2⟩ := sL_nI hw k (by omega)
    obtain ⟨u, -, u2, u3⟩ := hw.2.2.1 (k + 1) hk
    exact ⟨v + u, by omega, by rw [sL, h2, u3, nI_add]⟩
theorem tS_0 (r : Nat → Int32) : ∀ k, tS r 0 k = 0
  | 0 => rfl
  | k + 1 => by rw [tS, tS_0 r k, ic_f (by simp [bt])]; rfl
theorem long10 {r : Nat → Int32} {n : Nat} (hw : WfR r n) : (10 * sL r n - tS r 0 n) / 10 = sL r n := by
  have hn := hw.1
  obtain ⟨v, h1, h2⟩ := sL_nI hw n (Nat.le_refl _)
  rw [tS_0, Int32.sub_zero, h2, show (10 : Int32) = nI 10 from rfl, pk_mul, pk_div (by omega) (by decide) (by decide)]
  congr 1
  omega
theorem all64 {n : Nat} (hn : n ≤ 6) : 2 ^ n - 1 < 64 := by
  have := Nat.pow_le_pow_right (show 0 < 2 by decide) hn
  have h : (2 : Nat) ^ 6 = 64 := by decide
  have : 0 < 2 ^ n := Nat.pow_pos (by decide)
  omega
/-- the counts that there are -/
theorem count_val {M N : Mm} {r : Nat → Int32} {n s nx L : Nat} (h : RelP M N r n s nx L) {w : Nat} (hw11 : w < 11) : ∃ v, fX6_count (nI w) M = some (v, M) ∧ fX7_countIs (nI w) N = some (v, N) := by
  have hw := h.1.1
  have hn := hw.1
  have hS := h.2.1.1.1
  have hN := h.2.2.1
  obtain ⟨m, hm, hr⟩ := hw.2.2.2.2.2.1
  have h64 := pw_le hn hm
  unfold fX6_count fX7_countIs
  have d : ∀ k, w ≠ k → k < 11 → ¬ nI w = nI k := fun k hk hk2 q => hk ((nI_eq (by omega) (by omega)).mp q)
  have lit : ∀ k : Nat, k < 11 → (nI k : Int32) = Int32.ofNat k := fun _ _ => rfl
  rcases (show w = 0 ∨ w = 1 ∨ w = 2 ∨ w = 3 ∨ w = 4 ∨ w = 5 ∨ w = 6 ∨ w = 7 ∨ w = 8 ∨ w = 9 ∨ w = 10 by omega) with rfl | rfl | rfl | rfl | rfl | rfl | rfl | rfl | rfl | rfl | rfl
  · rw [if_pos (show nI 0 = (0 : Int32) from rfl), if_pos (show nI 0 = (0 : Int32) from rfl), rd_b (x := 0) 0 rfl (by decide) (by decide), hN 0 (by decide), hS.1]
    exact ⟨_, rfl, rfl⟩
  · rw [if_neg (show ¬ nI 1 = (0 : Int32) by decide), if_pos (show nI 1 = (1 : Int32) from rfl), if_neg (show ¬ nI 1 = (0 : Int32) by decide), if_pos (show nI 1 = (1 : Int32) from rfl), rd_b (x := 20) 20 rfl (by decide) (by decide), hN 20 (by decide), hS.2.2.2.2.1, hr, bitCount_ok h64, ones_ok h64]
    exact ⟨_, rfl, rfl⟩
  · rw [if_neg (show ¬ nI 2 = (0 : Int32) by decide), if_neg (show ¬ nI 2 = (1 : Int32) by decide), if_pos (show nI 2 = (2 : Int32) from rfl), if_neg (show ¬ nI 2 = (0 : Int32) by decide), if_neg (show ¬ nI 2 = (1 : Int32) by decide), if_pos (show nI 2 = (2 : Int32) from rfl), rd_b (x := 20) 20 rfl (by decide) (by decide), hN 20 (by decide), hS.2.2.2.2.1]
    exact ⟨_, rfl, rfl⟩
  · rw [if_neg (show ¬ nI 3 = (0 : Int32) by decide), if_neg (show ¬ nI 3 = (1 : Int32) by decide), if_neg (show ¬ nI 3 = (2 : Int32) by decide), if_pos (show nI 3 = (3 : Int32) from rfl), if_neg (show ¬ nI 3 = (0 : Int32) by decide), if_neg (show ¬ nI 3 = (1 : Int32) by decide), if_neg (show ¬ nI 3 = (2 : Int32) by decide), if_neg (show ¬ nI 3 = (8 : Int32) by decide), if_neg (show ¬ nI 3 = (9 : Int32) by decide), if_neg (show ¬ nI 3 = (10 : Int32) by decide), rd_b (x := 21 + nI 3 - 3) 21 (by decide) (by decide) (by decide), hN 21 (by decide), hS.2.2.2.2.2.1]
    exact ⟨_, rfl, rfl⟩
  · rw [if_neg (show ¬ nI 4 = (0 : Int32) by decide), if_neg (show ¬ nI 4 = (1 : Int32) by decide), if_neg (show ¬ nI 4 = (2 : Int32) by decide), if_neg (show ¬ nI 4 = (3 : Int32) by decide), if_pos (show nI 4 = (4 : Int32) from rfl), if_neg (show ¬ nI 4 = (0 : Int32) by decide), if_neg (show ¬ nI 4 = (1 : Int32) by decide), if_neg (show ¬ nI 4 = (2 : Int32) by decide), if_neg (show ¬ nI 4 = (8 : Int32) by decide), if_neg (show ¬ nI 4 = (9 : Int32) by decide), if_neg (show ¬ nI 4 = (10 : Int32) by decide), rd_b (x := 21 + nI 4 - 3) 22 (by decide) (by decide) (by decide), hN 22 (by decide), hS.2.2.2.2.2.2.1]
    exact ⟨_, rfl, rfl⟩
  · rw [if_neg (show ¬ nI 5 = (0 : Int32) by decide), if_neg (show ¬ nI 5 = (1 : Int32) by decide), if_neg (show ¬ nI 5 = (2 : Int32) by decide), if_neg (show ¬ nI 5 = (3 : Int32) by decide), if_neg (show ¬ nI 5 = (4 : Int32) by decide), if_pos (show nI 5 = (5 : Int32) from rfl), if_neg (show ¬ nI 5 = (0 : Int32) by decide), if_neg (show ¬ nI 5 = (1 : Int32) by decide), if_neg (show ¬ nI 5 = (2 : Int32) by decide), if_neg (show ¬ nI 5 = (8 : Int32) by decide), if_neg (show ¬ nI 5 = (9 : Int32) by decide), if_neg (show ¬ nI 5 = (10 : Int32) by decide), rd_b (x := 21 + nI 5 - 3) 23 (by decide) (by decide) (by decide), rd_b (x := 0) 0 rfl (by decide) (by decide), hN 23 (by decide), hS.2.2.2.2.2.2.2 0 (by decide)]
    exact ⟨_, rfl, rfl⟩
  · rw [if_neg (show ¬ nI 6 = (0 : Int32) by decide), if_neg (show ¬ nI 6 = (1 : Int32) by decide), if_neg (show ¬ nI 6 = (2 : Int32) by decide), if_neg (show ¬ nI 6 = (3 : Int32) by decide), if_neg (show ¬ nI 6 = (4 : Int32) by decide), if_neg (show ¬ nI 6 = (5 : Int32) by decide), if_pos (show nI 6 = (6 : Int32) from rfl), if_neg (show ¬ nI 6 = (0 : Int32) by decide), if_neg (show ¬ nI 6 = (1 : Int32) by decide), if_neg (show ¬ nI 6 = (2 : Int32) by decide), if_neg (show ¬ nI 6 = (8 : Int32) by decide), if_neg (show ¬ nI 6 = (9 : Int32) by decide), if_neg (show ¬ nI 6 = (10 : Int32) by decide), rd_b (x := 21 + nI 6 - 3) 24 (by decide) (by decide) (by decide), rd_b (x := 1) 1 rfl (by decide) (by decide), hN 24 (by decide), hS.2.2.2.2.2.2.2 1 (by decide)]
    exact ⟨_, rfl, rfl⟩
  · rw [if_neg (show ¬ nI 7 = (0 : Int32) by decide), if_neg (show ¬ nI 7 = (1 : Int32) by decide), if_neg (show ¬ nI 7 = (2 : Int32) by decide), if_neg (show ¬ nI 7 = (3 : Int32) by decide), if_neg (show ¬ nI 7 = (4 : Int32) by decide), if_neg (show ¬ nI 7 = (5 : Int32) by decide), if_neg (show ¬ nI 7 = (6 : Int32) by decide), if_pos (show nI 7 = (7 : Int32) from rfl), if_neg (show ¬ nI 7 = (0 : Int32) by decide), if_neg (show ¬ nI 7 = (1 : Int32) by decide), if_neg (show ¬ nI 7 = (2 : Int32) by decide), if_neg (show ¬ nI 7 = (8 : Int32) by decide), if_neg (show ¬ nI 7 = (9 : Int32) by decide), if_neg (show ¬ nI 7 = (10 : Int32) by decide), rd_b (x := 21 + nI 7 - 3) 25 (by decide) (by decide) (by decide), rd_b (x := 2) 2 rfl (by decide) (by decide), hN 25 (by decide), hS.2.2.2.2.2.2.2 2 (by decide)]
    exact ⟨_, rfl, rfl⟩
  · rw [if_neg (show ¬ nI 8 = (0 : Int32) by decide), if_neg (show ¬ nI 8 = (1 : Int32) by decide), if_neg (show ¬ nI 8 = (2 : Int32) by decide), if_neg (show ¬ nI 8 = (3 : Int32) by decide), if_neg (show ¬ nI 8 = (4 : Int32) by decide), if_neg (show ¬ nI 8 = (5 : Int32) by decide), if_neg (show ¬ nI 8 = (6 : Int32) by decide), if_neg (show ¬ nI 8 = (7 : Int32) by decide), if_pos (show nI 8 = (8 : Int32) from rfl), if_neg (show ¬ nI 8 = (0 : Int32) by decide), if_neg (show ¬ nI 8 = (1 : Int32) by decide), if_neg (show ¬ nI 8 = (2 : Int32) by decide), if_pos (show nI 8 = (8 : Int32) from rfl), allBends_ok hw hS, so_b, allMade_ok hw hN, so_b]
    simp only []
    rw [lenLess_ok hw (all64 hn) hS, longBy_ok hw (all64 hn) hN]
    exact ⟨_, rfl, rfl⟩
  · rw [if_neg (show ¬ nI 9 = (0 : Int32) by decide), if_neg (show ¬ nI 9 = (1 : Int32) by decide), if_neg (show ¬ nI 9 = (2 : Int32) by decide), if_neg (show ¬ nI 9 = (3 : Int32) by decide), if_neg (show ¬ nI 9 = (4 : Int32) by decide), if_neg (show ¬ nI 9 = (5 : Int32) by decide), if_neg (show ¬ nI 9 = (6 : Int32) by decide), if_neg (show ¬ nI 9 = (7 : Int32) by decide), if_neg (show ¬ nI 9 = (8 : Int32) by decide), if_pos (show nI 9 = (9 : Int32) from rfl), if_neg (show ¬ nI 9 = (0 : Int32) by decide), if_neg (show ¬ nI 9 = (1 : Int32) by decide), if_neg (show ¬ nI 9 = (2 : Int32) by decide), if_neg (show ¬ nI 9 = (8 : Int32) by decide), if_pos (show nI 9 = (9 : Int32) from rfl), rd_b (x := 20) 20 rfl (by decide) (by decide), hN 20 (by decide), hS.2.2.2.2.1, hr, lenLess_ok hw h64 hS, longBy_ok hw h64 hN]
    exact ⟨_, rfl, rfl⟩
  · rw [if_neg (show ¬ nI 10 = (0 : Int32) by decide), if_neg (show ¬ nI 10 = (1 : Int32) by decide), if_neg (show ¬ nI 10 = (2 : Int32) by decide), if_neg (show ¬ nI 10 = (3 : Int32) by decide), if_neg (show ¬ nI 10 = (4 : Int32) by decide), if_neg (show ¬ nI 10 = (5 : Int32) by decide), if_neg (show ¬ nI 10 = (6 : Int32) by decide), if_neg (show ¬ nI 10 = (7 : Int32) by decide), if_neg (show ¬ nI 10 = (8 : Int32) by decide), if_neg (show ¬ nI 10 = (9 : Int32) by decide), if_pos (show nI 10 = (10 : Int32) from rfl), if_neg (show ¬ nI 10 = (0 : Int32) by decide), if_neg (show ¬ nI 10 = (1 : Int32) by decide), if_neg (show ¬ nI 10 = (2 : Int32) by decide), if_neg (show ¬ nI 10 = (8 : Int32) by decide), if_neg (show ¬ nI 10 = (9 : Int32) by decide), if_pos (show nI 10 = (10 : Int32) from rfl), allLen_ok hw hS, so_b, show (0 : Int32) = nI 0 from rfl, longBy_ok hw (by decide) hN, so_b]
    simp only []
    rw [long10 hw]
    exact ⟨_, rfl, rfl⟩
theorem pub_count (w : Int32) : Same (fX6_count w) (fX7_count w) := by
  intro M N ⟨r, n, s, nx, L, h⟩
  by_cases g : (0 : Int32) ≤ w ∧ w ≤ 10
  · obtain ⟨v, v1, v2, rfl⟩ := rng (a := 0) (b := 10) (by decide) (by decide) g
    obtain ⟨z, e1, e2⟩ := count_val h (show v < 11 by omega)
    refine ⟨z, M, N, e1, ?_, h.rel⟩
    unfold fX7_count
    rw [within_m, so_b]
    simp only [ic_0]
    rw [ic_t g, e2, so_b]
  · have nw : ∀ k : Nat, k ≤ 10 → ¬ w = nI k := fun k hk q => g (by rw [q]; exact rng_i (a := 0) (b := 10) (by decide) (Nat.zero_le _) hk)
    unfold fX6_count fX7_count
    rw [if_neg (show ¬ w = (0 : Int32) from nw 0 (by decide)), if_neg (show ¬ w = (1 : Int32) from nw 1 (by decide)), if_neg (show ¬ w = (2 : Int32) from nw 2 (by decide)), if_neg (show ¬ w = (3 : Int32) from nw 3 (by decide)), if_neg (show ¬ w = (4 : Int32) from nw 4 (by decide)), if_neg (show ¬ w = (5 : Int32) from nw 5 (by decide)), if_neg (show ¬ w = (6 : Int32) from nw 6 (by decide)), if_neg (show ¬ w = (7 : Int32) from nw 7 (by decide)), if_neg (show ¬ w = (8 : Int32) from nw 8 (by decide)), if_neg (show ¬ w = (9 : Int32) from nw 9 (by decide)), if_neg (show ¬ w = (10 : Int32) from nw 10 (by decide)), within_m, so_b]
    simp only [ic_0]
    rw [ic_f g]
    exact ref_same h (Or.inl rfl)
