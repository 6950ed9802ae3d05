theorem addBend_full {r : Nat → Int32} {n : Nat} (hw : WfR r n) {M : Mm} (hS : Shk M 1 r) {l w t : Int32} (h : mayB l w t) (hn : n = 6) : fX5_addBend l w t M = some (-1003, M) := by
  unfold fX5_addBend
  rw [jn_e, jn_e]
  simp only [within_c, so_b, ic_0, if_true, if_neg z10]
  rw [ic_t h.1, ic_t h.1, ic_t h.2.2, lt_e, hS.1, hw.2.1, hn, if_neg (show ¬ nI 6 < (6 : Int32) from by decide)]
  rcases h.2.1 with a | a
  · rw [if_pos a]
  · rw [if_neg (by rw [a]; decide), if_pos a]
theorem addBend_t {r : Nat → Int32} {n : Nat} (hw : WfR r n) {M : Mm} (hp : PI M r n) {l w t : Int32} (h : mayB l w t) (hn : n < 6) : ∃ M', fX5_addBend l w t M = some (nI n, M') ∧ Oth M M' wk ∧ PI M' (rBend r n l w t) (n + 1) := by
  have c6 : nI n < (6 : Int32) := by rw [show (6 : Int32) = nI 6 from rfl]; exact nI_lt hn (by omega)
  obtain ⟨a0, a1, a2, a3, a4, a5, a6, a7⟩ := hp.1.1
  have o1 : Oth M (stI (stI (stI (stI M 3 n w) 4 n t) 2 (n + 1) l) 1 4 (nI (n + 1))) wk := ((((Oth.refl M _).put (by decide)).put (by decide)).put (by decide)).put (by decide)
  have hS : Shk (stI (stI (stI (stI M 3 n w) 4 n t) 2 (n + 1) l) 1 4 (nI (n + 1))) 1 (rBend r n l w t) := by
    refine ⟨by simp [stI_1, rBend, upd], fun j hj => ?_, fun j hj => ?_, fun j hj => ?_, ?_, ?_, ?_, fun j hj => ?_⟩
    · by_cases e : j = n + 1
      · subst e
        simp [stI_1, rBend, upd, show 1 + (n + 1) = 2 + n by omega, show ¬ (2 + n = 14 + n) by omega, show ¬ (2 + n = 8 + n) by omega]
      · have := a1 j hj
        simp [stI_1, rBend, upd, e, this, show ¬ (1 + j = 14 + n) by omega, show ¬ (1 + j = 8 + n) by omega, show ¬ (1 + j = 2 + n) by omega]
    · by_cases e : j = n
      · subst e
        simp [stI_1, rBend, upd, show ¬ (8 + j = 14 + j) by omega]
      · have := a2 j hj
        simp [stI_1, rBend, upd, e, this, show ¬ (8 + j = 14 + n) by omega, show ¬ (8 + j = 8 + n) by omega, show ¬ (8 + j = 2 + n) by omega]
    · by_cases e : j = n
      · subst e
        simp [stI_1, rBend, upd]
      · have := a3 j hj
        simp [stI_1, rBend, upd, e, this, show ¬ (14 + j = 14 + n) by omega, show ¬ (14 + j = 8 + n) by omega, show ¬ (14 + j = 2 + n) by omega]
    · simp [stI_1, rBend, upd, a4, show ¬ (20 = 14 + n) by omega, show ¬ (20 = 8 + n) by omega, show ¬ (20 = 2 + n) by omega]
    · simp [stI_1, rBend, upd, a5, show ¬ (21 = 14 + n) by omega, show ¬ (21 = 8 + n) by omega, show ¬ (21 = 2 + n) by omega]
    · simp [stI_1, rBend, upd, a6, show ¬ (22 = 14 + n) by omega, show ¬ (22 = 8 + n) by omega, show ¬ (22 = 2 + n) by omega]
    · have := a7 j hj
      simp [stI_1, rBend, upd, this, show ¬ (23 + j = 14 + n) by omega, show ¬ (23 + j = 8 + n) by omega, show ¬ (23 + j = 2 + n) by omega]
  obtain ⟨M2, e2, o2, p2⟩ := forget_ok (n := n + 1) hS (by rw [stI_c _ _ _ _ _ (by decide), stI_c _ _ _ _ _ (by decide), stI_c _ _ _ _ _ (by decide), stI_c _ _ _ _ _ (by decide), stI_c _ _ _ _ _ (by decide), stI_c _ _ _ _ _ (by decide), stI_c _ _ _ _ _ (by decide), stI_c _ _ _ _ _ (by decide)]; exact hp.1.2.1) (by omega)
  refine ⟨M2, ?_, o1.trans (o2.mono (by decide)), p2⟩
  unfold fX5_addBend
  rw [jn_e, jn_e]
  simp only [within_c, so_b, ic_0, if_true, if_neg z10]
  rw [ic_t h.1, ic_t h.1, ic_t h.2.2, lt_e, a0, hw.2.1, if_pos c6, wr_b n rfl (by omega) (by omega), wr_b n rfl (by omega) (by omega), wr_b (n + 1) (nI_n1 n) (by omega) (by omega), lt_e, nI_n1, e2, so_b]
  rcases h.2.1 with a | a
  · rw [if_pos a]
  · rw [if_neg (by rw [a]; decide), if_pos a]
theorem adds_ok {r : Nat → Int32} {n : Nat} (hw : WfR r n) {N : Mm} (hN : Nwk N r) (l w t : Int32) (hn : n < 6) : ∃ N', fX7_adds l w t N = some (nI n, N') ∧ Oth N N' [55] ∧ Nwk N' (rBend r n l w t) := by
  unfold fX7_adds
  rw [rd_b (x := 0) 0 rfl (by decide) (by decide), hN 0 (by decide), hw.2.1, wr_b (x := 1 + nI n + 1) (2 + n) (by rw [show (1 : Int32) + nI n = nI (1 + n) from nI_add 1 n, nI_n1]; congr 1; omega) (by omega) (by decide), wr_b (x := 8 + nI n) (8 + n) (nI_add 8 n) (by omega) (by decide), wr_b (x := 14 + nI n) (14 + n) (nI_add 14 n) (by omega) (by decide), rd_b (x := 0) 0 rfl (by decide) (by decide), wr_b (x := 0) 0 rfl (by decide) (by decide)]
  refine ⟨_, rfl, ((((Oth.refl N _).put (by decide)).put (by decide)).put (by decide)).put (by decide), fun j hj => ?_⟩
  have v0 : (stI (stI (stI N 55 (2 + n) l) 55 (8 + n) w) 55 (14 + n) t).1 55 0 = nI n := by
    rw [stI_1, if_pos rfl, if_neg (by omega), stI_1, if_pos rfl, if_neg (by omega), stI_1, if_pos rfl, if_neg (by omega), hN 0 (by decide)]
    exact hw.2.1
  rw [v0, nI_n1, stI_1, if_pos rfl, stI_1, if_pos rfl, stI_1, if_pos rfl, stI_1, if_pos rfl, hN j hj]
  rfl
def mayP (w h : Int32) : Prop := ((0 : Int32) ≤ w ∧ w ≤ 20) ∧ ((0 : Int32) ≤ h ∧ h ≤ 40)
theorem mayPress_ok (w h : Int32) (N : Mm) : fX7_mayPress w h N = some (ic (mayP w h) 1 0, N) := by
  unfold fX7_mayPress
  simp only [within_m, so_b, ic_0]
  by_cases h1 : (0 : Int32) ≤ w ∧ w ≤ 20
  · rw [ic_t h1]
    by_cases h2 : (0 : Int32) ≤ h ∧ h ≤ 40
    · rw [ic_t h2, ic_t ⟨h1, h2⟩]
    · rw [ic_f h2, ic_f (fun q => h2 q.2)]
  · rw [ic_f h1, ic_f (fun q => h1 q.1)]
theorem setPress_f {w h : Int32} (hp : ¬ mayP w h) (M : Mm) : fX5_setPress w h M = some (-1001, M) := by
  unfold fX5_setPress
  simp only [within_c, so_b, ic_0]
  by_cases h1 : (0 : Int32) ≤ w ∧ w ≤ 20
  · rw [ic_t h1, ic_f (fun q => hp ⟨h1, q⟩)]
  · rw [ic_f h1]
theorem setPress_t {r : Nat → Int32} {n : Nat} (hw : WfR r n) {M : Mm} (hp : PI M r n) {w h : Int32} (hm : mayP w h) : ∃ M', fX5_setPress w h M = some (100 * r 21 + r 22, M') ∧ Oth M M' wk ∧ PI M' (rPress r w h) n := by
  obtain ⟨a0, a1, a2, a3, a4, a5, a6, a7⟩ := hp.1.1
  have o1 : Oth M (stI (stI M 1 6 w) 1 7 h) wk := ((Oth.refl M _).put (by decide)).put (by decide)
  have hS : Shk (stI (stI M 1 6 w) 1 7 h) 1 (rPress r w h) := by
    refine ⟨by simp [stI_1, rPress, upd, a0], fun j hj => ?_, fun j hj => ?_, fun j hj => ?_, by simp [stI_1, rPress, upd, a4], by simp [stI_1, rPress, upd], by simp [stI_1, rPress, upd], fun j hj => ?_⟩
    · have := a1 j hj
      simp [stI_1, rPress, upd, this, show ¬ (1 + j = 22) by omega, show ¬ (1 + j = 21) by omega]
    · have := a2 j hj
      simp [stI_1, rPress, upd, this, show ¬ (8 + j = 22) by omega, show ¬ (8 + j = 21) by omega]
    · have := a3 j hj
      simp [stI_1, rPress, upd, this, show ¬ (14 + j = 22) by omega, show ¬ (14 + j = 21) by omega]
    · have := a7 j hj
      simp [stI_1, rPress, upd, this, show ¬ (23 + j = 22) by omega, show ¬ (23 + j = 21) by omega]
  obtain ⟨M2, e2, o2, p2⟩ := forget_ok (n := n) hS (by rw [stI_c _ _ _ _ _ (by decide), stI_c _ _ _ _ _ (by decide), stI_c _ _ _ _ _ (by decide), stI_c _ _ _ _ _ (by decide)]; exact hp.1.2.1) hw.1
  refine ⟨M2, ?_, o1.trans (o2.mono (by decide)), p2⟩
  unfold fX5_setPress
  simp only [within_c, so_b, ic_0]
  rw [ic_t hm.1, ic_t hm.2, lt_e, lt_e, lt_e, e2, so_b, a5, a6]
theorem presses_ok {r : Nat → Int32} {N : Mm} (hN : Nwk N r) (w h : Int32) : ∃ N', fX7_presses w h N = some (100 * r 21 + r 22, N') ∧ Oth N N' [55] ∧ Nwk N' (rPress r w h) := by
  unfold fX7_presses
  rw [rd_b (x := 21) 21 rfl (by decide) (by decide), rd_b (x := 22) 22 rfl (by decide) (by decide), lt_e, wr_b (x := 21) 21 rfl (by decide) (by decide), wr_b (x := 22) 22 rfl (by decide) (by decide), hN 21 (by decide), hN 22 (by decide)]
  refine ⟨_, rfl, ((Oth.refl N _).put (by decide)).put (by decide), fun j hj => ?_⟩
  rw [stI_1, if_pos rfl, stI_1, if_pos rfl, hN j hj]
  rfl
def mayT (t v : Int32) : Prop := ((0 : Int32) ≤ t ∧ t ≤ 2) ∧ ((0 : Int32) ≤ v ∧ v ≤ 99)
theorem mayTake_ok (t v : Int32) (N : Mm) : fX7_mayTake t v N = some (ic (mayT t v) 1 0, N) := by
  unfold fX7_mayTake
  simp only [within_m, so_b, ic_0]
  by_cases h1 : (0 : Int32) ≤ t ∧ t ≤ 2
  · rw [ic_t h1]
    by_cases h2 : (0 : Int32) ≤ v ∧ v ≤ 99
    · rw [ic_t h2, ic_t ⟨h1, h2⟩]
    · rw [ic_f h2, ic_f (fun q => h2 q.2)]
  · rw [ic_f h1, ic_f (fun q => h1 q.1)]
theorem setTaken_f {t v : Int32} (hp : ¬ mayT t v) (M : Mm) : fX5_setTaken t v M = some (-1001, M) := by
  unfold fX5_setTaken
  simp only [within_c, so_b, ic_0]
  by_cases h1 : (0 : Int32) ≤ t ∧ t ≤ 2
  · rw [ic_t h1, ic_f (fun q => hp ⟨h1, q⟩)]
  · rw [ic_f h1]
theorem setTaken_t {r : Nat → Int32} {n : Nat} (hw : WfR r n) {M : Mm} (hp : PI M r n) {t : Nat} {v : Int32} (ht : t < 3) (hv : (0 : Int32) ≤ v ∧ v ≤ 99) : ∃ M', fX5_setTaken (nI t) v M = some (r (23 + t), M') ∧ Oth M M' wk ∧ PI M' (rTake r t v) n := by
  obtain ⟨a0, a1, a2, a3, a4, a5, a6, a7⟩ := hp.1.1
  have o1 : Oth M (stI M 5 t v) wk := (Oth.refl M _).put (by decide)
  have hS : Shk (stI M 5 t v) 1 (rTake r t v) := by
    refine ⟨by simp [stI_1, rTake, upd, a0, show ¬ (0 = 23 + t) by omega], fun j hj => ?_, fun j hj => ?_, fun j hj => ?_, by simp [stI_1, rTake, upd, a4, show ¬ (20 = 23 + t) by omega], by simp [stI_1, rTake, upd, a5, show ¬ (21 = 23 + t) by omega], by simp [stI_1, rTake, upd, a6, show ¬ (22 = 23 + t) by omega], fun j hj => ?_⟩
    · have := a1 j hj
      simp [stI_1, rTake, upd, this, show ¬ (1 + j = 23 + t) by omega]
    · have := a2 j hj
      simp [stI_1, rTake, upd, this, show ¬ (8 + j = 23 + t) by omega]
    · have := a3 j hj
      simp [stI_1, rTake, upd, this, show ¬ (14 + j = 23 + t) by omega]
    · by_cases e : j = t
      · subst e; simp [stI_1, rTake, upd]
      · have := a7 j hj
        simp [stI_1, rTake, upd, this, e]
  refine ⟨stI M 5 t v, ?_, o1, hp.agr hw (wf_take hw) (ag_take r t v) hS (fun k h1 h2 => stI_c _ _ _ _ _ (by omega))⟩
  unfold fX5_setTaken
  simp only [within_c, so_b, ic_0]
  rw [ic_t (show (0 : Int32) ≤ nI t ∧ nI t ≤ 2 from rng_i (a := 0) (b := 2) (by decide) (Nat.zero_le _) (by omega)), ic_t hv, rd_b t rfl (by omega) (by decide), wr_b t rfl (by omega) (by decide), a7 t ht]
theorem takesNow_ok {r : Nat → Int32} {N : Mm} (hN : Nwk N r) {t : Nat} (ht : t < 3) (v : Int32) : ∃ N', fX7_takesNow (nI t) v N = some (r (23 + t), N') ∧ Oth N N' [55] ∧ Nwk N' (rTake r t v) := by
  unfold fX7_takesNow
  rw [rd_b (x := 23 + nI t) (23 + t) (nI_add 23 t) (by omega) (by decide), wr_b (x := 23 + nI t) (23 + t) (nI_add 23 t) (by omega) (by decide), hN (23 + t) (by omega)]
  refine ⟨_, rfl, (Oth.refl N _).put (by decide), fun j hj => ?_⟩
  rw [stI_1, if_pos rfl, hN j hj]
  rfl
def bcE (a0 : Int32) : Int32 := (fun x1 : Int32 => (fun x2 : Int32 => (fun x3 : Int32 => (fun x4 : Int32 => (fun x5 : Int32 => x5 &&& 63) (x4 + (ush x4 16))) (x3 + (ush x3 8))) ((x2 + (ush x2 4)) &&& 252645135)) ((x1 &&& 858993459) + ((ush x1 2) &&& 858993459))) (a0 - ((ush a0 1) &&& 1431655765))
theorem bc_eq (a : Int32) (M : Mm) : fJ6_bitCount_0f7a4 a M = some (bcE a, M) := rfl
theorem bcE_ok : ∀ m, m < 64 → bcE (nI m) = nI (pcn m) := by decide +kernel
theorem bitCount_ok {m : Nat} (hm : m < 64) (M : Mm) : fJ6_bitCount_0f7a4 (nI m) M = some (nI (pcn m), M) := by rw [bc_eq, bcE_ok m hm]
def onE (c : Int32) : Int32 := 0 + ((c >>> ((0 : Int32) &&& 31)) &&& 1) + ((c >>> (((0 : Int32) + 1) &&& 31)) &&& 1) + ((c >>> (((0 : Int32) + 1 + 1) &&& 31)) &&& 1) + ((c >>> (((0 : Int32) + 1 + 1 + 1) &&& 31)) &&& 1) + ((c >>> (((0 : Int32) + 1 + 1 + 1 + 1) &&& 31)) &&& 1) + ((c >>> (((0 : Int32) + 1 + 1 + 1 + 1 + 1) &&& 31)) &&& 1)
theorem onE_ok : ∀ m, m < 64 → onE (nI m) = nI (pcn m) := by decide +kernel
theorem ones_ok {m : Nat} (hm : m < 64) (N : Mm) : fX7_ones (nI m) N = some (nI (pcn m), N) := by
  rw [← onE_ok m hm]
  unfold fX7_ones onE
  rw [show fu = 993 + 1 + 1 + 1 + 1 + 1 + 1 + 1 from rfl, lX7_ones_4, if_neg (by decide), lt_e, lX7_ones_4, if_neg (by decide), lt_e, lX7_ones_4, if_neg (by decide), lt_e, lX7_ones_4, if_neg (by decide), lt_e, lX7_ones_4, if_neg (by decide), lt_e, lX7_ones_4, if_neg (by decide), lt_e, lX7_ones_4, if_pos (by decide)]
/-- the made ones as a number -/
theorem made_put {r : Nat → Int32} {n : Nat} (hw : WfR r n) {M : Mm} (hp : PI M r n) {m : Nat} (hm : m < 2 ^ n) : PI (stI M 1 5 (nI m)) (rMade r m) n := by
  obtain ⟨a0, a1, a2, a3, a4, a5, a6, a7⟩ := hp.1.1
  have hS : Shk (stI M 1 5 (nI m)) 1 (rMade r m) := by
    refine ⟨by simp [stI_1, rMade, upd, a0], fun j hj => ?_, fun j hj => ?_, fun j hj => ?_, by simp [stI_1, rMade, upd], by simp [stI_1, rMade, upd, a5], by simp [stI_1, rMade, upd, a6], fun j hj => ?_⟩
    · have := a1 j hj
      simp [stI_1, rMade, upd, this, show ¬ (1 + j = 20) by omega]
    · have := a2 j hj
      simp [stI_1, rMade, upd, this, show ¬ (8 + j = 20) by omega]
    · have := a3 j hj
      simp [stI_1, rMade, upd, this, show ¬ (14 + j = 20) by omega]
    · have := a7 j hj
      simp [stI_1, rMade, upd, this, show ¬ (23 + j = 20) by omega]
  exact hp.agr hw (wf_made hw hm) (ag_made r m) hS (fun k h1 h2 => stI_c _ _ _ _ _ (by omega))
theorem made_now {r : Nat → Int32} {N : Mm} (hN : Nwk N r) (m : Nat) : Nwk (stI N 55 20 (nI m)) (rMade r m) := by
  intro j hj
  rw [stI_1, if_pos rfl, hN j hj]
  rfl
theorem makeBend_bad {r : Nat → Int32} {n : Nat} (hw : WfR r n) {M : Mm} (hp : PI M r n) {x : Int32} (h : ¬ ∃ b, b < n ∧ x = nI b) : fX5_makeBend x M = some (-1001, M) := by
  unfold fX5_makeBend
  rw [hasBend_ok hw hp.1.1, so_b]
  simp only [ic_0]
  rw [ic_f h]
theorem PI.cross {M M' : Mm} {r : Nat → Int32} {n : Nat} (hp : PI M r n) (o : Oth M M' [6, 7, 8, 9, 12]) (c : CI M' r n) : PI M' r n := by
  refine ⟨c, ?_⟩
  unfold PlanOk
  rw [o.2 10 (by decide), o.2 15 (by decide), o.2 16 (by decide)]
  exact hp.2
theorem makeBend_ok {r : Nat → Int32} {n m b : Nat} (hw : WfR r n) {M : Mm} (hp : PI M r n) (hm : m < 2 ^ n) (hr : r 20 = nI m) (hb : b < n) : ∃ M', Oth M M' wk ∧ ((¬ fr r n m b ∧ fX5_makeBend (nI b) M = some (-1002, M') ∧ Oth M M' scC ∧ PI M' r n) ∨ (fr r n m b ∧ fX5_makeBend (nI b) M = some (nI (pcn (m ||| 2 ^ b)), M') ∧ PI M' (rMade r (m ||| 2 ^ b)) n)) := by
  have hn := hw.1
  have h64 := pw_le hn hm
  have hS := hp.1.1
  unfold fX5_makeBend
  rw [hasBend_ok hw hS, so_b]
  simp only [ic_0]
  rw [ic_t ⟨b, hb, rfl⟩, isMade_ok (n := n) hS h64 hr (by omega), so_b]
  simp only [ic_0]
  by_cases g : bt m b = true
  · rw [ic_t g]
    exact ⟨M, Oth.refl _ _, Or.inl ⟨(fun q => by rw [q.1] at g; exact Bool.noConfusion g), rfl, Oth.refl _ _, hp⟩⟩
  · rw [ic_f g, hS.2.2.2.2.1, hr]
    obtain ⟨M1, e1, o1, c1⟩ := hitOf_ok hw hp.1 h64 hb
    rw [e1, so_b]
    simp only []
    have p1 := hp.cross o1 c1
    by_cases q : htS r n (nI m) b = 0
    · have hfr : fr r n m b := ⟨by simpa using g, q⟩
      have h2 := or_lt' n (by omega) m hm b hb
      have e5 : M1.1 1 5 = nI m := by rw [c1.1.2.2.2.2.1]; exact hr
      rw [if_pos q, lt_e, e5, or_b m h64 b (by omega)]
      have v5 : (stI M1 1 5 (nI (m ||| 2 ^ b))).1 1 5 = nI (m ||| 2 ^ b) := by rw [stI_1, if_pos rfl, if_pos rfl]
      rw [v5, bitCount_ok (pw_le hn h2), so_b]
      exact ⟨_, (o1.mono (by decide)).put (by decide), Or.inr ⟨hfr, rfl, made_put hw p1 h2⟩⟩
    · rw [if_neg q]
      exact ⟨M1, o1.mono (by decide), Or.inl ⟨fun z => q z.2, rfl, o1.mono (by decide), p1⟩⟩
theorem unmakeBend_bad {r : Nat → Int32} {n : Nat} (hw : WfR r n) {M : Mm} (hp : PI M r n) {x : Int32} (h : ¬ ∃ b, b < n ∧ x = nI b) : fX5_unmakeBend x M = some (-1001, M) := by
  unfold fX5_unmakeBend
  rw [hasBend_ok hw hp.1.1, so_b]
  simp only [ic_0]
  rw [ic_f h]
theorem unmakeBend_ok {r : Nat → Int32} {n m b : Nat} (hw : WfR r n) {M : Mm} (hp : PI M r n) (hm : m < 2 ^ n) (hr : r 20 = nI m) (hb : b < n) : (¬ bt m b = true ∧ fX5_unmakeBend (nI b) M = some (-1002, M)) ∨ (bt m b = true ∧ ∃ M', fX5_unmakeBend (nI b) M = some (nI (pcn (m - 2 ^ b)), M') ∧ Oth M M' wk ∧ PI M' (rMade r (m - 2 ^ b)) n) := by
  have hn := hw.1
  have h64 := pw_le hn hm
  have hS := hp.1.1
  unfold fX5_unmakeBend
  rw [hasBend_ok hw hS, so_b]
  simp only [ic_0]
  rw [ic_t ⟨b, hb, rfl⟩, isMade_ok (n := n) hS h64 hr (by omega), so_b]
  simp only [ic_0]
  by_cases g : bt m b = true
  · have h2 := sub_lt n (by omega) m hm b
    rw [ic_t g, lt_e, hS.2.2.2.2.1, hr, sub_b m h64 b (by omega) g]
    have v5 : (stI M 1 5 (nI (m - 2 ^ b))).1 1 5 = nI (m - 2 ^ b) := by rw [stI_1, if_pos rfl, if_pos rfl]
    rw [v5, bitCount_ok (pw_le hn h2), so_b]
    exact Or.inr ⟨g, _, rfl, (Oth.refl M _).put (by decide), made_put hw hp h2⟩
  · rw [ic_f g]
    exact Or.inl ⟨g, rfl⟩
theorem unmakeAll_ok {r : Nat → Int32} {n m : Nat} (hw : WfR r n) {M : Mm} (hp : PI M r n) (hm : m < 2 ^ n) (hr : r 20 = nI m) : ∃ M', fX5_unmakeAll M = some (nI (pcn m), M') ∧ Oth M M' wk ∧ PI M' (rMade r 0) n := by
  have hn := hw.1
  have h64 := pw_le hn hm
  unfold fX5_unmakeAll
  rw [hp.1.1.2.2.2.2.1, hr, bitCount_ok h64, so_b, lt_e]
  exact ⟨_, rfl, (Oth.refl M _).put (by decide), made_put hw hp (Nat.pow_pos (by decide))⟩
