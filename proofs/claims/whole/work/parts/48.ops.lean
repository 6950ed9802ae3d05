/-! what is told in: the folder's worker, the reference's parts -/
theorem within_c (a lo hi : Int32) (M : Mm) : fX6_isWithin a lo hi M = some (ic (lo ≤ a ∧ a ≤ hi) 1 0, M) := by
  unfold fX6_isWithin
  by_cases h1 : lo ≤ a
  · rw [if_neg (fun h => (le_nlt _ _).mp h h1)]
    by_cases h2 : a ≤ hi
    · rw [if_neg (fun h => (le_nlt _ _).mp h h2), ic_t ⟨h1, h2⟩]
    · rw [if_pos ((le_nlt _ _).mpr h2), ic_f (fun h => h2 h.2)]
  · rw [if_pos ((le_nlt _ _).mpr h1), ic_f (fun h => h1 h.1)]
theorem within_m (a lo hi : Int32) (M : Mm) : fX7_within a lo hi M = some (ic (lo ≤ a ∧ a ≤ hi) 1 0, M) := within_c a lo hi M
theorem rng {x : Int32} {a b : Nat} (ha : a < 2 ^ 31) (hb : b < 2 ^ 31) (h : nI a ≤ x ∧ x ≤ nI b) : ∃ v, a ≤ v ∧ v ≤ b ∧ x = nI v := by
  have h0 : ¬ x < 0 := by
    intro q
    have h1 := tI_le.mp h.1
    have h2 := tI_lt.mp q
    rw [nI_tI ha] at h1
    rw [show (0 : Int32).toInt = 0 by decide] at h2
    omega
  obtain ⟨v, h1, h2⟩ := nI_of2 (n := b) (nI_tI hb) h0 h.2
  refine ⟨v, ?_, h1, h2⟩
  rw [h2] at h
  exact (nI_leI ha (by omega)).mp h.1
theorem rng_i {v a b : Nat} (hb : b < 2 ^ 31) (h1 : a ≤ v) (h2 : v ≤ b) : nI a ≤ nI v ∧ nI v ≤ nI b := ⟨nI_le h1 (by omega), nI_le h2 hb⟩
/-- hasBend, isBend -/
theorem bend_rng {x : Int32} {n : Nat} (hn : n ≤ 6) : (0 ≤ x ∧ x ≤ nI n - 1) ↔ ∃ b, b < n ∧ x = nI b := by
  constructor
  · intro h
    cases n with
    | zero =>
      rw [show nI 0 - (1 : Int32) = -1 by decide] at h
      have h1 := tI_le.mp h.1
      have h2 := tI_le.mp h.2
      rw [show (-1 : Int32).toInt = -1 by decide] at h2
      rw [show (0 : Int32).toInt = 0 by decide] at h1
      omega
    | succ n =>
      rw [nI_pred] at h
      obtain ⟨v, h1, h2, h3⟩ := rng (a := 0) (b := n) (by omega) (by omega) h
      exact ⟨v, by omega, h3⟩
  · rintro ⟨b, h1, rfl⟩
    cases n with
    | zero => omega
    | succ n =>
      rw [nI_pred]
      exact rng_i (a := 0) (by omega) (Nat.zero_le _) (by omega)
theorem hasBend_ok {r : Nat → Int32} {n : Nat} (hw : WfR r n) {M : Mm} (hS : Shk M 1 r) (x : Int32) : fX4_hasBend x M = some (ic (∃ b, b < n ∧ x = nI b) 1 0, M) := by
  have hn := hw.1
  unfold fX4_hasBend
  rw [hS.1, hw.2.1]
  by_cases g : ∃ b, b < n ∧ x = nI b
  · rw [ic_t g]
    obtain ⟨b, h1, rfl⟩ := g
    rw [if_neg (nI_pos (by omega)), if_neg (nI_ge h1 (by omega))]
  · rw [ic_f g]
    by_cases h1 : x < 0
    · rw [if_pos h1]
    · rw [if_neg h1]
      by_cases h2 : nI n ≤ x
      · rw [if_pos h2]
      · exfalso
        obtain ⟨j, hj, e⟩ := nI_of h1
        subst e
        have : j < n := by
          rcases Nat.lt_or_ge j n with q | q
          · exact q
          · exact absurd (nI_le q hj) h2
        exact g ⟨j, this, rfl⟩
theorem ckZ_ic {p : Prop} : ckZ (ic p 1 0) = some (ic p 1 0) := by
  unfold ckZ
  by_cases h : p
  · rw [ic_t h, if_pos (Or.inr rfl)]
  · rw [ic_f h, if_pos (Or.inl rfl)]
theorem isBend_ok {r : Nat → Int32} {n : Nat} (hw : WfR r n) {N : Mm} (hS : Nwk N r) (x : Int32) : fX7_isBend x N = some (ic (∃ b, b < n ∧ x = nI b) 1 0, N) := by
  unfold fX7_isBend
  rw [rd_b (x := 0) 0 rfl (by omega) (by omega), hS 0 (by omega), hw.2.1, within_m, so_b]
  simp only []
  rw [ic_c (bend_rng hw.1), ckZ_ic, so_b]
theorem isMade_ok {r : Nat → Int32} {n m : Nat} {M : Mm} (hS : Shk M 1 r) (hm : m < 64) (hr : r 20 = nI m) {b : Nat} (hb : b < 6) : fX4_isMade (nI b) M = some (ic (bt m b = true) 1 0, M) := by
  unfold fX4_isMade
  rw [hS.2.2.2.2.1, hr]
  by_cases g : bt m b = true
  · rw [if_pos ((bt_iff hm (by omega)).mpr g), ic_t g]
  · rw [if_neg (fun h => g ((bt_iff hm (by omega)).mp h)), ic_f g]
theorem has_b {m b : Nat} (hm : m < 64) (hb : b < 6) (M : Mm) : fX7_has (nI m) (nI b) M = some (ic (bt m b = true) 1 0, M) := by
  rw [has_ok]
  by_cases g : bt m b = true
  · rw [if_pos ((bt_iff hm (by omega)).mpr g), ic_t g]
  · rw [if_neg (fun h => g ((bt_iff hm (by omega)).mp h)), ic_f g]
def rStrip (r : Nat → Int32) (l : Int32) : Nat → Int32 := upd (upd (upd r 0 0) 20 0) 1 l
def rBend (r : Nat → Int32) (n : Nat) (l w t : Int32) : Nat → Int32 := upd (upd (upd (upd r (2 + n) l) (8 + n) w) (14 + n) t) 0 (nI (n + 1))
def rPress (r : Nat → Int32) (w h : Int32) : Nat → Int32 := upd (upd r 21 w) 22 h
def rTake (r : Nat → Int32) (t : Nat) (v : Int32) : Nat → Int32 := upd r (23 + t) v
def rMade (r : Nat → Int32) (m : Nat) : Nat → Int32 := upd r 20 (nI m)
theorem wf_strip {r : Nat → Int32} {n v : Nat} (hw : WfR r n) (h1 : 1 ≤ v) (h2 : v ≤ 20) : WfR (rStrip r (nI v)) 0 := by
  refine ⟨by decide, by simp [rStrip, upd]; rfl, fun k hk => ⟨v, h1, h2, ?_⟩, fun k hk => absurd hk (Nat.not_lt_zero _), fun k hk => absurd hk (Nat.not_lt_zero _), ⟨0, by decide, by simp [rStrip, upd]; rfl⟩, ?_, ?_⟩
  · have : k = 0 := by omega
    subst this
    simp [rStrip, upd]
  · obtain ⟨w, a, b⟩ := hw.2.2.2.2.2.2.1
    exact ⟨w, a, by simp [rStrip, upd, b]⟩
  · obtain ⟨w, a, b⟩ := hw.2.2.2.2.2.2.2
    exact ⟨w, a, by simp [rStrip, upd, b]⟩
theorem wf_bend {r : Nat → Int32} {n v t : Nat} {w : Int32} (hw : WfR r n) (hn6 : n < 6) (h1 : 1 ≤ v) (h2 : v ≤ 20) (hway : w = 1 ∨ w = -1) (ht : t ≤ 2) : WfR (rBend r n (nI v) w (nI t)) (n + 1) := by
  refine ⟨by omega, by simp [rBend, upd], fun k hk => ?_, fun k hk => ?_, fun k hk => ?_, ?_, ?_, ?_⟩
  · by_cases e : k = n + 1
    · refine ⟨v, h1, h2, ?_⟩
      simp [rBend, upd, e, show 1 + (n + 1) = 2 + n by omega, show ¬ (2 + n = 14 + n) by omega, show ¬ (2 + n = 8 + n) by omega]
    · obtain ⟨u, a, b, c⟩ := hw.2.2.1 k (by omega)
      refine ⟨u, a, b, ?_⟩
      simp [rBend, upd, c, show ¬ (1 + k = 14 + n) by omega, show ¬ (1 + k = 8 + n) by omega, show ¬ (1 + k = 2 + n) by omega]
  · by_cases e : k = n
    · subst e
      simpa [rBend, upd, show ¬ (8 + k = 14 + k) by omega] using hway
    · have := hw.2.2.2.1 k (by omega)
      simpa [rBend, upd, e, show ¬ (8 + k = 14 + n) by omega, show ¬ (8 + k = 8 + n) by omega, show ¬ (8 + k = 2 + n) by omega] using this
  · by_cases e : k = n
    · subst e
      exact ⟨t, by omega, by simp [rBend, upd]⟩
    · obtain ⟨u, a, b⟩ := hw.2.2.2.2.1 k (by omega)
      exact ⟨u, a, by simp [rBend, upd, b, e, show ¬ (14 + k = 14 + n) by omega, show ¬ (14 + k = 8 + n) by omega, show ¬ (14 + k = 2 + n) by omega]⟩
  · obtain ⟨m, a, b⟩ := hw.2.2.2.2.2.1
    exact ⟨m, Nat.lt_of_lt_of_le a (Nat.pow_le_pow_right (by decide) (by omega)), by simp [rBend, upd, b, show ¬ (20 = 14 + n) by omega, show ¬ (20 = 8 + n) by omega, show ¬ (20 = 2 + n) by omega]⟩
  · obtain ⟨m, a, b⟩ := hw.2.2.2.2.2.2.1
    exact ⟨m, a, by simp [rBend, upd, b, show ¬ (21 = 14 + n) by omega, show ¬ (21 = 8 + n) by omega, show ¬ (21 = 2 + n) by omega]⟩
  · obtain ⟨m, a, b⟩ := hw.2.2.2.2.2.2.2
    exact ⟨m, a, by simp [rBend, upd, b, show ¬ (22 = 14 + n) by omega, show ¬ (22 = 8 + n) by omega, show ¬ (22 = 2 + n) by omega]⟩
theorem wf_press {r : Nat → Int32} {n a b : Nat} (hw : WfR r n) (ha : a ≤ 20) (hb : b ≤ 40) : WfR (rPress r (nI a) (nI b)) n := by
  obtain ⟨h1, h2, h3, h4, h5, h6, h7, h8⟩ := hw
  refine ⟨h1, by simpa [rPress, upd] using h2, fun k hk => ?_, fun k hk => ?_, fun k hk => ?_, by simpa [rPress, upd] using h6, ⟨a, ha, by simp [rPress, upd]⟩, ⟨b, hb, by simp [rPress, upd]⟩⟩
  · have := h3 k hk
    simpa [rPress, upd, show ¬ (1 + k = 22) by omega, show ¬ (1 + k = 21) by omega] using this
  · have := h4 k hk
    simpa [rPress, upd, show ¬ (8 + k = 22) by omega, show ¬ (8 + k = 21) by omega] using this
  · have := h5 k hk
    simpa [rPress, upd, show ¬ (14 + k = 22) by omega, show ¬ (14 + k = 21) by omega] using this
theorem wf_take {r : Nat → Int32} {n t : Nat} {v : Int32} (hw : WfR r n) : WfR (rTake r t v) n := by
  obtain ⟨h1, h2, h3, h4, h5, h6, h7, h8⟩ := hw
  refine ⟨h1, ?_, fun k hk => ?_, fun k hk => ?_, fun k hk => ?_, ?_, ?_, ?_⟩
  · simpa [rTake, upd, show ¬ (0 = 23 + t) by omega] using h2
  · have := h3 k hk
    simpa [rTake, upd, show ¬ (1 + k = 23 + t) by omega] using this
  · have := h4 k hk
    simpa [rTake, upd, show ¬ (8 + k = 23 + t) by omega] using this
  · have := h5 k hk
    simpa [rTake, upd, show ¬ (14 + k = 23 + t) by omega] using this
  · simpa [rTake, upd, show ¬ (20 = 23 + t) by omega] using h6
  · simpa [rTake, upd, show ¬ (21 = 23 + t) by omega] using h7
  · simpa [rTake, upd, show ¬ (22 = 23 + t) by omega] using h8
theorem wf_made {r : Nat → Int32} {n m : Nat} (hw : WfR r n) (hm : m < 2 ^ n) : WfR (rMade r m) n := by
  obtain ⟨h1, h2, h3, h4, h5, h6, h7, h8⟩ := hw
  refine ⟨h1, by simpa [rMade, upd] using h2, fun k hk => ?_, fun k hk => ?_, fun k hk => ?_, ⟨m, hm, by simp [rMade, upd]⟩, by simpa [rMade, upd] using h7, by simpa [rMade, upd] using h8⟩
  · have := h3 k hk
    simpa [rMade, upd, show ¬ (1 + k = 20) by omega] using this
  · have := h4 k hk
    simpa [rMade, upd, show ¬ (8 + k = 20) by omega] using this
  · have := h5 k hk
    simpa [rMade, upd, show ¬ (14 + k = 20) by omega] using this
theorem ag_made (r : Nat → Int32) (m : Nat) : Agr r (rMade r m) := fun j _ h => by simp [rMade, upd, h]
theorem ag_take (r : Nat → Int32) (t : Nat) (v : Int32) : Agr r (rTake r t v) := fun j h _ => by simp [rTake, upd, show ¬ (j = 23 + t) by omega]
theorem forget_ok {M : Mm} {r : Nat → Int32} {n : Nat} (hS : Shk M 1 r) (h0 : M.1 7 0 = 0 ∧ M.1 8 0 = 0) (hn : n ≤ 6) : ∃ M', fX1_forget M = some ((), M') ∧ Oth M M' [10, 11, 12] ∧ PI M' r n := by
  unfold fX1_forget
  obtain ⟨M1, e1, o1, f1⟩ := fill_ok (k := 11) (n := 64) (by decide) (-1) M
  rw [e1, so_b]
  obtain ⟨M2, e2, o2, f2⟩ := fill_ok (k := 12) (n := 64) (by decide) (-1) M1
  simp only []
  rw [e2, so_b, lt_e]
  have o3 : Oth M (stI M2 10 6 0) [10, 11, 12] := ((o1.mono (by decide)).trans (o2.mono (by decide))).put (by decide)
  refine ⟨_, rfl, o3, ⟨hS.oth o3 (by decide), by rw [o3.2 7 (by decide), o3.2 8 (by decide)]; exact h0, fun m hm => Or.inl ?_, fun m hm => Or.inl ?_⟩, Or.inl ?_⟩
  · rw [stI_c _ _ _ _ _ (by decide)]; exact f2 m hm
  · rw [stI_c _ _ _ _ _ (by decide), o2.2 11 (by decide)]; exact f1 m (pw_le hn hm)
  · rw [stI_1, if_pos rfl, if_pos rfl]
def wk : List Nat := [1, 2, 3, 4, 5, 6, 7, 8, 9, 10, 11, 12, 13, 14, 15, 16]
theorem newStrip_f {l : Int32} (h : ¬ ((1 : Int32) ≤ l ∧ l ≤ 20)) (M : Mm) : fX5_newStrip l M = some (-1001, M) := by
  unfold fX5_newStrip
  rw [within_c, so_b]
  simp only [ic_0]
  rw [ic_f h]
theorem newStrip_t {r : Nat → Int32} {n : Nat} (hw : WfR r n) {M : Mm} (hp : PI M r n) {l : Int32} (h : (1 : Int32) ≤ l ∧ l ≤ 20) : ∃ M', fX5_newStrip l M = some (nI (n + 1), M') ∧ Oth M M' wk ∧ PI M' (rStrip r l) 0 := by
  unfold fX5_newStrip
  rw [within_c, so_b]
  simp only [ic_0]
  rw [ic_t h, lt_e, wr_b (x := 0) 0 rfl (by decide) (by decide), lt_e, lt_e, hp.1.1.1, hw.2.1, nI_n1]
  have o1 : Oth M (stI (stI (stI M 2 0 l) 1 4 0) 1 5 0) wk := (((Oth.refl M _).put (by decide)).put (by decide)).put (by decide)
  obtain ⟨a0, a1, a2, a3, a4, a5, a6, a7⟩ := hp.1.1
  have hS : Shk (stI (stI (stI M 2 0 l) 1 4 0) 1 5 0) 1 (rStrip r l) := by
    refine ⟨by simp [stI_1, rStrip, upd], fun j hj => ?_, fun j hj => ?_, fun j hj => ?_, by simp [stI_1, rStrip, upd], by simp [stI_1, rStrip, upd, a5], by simp [stI_1, rStrip, upd, a6], fun j hj => ?_⟩
    · by_cases e : j = 0
      · subst e; simp [stI_1, rStrip, upd]
      · have := a1 j hj
        simp [stI_1, rStrip, upd, e, this, show ¬ (1 + j = 20) by omega, show ¬ (1 + j = 1) by omega]
    · have := a2 j hj
      simp [stI_1, rStrip, upd, this, show ¬ (8 + j = 20) by omega, show ¬ (8 + j = 1) by omega]
    · have := a3 j hj
      simp [stI_1, rStrip, upd, this, show ¬ (14 + j = 20) by omega, show ¬ (14 + j = 1) by omega]
    · have := a7 j hj
      simp [stI_1, rStrip, upd, this, show ¬ (23 + j = 20) by omega, show ¬ (23 + j = 1) by omega]
  obtain ⟨M2, e2, o2, p2⟩ := forget_ok (n := 0) hS (by rw [stI_c _ _ _ _ _ (by decide), stI_c _ _ _ _ _ (by decide), stI_c _ _ _ _ _ (by decide), stI_c _ _ _ _ _ (by decide), stI_c _ _ _ _ _ (by decide), stI_c _ _ _ _ _ (by decide)]; exact hp.1.2.1) (by decide)
  rw [e2, so_b]
  exact ⟨M2, rfl, o1.trans (o2.mono (by decide)), p2⟩
theorem strips_ok {r : Nat → Int32} {n : Nat} (hw : WfR r n) {N : Mm} (hN : Nwk N r) (l : Int32) : ∃ N', fX7_strips l N = some (nI (n + 1), N') ∧ Oth N N' [55] ∧ Nwk N' (rStrip r l) := by
  unfold fX7_strips
  rw [rd_b (x := 0) 0 rfl (by decide) (by decide), lt_e, wr_b (x := 0) 0 rfl (by decide) (by decide), wr_b (x := 20) 20 rfl (by decide) (by decide), wr_b (x := 1) 1 rfl (by decide) (by decide), hN 0 (by decide), hw.2.1, nI_n1]
  refine ⟨_, rfl, (((Oth.refl N _).put (by decide)).put (by decide)).put (by decide), fun j hj => ?_⟩
  rw [stI_1, if_pos rfl, stI_1, if_pos rfl, stI_1, if_pos rfl, hN j hj]
  rfl
theorem bw_ok {w : Int32} : (w = 1 ∨ w = -1) ↔ ¬ (¬ w = 1 ∧ ¬ w = -1) := by
  constructor
  · rintro (h | h) ⟨a, b⟩
    · exact a h
    · exact b h
  · intro h
    by_cases a : w = 1
    · exact Or.inl a
    · by_cases b : w = -1
      · exact Or.inr b
      · exact absurd ⟨a, b⟩ h
def mayB (l w t : Int32) : Prop := ((1 : Int32) ≤ l ∧ l ≤ 20) ∧ (w = 1 ∨ w = -1) ∧ ((0 : Int32) ≤ t ∧ t ≤ 2)
theorem mayBend_ok (l w t : Int32) (N : Mm) : fX7_mayBend l w t N = some (ic (mayB l w t) 1 0, N) := by
  unfold fX7_mayBend
  rw [within_m, so_b, jn_e]
  simp only [within_m, so_b, ic_0]
  by_cases h1 : (1 : Int32) ≤ l ∧ l ≤ 20
  · rw [ic_t h1]
    by_cases h3 : (0 : Int32) ≤ t ∧ t ≤ 2
    · rw [ic_t h3]
      by_cases a : w = 1
      · rw [if_pos a, ic_t ⟨h1, Or.inl a, h3⟩]
      · rw [if_neg a]
        by_cases b : w = -1
        · rw [if_pos b, ic_t ⟨h1, Or.inr b, h3⟩]
        · rw [if_neg b, ic_f (fun h => h.2.1.elim a b)]
    · rw [ic_f h3, ic_f (fun h => h3 h.2.2)]
      by_cases a : w = 1
      · rw [if_pos a]
      · rw [if_neg a]
        by_cases b : w = -1
        · rw [if_pos b]
        · rw [if_neg b]
  · rw [ic_f h1, ic_f (fun h => h1 h.1)]
theorem addBend_f {l w t : Int32} (h : ¬ mayB l w t) (M : Mm) : fX5_addBend l w t M = some (-1001, M) := by
  unfold fX5_addBend
  rw [jn_e, jn_e]
  simp only [within_c, so_b, ic_0, if_true, if_neg z10]
  by_cases h1 : (1 : Int32) ≤ l ∧ l ≤ 20
  · rw [ic_t h1, ic_t h1]
    by_cases h3 : (0 : Int32) ≤ t ∧ t ≤ 2
    · have hnw : ¬ (w = 1 ∨ w = -1) := fun q => h ⟨h1, q, h3⟩
      rw [if_neg (fun q => hnw (Or.inl q)), if_neg (fun q => hnw (Or.inr q))]
    · rw [ic_f h3]
      by_cases a : w = 1
      · rw [if_pos a]
      · rw [if_neg a]
        by_cases b : w = -1
        · rw [if_pos b]
        · rw [if_neg b]
  · rw [ic_f h1, ic_f h1]
    by_cases a : w = 1
    · rw [if_pos a]
    · rw [if_neg a]
      by_cases b : w = -1
      · rw [if_pos b]
      · rw [if_neg b]
