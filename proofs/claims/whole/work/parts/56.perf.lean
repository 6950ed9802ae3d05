/-! orders done by both -/
def dnB (v1 x4 v2 v3 v6 : Int32) (M : Mm) : Option (Int32 × Mm) := (if v6 = (98 : Int32) then (fX7_mayBend v1 x4 v3 M).bind (fun w8 => jn (fun (x9 : Int32) => (if x9 = (0 : Int32) then (ckZ x9).bind (fun r => some (r, w8.2)) else (fX7_adds v1 x4 v3 w8.2).bind (fun w11 => (ckZ x9).bind (fun r => some (r, w11.2))))) (fun K10 => jn (fun (_u : Unit) => K10 (0 : Int32)) (fun K12 => (if w8.1 = (0 : Int32) then K12 () else (rd w8.2 55 26 (0 : Int32)).bind (fun v13 => (if (6 : Int32) ≤ v13 then K12 () else K10 (1 : Int32))))))) else (if v6 = (107 : Int32) then (fX7_mayTake v1 v2 M).bind (fun w15 => (if w15.1 = (0 : Int32) then (ckZ w15.1).bind (fun r => some (r, w15.2)) else (fX7_takesNow v1 v2 w15.2).bind (fun w16 => (ckZ w15.1).bind (fun r => some (r, w16.2))))) else (if v6 = (109 : Int32) then (fX7_isBend v1 M).bind (fun w18 => jn (fun (x19 : Int32) (N20 : Mm) => (rd N20 55 26 (20 : Int32)).bind (fun v22 => (if x19 = (0 : Int32) then (wr N20 55 26 (20 : Int32) (v22 ||| (0 : Int32))).bind (fun N23 => (ckZ x19).bind (fun r => some (r, N23))) else (wr N20 55 26 (20 : Int32) (v22 ||| ((1 : Int32) <<< (v1 &&& 31)))).bind (fun N24 => (ckZ x19).bind (fun r => some (r, N24)))))) (fun K21 => jn (fun (N25 : Mm) => K21 (0 : Int32) N25) (fun K26 => (if w18.1 = (0 : Int32) then K26 w18.2 else (rd w18.2 55 26 (20 : Int32)).bind (fun v27 => (fX7_isFree v1 v27 w18.2).bind (fun w28 => (if w28.1 = (0 : Int32) then K26 w28.2 else K21 (1 : Int32) w28.2))))))) else (if v6 = (112 : Int32) then (fX7_mayPress v1 v2 M).bind (fun w30 => (if w30.1 = (0 : Int32) then (ckZ w30.1).bind (fun r => some (r, w30.2)) else (fX7_presses v1 v2 w30.2).bind (fun w31 => (ckZ w30.1).bind (fun r => some (r, w31.2))))) else (if v6 = (115 : Int32) then (fX7_within v1 (1 : Int32) (20 : Int32) M).bind (fun w33 => (if w33.1 = (0 : Int32) then (ckZ w33.1).bind (fun r => some (r, w33.2)) else (fX7_strips v1 w33.2).bind (fun w34 => (ckZ w33.1).bind (fun r => some (r, w34.2))))) else (if v6 = (117 : Int32) then (fX7_isBend v1 M).bind (fun w36 => jn (fun (x37 : Int32) (N38 : Mm) => (rd N38 55 26 (20 : Int32)).bind (fun v40 => (if x37 = (0 : Int32) then (wr N38 55 26 (20 : Int32) (v40 &&& (-1 : Int32))).bind (fun N41 => (ckZ x37).bind (fun r => some (r, N41))) else (wr N38 55 26 (20 : Int32) (v40 &&& (((1 : Int32) <<< (v1 &&& 31)) ^^^ (-1 : Int32)))).bind (fun N42 => (ckZ x37).bind (fun r => some (r, N42)))))) (fun K39 => jn (fun (N43 : Mm) => K39 (0 : Int32) N43) (fun K44 => (if w36.1 = (0 : Int32) then K44 w36.2 else (rd w36.2 55 26 (20 : Int32)).bind (fun v45 => (fX7_has v45 v1 w36.2).bind (fun w46 => (if w46.1 = (0 : Int32) then K44 w46.2 else K39 (1 : Int32) w46.2))))))) else (wr M 55 26 (20 : Int32) (0 : Int32)).bind (fun N47 => some ((1 : Int32), N47))))))))
def wy (v : Int32) : Int32 := if v = 0 then 1 else if v = 1 then -1 else 0
theorem wayOf_ok (v : Int32) (M : Mm) : fX5_wayOf v M = some (wy v, M) := by
  unfold fX5_wayOf wy
  by_cases a : v = 0
  · rw [if_pos a, if_pos a]
  · rw [if_neg a, if_neg a]
    by_cases b : v = 1
    · rw [if_pos b, if_pos b]
    · rw [if_neg b, if_neg b]
theorem ix3 (c q : Nat) : nI c * (3 : Int32) + nI q = nI (3 * c + q) := by rw [show (3 : Int32) = nI 3 from rfl, pk_mul, nI_add, Nat.mul_comm]
theorem ix3' (c q : Nat) : (3 : Int32) * nI c + nI q = nI (3 * c + q) := by rw [show (3 : Int32) = nI 3 from rfl, pk_mul, nI_add]
theorem isDone_eq {N : Mm} {i : Nat} (hi : i < 60) : fX7_isDone (nI i) N = dnB (N.1 68 (3 * i)) (wy (N.1 68 (3 * i + 1))) (N.1 68 (3 * i + 1)) (N.1 68 (3 * i + 2)) (N.1 67 i) N := by
  unfold fX7_isDone wy
  rw [rd_b (x := 3 * nI i) (3 * i) (by rw [show (3 : Int32) = nI 3 from rfl, pk_mul]) (by omega) (by decide), rd_b (x := 3 * nI i + 1) (3 * i + 1) (ix3' i 1) (by omega) (by decide), rd_b (x := 3 * nI i + 2) (3 * i + 2) (ix3' i 2) (by omega) (by decide)]
  rw [jn_e]
  by_cases a : N.1 68 (3 * i + 1) = 0
  · rw [if_pos a, if_pos a]
    exact rd_b i rfl hi (by decide)
  · rw [if_neg a, if_neg a]
    by_cases b : N.1 68 (3 * i + 1) = 1
    · rw [if_pos b, if_pos b]
      exact rd_b i rfl hi (by decide)
    · rw [if_neg b, if_neg b]
      exact rd_b i rfl hi (by decide)
theorem numOf_ok {M : Mm} {i q : Nat} (hi : i < 60) (hq : q < 3) : fX2_numberOf (nI i) (nI q) M = some (M.1 53 (3 * i + q), M) := by
  unfold fX2_numberOf
  rw [ix3, rd_b (3 * i + q) rfl (by omega) (by decide)]
theorem nbK_cases {x : Int32} {k : Nat} (h : nbK x = some k) : (x = 97 ∧ k = 0) ∨ (x = 98 ∧ k = 3) ∨ (x = 107 ∧ k = 2) ∨ (x = 109 ∧ k = 1) ∨ (x = 112 ∧ k = 2) ∨ (x = 115 ∧ k = 1) ∨ (x = 117 ∧ k = 1) := by
  unfold nbK at h
  repeat' split at h
  all_goals first | (cases h; simp_all) | cases h
def cor (M : Mm) : Prop := M.1 7 0 = 0 ∧ M.1 8 0 = 0
def wN3 : List Nat := [55, 60, 61, 62]
def PerfR (M N : Mm) (pm : Option (Int32 × Mm)) (dn : Option (Int32 × Mm)) : Prop :=
  (∃ c M' N', (c = -1001 ∨ c = -1002 ∨ c = -1003) ∧ pm = some (c, M') ∧ dn = some (0, N') ∧ Oth M M' wk ∧ OthX N N' wN3 [] ∧ cor M') ∨
  (∃ v M' N' r' n', 0 ≤ v.toInt ∧ pm = some (v, M') ∧ dn = some (1, N') ∧ Oth M M' wk ∧ OthX N N' wN3 [] ∧ Wf2 r' n' ∧ PI M' r' n' ∧ Nwk N' r')
theorem rt {o : Option (Int32 × Mm)} {v : Int32} {M : Mm} (e : o = some (v, M)) : o.bind (fun w => some (w.1, w.2)) = some (v, M) := by rw [e]; rfl
theorem ckZ0 : ckZ 0 = some 0 := by unfold ckZ; rw [if_pos (Or.inl rfl)]
theorem ckZ1 : ckZ 1 = some 1 := by unfold ckZ; rw [if_pos (Or.inr rfl)]
theorem pf_b {M N : Mm} {r : Nat → Int32} {n : Nat} (hw : Wf2 r n) (hp : PI M r n) (hN : Nwk N r) (a w b c : Int32) : PerfR M N (fX5_addBend a w c M) (dnB a w b c 98 N) := by
  have hn := hw.1.1
  unfold dnB
  rw [if_pos rfl, mayBend_ok, so_b]
  simp only [jn_e, ic_0]
  by_cases g : mayB a w c
  · rw [ic_t g, rd_b (x := 0) 0 rfl (by decide) (by decide), hN 0 (by decide), hw.1.2.1]
    by_cases q : n = 6
    · rw [if_pos (show (6 : Int32) ≤ nI n by rw [q]; decide), if_pos trivial, ckZ0, so_b]
      exact Or.inl ⟨-1003, M, N, Or.inr (Or.inr rfl), addBend_full hw.1 hp.1.1 g q, rfl, Oth.refl _ _, OthX.refl _ _ _, hp.1.2.1⟩
    · rw [if_neg (show ¬ (6 : Int32) ≤ nI n from nI_ge (b := 6) (by omega) (by omega)), if_neg z10]
      obtain ⟨M2, e2, o2, p2⟩ := addBend_t hw.1 hp g (show n < 6 by omega)
      obtain ⟨v, v1, v2, rfl⟩ := rng (a := 1) (b := 20) (by decide) (by decide) g.1
      obtain ⟨u, u1, u2, rfl⟩ := rng (a := 0) (b := 2) (by decide) (by decide) g.2.2
      obtain ⟨N2, e3, o3, hN2⟩ := adds_ok hw.1 hN (nI v) w (nI u) (show n < 6 by omega)
      rw [e3, so_b, ckZ1, so_b]
      exact Or.inr ⟨nI n, M2, N2, _, _, nI_nn (by omega), e2, rfl, o2, o3.xm (by decide) (by decide), ⟨wf_bend hw.1 (by omega) v1 v2 g.2.1 u2, tk_bend (by omega) hw.2⟩, p2, hN2⟩
  · rw [ic_f g, if_pos trivial, ckZ0, so_b]
    exact Or.inl ⟨-1001, M, N, Or.inl rfl, addBend_f g M, rfl, Oth.refl _ _, OthX.refl _ _ _, hp.1.2.1⟩
theorem pf_k {M N : Mm} {r : Nat → Int32} {n : Nat} (hw : Wf2 r n) (hp : PI M r n) (hN : Nwk N r) (a w b c : Int32) : PerfR M N (fX5_setTaken a b M) (dnB a w b c 107 N) := by
  unfold dnB
  rw [if_neg (by decide), if_pos rfl, mayTake_ok, so_b]
  simp only [jn_e, ic_0]
  by_cases g : mayT a b
  · rw [ic_t g]
    obtain ⟨u, u1, u2, rfl⟩ := rng (a := 0) (b := 2) (by decide) (by decide) g.1
    obtain ⟨M2, e2, o2, p2⟩ := setTaken_t hw.1 hp (show u < 3 by omega) g.2
    obtain ⟨x, x1, x2, rfl⟩ := rng (a := 0) (b := 99) (by decide) (by decide) g.2
    obtain ⟨y, y1, y2⟩ := hw.2 u (by omega)
    obtain ⟨N2, e3, o3, hN2⟩ := takesNow_ok hN (show u < 3 by omega) (nI x)
    rw [e3, so_b, ic_t g, ckZ1, so_b]
    exact Or.inr ⟨_, M2, N2, _, _, by rw [y2]; exact nI_nn (by omega), e2, rfl, o2, o3.xm (by decide) (by decide), ⟨wf_take hw.1, tk_take x2 hw.2⟩, p2, hN2⟩
  · rw [ic_f g, ic_f g, ckZ0, so_b]
    exact Or.inl ⟨-1001, M, N, Or.inl rfl, setTaken_f g M, rfl, Oth.refl _ _, OthX.refl _ _ _, hp.1.2.1⟩
theorem pf_p {M N : Mm} {r : Nat → Int32} {n : Nat} (hw : Wf2 r n) (hp : PI M r n) (hN : Nwk N r) (a w b c : Int32) : PerfR M N (fX5_setPress a b M) (dnB a w b c 112 N) := by
  unfold dnB
  rw [if_neg (by decide), if_neg (by decide), if_neg (by decide), if_pos rfl, mayPress_ok, so_b]
  simp only [jn_e, ic_0]
  by_cases g : mayP a b
  · rw [ic_t g]
    obtain ⟨M2, e2, o2, p2⟩ := setPress_t hw.1 hp g
    obtain ⟨v, v1, v2, rfl⟩ := rng (a := 0) (b := 20) (by decide) (by decide) g.1
    obtain ⟨u, u1, u2, rfl⟩ := rng (a := 0) (b := 40) (by decide) (by decide) g.2
    obtain ⟨x, x1, x2⟩ := hw.1.2.2.2.2.2.2.1
    obtain ⟨y, y1, y2⟩ := hw.1.2.2.2.2.2.2.2
    have hval : 100 * r 21 + r 22 = nI (100 * x + y) := by rw [x2, y2, show (100 : Int32) = nI 100 from rfl, pk_mul, nI_add]
    obtain ⟨N2, e3, o3, hN2⟩ := presses_ok hN (nI v) (nI u)
    rw [e3, so_b, ic_t g, ckZ1, so_b]
    exact Or.inr ⟨_, M2, N2, _, _, by rw [hval]; exact nI_nn (by omega), e2, rfl, o2, o3.xm (by decide) (by decide), ⟨wf_press hw.1 v2 u2, tk_press hw.2⟩, p2, hN2⟩
  · rw [ic_f g, ic_f g, ckZ0, so_b]
    exact Or.inl ⟨-1001, M, N, Or.inl rfl, setPress_f g M, rfl, Oth.refl _ _, OthX.refl _ _ _, hp.1.2.1⟩
theorem pf_s {M N : Mm} {r : Nat → Int32} {n : Nat} (hw : Wf2 r n) (hp : PI M r n) (hN : Nwk N r) (a w b c : Int32) : PerfR M N (fX5_newStrip a M) (dnB a w b c 115 N) := by
  unfold dnB
  rw [if_neg (by decide), if_neg (by decide), if_neg (by decide), if_neg (by decide), if_pos rfl, within_m, so_b]
  simp only [jn_e, ic_0]
  by_cases g : (1 : Int32) ≤ a ∧ a ≤ 20
  · rw [ic_t g]
    obtain ⟨M2, e2, o2, p2⟩ := newStrip_t hw.1 hp g
    obtain ⟨v, v1, v2, rfl⟩ := rng (a := 1) (b := 20) (by decide) (by decide) g
    obtain ⟨N2, e3, o3, hN2⟩ := strips_ok hw.1 hN (nI v)
    rw [e3, so_b, ic_t g, ckZ1, so_b]
    exact Or.inr ⟨_, M2, N2, _, _, nI_nn (n6 hw.1.1), e2, rfl, o2, o3.xm (by decide) (by decide), ⟨wf_strip hw.1 v1 v2, tk_strip hw.2⟩, p2, hN2⟩
  · rw [ic_f g, ic_f g, ckZ0, so_b]
    exact Or.inl ⟨-1001, M, N, Or.inl rfl, newStrip_f g M, rfl, Oth.refl _ _, OthX.refl _ _ _, hp.1.2.1⟩
theorem pf_m {M N : Mm} {r : Nat → Int32} {n : Nat} (hw : Wf2 r n) (hp : PI M r n) (hN : Nwk N r) (a w b c : Int32) : PerfR M N (fX5_makeBend a M) (dnB a w b c 109 N) := by
  have hn := hw.1.1
  obtain ⟨m, hm, hr⟩ := hw.1.2.2.2.2.2.1
  have h64 := pw_le hn hm
  unfold dnB
  rw [if_neg (by decide), if_neg (by decide), if_pos rfl, isBend_ok hw.1 hN, so_b]
  simp only [jn_e, ic_0]
  by_cases g : ∃ b, b < n ∧ a = nI b
  · rw [ic_t g]
    obtain ⟨b', hb, rfl⟩ := g
    have h2 := or_lt' n (by omega) m hm b' hb
    rw [rd_b (x := 20) 20 rfl (by decide) (by decide), hN 20 (by decide), hr]
    obtain ⟨N1, e1, o1⟩ := isFree_ok hw.1 hN h64 hb
    rw [e1, so_b]
    simp only [ic_0]
    have hN1 := hN.oth o1 (by decide)
    obtain ⟨M2, o2, ⟨q1, q2, q3, q4⟩ | ⟨q1, q2, q3⟩⟩ := makeBend_ok hw.1 hp hm hr hb
    · rw [ic_f q1, rd_b (x := 20) 20 rfl (by decide) (by decide), if_pos trivial, wr_b (x := 20) 20 rfl (by decide) (by decide), ckZ0, so_b]
      exact Or.inl ⟨-1002, M2, _, Or.inr (Or.inl rfl), q2, rfl, o2, (o1.xm (by decide) (by decide)).trans (stY (by decide) (by decide)), q4.1.2.1⟩
    · rw [ic_t q1, rd_b (x := 20) 20 rfl (by decide) (by decide), if_neg z10, hN1 20 (by decide), hr, or_b m h64 b' (by omega), wr_b (x := 20) 20 rfl (by decide) (by decide), ckZ1, so_b]
      exact Or.inr ⟨_, M2, _, _, _, pcn_nn (pw_le hn h2), q2, rfl, o2, (o1.xm (by decide) (by decide)).trans (stY (by decide) (by decide)), ⟨wf_made hw.1 h2, tk_made hw.2⟩, q3, made_now hN1 _⟩
  · rw [ic_f g, rd_b (x := 20) 20 rfl (by decide) (by decide), if_pos trivial, wr_b (x := 20) 20 rfl (by decide) (by decide), ckZ0, so_b]
    exact Or.inl ⟨-1001, M, _, Or.inl rfl, makeBend_bad hw.1 hp g, rfl, Oth.refl _ _, stY (by decide) (by decide), hp.1.2.1⟩
theorem pf_u {M N : Mm} {r : Nat → Int32} {n : Nat} (hw : Wf2 r n) (hp : PI M r n) (hN : Nwk N r) (a w b c : Int32) : PerfR M N (fX5_unmakeBend a M) (dnB a w b c 117 N) := by
  have hn := hw.1.1
  obtain ⟨m, hm, hr⟩ := hw.1.2.2.2.2.2.1
  have h64 := pw_le hn hm
  unfold dnB
  rw [if_neg (by decide), if_neg (by decide), if_neg (by decide), if_neg (by decide), if_neg (by decide), if_pos rfl, isBend_ok hw.1 hN, so_b]
  simp only [jn_e, ic_0]
  by_cases g : ∃ b, b < n ∧ a = nI b
  · rw [ic_t g]
    obtain ⟨b', hb, rfl⟩ := g
    have h2 := sub_lt n (by omega) m hm b'
    rw [rd_b (x := 20) 20 rfl (by decide) (by decide), hN 20 (by decide), hr, has_b h64 (by omega), so_b]
    simp only [ic_0]
    rcases unmakeBend_ok hw.1 hp hm hr hb with ⟨q1, q2⟩ | ⟨q1, M2, q2, o2, q3⟩
    · rw [ic_f q1, rd_b (x := 20) 20 rfl (by decide) (by decide), if_pos trivial, wr_b (x := 20) 20 rfl (by decide) (by decide), ckZ0, so_b]
      exact Or.inl ⟨-1002, M, _, Or.inr (Or.inl rfl), q2, rfl, Oth.refl _ _, stY (by decide) (by decide), hp.1.2.1⟩
    · rw [ic_t q1, rd_b (x := 20) 20 rfl (by decide) (by decide), if_neg z10, hN 20 (by decide), hr, and_b m h64 b' (by omega) q1, wr_b (x := 20) 20 rfl (by decide) (by decide), ckZ1, so_b]
      exact Or.inr ⟨_, M2, _, _, _, pcn_nn (pw_le hn h2), q2, rfl, o2, stY (by decide) (by decide), ⟨wf_made hw.1 h2, tk_made hw.2⟩, q3, made_now hN _⟩
  · rw [ic_f g, rd_b (x := 20) 20 rfl (by decide) (by decide), if_pos trivial, wr_b (x := 20) 20 rfl (by decide) (by decide), ckZ0, so_b]
    exact Or.inl ⟨-1001, M, _, Or.inl rfl, unmakeBend_bad hw.1 hp g, rfl, Oth.refl _ _, stY (by decide) (by decide), hp.1.2.1⟩
theorem pf_a {M N : Mm} {r : Nat → Int32} {n : Nat} (hw : Wf2 r n) (hp : PI M r n) (hN : Nwk N r) (a w b c : Int32) : PerfR M N (fX5_unmakeAll M) (dnB a w b c 97 N) := by
  have hn := hw.1.1
  obtain ⟨m, hm, hr⟩ := hw.1.2.2.2.2.2.1
  have h64 := pw_le hn hm
  obtain ⟨M2, e2, o2, p2⟩ := unmakeAll_ok hw.1 hp hm hr
  unfold dnB
  rw [if_neg (by decide), if_neg (by decide), if_neg (by decide), if_neg (by decide), if_neg (by decide), if_neg (by decide), wr_b (x := 20) 20 rfl (by decide) (by decide)]
  exact Or.inr ⟨_, M2, _, _, _, pcn_nn h64, e2, rfl, o2, stY (by decide) (by decide), ⟨wf_made hw.1 (Nat.pow_pos (by decide)), tk_made hw.2⟩, p2, made_now hN 0⟩
theorem bind_eta {o : Option (Int32 × Mm)} : o.bind (fun w => some (w.1, w.2)) = o := by cases o <;> rfl
theorem perf_sim {M N : Mm} {r : Nat → Int32} {n : Nat} (hw : Wf2 r n) (hp : PI M r n) (hN : Nwk N r) {i : Nat} (hi : i < 60) (hO : Od M N i) : PerfR M N (fX5_perform (nI i) M) (fX7_isDone (nI i) N) := by
  obtain ⟨x, k, hk, hl, hm, hq⟩ := hO
  rw [isDone_eq hi, hm]
  unfold fX5_perform
  rw [show fX2_numberOf (nI i) 0 M = _ from numOf_ok (q := 0) hi (by decide), so_b]
  simp only []
  rw [show fX2_numberOf (nI i) 1 M = _ from numOf_ok (q := 1) hi (by decide), so_b]
  simp only []
  rw [rd_b i rfl hi (by decide), hl, Nat.add_zero]
  rcases nbK_cases hk with ⟨rfl, rfl⟩ | ⟨rfl, rfl⟩ | ⟨rfl, rfl⟩ | ⟨rfl, rfl⟩ | ⟨rfl, rfl⟩ | ⟨rfl, rfl⟩ | ⟨rfl, rfl⟩
  · rw [if_neg (by decide), if_neg (by decide), if_neg (by decide), if_neg (by decide), if_neg (by decide), if_neg (by decide), bind_eta]
    exact pf_a hw hp hN _ _ _ _
  · rw [if_pos rfl, wayOf_ok, so_b]
    simp only []
    rw [show fX2_numberOf (nI i) 2 M = _ from numOf_ok (q := 2) hi (by decide), so_b]
    simp only []
    have h0 := hq 0 (by decide)
    rw [Nat.add_zero] at h0
    rw [bind_eta, ← h0, ← hq 1 (by decide), ← hq 2 (by decide)]
    exact pf_b hw hp hN _ _ _ _
  · have h0 := hq 0 (by decide)
    rw [Nat.add_zero] at h0
    rw [if_neg (by decide), if_pos rfl, bind_eta, ← h0, ← hq 1 (by decide)]
    exact pf_k hw hp hN _ _ _ _
  · have h0 := hq 0 (by decide)
    rw [Nat.add_zero] at h0
    rw [if_neg (by decide), if_neg (by decide), if_pos rfl, bind_eta, ← h0]
    exact pf_m hw hp hN _ _ _ _
  · have h0 := hq 0 (by decide)
    rw [Nat.add_zero] at h0
    rw [if_neg (by decide), if_neg (by decide), if_neg (by decide), if_pos rfl, bind_eta, ← h0, ← hq 1 (by decide)]
    exact pf_p hw hp hN _ _ _ _
  · have h0 := hq 0 (by decide)
    rw [Nat.add_zero] at h0
    rw [if_neg (by decide), if_neg (by decide), if_neg (by decide), if_neg (by decide), if_pos rfl, bind_eta, ← h0]
    exact pf_s hw hp hN _ _ _ _
  · have h0 := hq 0 (by decide)
    rw [Nat.add_zero] at h0
    rw [if_neg (by decide), if_neg (by decide), if_neg (by decide), if_neg (by decide), if_neg (by decide), if_pos rfl, bind_eta, ← h0]
    exact pf_u hw hp hN _ _ _ _
