/-! the public calls that tell in -/
theorem isRef_ok {v : Int32} (h : 0 ≤ v.toInt) (M : Mm) : fX6_isRefusal v M = some (0, M) := by
  have ne : ∀ c : Int32, c.toInt < 0 → ¬ v = c := fun c hc e => by rw [e] at h; omega
  unfold fX6_isRefusal
  rw [if_neg (ne _ (by decide)), if_neg (ne _ (by decide)), if_neg (ne _ (by decide))]
theorem isRef_c {c : Int32} (hc : c = -1001 ∨ c = -1002 ∨ c = -1003) (M : Mm) : fX6_isRefusal c M = some (1, M) := by
  unfold fX6_isRefusal
  rcases hc with rfl | rfl | rfl
  · rw [if_pos rfl]
  · rw [if_neg (by decide), if_pos rfl]
  · rw [if_neg (by decide), if_neg (by decide), if_pos rfl]
theorem nI_nn {k : Nat} (h : k < 2 ^ 31) : 0 ≤ (nI k).toInt := by rw [nI_tI h]; omega
theorem settled_c {c : Int32} (hc : c = -1001 ∨ c = -1002 ∨ c = -1003) (M : Mm) : fX6_settled c M = (fX6_refused c M).bind (fun w3 => some (w3.1, w3.2)) := by
  unfold fX6_settled
  rw [isRef_c hc, so_b, if_neg z10]
theorem settled_v {v : Int32} (h : 0 ≤ v.toInt) (M : Mm) : fX6_settled v M = (fX0_keepStaged M).bind (fun w2 => some (v, w2.2)) := by
  unfold fX6_settled
  rw [isRef_ok h, so_b, if_pos rfl]
def Same (f g : Mm → Option (Int32 × Mm)) : Prop := ∀ M N, Rel M N → ∃ v M' N', f M = some (v, M') ∧ g N = some (v, N') ∧ Rel M' N'
theorem RelP.rel {M N : Mm} {r : Nat → Int32} {n s nx L : Nat} (h : RelP M N r n s nx L) : Rel M N := ⟨r, n, s, nx, L, h⟩
theorem ret_of {f : Option (Int32 × Mm)} {v : Int32} {N : Mm} (e : f = some (v, N)) : f.bind (fun w => some (w.1, w.2)) = some (v, N) := by rw [e]; rfl
theorem Oth.xm {A B : Mm} {l l' fs : List Nat} (h : Oth A B l) (h54 : 54 ∉ l) (h1 : ∀ k, k ∈ l → k ∈ l') : OthX A B l' fs := ⟨fun k a _ => h.2 k (fun q => a (h1 k q)), fun j _ => by rw [h.2 54 h54]⟩
/-- a told-in call: staged, done or refused -/
theorem told_in {M N : Mm} {r : Nat → Int32} {n s nx L : Nat} (h : RelP M N r n s nx L) (fw : Mm → Option (Int32 × Mm)) (gm : Mm → Option (Int32 × Mm))
    (H : ∀ M1, RelP M1 N r n s nx L → (∃ c M2 N', (c = -1001 ∨ c = -1002 ∨ c = -1003) ∧ fw M1 = some (c, M2) ∧ Oth M1 M2 scC ∧ PI M2 r n ∧ OthX N N' scM [14, 15] ∧ gm N = (fX7_counts c N').bind (fun w => some (w.1, w.2))) ∨
      (∃ (v : Int32) (M2 : Mm) (r' : Nat → Int32) (n' : Nat) (N0 : Mm) (gq : Mm → Option (Int32 × Mm)), 0 ≤ v.toInt ∧ fw M1 = some (v, M2) ∧ Oth M1 M2 wk ∧ Wf2 r' n' ∧ PI M2 r' n' ∧ OthX N N0 scM [14, 15] ∧ gm N = (fX7_leaves N0).bind (fun w => gq w.2) ∧ ∀ N1, Nwk N1 r → ∃ N2, gq N1 = some (v, N2) ∧ OthX N1 N2 (55 :: scM) [14, 15] ∧ Nwk N2 r')) : ∃ v M' N', ((fX0_stage M).bind (fun w1 => (fw w1.2).bind (fun w2 => (fX6_settled w2.1 w2.2).bind (fun w3 => some (w3.1, w3.2))))) = some (v, M') ∧ gm N = some (v, N') ∧ Rel M' N' := by
  obtain ⟨M1, e1, h1, s1⟩ := stage_rel h
  rw [e1, so_b]
  simp only []
  rcases H M1 h1 with ⟨c, M2, N', hc, e2, o2, p2, oN, e3⟩ | ⟨v, M2, r', n', N0, gq, hv, e2, o2, w2, p2, oN, e3, hq⟩
  · obtain ⟨M3, N3, e4, e5, h3⟩ := refuse_ok (h1.quiet o2 p2 oN) hc
    refine ⟨c, M3, N3, ?_, ?_, h3.rel⟩
    · rw [e2, so_b]
      simp only []
      rw [settled_c hc, e4]
      rfl
    · rw [e3, e5]; rfl
  · have h0 : RelP M1 N0 r n s nx L := h1.quiet (Oth.refl _ _) h1.2.1 oN
    obtain ⟨M3, e4, N1, e5, hN1, oL, fin⟩ := push_rel h0 s1 o2 w2 p2
    obtain ⟨N2, e6, o6, hN2⟩ := hq N1 hN1
    refine ⟨v, M3, N2, ?_, ?_, (fin N2 o6 hN2).rel⟩
    · rw [e2, so_b]
      simp only []
      rw [settled_v hv, e4]
      rfl
    · rw [e3, e5, so_b]; exact e6
theorem tk_strip {r : Nat → Int32} {l : Int32} (h : Tk r) : Tk (rStrip r l) := fun t ht => by
  have := h t ht
  simpa [rStrip, upd, show ¬ (23 + t = 1) by omega, show ¬ (23 + t = 20) by omega] using this
theorem tk_bend {r : Nat → Int32} {n : Nat} {l w t : Int32} (hn : n < 6) (h : Tk r) : Tk (rBend r n l w t) := fun u hu => by
  have := h u hu
  simpa [rBend, upd, show ¬ (23 + u = 14 + n) by omega, show ¬ (23 + u = 8 + n) by omega, show ¬ (23 + u = 2 + n) by omega] using this
theorem tk_press {r : Nat → Int32} {w h : Int32} (q : Tk r) : Tk (rPress r w h) := fun u hu => by
  have := q u hu
  simpa [rPress, upd, show ¬ (23 + u = 22) by omega, show ¬ (23 + u = 21) by omega] using this
theorem tk_made {r : Nat → Int32} {m : Nat} (q : Tk r) : Tk (rMade r m) := fun u hu => by
  have := q u hu
  simpa [rMade, upd, show ¬ (23 + u = 20) by omega] using this
theorem tk_take {r : Nat → Int32} {t v : Nat} (hv : v ≤ 99) (q : Tk r) : Tk (rTake r t (nI v)) := fun u hu => by
  by_cases e : u = t
  · subst e; exact ⟨v, hv, by simp [rTake, upd]⟩
  · have := q u hu
    simpa [rTake, upd, e] using this
theorem n6 {n : Nat} (h : n ≤ 6) : n + 1 < 2 ^ 31 := by omega
theorem pub_strip (l : Int32) : Same (fX6_strip l) (fX7_strip l) := by
  intro M N ⟨r, n, s, nx, L, h⟩
  unfold fX6_strip
  refine told_in h (fX5_newStrip l) (fX7_strip l) (fun M1 h1 => ?_)
  have hw := h1.1.1
  unfold fX7_strip
  rw [within_m, so_b]
  simp only [ic_0]
  by_cases g : (1 : Int32) ≤ l ∧ l ≤ 20
  · rw [ic_t g]
    obtain ⟨M2, e2, o2, p2⟩ := newStrip_t hw h1.2.1 g
    obtain ⟨v, v1, v2, rfl⟩ := rng (a := 1) (b := 20) (by decide) (by decide) g
    refine Or.inr ⟨nI (n + 1), M2, _, _, N, fun N1 => (fX7_strips (nI v) N1).bind (fun w3 => some (w3.1, w3.2)), nI_nn (n6 hw.1), e2, o2, ⟨wf_strip hw v1 v2, tk_strip h1.1.2⟩, p2, OthX.refl _ _ _, rfl, fun N1 hN1 => ?_⟩
    obtain ⟨N2, e3, o3, hN2⟩ := strips_ok hw hN1 (nI v)
    exact ⟨N2, ret_of e3, (o3.xm (by decide) (by decide)), hN2⟩
  · rw [ic_f g]
    exact Or.inl ⟨-1001, M1, N, Or.inl rfl, newStrip_f g M1, Oth.refl _ _, h1.2.1, OthX.refl _ _ _, rfl⟩
theorem pub_bend (l w t : Int32) : Same (fX6_bend l w t) (fX7_bend l w t) := by
  intro M N ⟨r, n, s, nx, L, h⟩
  unfold fX6_bend
  refine told_in h (fX5_addBend l w t) (fX7_bend l w t) (fun M1 h1 => ?_)
  have hw := h1.1.1
  have hn := hw.1
  unfold fX7_bend
  rw [mayBend_ok, so_b]
  simp only [ic_0]
  by_cases g : mayB l w t
  · rw [ic_t g, rd_b (x := 0) 0 rfl (by decide) (by decide), h1.2.2.1 0 (by decide), hw.2.1]
    by_cases q : n = 6
    · rw [if_pos (by rw [q]; rfl)]
      exact Or.inl ⟨-1003, M1, N, Or.inr (Or.inr rfl), addBend_full hw h1.2.1.1.1 g q, Oth.refl _ _, h1.2.1, OthX.refl _ _ _, rfl⟩
    · rw [if_neg (show ¬ nI n = (6 : Int32) from fun e => q ((nI_eq (by omega) (by omega)).mp (show nI n = nI 6 from e)))]
      obtain ⟨M2, e2, o2, p2⟩ := addBend_t hw h1.2.1 g (show n < 6 by omega)
      obtain ⟨v, v1, v2, rfl⟩ := rng (a := 1) (b := 20) (by decide) (by decide) g.1
      obtain ⟨u, u1, u2, rfl⟩ := rng (a := 0) (b := 2) (by decide) (by decide) g.2.2
      refine Or.inr ⟨nI n, M2, _, _, N, fun N1 => (fX7_adds (nI v) w (nI u) N1).bind (fun w3 => some (w3.1, w3.2)), nI_nn (by omega), e2, o2, ⟨wf_bend hw (by omega) v1 v2 g.2.1 u2, tk_bend (by omega) h1.1.2⟩, p2, OthX.refl _ _ _, rfl, fun N1 hN1 => ?_⟩
      obtain ⟨N2, e3, o3, hN2⟩ := adds_ok hw hN1 (nI v) w (nI u) (show n < 6 by omega)
      exact ⟨N2, ret_of e3, (o3.xm (by decide) (by decide)), hN2⟩
  · rw [ic_f g]
    exact Or.inl ⟨-1001, M1, N, Or.inl rfl, addBend_f g M1, Oth.refl _ _, h1.2.1, OthX.refl _ _ _, rfl⟩
theorem pub_press (w h' : Int32) : Same (fX6_press w h') (fX7_press w h') := by
  intro M N ⟨r, n, s, nx, L, h⟩
  unfold fX6_press
  refine told_in h (fX5_setPress w h') (fX7_press w h') (fun M1 h1 => ?_)
  have hw := h1.1.1
  unfold fX7_press
  rw [mayPress_ok, so_b]
  simp only [ic_0]
  by_cases g : mayP w h'
  · rw [ic_t g]
    obtain ⟨M2, e2, o2, p2⟩ := setPress_t hw h1.2.1 g
    obtain ⟨v, v1, v2, rfl⟩ := rng (a := 0) (b := 20) (by decide) (by decide) g.1
    obtain ⟨u, u1, u2, rfl⟩ := rng (a := 0) (b := 40) (by decide) (by decide) g.2
    obtain ⟨x, x1, x2⟩ := hw.2.2.2.2.2.2.1
    obtain ⟨y, y1, y2⟩ := hw.2.2.2.2.2.2.2
    have hval : 100 * r 21 + r 22 = nI (100 * x + y) := by rw [x2, y2, show (100 : Int32) = nI 100 from rfl, pk_mul, nI_add]
    refine Or.inr ⟨100 * r 21 + r 22, M2, _, _, N, fun N1 => (fX7_presses (nI v) (nI u) N1).bind (fun w3 => some (w3.1, w3.2)), by rw [hval]; exact nI_nn (by omega), e2, o2, ⟨wf_press hw v2 u2, tk_press h1.1.2⟩, p2, OthX.refl _ _ _, rfl, fun N1 hN1 => ?_⟩
    obtain ⟨N2, e3, o3, hN2⟩ := presses_ok hN1 (nI v) (nI u)
    exact ⟨N2, ret_of e3, (o3.xm (by decide) (by decide)), hN2⟩
  · rw [ic_f g]
    exact Or.inl ⟨-1001, M1, N, Or.inl rfl, setPress_f g M1, Oth.refl _ _, h1.2.1, OthX.refl _ _ _, rfl⟩
theorem pub_takes (t v : Int32) : Same (fX6_takes t v) (fX7_takes t v) := by
  intro M N ⟨r, n, s, nx, L, h⟩
  unfold fX6_takes
  refine told_in h (fX5_setTaken t v) (fX7_takes t v) (fun M1 h1 => ?_)
  have hw := h1.1.1
  unfold fX7_takes
  rw [mayTake_ok, so_b]
  simp only [ic_0]
  by_cases g : mayT t v
  · rw [ic_t g]
    obtain ⟨u, u1, u2, rfl⟩ := rng (a := 0) (b := 2) (by decide) (by decide) g.1
    obtain ⟨M2, e2, o2, p2⟩ := setTaken_t hw h1.2.1 (show u < 3 by omega) g.2
    obtain ⟨x, x1, x2, rfl⟩ := rng (a := 0) (b := 99) (by decide) (by decide) g.2
    obtain ⟨y, y1, y2⟩ := h1.1.2 u (by omega)
    refine Or.inr ⟨r (23 + u), M2, _, _, N, fun N1 => (fX7_takesNow (nI u) (nI x) N1).bind (fun w3 => some (w3.1, w3.2)), by rw [y2]; exact nI_nn (by omega), e2, o2, ⟨wf_take hw, tk_take x2 h1.1.2⟩, p2, OthX.refl _ _ _, rfl, fun N1 hN1 => ?_⟩
    obtain ⟨N2, e3, o3, hN2⟩ := takesNow_ok hN1 (show u < 3 by omega) (nI x)
    exact ⟨N2, ret_of e3, (o3.xm (by decide) (by decide)), hN2⟩
  · rw [ic_f g]
    exact Or.inl ⟨-1001, M1, N, Or.inl rfl, setTaken_f g M1, Oth.refl _ _, h1.2.1, OthX.refl _ _ _, rfl⟩
theorem pcn_nn {m : Nat} (hm : m < 64) : 0 ≤ (nI (pcn m)).toInt := nI_nn (by have := pcn_le m hm; omega)
theorem pub_makes (x : Int32) : Same (fX6_makes x) (fX7_makes x) := by
  intro M N ⟨r, n, s, nx, L, h⟩
  unfold fX6_makes
  refine told_in h (fX5_makeBend x) (fX7_makes x) (fun M1 h1 => ?_)
  have hw := h1.1.1
  have hn := hw.1
  obtain ⟨m, hm, hr⟩ := hw.2.2.2.2.2.1
  have h64 := pw_le hn hm
  unfold fX7_makes
  rw [isBend_ok hw h1.2.2.1, so_b]
  simp only [ic_0]
  by_cases g : ∃ b, b < n ∧ x = nI b
  · rw [ic_t g]
    obtain ⟨b, hb, rfl⟩ := g
    have h2 := or_lt' n (by omega) m hm b hb
    rw [rd_b (x := 20) 20 rfl (by decide) (by decide), h1.2.2.1 20 (by decide), hr]
    obtain ⟨N', e1, o1⟩ := isFree_ok hw h1.2.2.1 h64 hb
    rw [e1, so_b]
    simp only [ic_0]
    have oN : OthX N N' scM [14, 15] := (o1.xm (by decide) (by decide))
    obtain ⟨M2, o2, ⟨q1, q2, q3, q4⟩ | ⟨q1, q2, q3⟩⟩ := makeBend_ok hw h1.2.1 hm hr hb
    · rw [ic_f q1]
      exact Or.inl ⟨-1002, M2, N', Or.inr (Or.inl rfl), q2, q3, q4, oN, rfl⟩
    · rw [ic_t q1]
      refine Or.inr ⟨nI (pcn (m ||| 2 ^ b)), M2, _, _, N', fun N1 => (rd N1 55 26 20).bind fun v5 => (wr N1 55 26 20 (v5 ||| ((1 : Int32) <<< (nI b &&& 31)))).bind fun N6 => (rd N6 55 26 20).bind fun v7 => (fX7_ones v7 N6).bind fun w8 => some (w8.1, w8.2), pcn_nn (pw_le hn h2), q2, o2, ⟨wf_made hw h2, tk_made h1.1.2⟩, q3, oN, rfl, fun N1 hN1 => ?_⟩
      simp only []
      rw [rd_b (x := 20) 20 rfl (by decide) (by decide), hN1 20 (by decide), hr, or_b m h64 b (by omega), wr_b (x := 20) 20 rfl (by decide) (by decide), rd_b (x := 20) 20 rfl (by decide) (by decide), stI_1, if_pos rfl, if_pos rfl, ones_ok (pw_le hn h2), so_b]
      exact ⟨_, rfl, (((Oth.refl N1 [55]).put (by decide)).xm (by decide) (by decide)), made_now hN1 _⟩
  · rw [ic_f g]
    exact Or.inl ⟨-1001, M1, N, Or.inl rfl, makeBend_bad hw h1.2.1 g, Oth.refl _ _, h1.2.1, OthX.refl _ _ _, rfl⟩
theorem pub_unmakes (x : Int32) : Same (fX6_unmakes x) (fX7_unmakes x) := by
  intro M N ⟨r, n, s, nx, L, h⟩
  unfold fX6_unmakes
  refine told_in h (fX5_unmakeBend x) (fX7_unmakes x) (fun M1 h1 => ?_)
  have hw := h1.1.1
  have hn := hw.1
  obtain ⟨m, hm, hr⟩ := hw.2.2.2.2.2.1
  have h64 := pw_le hn hm
  unfold fX7_unmakes
  rw [isBend_ok hw h1.2.2.1, so_b]
  simp only [ic_0]
  by_cases g : ∃ b, b < n ∧ x = nI b
  · rw [ic_t g]
    obtain ⟨b, hb, rfl⟩ := g
    have h2 := sub_lt n (by omega) m hm b
    rw [rd_b (x := 20) 20 rfl (by decide) (by decide), h1.2.2.1 20 (by decide), hr, has_b h64 (by omega), so_b]
    simp only [ic_0]
    rcases unmakeBend_ok hw h1.2.1 hm hr hb with ⟨q1, q2⟩ | ⟨q1, M2, q2, o2, q3⟩
    · rw [ic_f q1]
      exact Or.inl ⟨-1002, M1, N, Or.inr (Or.inl rfl), q2, Oth.refl _ _, h1.2.1, OthX.refl _ _ _, rfl⟩
    · rw [ic_t q1]
      refine Or.inr ⟨nI (pcn (m - 2 ^ b)), M2, _, _, N, fun N1 => (rd N1 55 26 20).bind fun v5 => (wr N1 55 26 20 (v5 &&& (((1 : Int32) <<< (nI b &&& 31)) ^^^ -1))).bind fun N6 => (rd N6 55 26 20).bind fun v7 => (fX7_ones v7 N6).bind fun w8 => some (w8.1, w8.2), pcn_nn (pw_le hn h2), q2, o2, ⟨wf_made hw h2, tk_made h1.1.2⟩, q3, OthX.refl _ _ _, rfl, fun N1 hN1 => ?_⟩
      simp only []
      rw [rd_b (x := 20) 20 rfl (by decide) (by decide), hN1 20 (by decide), hr, and_b m h64 b (by omega) q1, wr_b (x := 20) 20 rfl (by decide) (by decide), rd_b (x := 20) 20 rfl (by decide) (by decide), stI_1, if_pos rfl, if_pos rfl, ones_ok (pw_le hn h2), so_b]
      exact ⟨_, rfl, (((Oth.refl N1 [55]).put (by decide)).xm (by decide) (by decide)), made_now hN1 _⟩
  · rw [ic_f g]
    exact Or.inl ⟨-1001, M1, N, Or.inl rfl, unmakeBend_bad hw h1.2.1 g, Oth.refl _ _, h1.2.1, OthX.refl _ _ _, rfl⟩
theorem pub_again : Same fX6_again fX7_again := by
  intro M N ⟨r, n, s, nx, L, h⟩
  unfold fX6_again
  refine told_in h fX5_unmakeAll fX7_again (fun M1 h1 => Or.inr ?_)
  have hw := h1.1.1
  have hn := hw.1
  obtain ⟨m, hm, hr⟩ := hw.2.2.2.2.2.1
  have h64 := pw_le hn hm
  obtain ⟨M2, e2, o2, p2⟩ := unmakeAll_ok hw h1.2.1 hm hr
  refine ⟨nI (pcn m), M2, _, _, N, fun N1 => (rd N1 55 26 20).bind fun v2 => (fX7_ones v2 N1).bind fun w3 => (wr w3.2 55 26 20 0).bind fun N4 => some (w3.1, N4), pcn_nn h64, e2, o2, ⟨wf_made hw (Nat.pow_pos (by decide)), tk_made h1.1.2⟩, p2, OthX.refl _ _ _, rfl, fun N1 hN1 => ?_⟩
  simp only []
  rw [rd_b (x := 20) 20 rfl (by decide) (by decide), hN1 20 (by decide), hr, ones_ok h64, so_b, wr_b (x := 20) 20 rfl (by decide) (by decide)]
  exact ⟨_, rfl, (((Oth.refl N1 [55]).put (by decide)).xm (by decide) (by decide)), made_now hN1 0⟩
