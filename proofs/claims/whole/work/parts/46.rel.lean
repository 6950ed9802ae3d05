/-! folder and reference side by side -/
def Txt (M N : Mm) (L : Nat) : Prop := L ≤ 120 ∧ M.1 50 3 = nI L ∧ N.1 54 6 = nI L ∧ ∀ j, j < L → M.1 51 j = N.1 59 j
def Cnt (M N : Mm) : Prop := M.1 0 6 = N.1 58 0 ∧ M.1 0 7 = N.1 58 1 ∧ M.1 0 8 = N.1 58 2
def RelP (M N : Mm) (r : Nat → Int32) (n s nx L : Nat) : Prop := Wf2 r n ∧ PI M r n ∧ Nwk N r ∧ Hist M N s nx ∧ Txt M N L ∧ Cnt M N
def Rel (M N : Mm) : Prop := ∃ r n s nx L, RelP M N r n s nx L
/-- scratch cells of the folder, of the reference -/
def scC : List Nat := [6, 7, 8, 9, 10, 11, 12, 13, 14, 15, 16]
def scM : List Nat := [56, 60, 61, 62, 63, 64, 65, 66, 67, 68]
def OthX (N N' : Mm) (l fs : List Nat) : Prop := (∀ k, k ∉ l → k ≠ 54 → N'.1 k = N.1 k) ∧ ∀ j, j ∉ fs → N'.1 54 j = N.1 54 j
theorem OthX.refl (N : Mm) (l fs : List Nat) : OthX N N l fs := ⟨fun _ _ _ => rfl, fun _ _ => rfl⟩
theorem OthX.trans {A B C : Mm} {l fs : List Nat} (h : OthX A B l fs) (h' : OthX B C l fs) : OthX A C l fs := ⟨fun k h1 h2 => (h'.1 k h1 h2).trans (h.1 k h1 h2), fun j hj => (h'.2 j hj).trans (h.2 j hj)⟩
theorem OthX.mono {A B : Mm} {l fs l' fs' : List Nat} (h : OthX A B l fs) (h1 : ∀ k, k ∈ l → k ∈ l') (h2 : ∀ k, k ∈ fs → k ∈ fs') : OthX A B l' fs' := ⟨fun k a b => h.1 k (fun q => a (h1 k q)) b, fun j a => h.2 j (fun q => a (h2 j q))⟩
theorem Oth.x {A B : Mm} {l fs : List Nat} (h : Oth A B l) (h54 : 54 ∉ l) : OthX A B l fs := ⟨fun k a _ => h.2 k a, fun j _ => by rw [h.2 54 h54]⟩
theorem OthF.x {A B : Mm} {l fs : List Nat} (h : OthF A B l fs) : OthX A B l fs := ⟨h.2.1, h.2.2⟩
theorem Nwk.ox {N N' : Mm} {r : Nat → Int32} {l fs : List Nat} (h : Nwk N r) (o : OthX N N' l fs) (h0 : 55 ∉ l) : Nwk N' r := fun j hj => by rw [o.1 55 h0 (by decide)]; exact h j hj
theorem Hist.mv {M M' N N' : Mm} {s nx : Nat} {l l' fs : List Nat} (h : Hist M N s nx) (o : Oth M M' l) (o' : OthX N N' l' fs) (h18 : 18 ∉ l) (hr : ∀ d, d < s → ∀ i, i < 5 → ringK ((nx + 5 - d) % 6) + i ∉ l) (h57 : 57 ∉ l') (h3 : 3 ∉ fs) : Hist M' N' s nx := by
  obtain ⟨a1, a2, a3, a4, a5, a6⟩ := h
  refine ⟨a1, a2, by rw [o.2 18 h18]; exact a3, by rw [o.2 18 h18]; exact a4, by rw [o'.2 3 h3]; exact a5, fun d hd => ?_⟩
  obtain ⟨rr, nn, b1, b2, b3⟩ := a6 d hd
  exact ⟨rr, nn, b1, b2.ring o (hr d hd), fun j hj => by rw [o'.1 57 h57 (by decide)]; exact b3 j hj⟩
theorem mod6 (x : Nat) : x % 6 < 6 := Nat.mod_lt _ (by decide)
theorem RelP.quiet {M M' N N' : Mm} {r : Nat → Int32} {n s nx L : Nat} (h : RelP M N r n s nx L) (o : Oth M M' scC) (p : PI M' r n) (o' : OthX N N' scM [14, 15]) : RelP M' N' r n s nx L := by
  obtain ⟨h1, h2, h3, h4, h5, h6⟩ := h
  refine ⟨h1, p, h3.ox o' (by decide), h4.mv o o' (by decide) (fun d hd i hi => ?_) (by decide) (by decide), ?_, ?_⟩
  · exact fun q => (ring_lo _ (mod6 _) i hi).1 (List.mem_append_right [1, 2, 3, 4, 5] q)
  · obtain ⟨b1, b2, b3, b4⟩ := h5
    exact ⟨b1, by rw [o.2 50 (by decide)]; exact b2, by rw [o'.2 6 (by decide)]; exact b3, fun j hj => by rw [o.2 51 (by decide), o'.1 59 (by decide) (by decide)]; exact b4 j hj⟩
  · obtain ⟨b1, b2, b3⟩ := h6
    unfold Cnt
    rw [o.2 0 (by decide), o'.1 58 (by decide) (by decide)]
    exact ⟨b1, b2, b3⟩
theorem PI.oth {M M' : Mm} {r : Nat → Int32} {n : Nat} {l : List Nat} (h : PI M r n) (o : Oth M M' l) (h0 : ∀ k, 1 ≤ k → k ≤ 16 → k ∉ l) : PI M' r n := by
  refine ⟨h.1.oth o ⟨h0 1 (by decide) (by decide), h0 2 (by decide) (by decide), h0 3 (by decide) (by decide), h0 4 (by decide) (by decide), h0 5 (by decide) (by decide), h0 7 (by decide) (by decide), h0 8 (by decide) (by decide), h0 11 (by decide) (by decide), h0 12 (by decide) (by decide)⟩, ?_⟩
  unfold PlanOk
  rw [o.2 10 (h0 10 (by decide) (by decide)), o.2 15 (h0 15 (by decide) (by decide)), o.2 16 (h0 16 (by decide) (by decide))]
  exact h.2
theorem refuse_ok {M N : Mm} {r : Nat → Int32} {n s nx L : Nat} (h : RelP M N r n s nx L) {c : Int32} (hc : c = -1001 ∨ c = -1002 ∨ c = -1003) : ∃ M' N', fX6_refused c M = some (c, M') ∧ fX7_counts c N = some (c, N') ∧ RelP M' N' r n s nx L := by
  have go : ∀ q, q < 3 → ∃ M' N', M' = stI M 0 (6 + q) (M.1 0 (6 + q) + 1) ∧ N' = stI N 58 q (N.1 58 q + 1) ∧ RelP M' N' r n s nx L := by
    intro q hq
    refine ⟨_, _, rfl, rfl, ?_⟩
    have o1 : Oth M (stI M 0 (6 + q) (M.1 0 (6 + q) + 1)) [0] := (Oth.refl M _).put (by decide)
    have o2 : Oth N (stI N 58 q (N.1 58 q + 1)) [58] := (Oth.refl N _).put (by decide)
    obtain ⟨h1, h2, h3, h4, h5, h6⟩ := h
    refine ⟨h1, h2.oth o1 (fun k a b q => by have := List.mem_singleton.mp q; omega), h3.oth o2 (by decide), h4.mv o1 (o2.x (fs := []) (by decide)) (by decide) (fun d hd i hi => (ring_lo _ (mod6 _) i hi).2.2.1) (by decide) (by decide), ?_, ?_⟩
    · obtain ⟨b1, b2, b3, b4⟩ := h5
      exact ⟨b1, by rw [o1.2 50 (by decide)]; exact b2, by rw [o2.2 54 (by decide)]; exact b3, fun j hj => by rw [o1.2 51 (by decide), o2.2 59 (by decide)]; exact b4 j hj⟩
    · obtain ⟨b1, b2, b3⟩ := h6
      rcases (show q = 0 ∨ q = 1 ∨ q = 2 by omega) with rfl | rfl | rfl
      · refine ⟨?_, ?_, ?_⟩ <;> simp [stI_1, b1, b2, b3]
      · refine ⟨?_, ?_, ?_⟩ <;> simp [stI_1, b1, b2, b3]
      · refine ⟨?_, ?_, ?_⟩ <;> simp [stI_1, b1, b2, b3]
  rcases hc with rfl | rfl | rfl
  · obtain ⟨M', N', e1, e2, e3⟩ := go 0 (by decide)
    refine ⟨M', N', ?_, ?_, e3⟩
    · unfold fX6_refused; rw [if_pos rfl, lt_e, e1]
    · unfold fX7_counts
      rw [rd_b (x := -1001 - -1001) 0 (by decide) (by decide) (by decide), wr_b (x := -1001 - -1001) 0 (by decide) (by decide) (by decide), e2]
  · obtain ⟨M', N', e1, e2, e3⟩ := go 1 (by decide)
    refine ⟨M', N', ?_, ?_, e3⟩
    · unfold fX6_refused; rw [if_neg (by decide), if_pos rfl, lt_e, e1]
    · unfold fX7_counts
      rw [rd_b (x := -1001 - -1002) 1 (by decide) (by decide) (by decide), wr_b (x := -1001 - -1002) 1 (by decide) (by decide) (by decide), e2]
  · obtain ⟨M', N', e1, e2, e3⟩ := go 2 (by decide)
    refine ⟨M', N', ?_, ?_, e3⟩
    · unfold fX6_refused; rw [if_neg (by decide), if_neg (by decide), lt_e, e1]
    · unfold fX7_counts
      rw [rd_b (x := -1001 - -1003) 2 (by decide) (by decide) (by decide), wr_b (x := -1001 - -1003) 2 (by decide) (by decide) (by decide), e2]
theorem stage_rel {M N : Mm} {r : Nat → Int32} {n s nx L : Nat} (h : RelP M N r n s nx L) : ∃ M1, fX0_stage M = some ((), M1) ∧ RelP M1 N r n s nx L ∧ Shk M1 (ringK nx) r := by
  obtain ⟨h1, h2, h3, h4, h5, h6⟩ := h
  obtain ⟨M1, e1, o1, s1⟩ := stage_ok h4.2.1 h4.2.2.1 h2.1.1
  have hx := h4.2.1
  refine ⟨M1, e1, ⟨h1, h2.oth o1 (fun k a b => ring_out nx hx k (by omega)), h3, h4.mv o1 (OthX.refl N [] []) (ring_out nx hx 18 (by decide)) (fun d hd i hi => ring_ne _ (mod6 _) nx hx ?_ i hi) (by decide) (by decide), ?_, ?_⟩, s1⟩
  · have := h4.1
    omega
  · obtain ⟨b1, b2, b3, b4⟩ := h5
    exact ⟨b1, by rw [o1.2 50 (ring_out2 nx hx).1]; exact b2, b3, fun j hj => by rw [o1.2 51 (ring_out2 nx hx).2.1]; exact b4 j hj⟩
  · obtain ⟨b1, b2, b3⟩ := h6
    unfold Cnt
    rw [o1.2 0 (ring_out nx hx 0 (by decide))]
    exact ⟨b1, b2, b3⟩
/-- a state is left -/
theorem push_rel {M1 M2 N : Mm} {r r' : Nat → Int32} {n n' s nx L : Nat} (h : RelP M1 N r n s nx L) (hst : Shk M1 (ringK nx) r) (o : Oth M1 M2 [1, 2, 3, 4, 5, 6, 7, 8, 9, 10, 11, 12, 13, 14, 15, 16]) (hw' : Wf2 r' n') (p' : PI M2 r' n') : (∃ M3, fX0_keepStaged M2 = some ((), M3) ∧ ∃ N1, fX7_leaves N = some ((), N1) ∧ Nwk N1 r ∧ OthX N N1 [57] [3] ∧ ∀ N2, OthX N1 N2 (55 :: scM) [14, 15] → Nwk N2 r' → RelP M3 N2 r' n' (min (s + 1) 5) ((nx + 1) % 6) L) := by
  obtain ⟨h1, h2, h3, h4, h5, h6⟩ := h
  obtain ⟨a1, a2, a3, a4, a5, a6⟩ := h4
  obtain ⟨M3, e3, o3, k1, k2⟩ := keepStaged_ok a2 a1 (by rw [o.2 18 (by decide)]; exact a3) (by rw [o.2 18 (by decide)]; exact a4)
  obtain ⟨N1, e1, o1, g1, p1, q1⟩ := leaves_ok a1 a5 h3
  refine ⟨M3, e3, N1, e1, h3.ox o1.x (by decide), o1.x, fun N2 o2 hN2 => ?_⟩
  have hs1 : min (s + 1) 5 ≤ 5 := Nat.min_le_right _ _
  have oM : ∀ k, k ∉ [1, 2, 3, 4, 5, 6, 7, 8, 9, 10, 11, 12, 13, 14, 15, 16] → k ∉ [18] → M3.1 k = M1.1 k := fun k x y => (o3.2 k y).trans (o.2 k x)
  have oS : Oth M1 M3 [1, 2, 3, 4, 5, 6, 7, 8, 9, 10, 11, 12, 13, 14, 15, 16, 18] := (o.mono (by decide)).trans (o3.mono (by decide))
  have rl : ∀ a, a < 6 → ∀ i, i < 5 → ringK a + i ∉ [1, 2, 3, 4, 5, 6, 7, 8, 9, 10, 11, 12, 13, 14, 15, 16, 18] := by decide
  refine ⟨hw', p'.oth o3 (fun k x y z => by have := List.mem_singleton.mp z; omega), hN2, ⟨hs1, mod6 _, k1, k2, by rw [o2.2 3 (by decide)]; exact g1, fun d hd => ?_⟩, ?_, ?_⟩
  · have e57 : N2.1 57 = N1.1 57 := o2.1 57 (by decide) (by decide)
    rcases Nat.eq_zero_or_pos d with q | q
    · subst q
      refine ⟨r, n, h1, ?_, fun j hj => ?_⟩
      · have : ((nx + 1) % 6 + 5 - 0) % 6 = nx := by omega
        rw [this]
        exact hst.ring oS (rl nx a2)
      · rw [e57, Nat.sub_zero]; exact p1 j hj
    · obtain ⟨rr, nn, b1, b2, b3⟩ := a6 (d - 1) (by omega)
      refine ⟨rr, nn, b1, ?_, fun j hj => ?_⟩
      · have : ((nx + 1) % 6 + 5 - d) % 6 = (nx + 5 - (d - 1)) % 6 := by omega
        rw [this]
        exact b2.ring oS (rl _ (mod6 _))
      · rw [e57, q1 _ j (by omega) hj]
        have := b3 j hj
        rw [← this, show s - (min (s + 1) 5 - 1) + (min (s + 1) 5 - 1 - d) = s - 1 - (d - 1) by omega]
  · obtain ⟨b1, b2, b3, b4⟩ := h5
    exact ⟨b1, by rw [oM 50 (by decide) (by decide)]; exact b2, by rw [o2.2 6 (by decide), o1.2.2 6 (by decide)]; exact b3, fun j hj => by rw [oM 51 (by decide) (by decide), o2.1 59 (by decide) (by decide), o1.2.1 59 (by decide) (by decide)]; exact b4 j hj⟩
  · obtain ⟨b1, b2, b3⟩ := h6
    unfold Cnt
    rw [oM 0 (by decide) (by decide), o2.1 58 (by decide) (by decide), o1.2.1 58 (by decide) (by decide)]
    exact ⟨b1, b2, b3⟩
