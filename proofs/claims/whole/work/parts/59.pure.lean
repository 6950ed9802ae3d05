/-! the law over related memories -/
theorem rdT_c {β : Type} {g : Nat → Int32} {n : Nat} {x : Int32} {f : Int32 → Option β} (j : Nat) (hx : x = nI j) (hj : j < n) (hn : n ≤ 4000) : (rdT g n x).bind f = f (g j) := by rw [rdT_i j hx hj (by omega)]; rfl
theorem lstp {v w : Int32} {A : Option Int32} (e : v = w) (h : A = some 1) : (if v = w then A else some 0) = some 1 := by rw [if_pos e]; exact h
theorem lg_cmp_self (v : Int64) : lg_cmp v v = 0 := by unfold lg_cmp; simp
theorem law_c {L i : Nat} (hL : L ≤ 2048) (hi : i ≤ 2048) : (Int32.ofNat L - (4 : Int32) < nI (4 * i)) ↔ L < 4 * i + 4 := by
  have a : (nI L).toInt = (L : Int) := nI_tI (by omega)
  have b : (4 : Int32).toInt = 4 := by decide
  have c := subI a b (by omega) (by omega)
  have d : (nI (4 * i)).toInt = ((4 * i : Nat) : Int) := nI_tI (by omega)
  have e : (Int32.ofNat L - (4 : Int32) < nI (4 * i)) ↔ (nI L - (4 : Int32)).toInt < (nI (4 * i)).toInt := tI_lt
  rw [e, c, d]
  omega
theorem law_loop {L : Nat} {xs : Nat → Int32} (hL : L ≤ 2048) : ∀ (d f i : Nat) (P : Mm × Mm), Rel P.1 P.2 → L < 4 * (i + d) + 4 → i + d ≤ 2048 → d < f → lL_law_18 (fun _ => some (1 : Int32)) L xs f (nI (4 * i)) P = some 1 := by
  intro d
  induction d with
  | zero =>
    intro f i P hP hd hb hf
    obtain ⟨f, rfl⟩ : ∃ g, f = g + 1 := ⟨f - 1, by omega⟩
    rw [lL_law_18, if_pos ((law_c hL (by omega)).mpr (by omega))]
  | succ d ih =>
    intro f i P hP hd hb hf
    obtain ⟨f, rfl⟩ : ∃ g, f = g + 1 := ⟨f - 1, by omega⟩
    by_cases q : L < 4 * i + 4
    · rw [lL_law_18, if_pos ((law_c hL (by omega)).mpr q)]
    have ih' : ∀ P' : Mm × Mm, Rel P'.1 P'.2 → lL_law_18 (fun _ => some (1 : Int32)) L xs f (nI (4 * i) + 4) P' = some 1 := fun P' h' => by
      rw [show nI (4 * i) + (4 : Int32) = nI (4 * (i + 1)) from nI_add (4 * i) 4]
      exact ih f (i + 1) P' h' (by omega) (by omega) (by omega)
    have hL4 : L ≤ 4000 := by omega
    have i1 : nI (4 * i) + (1 : Int32) = nI (4 * i + 1) := nI_add (4 * i) 1
    have i2 : nI (4 * i) + (2 : Int32) = nI (4 * i + 2) := nI_add (4 * i) 2
    have i3 : nI (4 * i) + (3 : Int32) = nI (4 * i + 3) := nI_add (4 * i) 3
    have l1 : 4 * i + 1 < L := by omega
    have l2 : 4 * i + 2 < L := by omega
    have l3 : 4 * i + 3 < L := by omega
    rw [lL_law_18, if_neg (fun e => q ((law_c hL (by omega)).mp e)), rdT_c (4 * i) rfl (by omega) hL4]
    by_cases o0 : xs (4 * i) &&& 31 = 0
    · obtain ⟨v, M1, N1, e1, e2, h1⟩ := pub_strip (xs (4 * i + 1)) P.1 P.2 hP
      rw [if_pos o0, rdT_c (4 * i + 1) i1 l1 hL4, e1, so_b]
      simp only []
      rw [rdT_c (4 * i + 1) i1 l1 hL4, e2, so_b]
      exact lstp rfl (ih' (M1, N1) h1)
    rw [if_neg o0]
    by_cases o1 : xs (4 * i) &&& 31 = 1
    · obtain ⟨v, M1, N1, e1, e2, h1⟩ := pub_bend (xs (4 * i + 1)) (xs (4 * i + 2)) (xs (4 * i + 3)) P.1 P.2 hP
      rw [if_pos o1, rdT_c (4 * i + 1) i1 l1 hL4, rdT_c (4 * i + 2) i2 l2 hL4, rdT_c (4 * i + 3) i3 l3 hL4, e1, so_b]
      simp only []
      rw [rdT_c (4 * i + 1) i1 l1 hL4, rdT_c (4 * i + 2) i2 l2 hL4, rdT_c (4 * i + 3) i3 l3 hL4, e2, so_b]
      exact lstp rfl (ih' (M1, N1) h1)
    rw [if_neg o1]
    by_cases o2 : xs (4 * i) &&& 31 = 2
    · obtain ⟨v, M1, N1, e1, e2, h1⟩ := pub_press (xs (4 * i + 1)) (xs (4 * i + 2)) P.1 P.2 hP
      rw [if_pos o2, rdT_c (4 * i + 1) i1 l1 hL4, rdT_c (4 * i + 2) i2 l2 hL4, e1, so_b]
      simp only []
      rw [rdT_c (4 * i + 1) i1 l1 hL4, rdT_c (4 * i + 2) i2 l2 hL4, e2, so_b]
      exact lstp rfl (ih' (M1, N1) h1)
    rw [if_neg o2]
    by_cases o3 : xs (4 * i) &&& 31 = 3
    · obtain ⟨v, M1, N1, e1, e2, h1⟩ := pub_takes (xs (4 * i + 1)) (xs (4 * i + 2)) P.1 P.2 hP
      rw [if_pos o3, rdT_c (4 * i + 1) i1 l1 hL4, rdT_c (4 * i + 2) i2 l2 hL4, e1, so_b]
      simp only []
      rw [rdT_c (4 * i + 1) i1 l1 hL4, rdT_c (4 * i + 2) i2 l2 hL4, e2, so_b]
      exact lstp rfl (ih' (M1, N1) h1)
    rw [if_neg o3]
    by_cases o4 : xs (4 * i) &&& 31 = 4
    · obtain ⟨v, M1, N1, e1, e2, h1⟩ := pub_makes (xs (4 * i + 1)) P.1 P.2 hP
      rw [if_pos o4, rdT_c (4 * i + 1) i1 l1 hL4, e1, so_b]
      simp only []
      rw [rdT_c (4 * i + 1) i1 l1 hL4, e2, so_b]
      exact lstp rfl (ih' (M1, N1) h1)
    rw [if_neg o4]
    by_cases o5 : xs (4 * i) &&& 31 = 5
    · obtain ⟨v, M1, N1, e1, e2, h1⟩ := pub_unmakes (xs (4 * i + 1)) P.1 P.2 hP
      rw [if_pos o5, rdT_c (4 * i + 1) i1 l1 hL4, e1, so_b]
      simp only []
      rw [rdT_c (4 * i + 1) i1 l1 hL4, e2, so_b]
      exact lstp rfl (ih' (M1, N1) h1)
    rw [if_neg o5]
    by_cases o6 : xs (4 * i) &&& 31 = 6
    · obtain ⟨v, M1, N1, e1, e2, h1⟩ := pub_again P.1 P.2 hP
      rw [if_pos o6, e1, so_b]
      simp only []
      rw [e2, so_b]
      exact lstp rfl (ih' (M1, N1) h1)
    rw [if_neg o6]
    by_cases o7 : xs (4 * i) &&& 31 = 7
    · obtain ⟨v, M1, N1, e1, e2, h1⟩ := pub_of (xs (4 * i + 1)) (xs (4 * i + 2)) P.1 P.2 hP
      rw [if_pos o7, rdT_c (4 * i + 1) i1 l1 hL4, rdT_c (4 * i + 2) i2 l2 hL4, e1, so_b]
      simp only []
      rw [rdT_c (4 * i + 1) i1 l1 hL4, rdT_c (4 * i + 2) i2 l2 hL4, e2, so_b]
      exact lstp rfl (ih' (M1, N1) h1)
    rw [if_neg o7]
    by_cases o8 : xs (4 * i) &&& 31 = 8
    · obtain ⟨v, M1, N1, e1, e2, h1⟩ := pub_joint (xs (4 * i + 1)) (xs (4 * i + 2)) P.1 P.2 hP
      rw [if_pos o8, rdT_c (4 * i + 1) i1 l1 hL4, rdT_c (4 * i + 2) i2 l2 hL4, e1, so_b]
      simp only []
      rw [rdT_c (4 * i + 1) i1 l1 hL4, rdT_c (4 * i + 2) i2 l2 hL4, e2, so_b]
      exact lstp rfl (ih' (M1, N1) h1)
    rw [if_neg o8]
    by_cases o9 : xs (4 * i) &&& 31 = 9
    · obtain ⟨v, M1, N1, e1, e2, h1⟩ := pub_box (xs (4 * i + 1)) P.1 P.2 hP
      rw [if_pos o9, rdT_c (4 * i + 1) i1 l1 hL4, e1, so_b]
      simp only []
      rw [rdT_c (4 * i + 1) i1 l1 hL4, e2, so_b]
      exact lstp rfl (ih' (M1, N1) h1)
    rw [if_neg o9]
    by_cases o10 : xs (4 * i) &&& 31 = 10
    · obtain ⟨v, M1, N1, e1, e2, h1⟩ := pub_hits (xs (4 * i + 1)) P.1 P.2 hP
      rw [if_pos o10, rdT_c (4 * i + 1) i1 l1 hL4, e1, so_b]
      simp only []
      rw [rdT_c (4 * i + 1) i1 l1 hL4, e2, so_b]
      exact lstp rfl (ih' (M1, N1) h1)
    rw [if_neg o10]
    by_cases o11 : xs (4 * i) &&& 31 = 11
    · obtain ⟨v, M1, N1, e1, e2, h1⟩ := pub_free P.1 P.2 hP
      rw [if_pos o11, e1, so_b]
      simp only []
      rw [e2, so_b]
      exact lstp rfl (ih' (M1, N1) h1)
    rw [if_neg o11]
    by_cases o12 : xs (4 * i) &&& 31 = 12
    · obtain ⟨v, M1, N1, e1, e2, h1⟩ := pub_orders P.1 P.2 hP
      rw [if_pos o12, e1, so_b]
      simp only []
      rw [e2, so_b]
      exact lstp rfl (ih' (M1, N1) h1)
    rw [if_neg o12]
    by_cases o13 : xs (4 * i) &&& 31 = 13
    · obtain ⟨v, M1, N1, e1, e2, h1⟩ := pub_order (xs (4 * i + 1)) (xs (4 * i + 2)) P.1 P.2 hP
      rw [if_pos o13, rdT_c (4 * i + 1) i1 l1 hL4, rdT_c (4 * i + 2) i2 l2 hL4, e1, so_b]
      simp only []
      rw [rdT_c (4 * i + 1) i1 l1 hL4, rdT_c (4 * i + 2) i2 l2 hL4, e2, so_b]
      exact lstp rfl (ih' (M1, N1) h1)
    rw [if_neg o13]
    by_cases o14 : xs (4 * i) &&& 31 = 14
    · obtain ⟨v, M1, N1, e1, e2, h1⟩ := pub_changes (xs (4 * i + 1)) P.1 P.2 hP
      rw [if_pos o14, rdT_c (4 * i + 1) i1 l1 hL4, e1, so_b]
      simp only []
      rw [rdT_c (4 * i + 1) i1 l1 hL4, e2, so_b]
      exact lstp rfl (ih' (M1, N1) h1)
    rw [if_neg o14]
    by_cases o15 : xs (4 * i) &&& 31 = 15
    · obtain ⟨v, M1, N1, e1, e2, h1⟩ := pub_ways P.1 P.2 hP
      rw [if_pos o15, e1, so_b]
      simp only []
      rw [e2, so_b]
      exact lstp rfl (ih' (M1, N1) h1)
    rw [if_neg o15]
    by_cases o16 : xs (4 * i) &&& 31 = 16
    · obtain ⟨v, M1, N1, e1, e2, h1⟩ := pub_count (xs (4 * i + 1)) P.1 P.2 hP
      rw [if_pos o16, rdT_c (4 * i + 1) i1 l1 hL4, e1, so_b]
      simp only []
      rw [rdT_c (4 * i + 1) i1 l1 hL4, e2, so_b]
      exact lstp rfl (ih' (M1, N1) h1)
    rw [if_neg o16]
    by_cases o17 : xs (4 * i) &&& 31 = 17
    · obtain ⟨v, M1, N1, e1, e2, h1⟩ := pub_type (xs (4 * i + 1)) P.1 P.2 hP
      rw [if_pos o17, rdT_c (4 * i + 1) i1 l1 hL4, e1, so_b]
      simp only []
      rw [rdT_c (4 * i + 1) i1 l1 hL4, e2, so_b]
      exact lstp rfl (ih' (M1, N1) h1)
    rw [if_neg o17]
    by_cases o18 : xs (4 * i) &&& 31 = 18
    · obtain ⟨v, M1, N1, e1, e2, h1⟩ := pub_clear P.1 P.2 hP
      rw [if_pos o18, e1, so_b]
      simp only []
      rw [e2, so_b]
      exact lstp rfl (ih' (M1, N1) h1)
    rw [if_neg o18]
    by_cases o19 : xs (4 * i) &&& 31 = 19
    · obtain ⟨v, M1, N1, e1, e2, h1⟩ := pub_does P.1 P.2 hP
      rw [if_pos o19, e1, so_b]
      simp only []
      rw [e2, so_b]
      exact lstp rfl (ih' (M1, N1) h1)
    rw [if_neg o19]
    by_cases o20 : xs (4 * i) &&& 31 = 20
    · obtain ⟨v, M1, N1, e1, e2, h1⟩ := pub_back P.1 P.2 hP
      rw [if_pos o20, e1, so_b]
      simp only []
      rw [e2, so_b]
      exact lstp rfl (ih' (M1, N1) h1)
    rw [if_neg o20]
    by_cases o21 : xs (4 * i) &&& 31 = 21
    · obtain ⟨v, M1, N1, e1, e2, h1⟩ := pub_told (xs (4 * i + 1)) P.1 P.2 hP
      rw [if_pos o21, rdT_c (4 * i + 1) i1 l1 hL4, e1, so_b]
      simp only []
      rw [rdT_c (4 * i + 1) i1 l1 hL4, e2, so_b]
      exact lstp rfl (ih' (M1, N1) h1)
    rw [if_neg o21]
    by_cases o22 : xs (4 * i) &&& 31 = 22
    · obtain ⟨v, M1, N1, e1, e2, h1⟩ := pub_digest P.1 P.2 hP
      rw [if_pos o22, e1, so_b]
      simp only []
      rw [e2, so_b]
      exact lstp (lg_cmp_self v) (ih' (M1, N1) h1)
    rw [if_neg o22]
    exact ih' P hP
theorem law_pure {L : Nat} (xs : Nat → Int32) (hL : L ≤ 2048) {P : Mm × Mm} (hP : Rel P.1 P.2) : fL_law L xs P = some 1 := law_loop hL 512 fu 0 P hP (by omega) (by omega) (by rw [fu_eq]; omega)
