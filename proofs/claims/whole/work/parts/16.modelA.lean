/-! FlangeFolderModel.within -/
def fX7_within (a0 : Int32) (a1 : Int32) (a2 : Int32) (M : Mm) : Option (Int32 × Mm) := (if a0 < a1 then some ((0 : Int32), M) else (if a2 < a0 then some ((0 : Int32), M) else some ((1 : Int32), M)))
def rmX7_within : Room := { frames := 0, cells := 0, slots := 0, locals := 0 }
theorem kX7_within : Kc yX7_within cX7_within 3 (some .boolean) wsX7_within 3 := ⟨⟨_, rfl⟩, by decide +kernel, by decide +kernel, by decide +kernel⟩
set_option maxHeartbeats 4000000 in
set_option maxRecDepth 100000 in
theorem mX7_within (l : Launch) (G : Gg) (a0 : Int32) (a1 : Int32) (a2 : Int32) : Ci l G SM yX7_within wsX7_within rmX7_within [.int a0, .int a1, .int a2] (fX7_within a0 a1 a2) := by
  refine Ci.intro (lv := [(0, .int a0), (1, .int a1), (2, .int a2)]) RX7 rfl (by decide) kX7_within (Nat.le_of_ble_eq_true rfl) rfl (fun X V M z F D hX hml E => ?_)
  unfold fX7_within
  refine j_iload_n F dX7_within_0 rfl 0 rfl ?_
  refine j_iload_n F dX7_within_1 rfl 1 rfl ?_
  refine j_icmp_lt (tgt := 14) F dX7_within_2 (by decide) ?_ ?_
  · refine j_iconst (v := (0 : Int32)) F dX7_within_14 (by decide) ?_
    exact j_iret F D E rfl dX7_within_15
  · refine j_iload_n F dX7_within_5 rfl 0 rfl ?_
    refine j_iload_n F dX7_within_6 rfl 2 rfl ?_
    refine j_icmp_gt (tgt := 14) F dX7_within_7 (by decide) ?_ ?_
    · refine j_iconst (v := (0 : Int32)) F dX7_within_14 (by decide) ?_
      exact j_iret F D E rfl dX7_within_15
    · refine j_iconst (v := (1 : Int32)) F dX7_within_10 (by decide) ?_
      refine j_goto (tgt := 15) F dX7_within_11 (by decide) ?_
      exact j_iret F D E rfl dX7_within_15

/-! FlangeFolderModel.has -/
def fX7_has (a0 : Int32) (a1 : Int32) (M : Mm) : Option (Int32 × Mm) := (if ((a0 >>> (a1 &&& 31)) &&& (1 : Int32)) = (1 : Int32) then some ((1 : Int32), M) else some ((0 : Int32), M))
def rmX7_has : Room := { frames := 0, cells := 0, slots := 0, locals := 0 }
theorem kX7_has : Kc yX7_has cX7_has 2 (some .boolean) wsX7_has 2 := ⟨⟨_, rfl⟩, by decide +kernel, by decide +kernel, by decide +kernel⟩
set_option maxHeartbeats 4000000 in
set_option maxRecDepth 100000 in
theorem mX7_has (l : Launch) (G : Gg) (a0 : Int32) (a1 : Int32) : Ci l G SM yX7_has wsX7_has rmX7_has [.int a0, .int a1] (fX7_has a0 a1) := by
  refine Ci.intro (lv := [(0, .int a0), (1, .int a1)]) RX7 rfl (by decide) kX7_has (Nat.le_of_ble_eq_true rfl) rfl (fun X V M z F D hX hml E => ?_)
  unfold fX7_has
  refine j_iload_n F dX7_has_0 rfl 0 rfl ?_
  refine j_iload_n F dX7_has_1 rfl 1 rfl ?_
  refine j_ishr F dX7_has_2 ?_
  refine j_iconst (v := (1 : Int32)) F dX7_has_3 (by decide) ?_
  refine j_iand F dX7_has_4 ?_
  refine j_iconst (v := (1 : Int32)) F dX7_has_5 (by decide) ?_
  refine j_icmp_ne (tgt := 13) F dX7_has_6 (by decide) ?_ ?_
  · refine j_iconst (v := (0 : Int32)) F dX7_has_13 (by decide) ?_
    exact j_iret F D E rfl dX7_has_14
  · refine j_iconst (v := (1 : Int32)) F dX7_has_9 (by decide) ?_
    refine j_goto (tgt := 14) F dX7_has_10 (by decide) ?_
    exact j_iret F D E rfl dX7_has_14

/-! FlangeFolderModel.ones -/
def lX7_ones_4 (K5 : Int32 → Option (Int32 × Mm)) (c1 : Int32) (N4 : Mm) : Nat → Int32 → Int32 → Option (Int32 × Mm)
  | 0, _, _ => none
  | n8 + 1, x2, x3 => (if (6 : Int32) ≤ x3 then K5 x2 else lt (x2 + ((c1 >>> (x3 &&& 31)) &&& (1 : Int32))) (fun x9 => lX7_ones_4 K5 c1 N4 n8 x9 (x3 + (1 : Int32))))
def fX7_ones (a0 : Int32) (M : Mm) : Option (Int32 × Mm) := lX7_ones_4 (fun (x6 : Int32) => some (x6, M)) a0 M fu (0 : Int32) (0 : Int32)
def rmX7_ones : Room := { frames := 0, cells := 0, slots := 0, locals := 0 }
theorem kX7_ones : Kc yX7_ones cX7_ones 3 (some .int) wsX7_ones 1 := ⟨⟨_, rfl⟩, by decide +kernel, by decide +kernel, by decide +kernel⟩
set_option maxHeartbeats 4000000 in
set_option maxRecDepth 100000 in
theorem mX7_ones (l : Launch) (G : Gg) (a0 : Int32) : Ci l G SM yX7_ones wsX7_ones rmX7_ones [.int a0] (fX7_ones a0) := by
  refine Ci.intro (lv := [(0, .int a0)]) RX7 rfl (by decide) kX7_ones (Nat.le_of_ble_eq_true rfl) rfl (fun X V M z F D hX hml E => ?_)
  unfold fX7_ones
  refine j_iconst (v := (0 : Int32)) F dX7_ones_0 (by decide) ?_
  refine j_istore_n (lv' := [(1, .int (0 : Int32)), (0, .int a0)]) F dX7_ones_1 rfl (by rw [← hml]; decide) rfl ?_
  refine j_iconst (v := (0 : Int32)) F dX7_ones_2 (by decide) ?_
  refine j_istore_n (lv' := [(2, .int (0 : Int32)), (1, .int (0 : Int32)), (0, .int a0)]) F dX7_ones_3 rfl (by rw [← hml]; decide) rfl ?_
  have hL10 : ∀ (K5 : Int32 → Option (Int32 × Mm)) (c1 : Int32) (N4 : Mm), (∀ (x6 : Int32), Jg X V z (K5 x6) N4 24 [(1, .int x6)] []) → ∀ (n8 : Nat) (x2 : Int32) (x3 : Int32), Jg X V z (lX7_ones_4 K5 c1 N4 n8 x2 x3) N4 4 [(0, .int c1), (1, .int x2), (2, .int x3)] [] := by
    intro K5 c1 N4 hK5 n8
    induction n8 with
    | zero => intro x2 x3; rw [lX7_ones_4]; exact j_none
    | succ n8 ih7 =>
      intro x2 x3
      rw [lX7_ones_4]
      refine j_iload_n F dX7_ones_4 rfl 2 rfl ?_
      refine j_bipush (v := (6 : Int32)) F dX7_ones_5 (by decide) ?_
      refine j_icmp_ge (tgt := 24) F dX7_ones_7 (by decide) ?_ ?_
      · exact j_sub [1] rfl (hK5 x2)
      · refine j_iload_n F dX7_ones_10 rfl 1 rfl ?_
        refine j_iload_n F dX7_ones_11 rfl 0 rfl ?_
        refine j_iload_n F dX7_ones_12 rfl 2 rfl ?_
        refine j_ishr F dX7_ones_13 ?_
        refine j_iconst (v := (1 : Int32)) F dX7_ones_14 (by decide) ?_
        refine j_iand F dX7_ones_15 ?_
        refine j_iadd F dX7_ones_16 ?_
        refine j_let (f := Value.int) (fun x9 => ?_)
        refine j_istore_n (lv' := [(1, .int x9), (0, .int c1), (2, .int x3)]) F dX7_ones_17 rfl (by rw [← hml]; decide) rfl ?_
        refine j_iinc (v := (x3 + (1 : Int32))) (lv' := [(2, .int (x3 + (1 : Int32))), (1, .int x9), (0, .int c1)]) F dX7_ones_18 2 rfl rfl (by rw [← hml]; decide) rfl ?_
        refine j_goto (tgt := 4) F dX7_ones_21 (by decide) ?_
        exact j_sub [2, 1, 0] rfl (ih7 x9 (x3 + (1 : Int32)))
  refine j_sub [2, 1, 0] rfl (hL10 _ a0 M ?_ fu (0 : Int32) (0 : Int32))
  intro x6
  refine j_iload_n F dX7_ones_24 rfl 0 rfl ?_
  exact j_iret F D E rfl dX7_ones_25

/-! FlangeFolderModel.counts -/
def fX7_counts (a0 : Int32) (M : Mm) : Option (Int32 × Mm) := (rd M 58 3 ((-1001 : Int32) - a0)).bind (fun v1 => (wr M 58 3 ((-1001 : Int32) - a0) (v1 + (1 : Int32))).bind (fun N2 => some (a0, N2)))
def rmX7_counts : Room := { frames := 0, cells := 0, slots := 0, locals := 0 }
theorem kX7_counts : Kc yX7_counts cX7_counts 2 (some .int) wsX7_counts 1 := ⟨⟨_, rfl⟩, by decide +kernel, by decide +kernel, by decide +kernel⟩
theorem ic_X7_counts_X7 : ∀ w ∈ u_ws RX7 TX7 19, w ∈ wsX7_counts := by decide +kernel
theorem fl_X7_counts_19 : Fl wsX7_counts RX7 19 7 4 := ⟨RX7, TX7, 19, rfl, by decide, ic_X7_counts_X7, by decide +kernel⟩
set_option maxHeartbeats 4000000 in
set_option maxRecDepth 100000 in
theorem mX7_counts (l : Launch) (G : Gg) (a0 : Int32) : Ci l G SM yX7_counts wsX7_counts rmX7_counts [.ref (G.2.1 54), .int a0] (fX7_counts a0) := by
  refine Ci.intro (lv := [(0, .ref (G.2.1 54)), (1, .int a0)]) RX7 rfl (by decide) kX7_counts (Nat.le_of_ble_eq_true rfl) rfl (fun X V M z F D hX hml E => ?_)
  unfold fX7_counts
  refine j_aload_n F dX7_counts_0 rfl 0 rfl ?_
  refine j_getr (r := 58) F D ce_54 fl_X7_counts_19 rfl dX7_counts_1 ?_
  refine j_sipush (v := (-1001 : Int32)) F dX7_counts_4 (by decide) ?_
  refine j_iload_n F dX7_counts_7 rfl 1 rfl ?_
  refine j_isub F dX7_counts_8 ?_
  refine j_dup2 F rfl rfl dX7_counts_9 ?_
  refine j_iald F D ce_58 dX7_counts_10 (fun v1 => ?_)
  refine j_iconst (v := (1 : Int32)) F dX7_counts_11 (by decide) ?_
  refine j_iadd F dX7_counts_12 ?_
  refine j_iast F D ce_58 dX7_counts_13 (fun N2 => ?_)
  refine j_iload_n F dX7_counts_14 rfl 1 rfl ?_
  exact j_iret F D E rfl dX7_counts_15

/-! FlangeFolderModel.isBend -/
def fX7_isBend (a0 : Int32) (M : Mm) : Option (Int32 × Mm) := (rd M 55 26 (0 : Int32)).bind (fun v1 => (fX7_within a0 (0 : Int32) (v1 - (1 : Int32)) M).bind (fun w2 => (ckZ w2.1).bind (fun r => some (r, w2.2))))
def rmX7_isBend : Room := { frames := 1, cells := 0, slots := 0, locals := 22 }
theorem kX7_isBend : Kc yX7_isBend cX7_isBend 2 (some .boolean) wsX7_isBend 1 := ⟨⟨_, rfl⟩, by decide +kernel, by decide +kernel, by decide +kernel⟩
theorem ic_X7_isBend_X7 : ∀ w ∈ u_ws RX7 TX7 19, w ∈ wsX7_isBend := by decide +kernel
theorem fl_X7_isBend_7 : Fl wsX7_isBend RX7 7 7 0 := ⟨RX7, TX7, 19, rfl, by decide, ic_X7_isBend_X7, by decide +kernel⟩
set_option maxHeartbeats 4000000 in
set_option maxRecDepth 100000 in
theorem mX7_isBend (l : Launch) (G : Gg) (a0 : Int32) : Ci l G SM yX7_isBend wsX7_isBend rmX7_isBend [.ref (G.2.1 54), .int a0] (fX7_isBend a0) := by
  refine Ci.intro (lv := [(0, .ref (G.2.1 54)), (1, .int a0)]) RX7 rfl (by decide) kX7_isBend (Nat.le_of_ble_eq_true rfl) rfl (fun X V M z F D hX hml E => ?_)
  unfold fX7_isBend
  refine j_iload_n F dX7_isBend_0 rfl 1 rfl ?_
  refine j_iconst (v := (0 : Int32)) F dX7_isBend_1 (by decide) ?_
  refine j_aload_n F dX7_isBend_2 rfl 0 rfl ?_
  refine j_getr (r := 55) F D ce_54 fl_X7_isBend_7 rfl dX7_isBend_3 ?_
  refine j_iconst (v := (0 : Int32)) F dX7_isBend_6 (by decide) ?_
  refine j_iald F D ce_55 dX7_isBend_7 (fun v1 => ?_)
  refine j_iconst (v := (1 : Int32)) F dX7_isBend_8 (by decide) ?_
  refine j_isub F dX7_isBend_9 ?_
  refine j_callSi (As := [.int a0, .int (0 : Int32), .int (v1 - (1 : Int32))]) F D hX (mX7_within l G a0 (0 : Int32) (v1 - (1 : Int32))) kX7_within gX7_isBend_X7_within ⟨rfl, rfl⟩ ⟨Nat.le_of_ble_eq_true rfl, Nat.le_of_ble_eq_true rfl⟩ rfl (Nat.le_of_ble_eq_true rfl) rfl dX7_isBend_10 (fun w2 => ?_)
  exact j_zret F D E dX7_isBend_13

/-! FlangeFolderModel.allMade -/
def fX7_allMade (M : Mm) : Option (Int32 × Mm) := (rd M 55 26 (0 : Int32)).bind (fun v1 => some ((((1 : Int32) <<< (v1 &&& 31)) - (1 : Int32)), M))
def rmX7_allMade : Room := { frames := 0, cells := 0, slots := 0, locals := 0 }
theorem kX7_allMade : Kc yX7_allMade cX7_allMade 1 (some .int) wsX7_allMade 0 := ⟨⟨_, rfl⟩, by decide +kernel, by decide +kernel, by decide +kernel⟩
theorem ic_X7_allMade_X7 : ∀ w ∈ u_ws RX7 TX7 19, w ∈ wsX7_allMade := by decide +kernel
theorem fl_X7_allMade_7 : Fl wsX7_allMade RX7 7 7 0 := ⟨RX7, TX7, 19, rfl, by decide, ic_X7_allMade_X7, by decide +kernel⟩
set_option maxHeartbeats 4000000 in
set_option maxRecDepth 100000 in
theorem mX7_allMade (l : Launch) (G : Gg) : Ci l G SM yX7_allMade wsX7_allMade rmX7_allMade [.ref (G.2.1 54)] fX7_allMade := by
  refine Ci.intro (lv := [(0, .ref (G.2.1 54))]) RX7 rfl (by decide) kX7_allMade (Nat.le_of_ble_eq_true rfl) rfl (fun X V M z F D hX hml E => ?_)
  unfold fX7_allMade
  refine j_iconst (v := (1 : Int32)) F dX7_allMade_0 (by decide) ?_
  refine j_aload_n F dX7_allMade_1 rfl 0 rfl ?_
  refine j_getr (r := 55) F D ce_54 fl_X7_allMade_7 rfl dX7_allMade_2 ?_
  refine j_iconst (v := (0 : Int32)) F dX7_allMade_5 (by decide) ?_
  refine j_iald F D ce_55 dX7_allMade_6 (fun v1 => ?_)
  refine j_ishl F dX7_allMade_7 ?_
  refine j_iconst (v := (1 : Int32)) F dX7_allMade_8 (by decide) ?_
  refine j_isub F dX7_allMade_9 ?_
  exact j_iret F D E rfl dX7_allMade_10

/-! FlangeFolderModel.leaves -/
def lX7_leaves_49 (K5 : Mm → Option (Unit × Mm))  : Nat → Int32 → Mm → Option (Unit × Mm)
  | 0, _, _ => none
  | n8 + 1, x3, N4 => (if (26 : Int32) ≤ x3 then K5 N4 else (rd N4 55 26 x3).bind (fun v9 => (wr N4 57 130 (((26 : Int32) * (N4.1 54 3)) + x3) v9).bind (fun N10 => lX7_leaves_49 K5 n8 (x3 + (1 : Int32)) N10)))
def lX7_leaves_10 (K15 : Mm → Option (Unit × Mm))  : Nat → Int32 → Mm → Option (Unit × Mm)
  | 0, _, _ => none
  | n18 + 1, x13, N14 => (if (104 : Int32) ≤ x13 then K15 N14 else (rd N14 57 130 (x13 + (26 : Int32))).bind (fun v19 => (wr N14 57 130 x13 v19).bind (fun N20 => lX7_leaves_10 K15 n18 (x13 + (1 : Int32)) N20)))
def fX7_leaves (M : Mm) : Option (Unit × Mm) := jn (fun (N1 : Mm) => lX7_leaves_49 (fun (N6 : Mm) => lt (stI N6 54 3 ((N6.1 54 3) + (1 : Int32))) (fun N11 => some ((), N11)))  fu (0 : Int32) N1) (fun K2 => (if (M.1 54 3) = (5 : Int32) then lX7_leaves_10 (fun (N16 : Mm) => lt (stI N16 54 3 ((N16.1 54 3) - (1 : Int32))) (fun N21 => K2 N21))  fu (0 : Int32) M else K2 M))
def rmX7_leaves : Room := { frames := 0, cells := 0, slots := 0, locals := 0 }
theorem kX7_leaves : Kc yX7_leaves cX7_leaves 2 none wsX7_leaves 0 := ⟨⟨_, rfl⟩, by decide +kernel, by decide +kernel, by decide +kernel⟩
theorem ic_X7_leaves_X7 : ∀ w ∈ u_ws RX7 TX7 19, w ∈ wsX7_leaves := by decide +kernel
theorem fl_X7_leaves_56 : Fl wsX7_leaves RX7 56 7 3 := ⟨RX7, TX7, 19, rfl, by decide, ic_X7_leaves_X7, by decide +kernel⟩
theorem fl_X7_leaves_16 : Fl wsX7_leaves RX7 16 7 2 := ⟨RX7, TX7, 19, rfl, by decide, ic_X7_leaves_X7, by decide +kernel⟩
theorem fl_X7_leaves_7 : Fl wsX7_leaves RX7 7 7 0 := ⟨RX7, TX7, 19, rfl, by decide, ic_X7_leaves_X7, by decide +kernel⟩
theorem fp_X7_leaves_56 : Fp wsX7_leaves RX7 56 7 3 .int := ⟨RX7, TX7, 19, tyX7, rfl, by decide, ic_X7_leaves_X7, by decide +kernel, tyX7_ok, nmX7, rfl, rfl⟩
set_option maxHeartbeats 4000000 in
set_option maxRecDepth 100000 in
theorem mX7_leaves (l : Launch) (G : Gg) : Cv l G SM yX7_leaves wsX7_leaves rmX7_leaves [.ref (G.2.1 54)] fX7_leaves := by
  refine Cv.intro (lv := [(0, .ref (G.2.1 54))]) RX7 rfl (by decide) kX7_leaves (Nat.le_of_ble_eq_true rfl) rfl (fun X V M z F D hX hml E => ?_)
  unfold fX7_leaves
  refine j_aload_n F dX7_leaves_0 rfl 0 rfl ?_
  refine j_geti F D ce_54 fl_X7_leaves_56 rfl dX7_leaves_1 ?_
  refine j_iconst (v := (5 : Int32)) F dX7_leaves_4 (by decide) ?_
  refine j_jn (P := fun (K2 : Mm → Option (Unit × Mm)) => ∀ (N1 : Mm), Jg X V z (K2 N1) N1 47 [(0, .ref (G.2.1 54))] []) ?_ (fun K2 hK2 => ?_)
  · intro N1
    refine j_iconst (v := (0 : Int32)) F dX7_leaves_47 (by decide) ?_
    refine j_istore_n (lv' := [(1, .int (0 : Int32)), (0, .ref (G.2.1 54))]) F dX7_leaves_48 rfl (by rw [← hml]; decide) rfl ?_
    have hL12 : ∀ (K5 : Mm → Option (Unit × Mm)) , (∀ (N6 : Mm), Jg X V z (K5 N6) N6 81 [(0, .ref (G.2.1 54))] []) → ∀ (n8 : Nat) (x3 : Int32) (N4 : Mm), Jg X V z (lX7_leaves_49 K5 n8 x3 N4) N4 49 [(0, .ref (G.2.1 54)), (1, .int x3)] [] := by
      intro K5  hK5 n8
      induction n8 with
      | zero => intro x3 N4; rw [lX7_leaves_49]; exact j_none
      | succ n8 ih7 =>
        intro x3 N4
        rw [lX7_leaves_49]
        refine j_iload_n F dX7_leaves_49 rfl 1 rfl ?_
        refine j_bipush (v := (26 : Int32)) F dX7_leaves_50 (by decide) ?_
        refine j_icmp_ge (tgt := 81) F dX7_leaves_52 (by decide) ?_ ?_
        · exact j_sub [0] rfl (hK5 N4)
        · refine j_aload_n F dX7_leaves_55 rfl 0 rfl ?_
          refine j_getr (r := 57) F D ce_54 fl_X7_leaves_16 rfl dX7_leaves_56 ?_
          refine j_bipush (v := (26 : Int32)) F dX7_leaves_59 (by decide) ?_
          refine j_aload_n F dX7_leaves_61 rfl 0 rfl ?_
          refine j_geti F D ce_54 fl_X7_leaves_56 rfl dX7_leaves_62 ?_
          refine j_imul F dX7_leaves_65 ?_
          refine j_iload_n F dX7_leaves_66 rfl 1 rfl ?_
          refine j_iadd F dX7_leaves_67 ?_
          refine j_aload_n F dX7_leaves_68 rfl 0 rfl ?_
          refine j_getr (r := 55) F D ce_54 fl_X7_leaves_7 rfl dX7_leaves_69 ?_
          refine j_iload_n F dX7_leaves_72 rfl 1 rfl ?_
          refine j_iald F D ce_55 dX7_leaves_73 (fun v9 => ?_)
          refine j_iast F D ce_57 dX7_leaves_74 (fun N10 => ?_)
          refine j_iinc (v := (x3 + (1 : Int32))) (lv' := [(1, .int (x3 + (1 : Int32))), (0, .ref (G.2.1 54))]) F dX7_leaves_75 1 rfl rfl (by rw [← hml]; decide) rfl ?_
          refine j_goto (tgt := 49) F dX7_leaves_78 (by decide) ?_
          exact j_sub [1, 0] rfl (ih7 (x3 + (1 : Int32)) N10)
    refine j_sub [1, 0] rfl (hL12 _  ?_ fu (0 : Int32) N1)
    intro N6
    refine j_aload_n F dX7_leaves_81 rfl 0 rfl ?_
    refine j_dup F rfl dX7_leaves_82 ?_
    refine j_geti F D ce_54 fl_X7_leaves_56 rfl dX7_leaves_83 ?_
    refine j_iconst (v := (1 : Int32)) F dX7_leaves_86 (by decide) ?_
    refine j_iadd F dX7_leaves_87 ?_
    refine j_puti F D ce_54 fp_X7_leaves_56 rfl rfl rfl dX7_leaves_88 ?_
    refine j_letM (fun N11 => ?_)
    exact j_vret F D E dX7_leaves_91
  · refine j_icmp_ne (tgt := 47) F dX7_leaves_5 (by decide) ?_ ?_
    · exact j_sub [0] rfl (hK2 M)
    · refine j_iconst (v := (0 : Int32)) F dX7_leaves_8 (by decide) ?_
      refine j_istore_n (lv' := [(1, .int (0 : Int32)), (0, .ref (G.2.1 54))]) F dX7_leaves_9 rfl (by rw [← hml]; decide) rfl ?_
      have hL22 : ∀ (K15 : Mm → Option (Unit × Mm)) , (∀ (N16 : Mm), Jg X V z (K15 N16) N16 37 [(0, .ref (G.2.1 54))] []) → ∀ (n18 : Nat) (x13 : Int32) (N14 : Mm), Jg X V z (lX7_leaves_10 K15 n18 x13 N14) N14 10 [(0, .ref (G.2.1 54)), (1, .int x13)] [] := by
        intro K15  hK15 n18
        induction n18 with
        | zero => intro x13 N14; rw [lX7_leaves_10]; exact j_none
        | succ n18 ih17 =>
          intro x13 N14
          rw [lX7_leaves_10]
          refine j_iload_n F dX7_leaves_10 rfl 1 rfl ?_
          refine j_bipush (v := (104 : Int32)) F dX7_leaves_11 (by decide) ?_
          refine j_icmp_ge (tgt := 37) F dX7_leaves_13 (by decide) ?_ ?_
          · exact j_sub [0] rfl (hK15 N14)
          · refine j_aload_n F dX7_leaves_16 rfl 0 rfl ?_
            refine j_getr (r := 57) F D ce_54 fl_X7_leaves_16 rfl dX7_leaves_17 ?_
            refine j_iload_n F dX7_leaves_20 rfl 1 rfl ?_
            refine j_aload_n F dX7_leaves_21 rfl 0 rfl ?_
            refine j_getr (r := 57) F D ce_54 fl_X7_leaves_16 rfl dX7_leaves_22 ?_
            refine j_iload_n F dX7_leaves_25 rfl 1 rfl ?_
            refine j_bipush (v := (26 : Int32)) F dX7_leaves_26 (by decide) ?_
            refine j_iadd F dX7_leaves_28 ?_
            refine j_iald F D ce_57 dX7_leaves_29 (fun v19 => ?_)
            refine j_iast F D ce_57 dX7_leaves_30 (fun N20 => ?_)
            refine j_iinc (v := (x13 + (1 : Int32))) (lv' := [(1, .int (x13 + (1 : Int32))), (0, .ref (G.2.1 54))]) F dX7_leaves_31 1 rfl rfl (by rw [← hml]; decide) rfl ?_
            refine j_goto (tgt := 10) F dX7_leaves_34 (by decide) ?_
            exact j_sub [1, 0] rfl (ih17 (x13 + (1 : Int32)) N20)
      refine j_sub [1, 0] rfl (hL22 _  ?_ fu (0 : Int32) M)
      intro N16
      refine j_aload_n F dX7_leaves_37 rfl 0 rfl ?_
      refine j_dup F rfl dX7_leaves_38 ?_
      refine j_geti F D ce_54 fl_X7_leaves_56 rfl dX7_leaves_39 ?_
      refine j_iconst (v := (1 : Int32)) F dX7_leaves_42 (by decide) ?_
      refine j_isub F dX7_leaves_43 ?_
      refine j_puti F D ce_54 fp_X7_leaves_56 rfl rfl rfl dX7_leaves_44 ?_
      refine j_letM (fun N21 => ?_)
      exact j_sub [0] rfl (hK2 N21)

/-! FlangeFolderModel.back -/
def lX7_back_27 (K4 : Mm → Option (Int32 × Mm))  : Nat → Int32 → Mm → Option (Int32 × Mm)
  | 0, _, _ => none
  | n7 + 1, x2, N3 => (if (26 : Int32) ≤ x2 then K4 N3 else (rd N3 57 130 (((26 : Int32) * (N3.1 54 3)) + x2)).bind (fun v8 => (wr N3 55 26 x2 v8).bind (fun N9 => lX7_back_27 K4 n7 (x2 + (1 : Int32)) N9)))
def fX7_back (M : Mm) : Option (Int32 × Mm) := (if (M.1 54 3) = (0 : Int32) then (fX7_counts (-1002 : Int32) M).bind (fun w11 => some (w11.1, w11.2)) else lt (stI M 54 3 ((M.1 54 3) - (1 : Int32))) (fun N1 => lX7_back_27 (fun (N5 : Mm) => some ((N5.1 54 3), N5))  fu (0 : Int32) N1))
def rmX7_back : Room := { frames := 1, cells := 0, slots := 0, locals := 21 }
theorem kX7_back : Kc yX7_back cX7_back 2 (some .int) wsX7_back 0 := ⟨⟨_, rfl⟩, by decide +kernel, by decide +kernel, by decide +kernel⟩
theorem ic_X7_back_X7 : ∀ w ∈ u_ws RX7 TX7 19, w ∈ wsX7_back := by decide +kernel
theorem fl_X7_back_56 : Fl wsX7_back RX7 56 7 3 := ⟨RX7, TX7, 19, rfl, by decide, ic_X7_back_X7, by decide +kernel⟩
theorem fp_X7_back_56 : Fp wsX7_back RX7 56 7 3 .int := ⟨RX7, TX7, 19, tyX7, rfl, by decide, ic_X7_back_X7, by decide +kernel, tyX7_ok, nmX7, rfl, rfl⟩
theorem fl_X7_back_7 : Fl wsX7_back RX7 7 7 0 := ⟨RX7, TX7, 19, rfl, by decide, ic_X7_back_X7, by decide +kernel⟩
theorem fl_X7_back_16 : Fl wsX7_back RX7 16 7 2 := ⟨RX7, TX7, 19, rfl, by decide, ic_X7_back_X7, by decide +kernel⟩
set_option maxHeartbeats 4000000 in
set_option maxRecDepth 100000 in
theorem mX7_back (l : Launch) (G : Gg) : Ci l G SM yX7_back wsX7_back rmX7_back [.ref (G.2.1 54)] fX7_back := by
  refine Ci.intro (lv := [(0, .ref (G.2.1 54))]) RX7 rfl (by decide) kX7_back (Nat.le_of_ble_eq_true rfl) rfl (fun X V M z F D hX hml E => ?_)
  unfold fX7_back
  refine j_aload_n F dX7_back_0 rfl 0 rfl ?_
  refine j_geti F D ce_54 fl_X7_back_56 rfl dX7_back_1 ?_
  refine j_if_ne (tgt := 15) F dX7_back_4 (by decide) ?_ ?_
  · refine j_aload_n F dX7_back_15 rfl 0 rfl ?_
    refine j_dup F rfl dX7_back_16 ?_
    refine j_geti F D ce_54 fl_X7_back_56 rfl dX7_back_17 ?_
    refine j_iconst (v := (1 : Int32)) F dX7_back_20 (by decide) ?_
    refine j_isub F dX7_back_21 ?_
    refine j_puti F D ce_54 fp_X7_back_56 rfl rfl rfl dX7_back_22 ?_
    refine j_letM (fun N1 => ?_)
    refine j_iconst (v := (0 : Int32)) F dX7_back_25 (by decide) ?_
    refine j_istore_n (lv' := [(1, .int (0 : Int32)), (0, .ref (G.2.1 54))]) F dX7_back_26 rfl (by rw [← hml]; decide) rfl ?_
    have hL10 : ∀ (K4 : Mm → Option (Int32 × Mm)) , (∀ (N5 : Mm), Jg X V z (K4 N5) N5 59 [(0, .ref (G.2.1 54))] []) → ∀ (n7 : Nat) (x2 : Int32) (N3 : Mm), Jg X V z (lX7_back_27 K4 n7 x2 N3) N3 27 [(0, .ref (G.2.1 54)), (1, .int x2)] [] := by
      intro K4  hK4 n7
      induction n7 with
      | zero => intro x2 N3; rw [lX7_back_27]; exact j_none
      | succ n7 ih6 =>
        intro x2 N3
        rw [lX7_back_27]
        refine j_iload_n F dX7_back_27 rfl 1 rfl ?_
        refine j_bipush (v := (26 : Int32)) F dX7_back_28 (by decide) ?_
        refine j_icmp_ge (tgt := 59) F dX7_back_30 (by decide) ?_ ?_
        · exact j_sub [0] rfl (hK4 N3)
        · refine j_aload_n F dX7_back_33 rfl 0 rfl ?_
          refine j_getr (r := 55) F D ce_54 fl_X7_back_7 rfl dX7_back_34 ?_
          refine j_iload_n F dX7_back_37 rfl 1 rfl ?_
          refine j_aload_n F dX7_back_38 rfl 0 rfl ?_
          refine j_getr (r := 57) F D ce_54 fl_X7_back_16 rfl dX7_back_39 ?_
          refine j_bipush (v := (26 : Int32)) F dX7_back_42 (by decide) ?_
          refine j_aload_n F dX7_back_44 rfl 0 rfl ?_
          refine j_geti F D ce_54 fl_X7_back_56 rfl dX7_back_45 ?_
          refine j_imul F dX7_back_48 ?_
          refine j_iload_n F dX7_back_49 rfl 1 rfl ?_
          refine j_iadd F dX7_back_50 ?_
          refine j_iald F D ce_57 dX7_back_51 (fun v8 => ?_)
          refine j_iast F D ce_55 dX7_back_52 (fun N9 => ?_)
          refine j_iinc (v := (x2 + (1 : Int32))) (lv' := [(1, .int (x2 + (1 : Int32))), (0, .ref (G.2.1 54))]) F dX7_back_53 1 rfl rfl (by rw [← hml]; decide) rfl ?_
          refine j_goto (tgt := 27) F dX7_back_56 (by decide) ?_
          exact j_sub [1, 0] rfl (ih6 (x2 + (1 : Int32)) N9)
    refine j_sub [1, 0] rfl (hL10 _  ?_ fu (0 : Int32) N1)
    intro N5
    refine j_aload_n F dX7_back_59 rfl 0 rfl ?_
    refine j_geti F D ce_54 fl_X7_back_56 rfl dX7_back_60 ?_
    exact j_iret F D E rfl dX7_back_63
  · refine j_aload_n F dX7_back_7 rfl 0 rfl ?_
    refine j_sipush (v := (-1002 : Int32)) F dX7_back_8 (by decide) ?_
    refine j_callVi (As := [.int (-1002 : Int32)]) F D hX (mX7_counts l G (-1002 : Int32)) ce_54 rfl kX7_counts rfl gX7_back_X7_counts ⟨rfl, rfl⟩ ⟨Nat.le_of_ble_eq_true rfl, Nat.le_of_ble_eq_true rfl⟩ rfl (Nat.le_of_ble_eq_true rfl) rfl dX7_back_11 (fun w11 => ?_)
    exact j_iret F D E rfl dX7_back_14

/-! FlangeFolderModel.alongX -/
def fX7_alongX (a0 : Int32) (M : Mm) : Option (Int32 × Mm) := (if a0 = (0 : Int32) then some ((1 : Int32), M) else (if a0 = (2 : Int32) then some ((-1 : Int32), M) else some ((0 : Int32), M)))
def rmX7_alongX : Room := { frames := 0, cells := 0, slots := 0, locals := 0 }
theorem kX7_alongX : Kc yX7_alongX cX7_alongX 1 (some .int) wsX7_alongX 1 := ⟨⟨_, rfl⟩, by decide +kernel, by decide +kernel, by decide +kernel⟩
set_option maxHeartbeats 4000000 in
set_option maxRecDepth 100000 in
theorem mX7_alongX (l : Launch) (G : Gg) (a0 : Int32) : Ci l G SM yX7_alongX wsX7_alongX rmX7_alongX [.int a0] (fX7_alongX a0) := by
  refine Ci.intro (lv := [(0, .int a0)]) RX7 rfl (by decide) kX7_alongX (Nat.le_of_ble_eq_true rfl) rfl (fun X V M z F D hX hml E => ?_)
  unfold fX7_alongX
  refine j_iload_n F dX7_alongX_0 rfl 0 rfl ?_
  refine j_if_ne (tgt := 8) F dX7_alongX_1 (by decide) ?_ ?_
  · refine j_iload_n F dX7_alongX_8 rfl 0 rfl ?_
    refine j_iconst (v := (2 : Int32)) F dX7_alongX_9 (by decide) ?_
    refine j_icmp_ne (tgt := 17) F dX7_alongX_10 (by decide) ?_ ?_
    · refine j_iconst (v := (0 : Int32)) F dX7_alongX_17 (by decide) ?_
      exact j_iret F D E rfl dX7_alongX_18
    · refine j_iconst (v := (-1 : Int32)) F dX7_alongX_13 (by decide) ?_
      refine j_goto (tgt := 18) F dX7_alongX_14 (by decide) ?_
      exact j_iret F D E rfl dX7_alongX_18
  · refine j_iconst (v := (1 : Int32)) F dX7_alongX_4 (by decide) ?_
    refine j_goto (tgt := 18) F dX7_alongX_5 (by decide) ?_
    exact j_iret F D E rfl dX7_alongX_18

/-! FlangeFolderModel.alongY -/
def fX7_alongY (a0 : Int32) (M : Mm) : Option (Int32 × Mm) := (if a0 = (1 : Int32) then some ((1 : Int32), M) else (if a0 = (3 : Int32) then some ((-1 : Int32), M) else some ((0 : Int32), M)))
def rmX7_alongY : Room := { frames := 0, cells := 0, slots := 0, locals := 0 }
theorem kX7_alongY : Kc yX7_alongY cX7_alongY 1 (some .int) wsX7_alongY 1 := ⟨⟨_, rfl⟩, by decide +kernel, by decide +kernel, by decide +kernel⟩
set_option maxHeartbeats 4000000 in
set_option maxRecDepth 100000 in
theorem mX7_alongY (l : Launch) (G : Gg) (a0 : Int32) : Ci l G SM yX7_alongY wsX7_alongY rmX7_alongY [.int a0] (fX7_alongY a0) := by
  refine Ci.intro (lv := [(0, .int a0)]) RX7 rfl (by decide) kX7_alongY (Nat.le_of_ble_eq_true rfl) rfl (fun X V M z F D hX hml E => ?_)
  unfold fX7_alongY
  refine j_iload_n F dX7_alongY_0 rfl 0 rfl ?_
  refine j_iconst (v := (1 : Int32)) F dX7_alongY_1 (by decide) ?_
  refine j_icmp_ne (tgt := 9) F dX7_alongY_2 (by decide) ?_ ?_
  · refine j_iload_n F dX7_alongY_9 rfl 0 rfl ?_
    refine j_iconst (v := (3 : Int32)) F dX7_alongY_10 (by decide) ?_
    refine j_icmp_ne (tgt := 18) F dX7_alongY_11 (by decide) ?_ ?_
    · refine j_iconst (v := (0 : Int32)) F dX7_alongY_18 (by decide) ?_
      exact j_iret F D E rfl dX7_alongY_19
    · refine j_iconst (v := (-1 : Int32)) F dX7_alongY_14 (by decide) ?_
      refine j_goto (tgt := 19) F dX7_alongY_15 (by decide) ?_
      exact j_iret F D E rfl dX7_alongY_19
  · refine j_iconst (v := (1 : Int32)) F dX7_alongY_5 (by decide) ?_
    refine j_goto (tgt := 19) F dX7_alongY_6 (by decide) ?_
    exact j_iret F D E rfl dX7_alongY_19

/-! FlangeFolderModel.lays -/
def lX7_lays_18 (K7 : Mm → Option (Unit × Mm)) (c3 : Int32) : Nat → Int32 → Int32 → Mm → Option (Unit × Mm)
  | 0, _, _, _ => none
  | n10 + 1, x4, x5, N6 => (rd N6 55 26 (0 : Int32)).bind (fun v11 => (if v11 < x5 then K7 N6 else (wr N6 62 7 x5 x4).bind (fun N12 => (rd N12 60 8 x5).bind (fun v13 => (fX7_alongX x4 N12).bind (fun w14 => (rd w14.2 55 26 ((1 : Int32) + x5)).bind (fun v15 => (wr w14.2 60 8 (x5 + (1 : Int32)) (v13 + (w14.1 * v15))).bind (fun N16 => (rd N16 61 8 x5).bind (fun v17 => (fX7_alongY x4 N16).bind (fun w18 => (rd w18.2 55 26 ((1 : Int32) + x5)).bind (fun v19 => (wr w18.2 61 8 (x5 + (1 : Int32)) (v17 + (w18.1 * v19))).bind (fun N20 => (rd N20 55 26 (0 : Int32)).bind (fun v21 => (if v21 ≤ x5 then lX7_lays_18 K7 c3 n10 x4 (x5 + (1 : Int32)) N20 else (fX7_has c3 x5 N20).bind (fun w22 => (if w22.1 = (0 : Int32) then lX7_lays_18 K7 c3 n10 x4 (x5 + (1 : Int32)) w22.2 else (rd w22.2 55 26 ((8 : Int32) + x5)).bind (fun v23 => lt ((x4 + v23) &&& (3 : Int32)) (fun x24 => lX7_lays_18 K7 c3 n10 x24 (x5 + (1 : Int32)) w22.2)))))))))))))))))
def fX7_lays (a0 : Int32) (M : Mm) : Option (Unit × Mm) := (wr M 60 8 (0 : Int32) (0 : Int32)).bind (fun N1 => (wr N1 61 8 (0 : Int32) (0 : Int32)).bind (fun N2 => lX7_lays_18 (fun (N8 : Mm) => some ((), N8)) a0 fu (0 : Int32) (0 : Int32) N2))
def rmX7_lays : Room := { frames := 1, cells := 0, slots := 0, locals := 21 }
theorem kX7_lays : Kc yX7_lays cX7_lays 4 none wsX7_lays 1 := ⟨⟨_, rfl⟩, by decide +kernel, by decide +kernel, by decide +kernel⟩
theorem ic_X7_lays_X7 : ∀ w ∈ u_ws RX7 TX7 19, w ∈ wsX7_lays := by decide +kernel
theorem fl_X7_lays_25 : Fl wsX7_lays RX7 25 7 7 := ⟨RX7, TX7, 19, rfl, by decide, ic_X7_lays_X7, by decide +kernel⟩
theorem fl_X7_lays_28 : Fl wsX7_lays RX7 28 7 8 := ⟨RX7, TX7, 19, rfl, by decide, ic_X7_lays_X7, by decide +kernel⟩
theorem fl_X7_lays_7 : Fl wsX7_lays RX7 7 7 0 := ⟨RX7, TX7, 19, rfl, by decide, ic_X7_lays_X7, by decide +kernel⟩
theorem fl_X7_lays_31 : Fl wsX7_lays RX7 31 7 9 := ⟨RX7, TX7, 19, rfl, by decide, ic_X7_lays_X7, by decide +kernel⟩
set_option maxHeartbeats 4000000 in
set_option maxRecDepth 100000 in
theorem mX7_lays (l : Launch) (G : Gg) (a0 : Int32) : Cv l G SM yX7_lays wsX7_lays rmX7_lays [.ref (G.2.1 54), .int a0] (fX7_lays a0) := by
  refine Cv.intro (lv := [(0, .ref (G.2.1 54)), (1, .int a0)]) RX7 rfl (by decide) kX7_lays (Nat.le_of_ble_eq_true rfl) rfl (fun X V M z F D hX hml E => ?_)
  unfold fX7_lays
  refine j_iconst (v := (0 : Int32)) F dX7_lays_0 (by decide) ?_
  refine j_istore_n (lv' := [(2, .int (0 : Int32)), (0, .ref (G.2.1 54)), (1, .int a0)]) F dX7_lays_1 rfl (by rw [← hml]; decide) rfl ?_
  refine j_aload_n F dX7_lays_2 rfl 1 rfl ?_
  refine j_getr (r := 60) F D ce_54 fl_X7_lays_25 rfl dX7_lays_3 ?_
  refine j_iconst (v := (0 : Int32)) F dX7_lays_6 (by decide) ?_
  refine j_iconst (v := (0 : Int32)) F dX7_lays_7 (by decide) ?_
  refine j_iast F D ce_60 dX7_lays_8 (fun N1 => ?_)
  refine j_aload_n F dX7_lays_9 rfl 1 rfl ?_
  refine j_getr (r := 61) F D ce_54 fl_X7_lays_28 rfl dX7_lays_10 ?_
  refine j_iconst (v := (0 : Int32)) F dX7_lays_13 (by decide) ?_
  refine j_iconst (v := (0 : Int32)) F dX7_lays_14 (by decide) ?_
  refine j_iast F D ce_61 dX7_lays_15 (fun N2 => ?_)
  refine j_iconst (v := (0 : Int32)) F dX7_lays_16 (by decide) ?_
  refine j_istore_n (lv' := [(3, .int (0 : Int32)), (2, .int (0 : Int32)), (0, .ref (G.2.1 54)), (1, .int a0)]) F dX7_lays_17 rfl (by rw [← hml]; decide) rfl ?_
  have hL25 : ∀ (K7 : Mm → Option (Unit × Mm)) (c3 : Int32), (∀ (N8 : Mm), Jg X V z (K7 N8) N8 133 [] []) → ∀ (n10 : Nat) (x4 : Int32) (x5 : Int32) (N6 : Mm), Jg X V z (lX7_lays_18 K7 c3 n10 x4 x5 N6) N6 18 [(0, .ref (G.2.1 54)), (1, .int c3), (2, .int x4), (3, .int x5)] [] := by
    intro K7 c3 hK7 n10
    induction n10 with
    | zero => intro x4 x5 N6; rw [lX7_lays_18]; exact j_none
    | succ n10 ih9 =>
      intro x4 x5 N6
      rw [lX7_lays_18]
      refine j_iload_n F dX7_lays_18 rfl 3 rfl ?_
      refine j_aload_n F dX7_lays_19 rfl 0 rfl ?_
      refine j_getr (r := 55) F D ce_54 fl_X7_lays_7 rfl dX7_lays_20 ?_
      refine j_iconst (v := (0 : Int32)) F dX7_lays_23 (by decide) ?_
      refine j_iald F D ce_55 dX7_lays_24 (fun v11 => ?_)
      refine j_icmp_gt (tgt := 133) F dX7_lays_25 (by decide) ?_ ?_
      · exact j_sub [] rfl (hK7 N6)
      · refine j_aload_n F dX7_lays_28 rfl 0 rfl ?_
        refine j_getr (r := 62) F D ce_54 fl_X7_lays_31 rfl dX7_lays_29 ?_
        refine j_iload_n F dX7_lays_32 rfl 3 rfl ?_
        refine j_iload_n F dX7_lays_33 rfl 2 rfl ?_
        refine j_iast F D ce_62 dX7_lays_34 (fun N12 => ?_)
        refine j_aload_n F dX7_lays_35 rfl 0 rfl ?_
        refine j_getr (r := 60) F D ce_54 fl_X7_lays_25 rfl dX7_lays_36 ?_
        refine j_iload_n F dX7_lays_39 rfl 3 rfl ?_
        refine j_iconst (v := (1 : Int32)) F dX7_lays_40 (by decide) ?_
        refine j_iadd F dX7_lays_41 ?_
        refine j_aload_n F dX7_lays_42 rfl 0 rfl ?_
        refine j_getr (r := 60) F D ce_54 fl_X7_lays_25 rfl dX7_lays_43 ?_
        refine j_iload_n F dX7_lays_46 rfl 3 rfl ?_
        refine j_iald F D ce_60 dX7_lays_47 (fun v13 => ?_)
        refine j_iload_n F dX7_lays_48 rfl 2 rfl ?_
        refine j_callSi (As := [.int x4]) F D hX (mX7_alongX l G x4) kX7_alongX gX7_lays_X7_alongX ⟨rfl, rfl⟩ ⟨Nat.le_of_ble_eq_true rfl, Nat.le_of_ble_eq_true rfl⟩ rfl (Nat.le_of_ble_eq_true rfl) rfl dX7_lays_49 (fun w14 => ?_)
        refine j_aload_n F dX7_lays_52 rfl 0 rfl ?_
        refine j_getr (r := 55) F D ce_54 fl_X7_lays_7 rfl dX7_lays_53 ?_
        refine j_iconst (v := (1 : Int32)) F dX7_lays_56 (by decide) ?_
        refine j_iload_n F dX7_lays_57 rfl 3 rfl ?_
        refine j_iadd F dX7_lays_58 ?_
        refine j_iald F D ce_55 dX7_lays_59 (fun v15 => ?_)
        refine j_imul F dX7_lays_60 ?_
        refine j_iadd F dX7_lays_61 ?_
        refine j_iast F D ce_60 dX7_lays_62 (fun N16 => ?_)
        refine j_aload_n F dX7_lays_63 rfl 0 rfl ?_
        refine j_getr (r := 61) F D ce_54 fl_X7_lays_28 rfl dX7_lays_64 ?_
        refine j_iload_n F dX7_lays_67 rfl 3 rfl ?_
        refine j_iconst (v := (1 : Int32)) F dX7_lays_68 (by decide) ?_
        refine j_iadd F dX7_lays_69 ?_
        refine j_aload_n F dX7_lays_70 rfl 0 rfl ?_
        refine j_getr (r := 61) F D ce_54 fl_X7_lays_28 rfl dX7_lays_71 ?_
        refine j_iload_n F dX7_lays_74 rfl 3 rfl ?_
        refine j_iald F D ce_61 dX7_lays_75 (fun v17 => ?_)
        refine j_iload_n F dX7_lays_76 rfl 2 rfl ?_
        refine j_callSi (As := [.int x4]) F D hX (mX7_alongY l G x4) kX7_alongY gX7_lays_X7_alongY ⟨rfl, rfl⟩ ⟨Nat.le_of_ble_eq_true rfl, Nat.le_of_ble_eq_true rfl⟩ rfl (Nat.le_of_ble_eq_true rfl) rfl dX7_lays_77 (fun w18 => ?_)
        refine j_aload_n F dX7_lays_80 rfl 0 rfl ?_
        refine j_getr (r := 55) F D ce_54 fl_X7_lays_7 rfl dX7_lays_81 ?_
        refine j_iconst (v := (1 : Int32)) F dX7_lays_84 (by decide) ?_
        refine j_iload_n F dX7_lays_85 rfl 3 rfl ?_
        refine j_iadd F dX7_lays_86 ?_
        refine j_iald F D ce_55 dX7_lays_87 (fun v19 => ?_)
        refine j_imul F dX7_lays_88 ?_
        refine j_iadd F dX7_lays_89 ?_
        refine j_iast F D ce_61 dX7_lays_90 (fun N20 => ?_)
        refine j_iload_n F dX7_lays_91 rfl 3 rfl ?_
        refine j_aload_n F dX7_lays_92 rfl 0 rfl ?_
        refine j_getr (r := 55) F D ce_54 fl_X7_lays_7 rfl dX7_lays_93 ?_
        refine j_iconst (v := (0 : Int32)) F dX7_lays_96 (by decide) ?_
        refine j_iald F D ce_55 dX7_lays_97 (fun v21 => ?_)
        refine j_icmp_ge (tgt := 125) F dX7_lays_98 (by decide) ?_ ?_
        · refine j_iload_n F dX7_lays_125 rfl 2 rfl ?_
          refine j_istore_n (lv' := [(2, .int x4), (0, .ref (G.2.1 54)), (1, .int c3), (3, .int x5)]) F dX7_lays_126 rfl (by rw [← hml]; decide) rfl ?_
          refine j_iinc (v := (x5 + (1 : Int32))) (lv' := [(3, .int (x5 + (1 : Int32))), (2, .int x4), (0, .ref (G.2.1 54)), (1, .int c3)]) F dX7_lays_127 3 rfl rfl (by rw [← hml]; decide) rfl ?_
          refine j_goto (tgt := 18) F dX7_lays_130 (by decide) ?_
          exact j_sub [2, 3, 1, 0] rfl (ih9 x4 (x5 + (1 : Int32)) N20)
        · refine j_iload_n F dX7_lays_101 rfl 1 rfl ?_
          refine j_iload_n F dX7_lays_102 rfl 3 rfl ?_
          refine j_callSi (As := [.int c3, .int x5]) F D hX (mX7_has l G c3 x5) kX7_has gX7_lays_X7_has ⟨rfl, rfl⟩ ⟨Nat.le_of_ble_eq_true rfl, Nat.le_of_ble_eq_true rfl⟩ rfl (Nat.le_of_ble_eq_true rfl) rfl dX7_lays_103 (fun w22 => ?_)
          refine j_if_eq (tgt := 125) F dX7_lays_106 (by decide) ?_ ?_
          · refine j_iload_n F dX7_lays_125 rfl 2 rfl ?_
            refine j_istore_n (lv' := [(2, .int x4), (0, .ref (G.2.1 54)), (1, .int c3), (3, .int x5)]) F dX7_lays_126 rfl (by rw [← hml]; decide) rfl ?_
            refine j_iinc (v := (x5 + (1 : Int32))) (lv' := [(3, .int (x5 + (1 : Int32))), (2, .int x4), (0, .ref (G.2.1 54)), (1, .int c3)]) F dX7_lays_127 3 rfl rfl (by rw [← hml]; decide) rfl ?_
            refine j_goto (tgt := 18) F dX7_lays_130 (by decide) ?_
            exact j_sub [2, 3, 1, 0] rfl (ih9 x4 (x5 + (1 : Int32)) w22.2)
          · refine j_iload_n F dX7_lays_109 rfl 2 rfl ?_
            refine j_aload_n F dX7_lays_110 rfl 0 rfl ?_
            refine j_getr (r := 55) F D ce_54 fl_X7_lays_7 rfl dX7_lays_111 ?_
            refine j_bipush (v := (8 : Int32)) F dX7_lays_114 (by decide) ?_
            refine j_iload_n F dX7_lays_116 rfl 3 rfl ?_
            refine j_iadd F dX7_lays_117 ?_
            refine j_iald F D ce_55 dX7_lays_118 (fun v23 => ?_)
            refine j_iadd F dX7_lays_119 ?_
            refine j_iconst (v := (3 : Int32)) F dX7_lays_120 (by decide) ?_
            refine j_iand F dX7_lays_121 ?_
            refine j_goto (tgt := 126) F dX7_lays_122 (by decide) ?_
            refine j_let (f := Value.int) (fun x24 => ?_)
            refine j_istore_n (lv' := [(2, .int x24), (0, .ref (G.2.1 54)), (1, .int c3), (3, .int x5)]) F dX7_lays_126 rfl (by rw [← hml]; decide) rfl ?_
            refine j_iinc (v := (x5 + (1 : Int32))) (lv' := [(3, .int (x5 + (1 : Int32))), (2, .int x24), (0, .ref (G.2.1 54)), (1, .int c3)]) F dX7_lays_127 3 rfl rfl (by rw [← hml]; decide) rfl ?_
            refine j_goto (tgt := 18) F dX7_lays_130 (by decide) ?_
            exact j_sub [2, 3, 1, 0] rfl (ih9 x24 (x5 + (1 : Int32)) w22.2)
  refine j_sub [2, 3, 1, 0] rfl (hL25 _ a0 ?_ fu (0 : Int32) (0 : Int32) N2)
  intro N8
  exact j_vret F D E dX7_lays_133

/-! FlangeFolderModel.turnsTo -/
def lX7_turnsTo_31 (K9 : Mm → Option (Unit × Mm)) (c4 : Int32) (c5 : Int32) (c6 : Int32) : Nat → Int32 → Mm → Option (Unit × Mm)
  | 0, _, _ => none
  | n12 + 1, x7, N8 => (rd N8 55 26 (0 : Int32)).bind (fun v13 => (if (v13 + (2 : Int32)) ≤ x7 then K9 N8 else (rd N8 60 8 x7).bind (fun v14 => lt (v14 - c4) (fun x15 => (rd N8 61 8 x7).bind (fun v16 => lt (v16 - c5) (fun x17 => (fX7_alongX c6 N8).bind (fun w18 => (fX7_alongY c6 w18.2).bind (fun w19 => (wr w19.2 60 8 x7 ((w18.1 * x15) + (w19.1 * x17))).bind (fun N20 => (fX7_alongX c6 N20).bind (fun w21 => (fX7_alongY c6 w21.2).bind (fun w22 => (wr w22.2 61 8 x7 ((w21.1 * x17) - (w22.1 * x15))).bind (fun N23 => lX7_turnsTo_31 K9 c4 c5 c6 n12 (x7 + (1 : Int32)) N23))))))))))))
def fX7_turnsTo (a0 : Int32) (M : Mm) : Option (Unit × Mm) := (rd M 60 8 (a0 + (1 : Int32))).bind (fun v1 => (rd M 61 8 (a0 + (1 : Int32))).bind (fun v2 => (rd M 62 7 (a0 + (1 : Int32))).bind (fun v3 => lX7_turnsTo_31 (fun (N10 : Mm) => some ((), N10)) v1 v2 v3 fu (0 : Int32) M)))
def rmX7_turnsTo : Room := { frames := 1, cells := 0, slots := 0, locals := 20 }
theorem kX7_turnsTo : Kc yX7_turnsTo cX7_turnsTo 8 none wsX7_turnsTo 1 := ⟨⟨_, rfl⟩, by decide +kernel, by decide +kernel, by decide +kernel⟩
theorem ic_X7_turnsTo_X7 : ∀ w ∈ u_ws RX7 TX7 19, w ∈ wsX7_turnsTo := by decide +kernel
theorem fl_X7_turnsTo_25 : Fl wsX7_turnsTo RX7 25 7 7 := ⟨RX7, TX7, 19, rfl, by decide, ic_X7_turnsTo_X7, by decide +kernel⟩
theorem fl_X7_turnsTo_28 : Fl wsX7_turnsTo RX7 28 7 8 := ⟨RX7, TX7, 19, rfl, by decide, ic_X7_turnsTo_X7, by decide +kernel⟩
theorem fl_X7_turnsTo_31 : Fl wsX7_turnsTo RX7 31 7 9 := ⟨RX7, TX7, 19, rfl, by decide, ic_X7_turnsTo_X7, by decide +kernel⟩
theorem fl_X7_turnsTo_7 : Fl wsX7_turnsTo RX7 7 7 0 := ⟨RX7, TX7, 19, rfl, by decide, ic_X7_turnsTo_X7, by decide +kernel⟩
set_option maxHeartbeats 4000000 in
set_option maxRecDepth 100000 in
theorem mX7_turnsTo (l : Launch) (G : Gg) (a0 : Int32) : Cv l G SM yX7_turnsTo wsX7_turnsTo rmX7_turnsTo [.ref (G.2.1 54), .int a0] (fX7_turnsTo a0) := by
  refine Cv.intro (lv := [(0, .ref (G.2.1 54)), (1, .int a0)]) RX7 rfl (by decide) kX7_turnsTo (Nat.le_of_ble_eq_true rfl) rfl (fun X V M z F D hX hml E => ?_)
  unfold fX7_turnsTo
  refine j_aload_n F dX7_turnsTo_0 rfl 0 rfl ?_
  refine j_getr (r := 60) F D ce_54 fl_X7_turnsTo_25 rfl dX7_turnsTo_1 ?_
  refine j_iload_n F dX7_turnsTo_4 rfl 1 rfl ?_
  refine j_iconst (v := (1 : Int32)) F dX7_turnsTo_5 (by decide) ?_
  refine j_iadd F dX7_turnsTo_6 ?_
  refine j_iald F D ce_60 dX7_turnsTo_7 (fun v1 => ?_)
  refine j_istore_n (lv' := [(2, .int v1), (0, .ref (G.2.1 54)), (1, .int a0)]) F dX7_turnsTo_8 rfl (by rw [← hml]; decide) rfl ?_
  refine j_aload_n F dX7_turnsTo_9 rfl 1 rfl ?_
  refine j_getr (r := 61) F D ce_54 fl_X7_turnsTo_28 rfl dX7_turnsTo_10 ?_
  refine j_iload_n F dX7_turnsTo_13 rfl 2 rfl ?_
  refine j_iconst (v := (1 : Int32)) F dX7_turnsTo_14 (by decide) ?_
  refine j_iadd F dX7_turnsTo_15 ?_
  refine j_iald F D ce_61 dX7_turnsTo_16 (fun v2 => ?_)
  refine j_istore_n (lv' := [(3, .int v2), (2, .int v1), (0, .ref (G.2.1 54)), (1, .int a0)]) F dX7_turnsTo_17 rfl (by rw [← hml]; decide) rfl ?_
  refine j_aload_n F dX7_turnsTo_18 rfl 2 rfl ?_
  refine j_getr (r := 62) F D ce_54 fl_X7_turnsTo_31 rfl dX7_turnsTo_19 ?_
  refine j_iload_n F dX7_turnsTo_22 rfl 3 rfl ?_
  refine j_iconst (v := (1 : Int32)) F dX7_turnsTo_23 (by decide) ?_
  refine j_iadd F dX7_turnsTo_24 ?_
  refine j_iald F D ce_62 dX7_turnsTo_25 (fun v3 => ?_)
  refine j_istore (lv' := [(4, .int v3), (3, .int v2), (2, .int v1), (0, .ref (G.2.1 54)), (1, .int a0)]) F dX7_turnsTo_26 (by rw [← hml]; decide) rfl ?_
  refine j_iconst (v := (0 : Int32)) F dX7_turnsTo_28 (by decide) ?_
  refine j_istore (lv' := [(5, .int (0 : Int32)), (4, .int v3), (3, .int v2), (2, .int v1), (0, .ref (G.2.1 54)), (1, .int a0)]) F dX7_turnsTo_29 (by rw [← hml]; decide) rfl ?_
  have hL24 : ∀ (K9 : Mm → Option (Unit × Mm)) (c4 : Int32) (c5 : Int32) (c6 : Int32), (∀ (N10 : Mm), Jg X V z (K9 N10) N10 120 [] []) → ∀ (n12 : Nat) (x7 : Int32) (N8 : Mm), Jg X V z (lX7_turnsTo_31 K9 c4 c5 c6 n12 x7 N8) N8 31 [(0, .ref (G.2.1 54)), (2, .int c4), (3, .int c5), (4, .int c6), (5, .int x7)] [] := by
    intro K9 c4 c5 c6 hK9 n12
    induction n12 with
    | zero => intro x7 N8; rw [lX7_turnsTo_31]; exact j_none
    | succ n12 ih11 =>
      intro x7 N8
      rw [lX7_turnsTo_31]
      refine j_iload F dX7_turnsTo_31 4 rfl ?_
      refine j_aload_n F dX7_turnsTo_33 rfl 0 rfl ?_
      refine j_getr (r := 55) F D ce_54 fl_X7_turnsTo_7 rfl dX7_turnsTo_34 ?_
      refine j_iconst (v := (0 : Int32)) F dX7_turnsTo_37 (by decide) ?_
      refine j_iald F D ce_55 dX7_turnsTo_38 (fun v13 => ?_)
      refine j_iconst (v := (2 : Int32)) F dX7_turnsTo_39 (by decide) ?_
      refine j_iadd F dX7_turnsTo_40 ?_
      refine j_icmp_ge (tgt := 120) F dX7_turnsTo_41 (by decide) ?_ ?_
      · exact j_sub [] rfl (hK9 N8)
      · refine j_aload_n F dX7_turnsTo_44 rfl 0 rfl ?_
        refine j_getr (r := 60) F D ce_54 fl_X7_turnsTo_25 rfl dX7_turnsTo_45 ?_
        refine j_iload F dX7_turnsTo_48 4 rfl ?_
        refine j_iald F D ce_60 dX7_turnsTo_50 (fun v14 => ?_)
        refine j_iload_n F dX7_turnsTo_51 rfl 1 rfl ?_
        refine j_isub F dX7_turnsTo_52 ?_
        refine j_let (f := Value.int) (fun x15 => ?_)
        refine j_istore (lv' := [(6, .int x15), (0, .ref (G.2.1 54)), (2, .int c4), (3, .int c5), (4, .int c6), (5, .int x7)]) F dX7_turnsTo_53 (by rw [← hml]; decide) rfl ?_
        refine j_aload_n F dX7_turnsTo_55 rfl 1 rfl ?_
        refine j_getr (r := 61) F D ce_54 fl_X7_turnsTo_28 rfl dX7_turnsTo_56 ?_
        refine j_iload F dX7_turnsTo_59 5 rfl ?_
        refine j_iald F D ce_61 dX7_turnsTo_61 (fun v16 => ?_)
        refine j_iload_n F dX7_turnsTo_62 rfl 3 rfl ?_
        refine j_isub F dX7_turnsTo_63 ?_
        refine j_let (f := Value.int) (fun x17 => ?_)
        refine j_istore (lv' := [(7, .int x17), (6, .int x15), (0, .ref (G.2.1 54)), (2, .int c4), (3, .int c5), (4, .int c6), (5, .int x7)]) F dX7_turnsTo_64 (by rw [← hml]; decide) rfl ?_
        refine j_aload_n F dX7_turnsTo_66 rfl 2 rfl ?_
        refine j_getr (r := 60) F D ce_54 fl_X7_turnsTo_25 rfl dX7_turnsTo_67 ?_
        refine j_iload F dX7_turnsTo_70 6 rfl ?_
        refine j_iload F dX7_turnsTo_72 5 rfl ?_
        refine j_callSi (As := [.int c6]) F D hX (mX7_alongX l G c6) kX7_alongX gX7_turnsTo_X7_alongX ⟨rfl, rfl⟩ ⟨Nat.le_of_ble_eq_true rfl, Nat.le_of_ble_eq_true rfl⟩ rfl (Nat.le_of_ble_eq_true rfl) rfl dX7_turnsTo_74 (fun w18 => ?_)
        refine j_iload F dX7_turnsTo_77 1 rfl ?_
        refine j_imul F dX7_turnsTo_79 ?_
        refine j_iload F dX7_turnsTo_80 5 rfl ?_
        refine j_callSi (As := [.int c6]) F D hX (mX7_alongY l G c6) kX7_alongY gX7_turnsTo_X7_alongY ⟨rfl, rfl⟩ ⟨Nat.le_of_ble_eq_true rfl, Nat.le_of_ble_eq_true rfl⟩ rfl (Nat.le_of_ble_eq_true rfl) rfl dX7_turnsTo_82 (fun w19 => ?_)
        refine j_iload F dX7_turnsTo_85 0 rfl ?_
        refine j_imul F dX7_turnsTo_87 ?_
        refine j_iadd F dX7_turnsTo_88 ?_
        refine j_iast F D ce_60 dX7_turnsTo_89 (fun N20 => ?_)
        refine j_aload_n F dX7_turnsTo_90 rfl 2 rfl ?_
        refine j_getr (r := 61) F D ce_54 fl_X7_turnsTo_28 rfl dX7_turnsTo_91 ?_
        refine j_iload F dX7_turnsTo_94 6 rfl ?_
        refine j_iload F dX7_turnsTo_96 5 rfl ?_
        refine j_callSi (As := [.int c6]) F D hX (mX7_alongX l G c6) kX7_alongX gX7_turnsTo_X7_alongX ⟨rfl, rfl⟩ ⟨Nat.le_of_ble_eq_true rfl, Nat.le_of_ble_eq_true rfl⟩ rfl (Nat.le_of_ble_eq_true rfl) rfl dX7_turnsTo_98 (fun w21 => ?_)
        refine j_iload F dX7_turnsTo_101 0 rfl ?_
        refine j_imul F dX7_turnsTo_103 ?_
        refine j_iload F dX7_turnsTo_104 5 rfl ?_
        refine j_callSi (As := [.int c6]) F D hX (mX7_alongY l G c6) kX7_alongY gX7_turnsTo_X7_alongY ⟨rfl, rfl⟩ ⟨Nat.le_of_ble_eq_true rfl, Nat.le_of_ble_eq_true rfl⟩ rfl (Nat.le_of_ble_eq_true rfl) rfl dX7_turnsTo_106 (fun w22 => ?_)
        refine j_iload F dX7_turnsTo_109 1 rfl ?_
        refine j_imul F dX7_turnsTo_111 ?_
        refine j_isub F dX7_turnsTo_112 ?_
        refine j_iast F D ce_61 dX7_turnsTo_113 (fun N23 => ?_)
        refine j_iinc (v := (x7 + (1 : Int32))) (lv' := [(5, .int (x7 + (1 : Int32))), (7, .int x17), (6, .int x15), (0, .ref (G.2.1 54)), (2, .int c4), (3, .int c5), (4, .int c6)]) F dX7_turnsTo_114 6 rfl rfl (by rw [← hml]; decide) rfl ?_
        refine j_goto (tgt := 31) F dX7_turnsTo_117 (by decide) ?_
        exact j_sub [3, 4, 5, 6, 0] rfl (ih11 (x7 + (1 : Int32)) N23)
  refine j_sub [4, 3, 2, 1, 0] rfl (hL24 _ v1 v2 v3 ?_ fu (0 : Int32) M)
  intro N10
  exact j_vret F D E dX7_turnsTo_120

/-! FlangeFolderModel.lesser -/
def fX7_lesser (a0 : Int32) (a1 : Int32) (M : Mm) : Option (Int32 × Mm) := (if a1 ≤ a0 then some (a1, M) else some (a0, M))
def rmX7_lesser : Room := { frames := 0, cells := 0, slots := 0, locals := 0 }
theorem kX7_lesser : Kc yX7_lesser cX7_lesser 2 (some .int) wsX7_lesser 2 := ⟨⟨_, rfl⟩, by decide +kernel, by decide +kernel, by decide +kernel⟩
set_option maxHeartbeats 4000000 in
set_option maxRecDepth 100000 in
theorem mX7_lesser (l : Launch) (G : Gg) (a0 : Int32) (a1 : Int32) : Ci l G SM yX7_lesser wsX7_lesser rmX7_lesser [.int a0, .int a1] (fX7_lesser a0 a1) := by
  refine Ci.intro (lv := [(0, .int a0), (1, .int a1)]) RX7 rfl (by decide) kX7_lesser (Nat.le_of_ble_eq_true rfl) rfl (fun X V M z F D hX hml E => ?_)
  unfold fX7_lesser
  refine j_iload_n F dX7_lesser_0 rfl 0 rfl ?_
  refine j_iload_n F dX7_lesser_1 rfl 1 rfl ?_
  refine j_icmp_ge (tgt := 9) F dX7_lesser_2 (by decide) ?_ ?_
  · refine j_iload_n F dX7_lesser_9 rfl 1 rfl ?_
    exact j_iret F D E rfl dX7_lesser_10
  · refine j_iload_n F dX7_lesser_5 rfl 0 rfl ?_
    refine j_goto (tgt := 10) F dX7_lesser_6 (by decide) ?_
    exact j_iret F D E rfl dX7_lesser_10

/-! FlangeFolderModel.greater -/
def fX7_greater (a0 : Int32) (a1 : Int32) (M : Mm) : Option (Int32 × Mm) := (if a0 ≤ a1 then some (a1, M) else some (a0, M))
def rmX7_greater : Room := { frames := 0, cells := 0, slots := 0, locals := 0 }
theorem kX7_greater : Kc yX7_greater cX7_greater 2 (some .int) wsX7_greater 2 := ⟨⟨_, rfl⟩, by decide +kernel, by decide +kernel, by decide +kernel⟩
set_option maxHeartbeats 4000000 in
set_option maxRecDepth 100000 in
theorem mX7_greater (l : Launch) (G : Gg) (a0 : Int32) (a1 : Int32) : Ci l G SM yX7_greater wsX7_greater rmX7_greater [.int a0, .int a1] (fX7_greater a0 a1) := by
  refine Ci.intro (lv := [(0, .int a0), (1, .int a1)]) RX7 rfl (by decide) kX7_greater (Nat.le_of_ble_eq_true rfl) rfl (fun X V M z F D hX hml E => ?_)
  unfold fX7_greater
  refine j_iload_n F dX7_greater_0 rfl 0 rfl ?_
  refine j_iload_n F dX7_greater_1 rfl 1 rfl ?_
  refine j_icmp_le (tgt := 9) F dX7_greater_2 (by decide) ?_ ?_
  · refine j_iload_n F dX7_greater_9 rfl 1 rfl ?_
    exact j_iret F D E rfl dX7_greater_10
  · refine j_iload_n F dX7_greater_5 rfl 0 rfl ?_
    refine j_goto (tgt := 10) F dX7_greater_6 (by decide) ?_
    exact j_iret F D E rfl dX7_greater_10

/-! FlangeFolderModel.isWithin -/
def fX7_isWithin (a0 : Int32) (a1 : Int32) (a2 : Int32) (a3 : Int32) (a4 : Int32) (M : Mm) : Option (Int32 × Mm) := (rd M 60 8 a0).bind (fun v1 => (rd M 60 8 (a0 + (1 : Int32))).bind (fun v2 => (fX7_lesser v1 v2 M).bind (fun w3 => (rd w3.2 60 8 a0).bind (fun v4 => (rd w3.2 60 8 (a0 + (1 : Int32))).bind (fun v5 => (fX7_greater v4 v5 w3.2).bind (fun w6 => (rd w6.2 61 8 a0).bind (fun v7 => (rd w6.2 61 8 (a0 + (1 : Int32))).bind (fun v8 => (fX7_lesser (a2 * v7) (a2 * v8) w6.2).bind (fun w9 => (rd w9.2 61 8 a0).bind (fun v10 => (rd w9.2 61 8 (a0 + (1 : Int32))).bind (fun v11 => (fX7_greater (a2 * v10) (a2 * v11) w9.2).bind (fun w12 => (if a1 < w3.1 then some ((0 : Int32), w12.2) else (if w6.1 < (-a1) then some ((0 : Int32), w12.2) else (if a4 < w9.1 then some ((0 : Int32), w12.2) else (if w12.1 < a3 then some ((0 : Int32), w12.2) else some ((1 : Int32), w12.2)))))))))))))))))
def rmX7_isWithin : Room := { frames := 1, cells := 0, slots := 0, locals := 21 }
theorem kX7_isWithin : Kc yX7_isWithin cX7_isWithin 10 (some .boolean) wsX7_isWithin 5 := ⟨⟨_, rfl⟩, by decide +kernel, by decide +kernel, by decide +kernel⟩
theorem ic_X7_isWithin_X7 : ∀ w ∈ u_ws RX7 TX7 19, w ∈ wsX7_isWithin := by decide +kernel
theorem fl_X7_isWithin_25 : Fl wsX7_isWithin RX7 25 7 7 := ⟨RX7, TX7, 19, rfl, by decide, ic_X7_isWithin_X7, by decide +kernel⟩
theorem fl_X7_isWithin_28 : Fl wsX7_isWithin RX7 28 7 8 := ⟨RX7, TX7, 19, rfl, by decide, ic_X7_isWithin_X7, by decide +kernel⟩
set_option maxHeartbeats 4000000 in
set_option maxRecDepth 100000 in
theorem mX7_isWithin (l : Launch) (G : Gg) (a0 : Int32) (a1 : Int32) (a2 : Int32) (a3 : Int32) (a4 : Int32) : Ci l G SM yX7_isWithin wsX7_isWithin rmX7_isWithin [.ref (G.2.1 54), .int a0, .int a1, .int a2, .int a3, .int a4] (fX7_isWithin a0 a1 a2 a3 a4) := by
  refine Ci.intro (lv := [(0, .ref (G.2.1 54)), (1, .int a0), (2, .int a1), (3, .int a2), (4, .int a3), (5, .int a4)]) RX7 rfl (by decide) kX7_isWithin (Nat.le_of_ble_eq_true rfl) rfl (fun X V M z F D hX hml E => ?_)
  unfold fX7_isWithin
  refine j_aload_n F dX7_isWithin_0 rfl 0 rfl ?_
  refine j_getr (r := 60) F D ce_54 fl_X7_isWithin_25 rfl dX7_isWithin_1 ?_
  refine j_iload_n F dX7_isWithin_4 rfl 1 rfl ?_
  refine j_iald F D ce_60 dX7_isWithin_5 (fun v1 => ?_)
  refine j_aload_n F dX7_isWithin_6 rfl 0 rfl ?_
  refine j_getr (r := 60) F D ce_54 fl_X7_isWithin_25 rfl dX7_isWithin_7 ?_
  refine j_iload_n F dX7_isWithin_10 rfl 1 rfl ?_
  refine j_iconst (v := (1 : Int32)) F dX7_isWithin_11 (by decide) ?_
  refine j_iadd F dX7_isWithin_12 ?_
  refine j_iald F D ce_60 dX7_isWithin_13 (fun v2 => ?_)
  refine j_callSi (As := [.int v1, .int v2]) F D hX (mX7_lesser l G v1 v2) kX7_lesser gX7_isWithin_X7_lesser ⟨rfl, rfl⟩ ⟨Nat.le_of_ble_eq_true rfl, Nat.le_of_ble_eq_true rfl⟩ rfl (Nat.le_of_ble_eq_true rfl) rfl dX7_isWithin_14 (fun w3 => ?_)
  refine j_istore (lv' := [(6, .int w3.1), (0, .ref (G.2.1 54)), (1, .int a0), (2, .int a1), (3, .int a2), (4, .int a3), (5, .int a4)]) F dX7_isWithin_17 (by rw [← hml]; decide) rfl ?_
  refine j_aload_n F dX7_isWithin_19 rfl 1 rfl ?_
  refine j_getr (r := 60) F D ce_54 fl_X7_isWithin_25 rfl dX7_isWithin_20 ?_
  refine j_iload_n F dX7_isWithin_23 rfl 2 rfl ?_
  refine j_iald F D ce_60 dX7_isWithin_24 (fun v4 => ?_)
  refine j_aload_n F dX7_isWithin_25 rfl 1 rfl ?_
  refine j_getr (r := 60) F D ce_54 fl_X7_isWithin_25 rfl dX7_isWithin_26 ?_
  refine j_iload_n F dX7_isWithin_29 rfl 2 rfl ?_
  refine j_iconst (v := (1 : Int32)) F dX7_isWithin_30 (by decide) ?_
  refine j_iadd F dX7_isWithin_31 ?_
  refine j_iald F D ce_60 dX7_isWithin_32 (fun v5 => ?_)
  refine j_callSi (As := [.int v4, .int v5]) F D hX (mX7_greater l G v4 v5) kX7_greater gX7_isWithin_X7_greater ⟨rfl, rfl⟩ ⟨Nat.le_of_ble_eq_true rfl, Nat.le_of_ble_eq_true rfl⟩ rfl (Nat.le_of_ble_eq_true rfl) rfl dX7_isWithin_33 (fun w6 => ?_)
  refine j_istore (lv' := [(7, .int w6.1), (6, .int w3.1), (0, .ref (G.2.1 54)), (1, .int a0), (2, .int a1), (3, .int a2), (4, .int a3), (5, .int a4)]) F dX7_isWithin_36 (by rw [← hml]; decide) rfl ?_
  refine j_iload_n F dX7_isWithin_38 rfl 5 rfl ?_
  refine j_aload_n F dX7_isWithin_39 rfl 2 rfl ?_
  refine j_getr (r := 61) F D ce_54 fl_X7_isWithin_28 rfl dX7_isWithin_40 ?_
  refine j_iload_n F dX7_isWithin_43 rfl 3 rfl ?_
  refine j_iald F D ce_61 dX7_isWithin_44 (fun v7 => ?_)
  refine j_imul F dX7_isWithin_45 ?_
  refine j_iload_n F dX7_isWithin_46 rfl 5 rfl ?_
  refine j_aload_n F dX7_isWithin_47 rfl 2 rfl ?_
  refine j_getr (r := 61) F D ce_54 fl_X7_isWithin_28 rfl dX7_isWithin_48 ?_
  refine j_iload_n F dX7_isWithin_51 rfl 3 rfl ?_
  refine j_iconst (v := (1 : Int32)) F dX7_isWithin_52 (by decide) ?_
  refine j_iadd F dX7_isWithin_53 ?_
  refine j_iald F D ce_61 dX7_isWithin_54 (fun v8 => ?_)
  refine j_imul F dX7_isWithin_55 ?_
  refine j_callSi (As := [.int (a2 * v7), .int (a2 * v8)]) F D hX (mX7_lesser l G (a2 * v7) (a2 * v8)) kX7_lesser gX7_isWithin_X7_lesser ⟨rfl, rfl⟩ ⟨Nat.le_of_ble_eq_true rfl, Nat.le_of_ble_eq_true rfl⟩ rfl (Nat.le_of_ble_eq_true rfl) rfl dX7_isWithin_56 (fun w9 => ?_)
  refine j_istore (lv' := [(8, .int w9.1), (7, .int w6.1), (6, .int w3.1), (0, .ref (G.2.1 54)), (1, .int a0), (2, .int a1), (3, .int a2), (4, .int a3), (5, .int a4)]) F dX7_isWithin_59 (by rw [← hml]; decide) rfl ?_
  refine j_iload_n F dX7_isWithin_61 rfl 6 rfl ?_
  refine j_aload_n F dX7_isWithin_62 rfl 3 rfl ?_
  refine j_getr (r := 61) F D ce_54 fl_X7_isWithin_28 rfl dX7_isWithin_63 ?_
  refine j_iload_n F dX7_isWithin_66 rfl 4 rfl ?_
  refine j_iald F D ce_61 dX7_isWithin_67 (fun v10 => ?_)
  refine j_imul F dX7_isWithin_68 ?_
  refine j_iload_n F dX7_isWithin_69 rfl 6 rfl ?_
  refine j_aload_n F dX7_isWithin_70 rfl 3 rfl ?_
  refine j_getr (r := 61) F D ce_54 fl_X7_isWithin_28 rfl dX7_isWithin_71 ?_
  refine j_iload_n F dX7_isWithin_74 rfl 4 rfl ?_
  refine j_iconst (v := (1 : Int32)) F dX7_isWithin_75 (by decide) ?_
  refine j_iadd F dX7_isWithin_76 ?_
  refine j_iald F D ce_61 dX7_isWithin_77 (fun v11 => ?_)
  refine j_imul F dX7_isWithin_78 ?_
  refine j_callSi (As := [.int (a2 * v10), .int (a2 * v11)]) F D hX (mX7_greater l G (a2 * v10) (a2 * v11)) kX7_greater gX7_isWithin_X7_greater ⟨rfl, rfl⟩ ⟨Nat.le_of_ble_eq_true rfl, Nat.le_of_ble_eq_true rfl⟩ rfl (Nat.le_of_ble_eq_true rfl) rfl dX7_isWithin_79 (fun w12 => ?_)
  refine j_istore (lv' := [(9, .int w12.1), (8, .int w9.1), (7, .int w6.1), (6, .int w3.1), (0, .ref (G.2.1 54)), (1, .int a0), (2, .int a1), (3, .int a2), (4, .int a3), (5, .int a4)]) F dX7_isWithin_82 (by rw [← hml]; decide) rfl ?_
  refine j_iload F dX7_isWithin_84 3 rfl ?_
  refine j_iload_n F dX7_isWithin_86 rfl 6 rfl ?_
  refine j_icmp_gt (tgt := 115) F dX7_isWithin_87 (by decide) ?_ ?_
  · refine j_iconst (v := (0 : Int32)) F dX7_isWithin_115 (by decide) ?_
    exact j_iret F D E rfl dX7_isWithin_116
  · refine j_iload F dX7_isWithin_90 2 rfl ?_
    refine j_iload_n F dX7_isWithin_92 rfl 6 rfl ?_
    refine j_ineg F dX7_isWithin_93 ?_
    refine j_icmp_lt (tgt := 115) F dX7_isWithin_94 (by decide) ?_ ?_
    · refine j_iconst (v := (0 : Int32)) F dX7_isWithin_115 (by decide) ?_
      exact j_iret F D E rfl dX7_isWithin_116
    · refine j_iload F dX7_isWithin_97 1 rfl ?_
      refine j_iload F dX7_isWithin_99 9 rfl ?_
      refine j_icmp_gt (tgt := 115) F dX7_isWithin_101 (by decide) ?_ ?_
      · refine j_iconst (v := (0 : Int32)) F dX7_isWithin_115 (by decide) ?_
        exact j_iret F D E rfl dX7_isWithin_116
      · refine j_iload F dX7_isWithin_104 0 rfl ?_
        refine j_iload F dX7_isWithin_106 8 rfl ?_
        refine j_icmp_lt (tgt := 115) F dX7_isWithin_108 (by decide) ?_ ?_
        · refine j_iconst (v := (0 : Int32)) F dX7_isWithin_115 (by decide) ?_
          exact j_iret F D E rfl dX7_isWithin_116
        · refine j_iconst (v := (1 : Int32)) F dX7_isWithin_111 (by decide) ?_
          refine j_goto (tgt := 116) F dX7_isWithin_112 (by decide) ?_
          exact j_iret F D E rfl dX7_isWithin_116

/-! FlangeFolderModel.areMet -/
def fX7_areMet (a0 : Int32) (a1 : Int32) (M : Mm) : Option (Int32 × Mm) := (rd M 60 8 a0).bind (fun v1 => (rd M 60 8 (a0 + (1 : Int32))).bind (fun v2 => (fX7_greater v1 v2 M).bind (fun w3 => (rd w3.2 60 8 a1).bind (fun v4 => (rd w3.2 60 8 (a1 + (1 : Int32))).bind (fun v5 => (fX7_lesser v4 v5 w3.2).bind (fun w6 => jn (fun (x7 : Int32) (N8 : Mm) => (if x7 = (0 : Int32) then some ((0 : Int32), N8) else (rd N8 61 8 a0).bind (fun v10 => (rd N8 61 8 (a0 + (1 : Int32))).bind (fun v11 => (fX7_greater v10 v11 N8).bind (fun w12 => (rd w12.2 61 8 a1).bind (fun v13 => (rd w12.2 61 8 (a1 + (1 : Int32))).bind (fun v14 => (fX7_lesser v13 v14 w12.2).bind (fun w15 => (if w12.1 < w15.1 then some ((0 : Int32), w15.2) else (rd w15.2 61 8 a1).bind (fun v16 => (rd w15.2 61 8 (a1 + (1 : Int32))).bind (fun v17 => (fX7_greater v16 v17 w15.2).bind (fun w18 => (rd w18.2 61 8 a0).bind (fun v19 => (rd w18.2 61 8 (a0 + (1 : Int32))).bind (fun v20 => (fX7_lesser v19 v20 w18.2).bind (fun w21 => (if w18.1 < w21.1 then some ((0 : Int32), w21.2) else some ((1 : Int32), w21.2))))))))))))))))) (fun K9 => jn (fun (N22 : Mm) => K9 (0 : Int32) N22) (fun K23 => (if w3.1 < w6.1 then K23 w6.2 else (rd w6.2 60 8 a1).bind (fun v24 => (rd w6.2 60 8 (a1 + (1 : Int32))).bind (fun v25 => (fX7_greater v24 v25 w6.2).bind (fun w26 => (rd w26.2 60 8 a0).bind (fun v27 => (rd w26.2 60 8 (a0 + (1 : Int32))).bind (fun v28 => (fX7_lesser v27 v28 w26.2).bind (fun w29 => (if w26.1 < w29.1 then K23 w29.2 else K9 (1 : Int32) w29.2))))))))))))))))
def rmX7_areMet : Room := { frames := 1, cells := 0, slots := 0, locals := 21 }
theorem kX7_areMet : Kc yX7_areMet cX7_areMet 4 (some .boolean) wsX7_areMet 2 := ⟨⟨_, rfl⟩, by decide +kernel, by decide +kernel, by decide +kernel⟩
theorem ic_X7_areMet_X7 : ∀ w ∈ u_ws RX7 TX7 19, w ∈ wsX7_areMet := by decide +kernel
theorem fl_X7_areMet_25 : Fl wsX7_areMet RX7 25 7 7 := ⟨RX7, TX7, 19, rfl, by decide, ic_X7_areMet_X7, by decide +kernel⟩
theorem fl_X7_areMet_28 : Fl wsX7_areMet RX7 28 7 8 := ⟨RX7, TX7, 19, rfl, by decide, ic_X7_areMet_X7, by decide +kernel⟩
set_option maxHeartbeats 4000000 in
set_option maxRecDepth 100000 in
theorem mX7_areMet (l : Launch) (G : Gg) (a0 : Int32) (a1 : Int32) : Ci l G SM yX7_areMet wsX7_areMet rmX7_areMet [.ref (G.2.1 54), .int a0, .int a1] (fX7_areMet a0 a1) := by
  refine Ci.intro (lv := [(0, .ref (G.2.1 54)), (1, .int a0), (2, .int a1)]) RX7 rfl (by decide) kX7_areMet (Nat.le_of_ble_eq_true rfl) rfl (fun X V M z F D hX hml E => ?_)
  unfold fX7_areMet
  refine j_aload_n F dX7_areMet_0 rfl 0 rfl ?_
  refine j_getr (r := 60) F D ce_54 fl_X7_areMet_25 rfl dX7_areMet_1 ?_
  refine j_iload_n F dX7_areMet_4 rfl 1 rfl ?_
  refine j_iald F D ce_60 dX7_areMet_5 (fun v1 => ?_)
  refine j_aload_n F dX7_areMet_6 rfl 0 rfl ?_
  refine j_getr (r := 60) F D ce_54 fl_X7_areMet_25 rfl dX7_areMet_7 ?_
  refine j_iload_n F dX7_areMet_10 rfl 1 rfl ?_
  refine j_iconst (v := (1 : Int32)) F dX7_areMet_11 (by decide) ?_
  refine j_iadd F dX7_areMet_12 ?_
  refine j_iald F D ce_60 dX7_areMet_13 (fun v2 => ?_)
  refine j_callSi (As := [.int v1, .int v2]) F D hX (mX7_greater l G v1 v2) kX7_greater gX7_areMet_X7_greater ⟨rfl, rfl⟩ ⟨Nat.le_of_ble_eq_true rfl, Nat.le_of_ble_eq_true rfl⟩ rfl (Nat.le_of_ble_eq_true rfl) rfl dX7_areMet_14 (fun w3 => ?_)
  refine j_aload_n F dX7_areMet_17 rfl 0 rfl ?_
  refine j_getr (r := 60) F D ce_54 fl_X7_areMet_25 rfl dX7_areMet_18 ?_
  refine j_iload_n F dX7_areMet_21 rfl 2 rfl ?_
  refine j_iald F D ce_60 dX7_areMet_22 (fun v4 => ?_)
  refine j_aload_n F dX7_areMet_23 rfl 0 rfl ?_
  refine j_getr (r := 60) F D ce_54 fl_X7_areMet_25 rfl dX7_areMet_24 ?_
  refine j_iload_n F dX7_areMet_27 rfl 2 rfl ?_
  refine j_iconst (v := (1 : Int32)) F dX7_areMet_28 (by decide) ?_
  refine j_iadd F dX7_areMet_29 ?_
  refine j_iald F D ce_60 dX7_areMet_30 (fun v5 => ?_)
  refine j_callSi (As := [.int v4, .int v5]) F D hX (mX7_lesser l G v4 v5) kX7_lesser gX7_areMet_X7_lesser ⟨rfl, rfl⟩ ⟨Nat.le_of_ble_eq_true rfl, Nat.le_of_ble_eq_true rfl⟩ rfl (Nat.le_of_ble_eq_true rfl) rfl dX7_areMet_31 (fun w6 => ?_)
  refine j_jn (P := fun (K9 : Int32 → Mm → Option (Int32 × Mm)) => ∀ (x7 : Int32) (N8 : Mm), Jg X V z (K9 x7 N8) N8 79 [(0, .ref (G.2.1 54)), (1, .int a0), (2, .int a1)] [.int x7]) ?_ (fun K9 hK9 => ?_)
  · intro x7 N8
    refine j_istore_n (lv' := [(3, .int x7), (0, .ref (G.2.1 54)), (1, .int a0), (2, .int a1)]) F dX7_areMet_79 rfl (by rw [← hml]; decide) rfl ?_
    refine j_iload_n F dX7_areMet_80 rfl 0 rfl ?_
    refine j_if_eq (tgt := 162) F dX7_areMet_81 (by decide) ?_ ?_
    · refine j_iconst (v := (0 : Int32)) F dX7_areMet_162 (by decide) ?_
      exact j_iret F D E rfl dX7_areMet_163
    · refine j_aload_n F dX7_areMet_84 rfl 1 rfl ?_
      refine j_getr (r := 61) F D ce_54 fl_X7_areMet_28 rfl dX7_areMet_85 ?_
      refine j_iload_n F dX7_areMet_88 rfl 2 rfl ?_
      refine j_iald F D ce_61 dX7_areMet_89 (fun v10 => ?_)
      refine j_aload_n F dX7_areMet_90 rfl 1 rfl ?_
      refine j_getr (r := 61) F D ce_54 fl_X7_areMet_28 rfl dX7_areMet_91 ?_
      refine j_iload_n F dX7_areMet_94 rfl 2 rfl ?_
      refine j_iconst (v := (1 : Int32)) F dX7_areMet_95 (by decide) ?_
      refine j_iadd F dX7_areMet_96 ?_
      refine j_iald F D ce_61 dX7_areMet_97 (fun v11 => ?_)
      refine j_callSi (As := [.int v10, .int v11]) F D hX (mX7_greater l G v10 v11) kX7_greater gX7_areMet_X7_greater ⟨rfl, rfl⟩ ⟨Nat.le_of_ble_eq_true rfl, Nat.le_of_ble_eq_true rfl⟩ rfl (Nat.le_of_ble_eq_true rfl) rfl dX7_areMet_98 (fun w12 => ?_)
      refine j_aload_n F dX7_areMet_101 rfl 1 rfl ?_
      refine j_getr (r := 61) F D ce_54 fl_X7_areMet_28 rfl dX7_areMet_102 ?_
      refine j_iload_n F dX7_areMet_105 rfl 3 rfl ?_
      refine j_iald F D ce_61 dX7_areMet_106 (fun v13 => ?_)
      refine j_aload_n F dX7_areMet_107 rfl 1 rfl ?_
      refine j_getr (r := 61) F D ce_54 fl_X7_areMet_28 rfl dX7_areMet_108 ?_
      refine j_iload_n F dX7_areMet_111 rfl 3 rfl ?_
      refine j_iconst (v := (1 : Int32)) F dX7_areMet_112 (by decide) ?_
      refine j_iadd F dX7_areMet_113 ?_
      refine j_iald F D ce_61 dX7_areMet_114 (fun v14 => ?_)
      refine j_callSi (As := [.int v13, .int v14]) F D hX (mX7_lesser l G v13 v14) kX7_lesser gX7_areMet_X7_lesser ⟨rfl, rfl⟩ ⟨Nat.le_of_ble_eq_true rfl, Nat.le_of_ble_eq_true rfl⟩ rfl (Nat.le_of_ble_eq_true rfl) rfl dX7_areMet_115 (fun w15 => ?_)
      refine j_icmp_lt (tgt := 162) F dX7_areMet_118 (by decide) ?_ ?_
      · refine j_iconst (v := (0 : Int32)) F dX7_areMet_162 (by decide) ?_
        exact j_iret F D E rfl dX7_areMet_163
      · refine j_aload_n F dX7_areMet_121 rfl 1 rfl ?_
        refine j_getr (r := 61) F D ce_54 fl_X7_areMet_28 rfl dX7_areMet_122 ?_
        refine j_iload_n F dX7_areMet_125 rfl 3 rfl ?_
        refine j_iald F D ce_61 dX7_areMet_126 (fun v16 => ?_)
        refine j_aload_n F dX7_areMet_127 rfl 1 rfl ?_
        refine j_getr (r := 61) F D ce_54 fl_X7_areMet_28 rfl dX7_areMet_128 ?_
        refine j_iload_n F dX7_areMet_131 rfl 3 rfl ?_
        refine j_iconst (v := (1 : Int32)) F dX7_areMet_132 (by decide) ?_
        refine j_iadd F dX7_areMet_133 ?_
        refine j_iald F D ce_61 dX7_areMet_134 (fun v17 => ?_)
        refine j_callSi (As := [.int v16, .int v17]) F D hX (mX7_greater l G v16 v17) kX7_greater gX7_areMet_X7_greater ⟨rfl, rfl⟩ ⟨Nat.le_of_ble_eq_true rfl, Nat.le_of_ble_eq_true rfl⟩ rfl (Nat.le_of_ble_eq_true rfl) rfl dX7_areMet_135 (fun w18 => ?_)
        refine j_aload_n F dX7_areMet_138 rfl 1 rfl ?_
        refine j_getr (r := 61) F D ce_54 fl_X7_areMet_28 rfl dX7_areMet_139 ?_
        refine j_iload_n F dX7_areMet_142 rfl 2 rfl ?_
        refine j_iald F D ce_61 dX7_areMet_143 (fun v19 => ?_)
        refine j_aload_n F dX7_areMet_144 rfl 1 rfl ?_
        refine j_getr (r := 61) F D ce_54 fl_X7_areMet_28 rfl dX7_areMet_145 ?_
        refine j_iload_n F dX7_areMet_148 rfl 2 rfl ?_
        refine j_iconst (v := (1 : Int32)) F dX7_areMet_149 (by decide) ?_
        refine j_iadd F dX7_areMet_150 ?_
        refine j_iald F D ce_61 dX7_areMet_151 (fun v20 => ?_)
        refine j_callSi (As := [.int v19, .int v20]) F D hX (mX7_lesser l G v19 v20) kX7_lesser gX7_areMet_X7_lesser ⟨rfl, rfl⟩ ⟨Nat.le_of_ble_eq_true rfl, Nat.le_of_ble_eq_true rfl⟩ rfl (Nat.le_of_ble_eq_true rfl) rfl dX7_areMet_152 (fun w21 => ?_)
        refine j_icmp_lt (tgt := 162) F dX7_areMet_155 (by decide) ?_ ?_
        · refine j_iconst (v := (0 : Int32)) F dX7_areMet_162 (by decide) ?_
          exact j_iret F D E rfl dX7_areMet_163
        · refine j_iconst (v := (1 : Int32)) F dX7_areMet_158 (by decide) ?_
          refine j_goto (tgt := 163) F dX7_areMet_159 (by decide) ?_
          exact j_iret F D E rfl dX7_areMet_163
  · refine j_jn (P := fun (K23 : Mm → Option (Int32 × Mm)) => ∀ (N22 : Mm), Jg X V z (K23 N22) N22 78 [(0, .ref (G.2.1 54)), (1, .int a0), (2, .int a1)] []) ?_ (fun K23 hK23 => ?_)
    · intro N22
      refine j_iconst (v := (0 : Int32)) F dX7_areMet_78 (by decide) ?_
      exact j_sub [0, 1, 2] rfl (hK9 (0 : Int32) N22)
    · refine j_icmp_lt (tgt := 78) F dX7_areMet_34 (by decide) ?_ ?_
      · exact j_sub [0, 1, 2] rfl (hK23 w6.2)
      · refine j_aload_n F dX7_areMet_37 rfl 0 rfl ?_
        refine j_getr (r := 60) F D ce_54 fl_X7_areMet_25 rfl dX7_areMet_38 ?_
        refine j_iload_n F dX7_areMet_41 rfl 2 rfl ?_
        refine j_iald F D ce_60 dX7_areMet_42 (fun v24 => ?_)
        refine j_aload_n F dX7_areMet_43 rfl 0 rfl ?_
        refine j_getr (r := 60) F D ce_54 fl_X7_areMet_25 rfl dX7_areMet_44 ?_
        refine j_iload_n F dX7_areMet_47 rfl 2 rfl ?_
        refine j_iconst (v := (1 : Int32)) F dX7_areMet_48 (by decide) ?_
        refine j_iadd F dX7_areMet_49 ?_
        refine j_iald F D ce_60 dX7_areMet_50 (fun v25 => ?_)
        refine j_callSi (As := [.int v24, .int v25]) F D hX (mX7_greater l G v24 v25) kX7_greater gX7_areMet_X7_greater ⟨rfl, rfl⟩ ⟨Nat.le_of_ble_eq_true rfl, Nat.le_of_ble_eq_true rfl⟩ rfl (Nat.le_of_ble_eq_true rfl) rfl dX7_areMet_51 (fun w26 => ?_)
        refine j_aload_n F dX7_areMet_54 rfl 0 rfl ?_
        refine j_getr (r := 60) F D ce_54 fl_X7_areMet_25 rfl dX7_areMet_55 ?_
        refine j_iload_n F dX7_areMet_58 rfl 1 rfl ?_
        refine j_iald F D ce_60 dX7_areMet_59 (fun v27 => ?_)
        refine j_aload_n F dX7_areMet_60 rfl 0 rfl ?_
        refine j_getr (r := 60) F D ce_54 fl_X7_areMet_25 rfl dX7_areMet_61 ?_
        refine j_iload_n F dX7_areMet_64 rfl 1 rfl ?_
        refine j_iconst (v := (1 : Int32)) F dX7_areMet_65 (by decide) ?_
        refine j_iadd F dX7_areMet_66 ?_
        refine j_iald F D ce_60 dX7_areMet_67 (fun v28 => ?_)
        refine j_callSi (As := [.int v27, .int v28]) F D hX (mX7_lesser l G v27 v28) kX7_lesser gX7_areMet_X7_lesser ⟨rfl, rfl⟩ ⟨Nat.le_of_ble_eq_true rfl, Nat.le_of_ble_eq_true rfl⟩ rfl (Nat.le_of_ble_eq_true rfl) rfl dX7_areMet_68 (fun w29 => ?_)
        refine j_icmp_lt (tgt := 78) F dX7_areMet_71 (by decide) ?_ ?_
        · exact j_sub [0, 1, 2] rfl (hK23 w29.2)
        · refine j_iconst (v := (1 : Int32)) F dX7_areMet_74 (by decide) ?_
          refine j_goto (tgt := 79) F dX7_areMet_75 (by decide) ?_
          exact j_sub [0, 1, 2] rfl (hK9 (1 : Int32) w29.2)

/-! FlangeFolderModel.hitBy -/
def lX7_hitBy_29 (K11 : Int32 → Int32 → Mm → Option (Int32 × Mm)) (c4 : Int32) (c5 : Int32) (c6 : Int32) : Nat → Int32 → Int32 → Int32 → Mm → Option (Int32 × Mm)
  | 0, _, _, _, _ => none
  | n16 + 1, x7, x8, x9, N10 => (rd N10 55 26 (0 : Int32)).bind (fun v17 => (if v17 < x9 then K11 x7 x8 N10 else jn (fun (x18 : Int32) (N19 : Mm) => (if x8 = (0 : Int32) then (rd N19 55 26 (22 : Int32)).bind (fun v21 => (if v21 ≤ (0 : Int32) then lX7_hitBy_29 K11 c4 c5 c6 n16 x18 (0 : Int32) (x9 + (1 : Int32)) N19 else (rd N19 55 26 (22 : Int32)).bind (fun v22 => (fX7_isWithin x9 (0 : Int32) c6 (1 : Int32) v22 N19).bind (fun w23 => (if w23.1 = (0 : Int32) then lX7_hitBy_29 K11 c4 c5 c6 n16 x18 (0 : Int32) (x9 + (1 : Int32)) w23.2 else lX7_hitBy_29 K11 c4 c5 c6 n16 x18 (1 : Int32) (x9 + (1 : Int32)) w23.2))))) else lX7_hitBy_29 K11 c4 c5 c6 n16 x18 (1 : Int32) (x9 + (1 : Int32)) N19)) (fun K20 => jn (fun (N24 : Mm) => K20 (1 : Int32) N24) (fun K25 => (if x7 = (0 : Int32) then (rd N10 55 26 (21 : Int32)).bind (fun v26 => (fX7_isWithin x9 v26 c6 (-1000 : Int32) (-1 : Int32) N10).bind (fun w27 => (if w27.1 = (0 : Int32) then K20 (0 : Int32) w27.2 else K25 w27.2))) else K25 N10)))))
def lX7_hitBy_173 (K43 : Int32 → Mm → Option (Int32 × Mm)) (c40 : Int32) : Nat → Int32 → Int32 → Mm → Option (Int32 × Mm)
  | 0, _, _, _ => none
  | n47 + 1, x39, x41, N42 => (rd N42 55 26 (0 : Int32)).bind (fun v48 => (if v48 < x41 then K43 x39 N42 else (if x39 = (0 : Int32) then (fX7_areMet c40 x41 N42).bind (fun w49 => (if w49.1 = (0 : Int32) then lX7_hitBy_173 K43 c40 n47 (0 : Int32) (x41 + (1 : Int32)) w49.2 else lX7_hitBy_173 K43 c40 n47 (1 : Int32) (x41 + (1 : Int32)) w49.2)) else lX7_hitBy_173 K43 c40 n47 (1 : Int32) (x41 + (1 : Int32)) N42)))
def lX7_hitBy_156 (K32 : Int32 → Mm → Option (Int32 × Mm))  : Nat → Int32 → Int32 → Mm → Option (Int32 × Mm)
  | 0, _, _, _ => none
  | n36 + 1, x29, x30, N31 => (rd N31 55 26 (0 : Int32)).bind (fun v37 => (if v37 < x30 then K32 x29 N31 else lt (x30 + (2 : Int32)) (fun x38 => lX7_hitBy_173 (fun (x44 : Int32) (N45 : Mm) => lX7_hitBy_156 K32 n36 x44 (x30 + (1 : Int32)) N45) x30 fu x29 x38 N31)))
def fX7_hitBy (a0 : Int32) (a1 : Int32) (M : Mm) : Option (Int32 × Mm) := (fX7_lays a1 M).bind (fun w1 => (fX7_turnsTo a0 w1.2).bind (fun w2 => (rd w2.2 55 26 ((8 : Int32) + a0)).bind (fun v3 => lX7_hitBy_29 (fun (x12 : Int32) (x13 : Int32) (N14 : Mm) => (if x12 = (0 : Int32) then (if x13 = (0 : Int32) then (fX7_lays (a1 ||| ((1 : Int32) <<< (a0 &&& 31))) N14).bind (fun w28 => lX7_hitBy_156 (fun (x33 : Int32) (N34 : Mm) => (if x33 = (0 : Int32) then some ((0 : Int32), N34) else some ((3 : Int32), N34)))  fu (0 : Int32) (0 : Int32) w28.2) else (if x12 = (0 : Int32) then some ((2 : Int32), N14) else some ((1 : Int32), N14))) else (if x12 = (0 : Int32) then some ((2 : Int32), N14) else some ((1 : Int32), N14)))) a0 a1 v3 fu (0 : Int32) (0 : Int32) (0 : Int32) w2.2)))
def rmX7_hitBy : Room := { frames := 2, cells := 0, slots := 0, locals := 50 }
theorem kX7_hitBy : Kc yX7_hitBy cX7_hitBy 9 (some .int) wsX7_hitBy 2 := ⟨⟨_, rfl⟩, by decide +kernel, by decide +kernel, by decide +kernel⟩
theorem ic_X7_hitBy_X7 : ∀ w ∈ u_ws RX7 TX7 19, w ∈ wsX7_hitBy := by decide +kernel
theorem fl_X7_hitBy_7 : Fl wsX7_hitBy RX7 7 7 0 := ⟨RX7, TX7, 19, rfl, by decide, ic_X7_hitBy_X7, by decide +kernel⟩
set_option maxHeartbeats 4000000 in
set_option maxRecDepth 100000 in
theorem mX7_hitBy (l : Launch) (G : Gg) (a0 : Int32) (a1 : Int32) : Ci l G SM yX7_hitBy wsX7_hitBy rmX7_hitBy [.ref (G.2.1 54), .int a0, .int a1] (fX7_hitBy a0 a1) := by
  refine Ci.intro (lv := [(0, .ref (G.2.1 54)), (1, .int a0), (2, .int a1)]) RX7 rfl (by decide) kX7_hitBy (Nat.le_of_ble_eq_true rfl) rfl (fun X V M z F D hX hml E => ?_)
  unfold fX7_hitBy
  refine j_aload_n F dX7_hitBy_0 rfl 0 rfl ?_
  refine j_iload_n F dX7_hitBy_1 rfl 2 rfl ?_
  refine j_callVv (As := [.int a1]) F D hX (mX7_lays l G a1) ce_54 rfl kX7_lays rfl gX7_hitBy_X7_lays ⟨rfl, rfl⟩ ⟨Nat.le_of_ble_eq_true rfl, Nat.le_of_ble_eq_true rfl⟩ rfl (Nat.le_of_ble_eq_true rfl) rfl dX7_hitBy_2 (fun w1 => ?_)
  refine j_aload_n F dX7_hitBy_5 rfl 0 rfl ?_
  refine j_iload_n F dX7_hitBy_6 rfl 1 rfl ?_
  refine j_callVv (As := [.int a0]) F D hX (mX7_turnsTo l G a0) ce_54 rfl kX7_turnsTo rfl gX7_hitBy_X7_turnsTo ⟨rfl, rfl⟩ ⟨Nat.le_of_ble_eq_true rfl, Nat.le_of_ble_eq_true rfl⟩ rfl (Nat.le_of_ble_eq_true rfl) rfl dX7_hitBy_7 (fun w2 => ?_)
  refine j_aload_n F dX7_hitBy_10 rfl 0 rfl ?_
  refine j_getr (r := 55) F D ce_54 fl_X7_hitBy_7 rfl dX7_hitBy_11 ?_
  refine j_bipush (v := (8 : Int32)) F dX7_hitBy_14 (by decide) ?_
  refine j_iload_n F dX7_hitBy_16 rfl 1 rfl ?_
  refine j_iadd F dX7_hitBy_17 ?_
  refine j_iald F D ce_55 dX7_hitBy_18 (fun v3 => ?_)
  refine j_istore_n (lv' := [(3, .int v3), (0, .ref (G.2.1 54)), (1, .int a0), (2, .int a1)]) F dX7_hitBy_19 rfl (by rw [← hml]; decide) rfl ?_
  refine j_iconst (v := (0 : Int32)) F dX7_hitBy_20 (by decide) ?_
  refine j_istore (lv' := [(4, .int (0 : Int32)), (3, .int v3), (0, .ref (G.2.1 54)), (1, .int a0), (2, .int a1)]) F dX7_hitBy_21 (by rw [← hml]; decide) rfl ?_
  refine j_iconst (v := (0 : Int32)) F dX7_hitBy_23 (by decide) ?_
  refine j_istore (lv' := [(5, .int (0 : Int32)), (4, .int (0 : Int32)), (3, .int v3), (0, .ref (G.2.1 54)), (1, .int a0), (2, .int a1)]) F dX7_hitBy_24 (by rw [← hml]; decide) rfl ?_
  refine j_iconst (v := (0 : Int32)) F dX7_hitBy_26 (by decide) ?_
  refine j_istore (lv' := [(6, .int (0 : Int32)), (5, .int (0 : Int32)), (4, .int (0 : Int32)), (3, .int v3), (0, .ref (G.2.1 54)), (1, .int a0), (2, .int a1)]) F dX7_hitBy_27 (by rw [← hml]; decide) rfl ?_
  have hL52 : ∀ (K11 : Int32 → Int32 → Mm → Option (Int32 × Mm)) (c4 : Int32) (c5 : Int32) (c6 : Int32), (∀ (x12 : Int32) (x13 : Int32) (N14 : Mm), Jg X V z (K11 x12 x13 N14) N14 120 [(0, .ref (G.2.1 54)), (1, .int c4), (2, .int c5), (4, .int x12), (5, .int x13)] []) → ∀ (n16 : Nat) (x7 : Int32) (x8 : Int32) (x9 : Int32) (N10 : Mm), Jg X V z (lX7_hitBy_29 K11 c4 c5 c6 n16 x7 x8 x9 N10) N10 29 [(0, .ref (G.2.1 54)), (1, .int c4), (2, .int c5), (3, .int c6), (4, .int x7), (5, .int x8), (6, .int x9)] [] := by
    intro K11 c4 c5 c6 hK11 n16
    induction n16 with
    | zero => intro x7 x8 x9 N10; rw [lX7_hitBy_29]; exact j_none
    | succ n16 ih15 =>
      intro x7 x8 x9 N10
      rw [lX7_hitBy_29]
      refine j_iload F dX7_hitBy_29 6 rfl ?_
      refine j_aload_n F dX7_hitBy_31 rfl 0 rfl ?_
      refine j_getr (r := 55) F D ce_54 fl_X7_hitBy_7 rfl dX7_hitBy_32 ?_
      refine j_iconst (v := (0 : Int32)) F dX7_hitBy_35 (by decide) ?_
      refine j_iald F D ce_55 dX7_hitBy_36 (fun v17 => ?_)
      refine j_icmp_gt (tgt := 120) F dX7_hitBy_37 (by decide) ?_ ?_
      · exact j_sub [0, 1, 2, 4, 5] rfl (hK11 x7 x8 N10)
      · refine j_iload F dX7_hitBy_40 4 rfl ?_
        refine j_jn (P := fun (K20 : Int32 → Mm → Option (Int32 × Mm)) => ∀ (x18 : Int32) (N19 : Mm), Jg X V z (K20 x18 N19) N19 71 [(0, .ref (G.2.1 54)), (1, .int c4), (2, .int c5), (3, .int c6), (5, .int x8), (6, .int x9)] [.int x18]) ?_ (fun K20 hK20 => ?_)
        · intro x18 N19
          refine j_istore (lv' := [(4, .int x18), (0, .ref (G.2.1 54)), (1, .int c4), (2, .int c5), (3, .int c6), (5, .int x8), (6, .int x9)]) F dX7_hitBy_71 (by rw [← hml]; decide) rfl ?_
          refine j_iload F dX7_hitBy_73 5 rfl ?_
          refine j_if_ne (tgt := 107) F dX7_hitBy_75 (by decide) ?_ ?_
          · refine j_iconst (v := (1 : Int32)) F dX7_hitBy_107 (by decide) ?_
            refine j_goto (tgt := 112) F dX7_hitBy_108 (by decide) ?_
            refine j_istore (lv' := [(5, .int (1 : Int32)), (4, .int x18), (0, .ref (G.2.1 54)), (1, .int c4), (2, .int c5), (3, .int c6), (6, .int x9)]) F dX7_hitBy_112 (by rw [← hml]; decide) rfl ?_
            refine j_iinc (v := (x9 + (1 : Int32))) (lv' := [(6, .int (x9 + (1 : Int32))), (5, .int (1 : Int32)), (4, .int x18), (0, .ref (G.2.1 54)), (1, .int c4), (2, .int c5), (3, .int c6)]) F dX7_hitBy_114 6 rfl rfl (by rw [← hml]; decide) rfl ?_
            refine j_goto (tgt := 29) F dX7_hitBy_117 (by decide) ?_
            exact j_sub [3, 4, 5, 6, 2, 1, 0] rfl (ih15 x18 (1 : Int32) (x9 + (1 : Int32)) N19)
          · refine j_aload_n F dX7_hitBy_78 rfl 1 rfl ?_
            refine j_getr (r := 55) F D ce_54 fl_X7_hitBy_7 rfl dX7_hitBy_79 ?_
            refine j_bipush (v := (22 : Int32)) F dX7_hitBy_82 (by decide) ?_
            refine j_iald F D ce_55 dX7_hitBy_84 (fun v21 => ?_)
            refine j_if_le (tgt := 111) F dX7_hitBy_85 (by decide) ?_ ?_
            · refine j_iconst (v := (0 : Int32)) F dX7_hitBy_111 (by decide) ?_
              refine j_istore (lv' := [(5, .int (0 : Int32)), (4, .int x18), (0, .ref (G.2.1 54)), (1, .int c4), (2, .int c5), (3, .int c6), (6, .int x9)]) F dX7_hitBy_112 (by rw [← hml]; decide) rfl ?_
              refine j_iinc (v := (x9 + (1 : Int32))) (lv' := [(6, .int (x9 + (1 : Int32))), (5, .int (0 : Int32)), (4, .int x18), (0, .ref (G.2.1 54)), (1, .int c4), (2, .int c5), (3, .int c6)]) F dX7_hitBy_114 6 rfl rfl (by rw [← hml]; decide) rfl ?_
              refine j_goto (tgt := 29) F dX7_hitBy_117 (by decide) ?_
              exact j_sub [3, 4, 5, 6, 2, 1, 0] rfl (ih15 x18 (0 : Int32) (x9 + (1 : Int32)) N19)
            · refine j_aload_n F dX7_hitBy_88 rfl 1 rfl ?_
              refine j_iload F dX7_hitBy_89 6 rfl ?_
              refine j_iconst (v := (0 : Int32)) F dX7_hitBy_91 (by decide) ?_
              refine j_iload_n F dX7_hitBy_92 rfl 4 rfl ?_
              refine j_iconst (v := (1 : Int32)) F dX7_hitBy_93 (by decide) ?_
              refine j_aload_n F dX7_hitBy_94 rfl 1 rfl ?_
              refine j_getr (r := 55) F D ce_54 fl_X7_hitBy_7 rfl dX7_hitBy_95 ?_
              refine j_bipush (v := (22 : Int32)) F dX7_hitBy_98 (by decide) ?_
              refine j_iald F D ce_55 dX7_hitBy_100 (fun v22 => ?_)
              refine j_callVi (As := [.int x9, .int (0 : Int32), .int c6, .int (1 : Int32), .int v22]) F D hX (mX7_isWithin l G x9 (0 : Int32) c6 (1 : Int32) v22) ce_54 rfl kX7_isWithin rfl gX7_hitBy_X7_isWithin ⟨rfl, rfl⟩ ⟨Nat.le_of_ble_eq_true rfl, Nat.le_of_ble_eq_true rfl⟩ rfl (Nat.le_of_ble_eq_true rfl) rfl dX7_hitBy_101 (fun w23 => ?_)
              refine j_if_eq (tgt := 111) F dX7_hitBy_104 (by decide) ?_ ?_
              · refine j_iconst (v := (0 : Int32)) F dX7_hitBy_111 (by decide) ?_
                refine j_istore (lv' := [(5, .int (0 : Int32)), (4, .int x18), (0, .ref (G.2.1 54)), (1, .int c4), (2, .int c5), (3, .int c6), (6, .int x9)]) F dX7_hitBy_112 (by rw [← hml]; decide) rfl ?_
                refine j_iinc (v := (x9 + (1 : Int32))) (lv' := [(6, .int (x9 + (1 : Int32))), (5, .int (0 : Int32)), (4, .int x18), (0, .ref (G.2.1 54)), (1, .int c4), (2, .int c5), (3, .int c6)]) F dX7_hitBy_114 6 rfl rfl (by rw [← hml]; decide) rfl ?_
                refine j_goto (tgt := 29) F dX7_hitBy_117 (by decide) ?_
                exact j_sub [3, 4, 5, 6, 2, 1, 0] rfl (ih15 x18 (0 : Int32) (x9 + (1 : Int32)) w23.2)
              · refine j_iconst (v := (1 : Int32)) F dX7_hitBy_107 (by decide) ?_
                refine j_goto (tgt := 112) F dX7_hitBy_108 (by decide) ?_
                refine j_istore (lv' := [(5, .int (1 : Int32)), (4, .int x18), (0, .ref (G.2.1 54)), (1, .int c4), (2, .int c5), (3, .int c6), (6, .int x9)]) F dX7_hitBy_112 (by rw [← hml]; decide) rfl ?_
                refine j_iinc (v := (x9 + (1 : Int32))) (lv' := [(6, .int (x9 + (1 : Int32))), (5, .int (1 : Int32)), (4, .int x18), (0, .ref (G.2.1 54)), (1, .int c4), (2, .int c5), (3, .int c6)]) F dX7_hitBy_114 6 rfl rfl (by rw [← hml]; decide) rfl ?_
                refine j_goto (tgt := 29) F dX7_hitBy_117 (by decide) ?_
                exact j_sub [3, 4, 5, 6, 2, 1, 0] rfl (ih15 x18 (1 : Int32) (x9 + (1 : Int32)) w23.2)
        · refine j_jn (P := fun (K25 : Mm → Option (Int32 × Mm)) => ∀ (N24 : Mm), Jg X V z (K25 N24) N24 66 [(0, .ref (G.2.1 54)), (1, .int c4), (2, .int c5), (3, .int c6), (5, .int x8), (6, .int x9)] []) ?_ (fun K25 hK25 => ?_)
          · intro N24
            refine j_iconst (v := (1 : Int32)) F dX7_hitBy_66 (by decide) ?_
            refine j_goto (tgt := 71) F dX7_hitBy_67 (by decide) ?_
            exact j_sub [0, 1, 2, 3, 4, 5] rfl (hK20 (1 : Int32) N24)
          · refine j_if_ne (tgt := 66) F dX7_hitBy_42 (by decide) ?_ ?_
            · exact j_sub [0, 1, 2, 3, 5, 6] rfl (hK25 N10)
            · refine j_aload_n F dX7_hitBy_45 rfl 0 rfl ?_
              refine j_iload F dX7_hitBy_46 6 rfl ?_
              refine j_aload_n F dX7_hitBy_48 rfl 0 rfl ?_
              refine j_getr (r := 55) F D ce_54 fl_X7_hitBy_7 rfl dX7_hitBy_49 ?_
              refine j_bipush (v := (21 : Int32)) F dX7_hitBy_52 (by decide) ?_
              refine j_iald F D ce_55 dX7_hitBy_54 (fun v26 => ?_)
              refine j_iload_n F dX7_hitBy_55 rfl 3 rfl ?_
              refine j_sipush (v := (-1000 : Int32)) F dX7_hitBy_56 (by decide) ?_
              refine j_iconst (v := (-1 : Int32)) F dX7_hitBy_59 (by decide) ?_
              refine j_callVi (As := [.int x9, .int v26, .int c6, .int (-1000 : Int32), .int (-1 : Int32)]) F D hX (mX7_isWithin l G x9 v26 c6 (-1000 : Int32) (-1 : Int32)) ce_54 rfl kX7_isWithin rfl gX7_hitBy_X7_isWithin ⟨rfl, rfl⟩ ⟨Nat.le_of_ble_eq_true rfl, Nat.le_of_ble_eq_true rfl⟩ rfl (Nat.le_of_ble_eq_true rfl) rfl dX7_hitBy_60 (fun w27 => ?_)
              refine j_if_eq (tgt := 70) F dX7_hitBy_63 (by decide) ?_ ?_
              · refine j_iconst (v := (0 : Int32)) F dX7_hitBy_70 (by decide) ?_
                exact j_sub [0, 1, 2, 3, 5, 6] rfl (hK20 (0 : Int32) w27.2)
              · exact j_sub [0, 1, 2, 3, 5, 6] rfl (hK25 w27.2)
  refine j_sub [4, 5, 6, 3, 2, 1, 0] rfl (hL52 _ a0 a1 v3 ?_ fu (0 : Int32) (0 : Int32) (0 : Int32) w2.2)
  intro x12 x13 N14
  refine j_iload F dX7_hitBy_120 3 rfl ?_
  refine j_if_ne (tgt := 130) F dX7_hitBy_122 (by decide) ?_ ?_
  · refine j_iload F dX7_hitBy_130 3 rfl ?_
    refine j_if_eq (tgt := 139) F dX7_hitBy_132 (by decide) ?_ ?_
    · refine j_iconst (v := (2 : Int32)) F dX7_hitBy_139 (by decide) ?_
      exact j_iret F D E rfl dX7_hitBy_140
    · refine j_iconst (v := (1 : Int32)) F dX7_hitBy_135 (by decide) ?_
      refine j_goto (tgt := 140) F dX7_hitBy_136 (by decide) ?_
      exact j_iret F D E rfl dX7_hitBy_140
  · refine j_iload F dX7_hitBy_125 4 rfl ?_
    refine j_if_eq (tgt := 141) F dX7_hitBy_127 (by decide) ?_ ?_
    · refine j_aload_n F dX7_hitBy_141 rfl 0 rfl ?_
      refine j_iload_n F dX7_hitBy_142 rfl 2 rfl ?_
      refine j_iconst (v := (1 : Int32)) F dX7_hitBy_143 (by decide) ?_
      refine j_iload_n F dX7_hitBy_144 rfl 1 rfl ?_
      refine j_ishl F dX7_hitBy_145 ?_
      refine j_ior F dX7_hitBy_146 ?_
      refine j_callVv (As := [.int (a1 ||| ((1 : Int32) <<< (a0 &&& 31)))]) F D hX (mX7_lays l G (a1 ||| ((1 : Int32) <<< (a0 &&& 31)))) ce_54 rfl kX7_lays rfl gX7_hitBy_X7_lays ⟨rfl, rfl⟩ ⟨Nat.le_of_ble_eq_true rfl, Nat.le_of_ble_eq_true rfl⟩ rfl (Nat.le_of_ble_eq_true rfl) rfl dX7_hitBy_147 (fun w28 => ?_)
      refine j_iconst (v := (0 : Int32)) F dX7_hitBy_150 (by decide) ?_
      refine j_istore (lv' := [(6, .int (0 : Int32)), (0, .ref (G.2.1 54)), (1, .int a0), (2, .int a1), (4, .int x12), (5, .int x13)]) F dX7_hitBy_151 (by rw [← hml]; decide) rfl ?_
      refine j_iconst (v := (0 : Int32)) F dX7_hitBy_153 (by decide) ?_
      refine j_istore (lv' := [(7, .int (0 : Int32)), (6, .int (0 : Int32)), (0, .ref (G.2.1 54)), (1, .int a0), (2, .int a1), (4, .int x12), (5, .int x13)]) F dX7_hitBy_154 (by rw [← hml]; decide) rfl ?_
      have hL51 : ∀ (K32 : Int32 → Mm → Option (Int32 × Mm)) , (∀ (x33 : Int32) (N34 : Mm), Jg X V z (K32 x33 N34) N34 219 [(6, .int x33)] []) → ∀ (n36 : Nat) (x29 : Int32) (x30 : Int32) (N31 : Mm), Jg X V z (lX7_hitBy_156 K32 n36 x29 x30 N31) N31 156 [(0, .ref (G.2.1 54)), (6, .int x29), (7, .int x30)] [] := by
        intro K32  hK32 n36
        induction n36 with
        | zero => intro x29 x30 N31; rw [lX7_hitBy_156]; exact j_none
        | succ n36 ih35 =>
          intro x29 x30 N31
          rw [lX7_hitBy_156]
          refine j_iload F dX7_hitBy_156 2 rfl ?_
          refine j_aload_n F dX7_hitBy_158 rfl 0 rfl ?_
          refine j_getr (r := 55) F D ce_54 fl_X7_hitBy_7 rfl dX7_hitBy_159 ?_
          refine j_iconst (v := (0 : Int32)) F dX7_hitBy_162 (by decide) ?_
          refine j_iald F D ce_55 dX7_hitBy_163 (fun v37 => ?_)
          refine j_icmp_gt (tgt := 219) F dX7_hitBy_164 (by decide) ?_ ?_
          · exact j_sub [1] rfl (hK32 x29 N31)
          · refine j_iload F dX7_hitBy_167 2 rfl ?_
            refine j_iconst (v := (2 : Int32)) F dX7_hitBy_169 (by decide) ?_
            refine j_iadd F dX7_hitBy_170 ?_
            refine j_let (f := Value.int) (fun x38 => ?_)
            refine j_istore (lv' := [(8, .int x38), (0, .ref (G.2.1 54)), (6, .int x29), (7, .int x30)]) F dX7_hitBy_171 (by rw [← hml]; decide) rfl ?_
            have hL50 : ∀ (K43 : Int32 → Mm → Option (Int32 × Mm)) (c40 : Int32), (∀ (x44 : Int32) (N45 : Mm), Jg X V z (K43 x44 N45) N45 213 [(0, .ref (G.2.1 54)), (6, .int x44), (7, .int c40)] []) → ∀ (n47 : Nat) (x39 : Int32) (x41 : Int32) (N42 : Mm), Jg X V z (lX7_hitBy_173 K43 c40 n47 x39 x41 N42) N42 173 [(0, .ref (G.2.1 54)), (6, .int x39), (7, .int c40), (8, .int x41)] [] := by
              intro K43 c40 hK43 n47
              induction n47 with
              | zero => intro x39 x41 N42; rw [lX7_hitBy_173]; exact j_none
              | succ n47 ih46 =>
                intro x39 x41 N42
                rw [lX7_hitBy_173]
                refine j_iload F dX7_hitBy_173 3 rfl ?_
                refine j_aload_n F dX7_hitBy_175 rfl 0 rfl ?_
                refine j_getr (r := 55) F D ce_54 fl_X7_hitBy_7 rfl dX7_hitBy_176 ?_
                refine j_iconst (v := (0 : Int32)) F dX7_hitBy_179 (by decide) ?_
                refine j_iald F D ce_55 dX7_hitBy_180 (fun v48 => ?_)
                refine j_icmp_gt (tgt := 213) F dX7_hitBy_181 (by decide) ?_ ?_
                · exact j_sub [0, 1, 2] rfl (hK43 x39 N42)
                · refine j_iload F dX7_hitBy_184 1 rfl ?_
                  refine j_if_ne (tgt := 200) F dX7_hitBy_186 (by decide) ?_ ?_
                  · refine j_iconst (v := (1 : Int32)) F dX7_hitBy_200 (by decide) ?_
                    refine j_goto (tgt := 205) F dX7_hitBy_201 (by decide) ?_
                    refine j_istore (lv' := [(6, .int (1 : Int32)), (0, .ref (G.2.1 54)), (7, .int c40), (8, .int x41)]) F dX7_hitBy_205 (by rw [← hml]; decide) rfl ?_
                    refine j_iinc (v := (x41 + (1 : Int32))) (lv' := [(8, .int (x41 + (1 : Int32))), (6, .int (1 : Int32)), (0, .ref (G.2.1 54)), (7, .int c40)]) F dX7_hitBy_207 3 rfl rfl (by rw [← hml]; decide) rfl ?_
                    refine j_goto (tgt := 173) F dX7_hitBy_210 (by decide) ?_
                    exact j_sub [2, 1, 3, 0] rfl (ih46 (1 : Int32) (x41 + (1 : Int32)) N42)
                  · refine j_aload_n F dX7_hitBy_189 rfl 0 rfl ?_
                    refine j_iload F dX7_hitBy_190 2 rfl ?_
                    refine j_iload F dX7_hitBy_192 3 rfl ?_
                    refine j_callVi (As := [.int c40, .int x41]) F D hX (mX7_areMet l G c40 x41) ce_54 rfl kX7_areMet rfl gX7_hitBy_X7_areMet ⟨rfl, rfl⟩ ⟨Nat.le_of_ble_eq_true rfl, Nat.le_of_ble_eq_true rfl⟩ rfl (Nat.le_of_ble_eq_true rfl) rfl dX7_hitBy_194 (fun w49 => ?_)
                    refine j_if_eq (tgt := 204) F dX7_hitBy_197 (by decide) ?_ ?_
                    · refine j_iconst (v := (0 : Int32)) F dX7_hitBy_204 (by decide) ?_
                      refine j_istore (lv' := [(6, .int (0 : Int32)), (0, .ref (G.2.1 54)), (7, .int c40), (8, .int x41)]) F dX7_hitBy_205 (by rw [← hml]; decide) rfl ?_
                      refine j_iinc (v := (x41 + (1 : Int32))) (lv' := [(8, .int (x41 + (1 : Int32))), (6, .int (0 : Int32)), (0, .ref (G.2.1 54)), (7, .int c40)]) F dX7_hitBy_207 3 rfl rfl (by rw [← hml]; decide) rfl ?_
                      refine j_goto (tgt := 173) F dX7_hitBy_210 (by decide) ?_
                      exact j_sub [2, 1, 3, 0] rfl (ih46 (0 : Int32) (x41 + (1 : Int32)) w49.2)
                    · refine j_iconst (v := (1 : Int32)) F dX7_hitBy_200 (by decide) ?_
                      refine j_goto (tgt := 205) F dX7_hitBy_201 (by decide) ?_
                      refine j_istore (lv' := [(6, .int (1 : Int32)), (0, .ref (G.2.1 54)), (7, .int c40), (8, .int x41)]) F dX7_hitBy_205 (by rw [← hml]; decide) rfl ?_
                      refine j_iinc (v := (x41 + (1 : Int32))) (lv' := [(8, .int (x41 + (1 : Int32))), (6, .int (1 : Int32)), (0, .ref (G.2.1 54)), (7, .int c40)]) F dX7_hitBy_207 3 rfl rfl (by rw [← hml]; decide) rfl ?_
                      refine j_goto (tgt := 173) F dX7_hitBy_210 (by decide) ?_
                      exact j_sub [2, 1, 3, 0] rfl (ih46 (1 : Int32) (x41 + (1 : Int32)) w49.2)
            refine j_sub [1, 2, 3, 0] rfl (hL50 _ x30 ?_ fu x29 x38 N31)
            intro x44 N45
            refine j_iinc (v := (x30 + (1 : Int32))) (lv' := [(7, .int (x30 + (1 : Int32))), (0, .ref (G.2.1 54)), (6, .int x44)]) F dX7_hitBy_213 2 rfl rfl (by rw [← hml]; decide) rfl ?_
            refine j_goto (tgt := 156) F dX7_hitBy_216 (by decide) ?_
            exact j_sub [1, 2, 0] rfl (ih35 x44 (x30 + (1 : Int32)) N45)
      refine j_sub [2, 1, 0] rfl (hL51 _  ?_ fu (0 : Int32) (0 : Int32) w28.2)
      intro x33 N34
      refine j_iload F dX7_hitBy_219 0 rfl ?_
      refine j_if_eq (tgt := 228) F dX7_hitBy_221 (by decide) ?_ ?_
      · refine j_iconst (v := (0 : Int32)) F dX7_hitBy_228 (by decide) ?_
        exact j_iret F D E rfl dX7_hitBy_229
      · refine j_iconst (v := (3 : Int32)) F dX7_hitBy_224 (by decide) ?_
        refine j_goto (tgt := 229) F dX7_hitBy_225 (by decide) ?_
        exact j_iret F D E rfl dX7_hitBy_229
    · refine j_iload F dX7_hitBy_130 3 rfl ?_
      refine j_if_eq (tgt := 139) F dX7_hitBy_132 (by decide) ?_ ?_
      · refine j_iconst (v := (2 : Int32)) F dX7_hitBy_139 (by decide) ?_
        exact j_iret F D E rfl dX7_hitBy_140
      · refine j_iconst (v := (1 : Int32)) F dX7_hitBy_135 (by decide) ?_
        refine j_goto (tgt := 140) F dX7_hitBy_136 (by decide) ?_
        exact j_iret F D E rfl dX7_hitBy_140

/-! FlangeFolderModel.isFree -/
def fX7_isFree (a0 : Int32) (a1 : Int32) (M : Mm) : Option (Int32 × Mm) := (fX7_has a1 a0 M).bind (fun w1 => (if w1.1 = (0 : Int32) then (fX7_hitBy a0 a1 w1.2).bind (fun w2 => (if w2.1 = (0 : Int32) then some ((1 : Int32), w2.2) else some ((0 : Int32), w2.2))) else some ((0 : Int32), w1.2)))
def rmX7_isFree : Room := { frames := 3, cells := 0, slots := 0, locals := 78 }
theorem kX7_isFree : Kc yX7_isFree cX7_isFree 3 (some .boolean) wsX7_isFree 2 := ⟨⟨_, rfl⟩, by decide +kernel, by decide +kernel, by decide +kernel⟩
set_option maxHeartbeats 4000000 in
set_option maxRecDepth 100000 in
theorem mX7_isFree (l : Launch) (G : Gg) (a0 : Int32) (a1 : Int32) : Ci l G SM yX7_isFree wsX7_isFree rmX7_isFree [.ref (G.2.1 54), .int a0, .int a1] (fX7_isFree a0 a1) := by
  refine Ci.intro (lv := [(0, .ref (G.2.1 54)), (1, .int a0), (2, .int a1)]) RX7 rfl (by decide) kX7_isFree (Nat.le_of_ble_eq_true rfl) rfl (fun X V M z F D hX hml E => ?_)
  unfold fX7_isFree
  refine j_iload_n F dX7_isFree_0 rfl 2 rfl ?_
  refine j_iload_n F dX7_isFree_1 rfl 1 rfl ?_
  refine j_callSi (As := [.int a1, .int a0]) F D hX (mX7_has l G a1 a0) kX7_has gX7_isFree_X7_has ⟨rfl, rfl⟩ ⟨Nat.le_of_ble_eq_true rfl, Nat.le_of_ble_eq_true rfl⟩ rfl (Nat.le_of_ble_eq_true rfl) rfl dX7_isFree_2 (fun w1 => ?_)
  refine j_if_ne (tgt := 21) F dX7_isFree_5 (by decide) ?_ ?_
  · refine j_iconst (v := (0 : Int32)) F dX7_isFree_21 (by decide) ?_
    exact j_iret F D E rfl dX7_isFree_22
  · refine j_aload_n F dX7_isFree_8 rfl 0 rfl ?_
    refine j_iload_n F dX7_isFree_9 rfl 1 rfl ?_
    refine j_iload_n F dX7_isFree_10 rfl 2 rfl ?_
    refine j_callVi (As := [.int a0, .int a1]) F D hX (mX7_hitBy l G a0 a1) ce_54 rfl kX7_hitBy rfl gX7_isFree_X7_hitBy ⟨rfl, rfl⟩ ⟨Nat.le_of_ble_eq_true rfl, Nat.le_of_ble_eq_true rfl⟩ rfl (Nat.le_of_ble_eq_true rfl) rfl dX7_isFree_11 (fun w2 => ?_)
    refine j_if_ne (tgt := 21) F dX7_isFree_14 (by decide) ?_ ?_
    · refine j_iconst (v := (0 : Int32)) F dX7_isFree_21 (by decide) ?_
      exact j_iret F D E rfl dX7_isFree_22
    · refine j_iconst (v := (1 : Int32)) F dX7_isFree_17 (by decide) ?_
      refine j_goto (tgt := 22) F dX7_isFree_18 (by decide) ?_
      exact j_iret F D E rfl dX7_isFree_22

/-! FlangeFolderModel.mayBend -/
def fX7_mayBend (a0 : Int32) (a1 : Int32) (a2 : Int32) (M : Mm) : Option (Int32 × Mm) := (fX7_within a0 (1 : Int32) (20 : Int32) M).bind (fun w1 => (if w1.1 = (0 : Int32) then some ((0 : Int32), w1.2) else jn (fun (_u : Unit) => (fX7_within a2 (0 : Int32) (2 : Int32) w1.2).bind (fun w3 => (if w3.1 = (0 : Int32) then some ((0 : Int32), w3.2) else some ((1 : Int32), w3.2)))) (fun K2 => (if a1 = (1 : Int32) then K2 () else (if a1 = (-1 : Int32) then K2 () else some ((0 : Int32), w1.2))))))
def rmX7_mayBend : Room := { frames := 1, cells := 0, slots := 0, locals := 22 }
theorem kX7_mayBend : Kc yX7_mayBend cX7_mayBend 4 (some .boolean) wsX7_mayBend 3 := ⟨⟨_, rfl⟩, by decide +kernel, by decide +kernel, by decide +kernel⟩
set_option maxHeartbeats 4000000 in
set_option maxRecDepth 100000 in
theorem mX7_mayBend (l : Launch) (G : Gg) (a0 : Int32) (a1 : Int32) (a2 : Int32) : Ci l G SM yX7_mayBend wsX7_mayBend rmX7_mayBend [.ref (G.2.1 54), .int a0, .int a1, .int a2] (fX7_mayBend a0 a1 a2) := by
  refine Ci.intro (lv := [(0, .ref (G.2.1 54)), (1, .int a0), (2, .int a1), (3, .int a2)]) RX7 rfl (by decide) kX7_mayBend (Nat.le_of_ble_eq_true rfl) rfl (fun X V M z F D hX hml E => ?_)
  unfold fX7_mayBend
  refine j_iload_n F dX7_mayBend_0 rfl 1 rfl ?_
  refine j_iconst (v := (1 : Int32)) F dX7_mayBend_1 (by decide) ?_
  refine j_bipush (v := (20 : Int32)) F dX7_mayBend_2 (by decide) ?_
  refine j_callSi (As := [.int a0, .int (1 : Int32), .int (20 : Int32)]) F D hX (mX7_within l G a0 (1 : Int32) (20 : Int32)) kX7_within gX7_mayBend_X7_within ⟨rfl, rfl⟩ ⟨Nat.le_of_ble_eq_true rfl, Nat.le_of_ble_eq_true rfl⟩ rfl (Nat.le_of_ble_eq_true rfl) rfl dX7_mayBend_4 (fun w1 => ?_)
  refine j_if_eq (tgt := 33) F dX7_mayBend_7 (by decide) ?_ ?_
  · refine j_iconst (v := (0 : Int32)) F dX7_mayBend_33 (by decide) ?_
    exact j_iret F D E rfl dX7_mayBend_34
  · refine j_iload_n F dX7_mayBend_10 rfl 2 rfl ?_
    refine j_iconst (v := (1 : Int32)) F dX7_mayBend_11 (by decide) ?_
    refine j_jn (P := fun (K2 : Unit → Option (Int32 × Mm)) => ∀ (_u : Unit), Jg X V z (K2 _u) w1.2 20 [(3, .int a2)] []) ?_ (fun K2 hK2 => ?_)
    · intro _u
      refine j_iload_n F dX7_mayBend_20 rfl 0 rfl ?_
      refine j_iconst (v := (0 : Int32)) F dX7_mayBend_21 (by decide) ?_
      refine j_iconst (v := (2 : Int32)) F dX7_mayBend_22 (by decide) ?_
      refine j_callSi (As := [.int a2, .int (0 : Int32), .int (2 : Int32)]) F D hX (mX7_within l G a2 (0 : Int32) (2 : Int32)) kX7_within gX7_mayBend_X7_within ⟨rfl, rfl⟩ ⟨Nat.le_of_ble_eq_true rfl, Nat.le_of_ble_eq_true rfl⟩ rfl (Nat.le_of_ble_eq_true rfl) rfl dX7_mayBend_23 (fun w3 => ?_)
      refine j_if_eq (tgt := 33) F dX7_mayBend_26 (by decide) ?_ ?_
      · refine j_iconst (v := (0 : Int32)) F dX7_mayBend_33 (by decide) ?_
        exact j_iret F D E rfl dX7_mayBend_34
      · refine j_iconst (v := (1 : Int32)) F dX7_mayBend_29 (by decide) ?_
        refine j_goto (tgt := 34) F dX7_mayBend_30 (by decide) ?_
        exact j_iret F D E rfl dX7_mayBend_34
    · refine j_icmp_eq (tgt := 20) F dX7_mayBend_12 (by decide) ?_ ?_
      · exact j_sub [3] rfl (hK2 ())
      · refine j_iload_n F dX7_mayBend_15 rfl 2 rfl ?_
        refine j_iconst (v := (-1 : Int32)) F dX7_mayBend_16 (by decide) ?_
        refine j_icmp_ne (tgt := 33) F dX7_mayBend_17 (by decide) ?_ ?_
        · refine j_iconst (v := (0 : Int32)) F dX7_mayBend_33 (by decide) ?_
          exact j_iret F D E rfl dX7_mayBend_34
        · exact j_sub [3] rfl (hK2 ())

/-! FlangeFolderModel.mayPress -/
def fX7_mayPress (a0 : Int32) (a1 : Int32) (M : Mm) : Option (Int32 × Mm) := (fX7_within a0 (0 : Int32) (20 : Int32) M).bind (fun w1 => (if w1.1 = (0 : Int32) then some ((0 : Int32), w1.2) else (fX7_within a1 (0 : Int32) (40 : Int32) w1.2).bind (fun w2 => (if w2.1 = (0 : Int32) then some ((0 : Int32), w2.2) else some ((1 : Int32), w2.2)))))
def rmX7_mayPress : Room := { frames := 1, cells := 0, slots := 0, locals := 22 }
theorem kX7_mayPress : Kc yX7_mayPress cX7_mayPress 3 (some .boolean) wsX7_mayPress 2 := ⟨⟨_, rfl⟩, by decide +kernel, by decide +kernel, by decide +kernel⟩
set_option maxHeartbeats 4000000 in
set_option maxRecDepth 100000 in
theorem mX7_mayPress (l : Launch) (G : Gg) (a0 : Int32) (a1 : Int32) : Ci l G SM yX7_mayPress wsX7_mayPress rmX7_mayPress [.ref (G.2.1 54), .int a0, .int a1] (fX7_mayPress a0 a1) := by
  refine Ci.intro (lv := [(0, .ref (G.2.1 54)), (1, .int a0), (2, .int a1)]) RX7 rfl (by decide) kX7_mayPress (Nat.le_of_ble_eq_true rfl) rfl (fun X V M z F D hX hml E => ?_)
  unfold fX7_mayPress
  refine j_iload_n F dX7_mayPress_0 rfl 1 rfl ?_
  refine j_iconst (v := (0 : Int32)) F dX7_mayPress_1 (by decide) ?_
  refine j_bipush (v := (20 : Int32)) F dX7_mayPress_2 (by decide) ?_
  refine j_callSi (As := [.int a0, .int (0 : Int32), .int (20 : Int32)]) F D hX (mX7_within l G a0 (0 : Int32) (20 : Int32)) kX7_within gX7_mayPress_X7_within ⟨rfl, rfl⟩ ⟨Nat.le_of_ble_eq_true rfl, Nat.le_of_ble_eq_true rfl⟩ rfl (Nat.le_of_ble_eq_true rfl) rfl dX7_mayPress_4 (fun w1 => ?_)
  refine j_if_eq (tgt := 24) F dX7_mayPress_7 (by decide) ?_ ?_
  · refine j_iconst (v := (0 : Int32)) F dX7_mayPress_24 (by decide) ?_
    exact j_iret F D E rfl dX7_mayPress_25
  · refine j_iload_n F dX7_mayPress_10 rfl 2 rfl ?_
    refine j_iconst (v := (0 : Int32)) F dX7_mayPress_11 (by decide) ?_
    refine j_bipush (v := (40 : Int32)) F dX7_mayPress_12 (by decide) ?_
    refine j_callSi (As := [.int a1, .int (0 : Int32), .int (40 : Int32)]) F D hX (mX7_within l G a1 (0 : Int32) (40 : Int32)) kX7_within gX7_mayPress_X7_within ⟨rfl, rfl⟩ ⟨Nat.le_of_ble_eq_true rfl, Nat.le_of_ble_eq_true rfl⟩ rfl (Nat.le_of_ble_eq_true rfl) rfl dX7_mayPress_14 (fun w2 => ?_)
    refine j_if_eq (tgt := 24) F dX7_mayPress_17 (by decide) ?_ ?_
    · refine j_iconst (v := (0 : Int32)) F dX7_mayPress_24 (by decide) ?_
      exact j_iret F D E rfl dX7_mayPress_25
    · refine j_iconst (v := (1 : Int32)) F dX7_mayPress_20 (by decide) ?_
      refine j_goto (tgt := 25) F dX7_mayPress_21 (by decide) ?_
      exact j_iret F D E rfl dX7_mayPress_25

/-! FlangeFolderModel.mayTake -/
def fX7_mayTake (a0 : Int32) (a1 : Int32) (M : Mm) : Option (Int32 × Mm) := (fX7_within a0 (0 : Int32) (2 : Int32) M).bind (fun w1 => (if w1.1 = (0 : Int32) then some ((0 : Int32), w1.2) else (fX7_within a1 (0 : Int32) (99 : Int32) w1.2).bind (fun w2 => (if w2.1 = (0 : Int32) then some ((0 : Int32), w2.2) else some ((1 : Int32), w2.2)))))
def rmX7_mayTake : Room := { frames := 1, cells := 0, slots := 0, locals := 22 }
theorem kX7_mayTake : Kc yX7_mayTake cX7_mayTake 3 (some .boolean) wsX7_mayTake 2 := ⟨⟨_, rfl⟩, by decide +kernel, by decide +kernel, by decide +kernel⟩
set_option maxHeartbeats 4000000 in
set_option maxRecDepth 100000 in
theorem mX7_mayTake (l : Launch) (G : Gg) (a0 : Int32) (a1 : Int32) : Ci l G SM yX7_mayTake wsX7_mayTake rmX7_mayTake [.ref (G.2.1 54), .int a0, .int a1] (fX7_mayTake a0 a1) := by
  refine Ci.intro (lv := [(0, .ref (G.2.1 54)), (1, .int a0), (2, .int a1)]) RX7 rfl (by decide) kX7_mayTake (Nat.le_of_ble_eq_true rfl) rfl (fun X V M z F D hX hml E => ?_)
  unfold fX7_mayTake
  refine j_iload_n F dX7_mayTake_0 rfl 1 rfl ?_
  refine j_iconst (v := (0 : Int32)) F dX7_mayTake_1 (by decide) ?_
  refine j_iconst (v := (2 : Int32)) F dX7_mayTake_2 (by decide) ?_
  refine j_callSi (As := [.int a0, .int (0 : Int32), .int (2 : Int32)]) F D hX (mX7_within l G a0 (0 : Int32) (2 : Int32)) kX7_within gX7_mayTake_X7_within ⟨rfl, rfl⟩ ⟨Nat.le_of_ble_eq_true rfl, Nat.le_of_ble_eq_true rfl⟩ rfl (Nat.le_of_ble_eq_true rfl) rfl dX7_mayTake_3 (fun w1 => ?_)
  refine j_if_eq (tgt := 23) F dX7_mayTake_6 (by decide) ?_ ?_
  · refine j_iconst (v := (0 : Int32)) F dX7_mayTake_23 (by decide) ?_
    exact j_iret F D E rfl dX7_mayTake_24
  · refine j_iload_n F dX7_mayTake_9 rfl 2 rfl ?_
    refine j_iconst (v := (0 : Int32)) F dX7_mayTake_10 (by decide) ?_
    refine j_bipush (v := (99 : Int32)) F dX7_mayTake_11 (by decide) ?_
    refine j_callSi (As := [.int a1, .int (0 : Int32), .int (99 : Int32)]) F D hX (mX7_within l G a1 (0 : Int32) (99 : Int32)) kX7_within gX7_mayTake_X7_within ⟨rfl, rfl⟩ ⟨Nat.le_of_ble_eq_true rfl, Nat.le_of_ble_eq_true rfl⟩ rfl (Nat.le_of_ble_eq_true rfl) rfl dX7_mayTake_13 (fun w2 => ?_)
    refine j_if_eq (tgt := 23) F dX7_mayTake_16 (by decide) ?_ ?_
    · refine j_iconst (v := (0 : Int32)) F dX7_mayTake_23 (by decide) ?_
      exact j_iret F D E rfl dX7_mayTake_24
    · refine j_iconst (v := (1 : Int32)) F dX7_mayTake_19 (by decide) ?_
      refine j_goto (tgt := 24) F dX7_mayTake_20 (by decide) ?_
      exact j_iret F D E rfl dX7_mayTake_24

/-! FlangeFolderModel.strips -/
def fX7_strips (a0 : Int32) (M : Mm) : Option (Int32 × Mm) := (rd M 55 26 (0 : Int32)).bind (fun v1 => lt (v1 + (1 : Int32)) (fun x2 => (wr M 55 26 (0 : Int32) (0 : Int32)).bind (fun N3 => (wr N3 55 26 (20 : Int32) (0 : Int32)).bind (fun N4 => (wr N4 55 26 (1 : Int32) a0).bind (fun N5 => some (x2, N5))))))
def rmX7_strips : Room := { frames := 0, cells := 0, slots := 0, locals := 0 }
theorem kX7_strips : Kc yX7_strips cX7_strips 3 (some .int) wsX7_strips 1 := ⟨⟨_, rfl⟩, by decide +kernel, by decide +kernel, by decide +kernel⟩
theorem ic_X7_strips_X7 : ∀ w ∈ u_ws RX7 TX7 19, w ∈ wsX7_strips := by decide +kernel
theorem fl_X7_strips_7 : Fl wsX7_strips RX7 7 7 0 := ⟨RX7, TX7, 19, rfl, by decide, ic_X7_strips_X7, by decide +kernel⟩
set_option maxHeartbeats 4000000 in
set_option maxRecDepth 100000 in
theorem mX7_strips (l : Launch) (G : Gg) (a0 : Int32) : Ci l G SM yX7_strips wsX7_strips rmX7_strips [.ref (G.2.1 54), .int a0] (fX7_strips a0) := by
  refine Ci.intro (lv := [(0, .ref (G.2.1 54)), (1, .int a0)]) RX7 rfl (by decide) kX7_strips (Nat.le_of_ble_eq_true rfl) rfl (fun X V M z F D hX hml E => ?_)
  unfold fX7_strips
  refine j_aload_n F dX7_strips_0 rfl 0 rfl ?_
  refine j_getr (r := 55) F D ce_54 fl_X7_strips_7 rfl dX7_strips_1 ?_
  refine j_iconst (v := (0 : Int32)) F dX7_strips_4 (by decide) ?_
  refine j_iald F D ce_55 dX7_strips_5 (fun v1 => ?_)
  refine j_iconst (v := (1 : Int32)) F dX7_strips_6 (by decide) ?_
  refine j_iadd F dX7_strips_7 ?_
  refine j_let (f := Value.int) (fun x2 => ?_)
  refine j_istore_n (lv' := [(2, .int x2), (0, .ref (G.2.1 54)), (1, .int a0)]) F dX7_strips_8 rfl (by rw [← hml]; decide) rfl ?_
  refine j_aload_n F dX7_strips_9 rfl 1 rfl ?_
  refine j_getr (r := 55) F D ce_54 fl_X7_strips_7 rfl dX7_strips_10 ?_
  refine j_iconst (v := (0 : Int32)) F dX7_strips_13 (by decide) ?_
  refine j_iconst (v := (0 : Int32)) F dX7_strips_14 (by decide) ?_
  refine j_iast F D ce_55 dX7_strips_15 (fun N3 => ?_)
  refine j_aload_n F dX7_strips_16 rfl 1 rfl ?_
  refine j_getr (r := 55) F D ce_54 fl_X7_strips_7 rfl dX7_strips_17 ?_
  refine j_bipush (v := (20 : Int32)) F dX7_strips_20 (by decide) ?_
  refine j_iconst (v := (0 : Int32)) F dX7_strips_22 (by decide) ?_
  refine j_iast F D ce_55 dX7_strips_23 (fun N4 => ?_)
  refine j_aload_n F dX7_strips_24 rfl 1 rfl ?_
  refine j_getr (r := 55) F D ce_54 fl_X7_strips_7 rfl dX7_strips_25 ?_
  refine j_iconst (v := (1 : Int32)) F dX7_strips_28 (by decide) ?_
  refine j_iload_n F dX7_strips_29 rfl 2 rfl ?_
  refine j_iast F D ce_55 dX7_strips_30 (fun N5 => ?_)
  refine j_iload_n F dX7_strips_31 rfl 0 rfl ?_
  exact j_iret F D E rfl dX7_strips_32

/-! FlangeFolderModel.adds -/
def fX7_adds (a0 : Int32) (a1 : Int32) (a2 : Int32) (M : Mm) : Option (Int32 × Mm) := (rd M 55 26 (0 : Int32)).bind (fun v1 => (wr M 55 26 (((1 : Int32) + v1) + (1 : Int32)) a0).bind (fun N2 => (wr N2 55 26 ((8 : Int32) + v1) a1).bind (fun N3 => (wr N3 55 26 ((14 : Int32) + v1) a2).bind (fun N4 => (rd N4 55 26 (0 : Int32)).bind (fun v5 => (wr N4 55 26 (0 : Int32) (v5 + (1 : Int32))).bind (fun N6 => some (v1, N6)))))))
def rmX7_adds : Room := { frames := 0, cells := 0, slots := 0, locals := 0 }
theorem kX7_adds : Kc yX7_adds cX7_adds 5 (some .int) wsX7_adds 3 := ⟨⟨_, rfl⟩, by decide +kernel, by decide +kernel, by decide +kernel⟩
theorem ic_X7_adds_X7 : ∀ w ∈ u_ws RX7 TX7 19, w ∈ wsX7_adds := by decide +kernel
theorem fl_X7_adds_7 : Fl wsX7_adds RX7 7 7 0 := ⟨RX7, TX7, 19, rfl, by decide, ic_X7_adds_X7, by decide +kernel⟩
set_option maxHeartbeats 4000000 in
set_option maxRecDepth 100000 in
theorem mX7_adds (l : Launch) (G : Gg) (a0 : Int32) (a1 : Int32) (a2 : Int32) : Ci l G SM yX7_adds wsX7_adds rmX7_adds [.ref (G.2.1 54), .int a0, .int a1, .int a2] (fX7_adds a0 a1 a2) := by
  refine Ci.intro (lv := [(0, .ref (G.2.1 54)), (1, .int a0), (2, .int a1), (3, .int a2)]) RX7 rfl (by decide) kX7_adds (Nat.le_of_ble_eq_true rfl) rfl (fun X V M z F D hX hml E => ?_)
  unfold fX7_adds
  refine j_aload_n F dX7_adds_0 rfl 0 rfl ?_
  refine j_getr (r := 55) F D ce_54 fl_X7_adds_7 rfl dX7_adds_1 ?_
  refine j_iconst (v := (0 : Int32)) F dX7_adds_4 (by decide) ?_
  refine j_iald F D ce_55 dX7_adds_5 (fun v1 => ?_)
  refine j_istore (lv' := [(4, .int v1), (0, .ref (G.2.1 54)), (1, .int a0), (2, .int a1), (3, .int a2)]) F dX7_adds_6 (by rw [← hml]; decide) rfl ?_
  refine j_aload_n F dX7_adds_8 rfl 1 rfl ?_
  refine j_getr (r := 55) F D ce_54 fl_X7_adds_7 rfl dX7_adds_9 ?_
  refine j_iconst (v := (1 : Int32)) F dX7_adds_12 (by decide) ?_
  refine j_iload F dX7_adds_13 0 rfl ?_
  refine j_iadd F dX7_adds_15 ?_
  refine j_iconst (v := (1 : Int32)) F dX7_adds_16 (by decide) ?_
  refine j_iadd F dX7_adds_17 ?_
  refine j_iload_n F dX7_adds_18 rfl 2 rfl ?_
  refine j_iast F D ce_55 dX7_adds_19 (fun N2 => ?_)
  refine j_aload_n F dX7_adds_20 rfl 1 rfl ?_
  refine j_getr (r := 55) F D ce_54 fl_X7_adds_7 rfl dX7_adds_21 ?_
  refine j_bipush (v := (8 : Int32)) F dX7_adds_24 (by decide) ?_
  refine j_iload F dX7_adds_26 0 rfl ?_
  refine j_iadd F dX7_adds_28 ?_
  refine j_iload_n F dX7_adds_29 rfl 3 rfl ?_
  refine j_iast F D ce_55 dX7_adds_30 (fun N3 => ?_)
  refine j_aload_n F dX7_adds_31 rfl 1 rfl ?_
  refine j_getr (r := 55) F D ce_54 fl_X7_adds_7 rfl dX7_adds_32 ?_
  refine j_bipush (v := (14 : Int32)) F dX7_adds_35 (by decide) ?_
  refine j_iload F dX7_adds_37 0 rfl ?_
  refine j_iadd F dX7_adds_39 ?_
  refine j_iload_n F dX7_adds_40 rfl 4 rfl ?_
  refine j_iast F D ce_55 dX7_adds_41 (fun N4 => ?_)
  refine j_aload_n F dX7_adds_42 rfl 1 rfl ?_
  refine j_getr (r := 55) F D ce_54 fl_X7_adds_7 rfl dX7_adds_43 ?_
  refine j_iconst (v := (0 : Int32)) F dX7_adds_46 (by decide) ?_
  refine j_dup2 F rfl rfl dX7_adds_47 ?_
  refine j_iald F D ce_55 dX7_adds_48 (fun v5 => ?_)
  refine j_iconst (v := (1 : Int32)) F dX7_adds_49 (by decide) ?_
  refine j_iadd F dX7_adds_50 ?_
  refine j_iast F D ce_55 dX7_adds_51 (fun N6 => ?_)
  refine j_iload F dX7_adds_52 0 rfl ?_
  exact j_iret F D E rfl dX7_adds_54

/-! FlangeFolderModel.presses -/
def fX7_presses (a0 : Int32) (a1 : Int32) (M : Mm) : Option (Int32 × Mm) := (rd M 55 26 (21 : Int32)).bind (fun v1 => (rd M 55 26 (22 : Int32)).bind (fun v2 => lt (((100 : Int32) * v1) + v2) (fun x3 => (wr M 55 26 (21 : Int32) a0).bind (fun N4 => (wr N4 55 26 (22 : Int32) a1).bind (fun N5 => some (x3, N5))))))
def rmX7_presses : Room := { frames := 0, cells := 0, slots := 0, locals := 0 }
theorem kX7_presses : Kc yX7_presses cX7_presses 4 (some .int) wsX7_presses 2 := ⟨⟨_, rfl⟩, by decide +kernel, by decide +kernel, by decide +kernel⟩
theorem ic_X7_presses_X7 : ∀ w ∈ u_ws RX7 TX7 19, w ∈ wsX7_presses := by decide +kernel
theorem fl_X7_presses_7 : Fl wsX7_presses RX7 7 7 0 := ⟨RX7, TX7, 19, rfl, by decide, ic_X7_presses_X7, by decide +kernel⟩
set_option maxHeartbeats 4000000 in
set_option maxRecDepth 100000 in
theorem mX7_presses (l : Launch) (G : Gg) (a0 : Int32) (a1 : Int32) : Ci l G SM yX7_presses wsX7_presses rmX7_presses [.ref (G.2.1 54), .int a0, .int a1] (fX7_presses a0 a1) := by
  refine Ci.intro (lv := [(0, .ref (G.2.1 54)), (1, .int a0), (2, .int a1)]) RX7 rfl (by decide) kX7_presses (Nat.le_of_ble_eq_true rfl) rfl (fun X V M z F D hX hml E => ?_)
  unfold fX7_presses
  refine j_bipush (v := (100 : Int32)) F dX7_presses_0 (by decide) ?_
  refine j_aload_n F dX7_presses_2 rfl 0 rfl ?_
  refine j_getr (r := 55) F D ce_54 fl_X7_presses_7 rfl dX7_presses_3 ?_
  refine j_bipush (v := (21 : Int32)) F dX7_presses_6 (by decide) ?_
  refine j_iald F D ce_55 dX7_presses_8 (fun v1 => ?_)
  refine j_imul F dX7_presses_9 ?_
  refine j_aload_n F dX7_presses_10 rfl 0 rfl ?_
  refine j_getr (r := 55) F D ce_54 fl_X7_presses_7 rfl dX7_presses_11 ?_
  refine j_bipush (v := (22 : Int32)) F dX7_presses_14 (by decide) ?_
  refine j_iald F D ce_55 dX7_presses_16 (fun v2 => ?_)
  refine j_iadd F dX7_presses_17 ?_
  refine j_let (f := Value.int) (fun x3 => ?_)
  refine j_istore_n (lv' := [(3, .int x3), (0, .ref (G.2.1 54)), (1, .int a0), (2, .int a1)]) F dX7_presses_18 rfl (by rw [← hml]; decide) rfl ?_
  refine j_aload_n F dX7_presses_19 rfl 1 rfl ?_
  refine j_getr (r := 55) F D ce_54 fl_X7_presses_7 rfl dX7_presses_20 ?_
  refine j_bipush (v := (21 : Int32)) F dX7_presses_23 (by decide) ?_
  refine j_iload_n F dX7_presses_25 rfl 2 rfl ?_
  refine j_iast F D ce_55 dX7_presses_26 (fun N4 => ?_)
  refine j_aload_n F dX7_presses_27 rfl 1 rfl ?_
  refine j_getr (r := 55) F D ce_54 fl_X7_presses_7 rfl dX7_presses_28 ?_
  refine j_bipush (v := (22 : Int32)) F dX7_presses_31 (by decide) ?_
  refine j_iload_n F dX7_presses_33 rfl 3 rfl ?_
  refine j_iast F D ce_55 dX7_presses_34 (fun N5 => ?_)
  refine j_iload_n F dX7_presses_35 rfl 0 rfl ?_
  exact j_iret F D E rfl dX7_presses_36

/-! FlangeFolderModel.takesNow -/
def fX7_takesNow (a0 : Int32) (a1 : Int32) (M : Mm) : Option (Int32 × Mm) := (rd M 55 26 ((23 : Int32) + a0)).bind (fun v1 => (wr M 55 26 ((23 : Int32) + a0) a1).bind (fun N2 => some (v1, N2)))
def rmX7_takesNow : Room := { frames := 0, cells := 0, slots := 0, locals := 0 }
theorem kX7_takesNow : Kc yX7_takesNow cX7_takesNow 4 (some .int) wsX7_takesNow 2 := ⟨⟨_, rfl⟩, by decide +kernel, by decide +kernel, by decide +kernel⟩
theorem ic_X7_takesNow_X7 : ∀ w ∈ u_ws RX7 TX7 19, w ∈ wsX7_takesNow := by decide +kernel
theorem fl_X7_takesNow_7 : Fl wsX7_takesNow RX7 7 7 0 := ⟨RX7, TX7, 19, rfl, by decide, ic_X7_takesNow_X7, by decide +kernel⟩
set_option maxHeartbeats 4000000 in
set_option maxRecDepth 100000 in
theorem mX7_takesNow (l : Launch) (G : Gg) (a0 : Int32) (a1 : Int32) : Ci l G SM yX7_takesNow wsX7_takesNow rmX7_takesNow [.ref (G.2.1 54), .int a0, .int a1] (fX7_takesNow a0 a1) := by
  refine Ci.intro (lv := [(0, .ref (G.2.1 54)), (1, .int a0), (2, .int a1)]) RX7 rfl (by decide) kX7_takesNow (Nat.le_of_ble_eq_true rfl) rfl (fun X V M z F D hX hml E => ?_)
  unfold fX7_takesNow
  refine j_aload_n F dX7_takesNow_0 rfl 0 rfl ?_
  refine j_getr (r := 55) F D ce_54 fl_X7_takesNow_7 rfl dX7_takesNow_1 ?_
  refine j_bipush (v := (23 : Int32)) F dX7_takesNow_4 (by decide) ?_
  refine j_iload_n F dX7_takesNow_6 rfl 1 rfl ?_
  refine j_iadd F dX7_takesNow_7 ?_
  refine j_iald F D ce_55 dX7_takesNow_8 (fun v1 => ?_)
  refine j_istore_n (lv' := [(3, .int v1), (0, .ref (G.2.1 54)), (1, .int a0), (2, .int a1)]) F dX7_takesNow_9 rfl (by rw [← hml]; decide) rfl ?_
  refine j_aload_n F dX7_takesNow_10 rfl 1 rfl ?_
  refine j_getr (r := 55) F D ce_54 fl_X7_takesNow_7 rfl dX7_takesNow_11 ?_
  refine j_bipush (v := (23 : Int32)) F dX7_takesNow_14 (by decide) ?_
  refine j_iload_n F dX7_takesNow_16 rfl 2 rfl ?_
  refine j_iadd F dX7_takesNow_17 ?_
  refine j_iload_n F dX7_takesNow_18 rfl 3 rfl ?_
  refine j_iast F D ce_55 dX7_takesNow_19 (fun N2 => ?_)
  refine j_iload_n F dX7_takesNow_20 rfl 0 rfl ?_
  exact j_iret F D E rfl dX7_takesNow_21
