/-! FlangeFolder.isRefusal -/
def fX6_isRefusal (a0 : Int32) (M : Mm) : Option (Int32 × Mm) := (if a0 = (-1001 : Int32) then some ((1 : Int32), M) else (if a0 = (-1002 : Int32) then some ((1 : Int32), M) else (if a0 = (-1003 : Int32) then some ((1 : Int32), M) else some ((0 : Int32), M))))
def rmX6_isRefusal : Room := { frames := 0, cells := 0, slots := 0, locals := 0 }
theorem kX6_isRefusal : Kc yX6_isRefusal cX6_isRefusal 1 (some .boolean) wsX6_isRefusal 1 := ⟨⟨_, rfl⟩, by decide +kernel, by decide +kernel, by decide +kernel⟩
set_option maxHeartbeats 4000000 in
set_option maxRecDepth 100000 in
theorem mX6_isRefusal (l : Launch) (G : Gg) (a0 : Int32) : Ci l G SC yX6_isRefusal wsX6_isRefusal rmX6_isRefusal [.int a0] (fX6_isRefusal a0) := by
  refine Ci.intro (lv := [(0, .int a0)]) RX6 rfl (by decide) kX6_isRefusal (Nat.le_of_ble_eq_true rfl) rfl (fun X V M z F D hX hml E => ?_)
  unfold fX6_isRefusal
  refine j_iload_n F dX6_isRefusal_0 rfl 0 rfl ?_
  refine j_sipush (v := (-1001 : Int32)) F dX6_isRefusal_1 (by decide) ?_
  refine j_icmp_eq (tgt := 21) F dX6_isRefusal_4 (by decide) ?_ ?_
  · refine j_iconst (v := (1 : Int32)) F dX6_isRefusal_21 (by decide) ?_
    refine j_goto (tgt := 26) F dX6_isRefusal_22 (by decide) ?_
    exact j_iret F D E rfl dX6_isRefusal_26
  · refine j_iload_n F dX6_isRefusal_7 rfl 0 rfl ?_
    refine j_sipush (v := (-1002 : Int32)) F dX6_isRefusal_8 (by decide) ?_
    refine j_icmp_eq (tgt := 21) F dX6_isRefusal_11 (by decide) ?_ ?_
    · refine j_iconst (v := (1 : Int32)) F dX6_isRefusal_21 (by decide) ?_
      refine j_goto (tgt := 26) F dX6_isRefusal_22 (by decide) ?_
      exact j_iret F D E rfl dX6_isRefusal_26
    · refine j_iload_n F dX6_isRefusal_14 rfl 0 rfl ?_
      refine j_sipush (v := (-1003 : Int32)) F dX6_isRefusal_15 (by decide) ?_
      refine j_icmp_ne (tgt := 25) F dX6_isRefusal_18 (by decide) ?_ ?_
      · refine j_iconst (v := (0 : Int32)) F dX6_isRefusal_25 (by decide) ?_
        exact j_iret F D E rfl dX6_isRefusal_26
      · refine j_iconst (v := (1 : Int32)) F dX6_isRefusal_21 (by decide) ?_
        refine j_goto (tgt := 26) F dX6_isRefusal_22 (by decide) ?_
        exact j_iret F D E rfl dX6_isRefusal_26

/-! FlangeFolder.refused -/
def fX6_refused (a0 : Int32) (M : Mm) : Option (Int32 × Mm) := (if a0 = (-1001 : Int32) then lt (stI M 0 6 ((M.1 0 6) + (1 : Int32))) (fun N3 => some (a0, N3)) else (if a0 = (-1002 : Int32) then lt (stI M 0 7 ((M.1 0 7) + (1 : Int32))) (fun N2 => some (a0, N2)) else lt (stI M 0 8 ((M.1 0 8) + (1 : Int32))) (fun N1 => some (a0, N1))))
def rmX6_refused : Room := { frames := 0, cells := 0, slots := 0, locals := 0 }
theorem kX6_refused : Kc yX6_refused cX6_refused 2 (some .int) wsX6_refused 1 := ⟨⟨_, rfl⟩, by decide +kernel, by decide +kernel, by decide +kernel⟩
theorem ic_X6_refused_X6 : ∀ w ∈ u_ws RX6 TX6 9, w ∈ wsX6_refused := by decide +kernel
theorem fl_X6_refused_62 : Fl wsX6_refused RX6 62 6 8 := ⟨RX6, TX6, 9, rfl, by decide, ic_X6_refused_X6, by decide +kernel⟩
theorem fp_X6_refused_62 : Fp wsX6_refused RX6 62 6 8 .int := ⟨RX6, TX6, 9, tyX6, rfl, by decide, ic_X6_refused_X6, by decide +kernel, tyX6_ok, nmX6, rfl, rfl⟩
theorem fl_X6_refused_59 : Fl wsX6_refused RX6 59 6 7 := ⟨RX6, TX6, 9, rfl, by decide, ic_X6_refused_X6, by decide +kernel⟩
theorem fp_X6_refused_59 : Fp wsX6_refused RX6 59 6 7 .int := ⟨RX6, TX6, 9, tyX6, rfl, by decide, ic_X6_refused_X6, by decide +kernel, tyX6_ok, nmX6, rfl, rfl⟩
theorem fl_X6_refused_55 : Fl wsX6_refused RX6 55 6 6 := ⟨RX6, TX6, 9, rfl, by decide, ic_X6_refused_X6, by decide +kernel⟩
theorem fp_X6_refused_55 : Fp wsX6_refused RX6 55 6 6 .int := ⟨RX6, TX6, 9, tyX6, rfl, by decide, ic_X6_refused_X6, by decide +kernel, tyX6_ok, nmX6, rfl, rfl⟩
set_option maxHeartbeats 4000000 in
set_option maxRecDepth 100000 in
theorem mX6_refused (l : Launch) (G : Gg) (a0 : Int32) : Ci l G SC yX6_refused wsX6_refused rmX6_refused [.ref (G.2.1 0), .int a0] (fX6_refused a0) := by
  refine Ci.intro (lv := [(0, .ref (G.2.1 0)), (1, .int a0)]) RX6 rfl (by decide) kX6_refused (Nat.le_of_ble_eq_true rfl) rfl (fun X V M z F D hX hml E => ?_)
  unfold fX6_refused
  refine j_iload_n F dX6_refused_0 rfl 1 rfl ?_
  refine j_sipush (v := (-1001 : Int32)) F dX6_refused_1 (by decide) ?_
  refine j_icmp_ne (tgt := 20) F dX6_refused_4 (by decide) ?_ ?_
  · refine j_iload_n F dX6_refused_20 rfl 1 rfl ?_
    refine j_sipush (v := (-1002 : Int32)) F dX6_refused_21 (by decide) ?_
    refine j_icmp_ne (tgt := 40) F dX6_refused_24 (by decide) ?_ ?_
    · refine j_aload_n F dX6_refused_40 rfl 0 rfl ?_
      refine j_dup F rfl dX6_refused_41 ?_
      refine j_geti F D ce_0 fl_X6_refused_62 rfl dX6_refused_42 ?_
      refine j_iconst (v := (1 : Int32)) F dX6_refused_45 (by decide) ?_
      refine j_iadd F dX6_refused_46 ?_
      refine j_puti F D ce_0 fp_X6_refused_62 rfl rfl rfl dX6_refused_47 ?_
      refine j_letM (fun N1 => ?_)
      refine j_iload_n F dX6_refused_50 rfl 1 rfl ?_
      exact j_iret F D E rfl dX6_refused_51
    · refine j_aload_n F dX6_refused_27 rfl 0 rfl ?_
      refine j_dup F rfl dX6_refused_28 ?_
      refine j_geti F D ce_0 fl_X6_refused_59 rfl dX6_refused_29 ?_
      refine j_iconst (v := (1 : Int32)) F dX6_refused_32 (by decide) ?_
      refine j_iadd F dX6_refused_33 ?_
      refine j_puti F D ce_0 fp_X6_refused_59 rfl rfl rfl dX6_refused_34 ?_
      refine j_letM (fun N2 => ?_)
      refine j_goto (tgt := 50) F dX6_refused_37 (by decide) ?_
      refine j_iload_n F dX6_refused_50 rfl 1 rfl ?_
      exact j_iret F D E rfl dX6_refused_51
  · refine j_aload_n F dX6_refused_7 rfl 0 rfl ?_
    refine j_dup F rfl dX6_refused_8 ?_
    refine j_geti F D ce_0 fl_X6_refused_55 rfl dX6_refused_9 ?_
    refine j_iconst (v := (1 : Int32)) F dX6_refused_12 (by decide) ?_
    refine j_iadd F dX6_refused_13 ?_
    refine j_puti F D ce_0 fp_X6_refused_55 rfl rfl rfl dX6_refused_14 ?_
    refine j_letM (fun N3 => ?_)
    refine j_goto (tgt := 50) F dX6_refused_17 (by decide) ?_
    refine j_iload_n F dX6_refused_50 rfl 1 rfl ?_
    exact j_iret F D E rfl dX6_refused_51

/-! FlangeFolder.settled -/
def fX6_settled (a0 : Int32) (M : Mm) : Option (Int32 × Mm) := (fX6_isRefusal a0 M).bind (fun w1 => (if w1.1 = (0 : Int32) then (fX0_keepStaged w1.2).bind (fun w2 => some (a0, w2.2)) else (fX6_refused a0 w1.2).bind (fun w3 => some (w3.1, w3.2))))
def rmX6_settled : Room := { frames := 2, cells := 0, slots := 0, locals := 34 }
theorem kX6_settled : Kc yX6_settled cX6_settled 2 (some .int) wsX6_settled 1 := ⟨⟨_, rfl⟩, by decide +kernel, by decide +kernel, by decide +kernel⟩
theorem ic_X6_settled_X6 : ∀ w ∈ u_ws RX6 TX6 9, w ∈ wsX6_settled := by decide +kernel
theorem fl_X6_settled_44 : Fl wsX6_settled RX6 44 6 4 := ⟨RX6, TX6, 9, rfl, by decide, ic_X6_settled_X6, by decide +kernel⟩
set_option maxHeartbeats 4000000 in
set_option maxRecDepth 100000 in
theorem mX6_settled (l : Launch) (G : Gg) (a0 : Int32) : Ci l G SC yX6_settled wsX6_settled rmX6_settled [.ref (G.2.1 0), .int a0] (fX6_settled a0) := by
  refine Ci.intro (lv := [(0, .ref (G.2.1 0)), (1, .int a0)]) RX6 rfl (by decide) kX6_settled (Nat.le_of_ble_eq_true rfl) rfl (fun X V M z F D hX hml E => ?_)
  unfold fX6_settled
  refine j_iload_n F dX6_settled_0 rfl 1 rfl ?_
  refine j_callSi (As := [.int a0]) F D hX (mX6_isRefusal l G a0) kX6_isRefusal gX6_settled_X6_isRefusal ⟨rfl, rfl⟩ ⟨Nat.le_of_ble_eq_true rfl, Nat.le_of_ble_eq_true rfl⟩ rfl (Nat.le_of_ble_eq_true rfl) rfl dX6_settled_1 (fun w1 => ?_)
  refine j_if_eq (tgt := 13) F dX6_settled_4 (by decide) ?_ ?_
  · refine j_aload_n F dX6_settled_13 rfl 0 rfl ?_
    refine j_getr (r := 18) F D ce_0 fl_X6_settled_44 rfl dX6_settled_14 ?_
    refine j_callVv (As := []) F D hX (mX0_keepStaged l G) ce_18 rfl kX0_keepStaged rfl gX6_settled_X0_keepStaged ⟨rfl, rfl⟩ ⟨Nat.le_of_ble_eq_true rfl, Nat.le_of_ble_eq_true rfl⟩ rfl (Nat.le_of_ble_eq_true rfl) rfl dX6_settled_17 (fun w2 => ?_)
    refine j_iload_n F dX6_settled_20 rfl 1 rfl ?_
    exact j_iret F D E rfl dX6_settled_21
  · refine j_aload_n F dX6_settled_7 rfl 0 rfl ?_
    refine j_iload_n F dX6_settled_8 rfl 1 rfl ?_
    refine j_callVi (As := [.int a0]) F D hX (mX6_refused l G a0) ce_0 rfl kX6_refused rfl gX6_settled_X6_refused ⟨rfl, rfl⟩ ⟨Nat.le_of_ble_eq_true rfl, Nat.le_of_ble_eq_true rfl⟩ rfl (Nat.le_of_ble_eq_true rfl) rfl dX6_settled_9 (fun w3 => ?_)
    exact j_iret F D E rfl dX6_settled_12

/-! FlangeFolder.strip -/
def fX6_strip (a0 : Int32) (M : Mm) : Option (Int32 × Mm) := (fX0_stage M).bind (fun w1 => (fX5_newStrip a0 w1.2).bind (fun w2 => (fX6_settled w2.1 w2.2).bind (fun w3 => some (w3.1, w3.2))))
def rmX6_strip : Room := { frames := 3, cells := 0, slots := 0, locals := 102 }
theorem kX6_strip : Kc yX6_strip cX6_strip 2 (some .int) wsX6_strip 1 := ⟨⟨_, rfl⟩, by decide +kernel, by decide +kernel, by decide +kernel⟩
theorem ic_X6_strip_X6 : ∀ w ∈ u_ws RX6 TX6 9, w ∈ wsX6_strip := by decide +kernel
theorem fl_X6_strip_44 : Fl wsX6_strip RX6 44 6 4 := ⟨RX6, TX6, 9, rfl, by decide, ic_X6_strip_X6, by decide +kernel⟩
theorem fl_X6_strip_12 : Fl wsX6_strip RX6 12 6 0 := ⟨RX6, TX6, 9, rfl, by decide, ic_X6_strip_X6, by decide +kernel⟩
theorem fl_X6_strip_37 : Fl wsX6_strip RX6 37 6 3 := ⟨RX6, TX6, 9, rfl, by decide, ic_X6_strip_X6, by decide +kernel⟩
set_option maxHeartbeats 4000000 in
set_option maxRecDepth 100000 in
theorem mX6_strip (l : Launch) (G : Gg) (a0 : Int32) : Ci l G SC yX6_strip wsX6_strip rmX6_strip [.ref (G.2.1 0), .int a0] (fX6_strip a0) := by
  refine Ci.intro (lv := [(0, .ref (G.2.1 0)), (1, .int a0)]) RX6 rfl (by decide) kX6_strip (Nat.le_of_ble_eq_true rfl) rfl (fun X V M z F D hX hml E => ?_)
  unfold fX6_strip
  refine j_aload_n F dX6_strip_0 rfl 0 rfl ?_
  refine j_getr (r := 18) F D ce_0 fl_X6_strip_44 rfl dX6_strip_1 ?_
  refine j_aload_n F dX6_strip_4 rfl 0 rfl ?_
  refine j_getr (r := 1) F D ce_0 fl_X6_strip_12 rfl dX6_strip_5 ?_
  refine j_callVv (As := [.ref (G.2.1 1)]) F D hX (mX0_stage l G) ce_18 rfl kX0_stage rfl gX6_strip_X0_stage ⟨rfl, rfl⟩ ⟨Nat.le_of_ble_eq_true rfl, Nat.le_of_ble_eq_true rfl⟩ rfl (Nat.le_of_ble_eq_true rfl) rfl dX6_strip_8 (fun w1 => ?_)
  refine j_aload_n F dX6_strip_11 rfl 0 rfl ?_
  refine j_aload_n F dX6_strip_12 rfl 0 rfl ?_
  refine j_getr (r := 17) F D ce_0 fl_X6_strip_37 rfl dX6_strip_13 ?_
  refine j_iload_n F dX6_strip_16 rfl 1 rfl ?_
  refine j_callVi (As := [.int a0]) F D hX (mX5_newStrip l G a0) ce_17 rfl kX5_newStrip rfl gX6_strip_X5_newStrip ⟨rfl, rfl⟩ ⟨Nat.le_of_ble_eq_true rfl, Nat.le_of_ble_eq_true rfl⟩ rfl (Nat.le_of_ble_eq_true rfl) rfl dX6_strip_17 (fun w2 => ?_)
  refine j_callVi (As := [.int w2.1]) F D hX (mX6_settled l G w2.1) ce_0 rfl kX6_settled rfl gX6_strip_X6_settled ⟨rfl, rfl⟩ ⟨Nat.le_of_ble_eq_true rfl, Nat.le_of_ble_eq_true rfl⟩ rfl (Nat.le_of_ble_eq_true rfl) rfl dX6_strip_20 (fun w3 => ?_)
  exact j_iret F D E rfl dX6_strip_23

/-! FlangeFolder.bend -/
def fX6_bend (a0 : Int32) (a1 : Int32) (a2 : Int32) (M : Mm) : Option (Int32 × Mm) := (fX0_stage M).bind (fun w1 => (fX5_addBend a0 a1 a2 w1.2).bind (fun w2 => (fX6_settled w2.1 w2.2).bind (fun w3 => some (w3.1, w3.2))))
def rmX6_bend : Room := { frames := 3, cells := 0, slots := 0, locals := 102 }
theorem kX6_bend : Kc yX6_bend cX6_bend 4 (some .int) wsX6_bend 3 := ⟨⟨_, rfl⟩, by decide +kernel, by decide +kernel, by decide +kernel⟩
theorem ic_X6_bend_X6 : ∀ w ∈ u_ws RX6 TX6 9, w ∈ wsX6_bend := by decide +kernel
theorem fl_X6_bend_44 : Fl wsX6_bend RX6 44 6 4 := ⟨RX6, TX6, 9, rfl, by decide, ic_X6_bend_X6, by decide +kernel⟩
theorem fl_X6_bend_12 : Fl wsX6_bend RX6 12 6 0 := ⟨RX6, TX6, 9, rfl, by decide, ic_X6_bend_X6, by decide +kernel⟩
theorem fl_X6_bend_37 : Fl wsX6_bend RX6 37 6 3 := ⟨RX6, TX6, 9, rfl, by decide, ic_X6_bend_X6, by decide +kernel⟩
set_option maxHeartbeats 4000000 in
set_option maxRecDepth 100000 in
theorem mX6_bend (l : Launch) (G : Gg) (a0 : Int32) (a1 : Int32) (a2 : Int32) : Ci l G SC yX6_bend wsX6_bend rmX6_bend [.ref (G.2.1 0), .int a0, .int a1, .int a2] (fX6_bend a0 a1 a2) := by
  refine Ci.intro (lv := [(0, .ref (G.2.1 0)), (1, .int a0), (2, .int a1), (3, .int a2)]) RX6 rfl (by decide) kX6_bend (Nat.le_of_ble_eq_true rfl) rfl (fun X V M z F D hX hml E => ?_)
  unfold fX6_bend
  refine j_aload_n F dX6_bend_0 rfl 0 rfl ?_
  refine j_getr (r := 18) F D ce_0 fl_X6_bend_44 rfl dX6_bend_1 ?_
  refine j_aload_n F dX6_bend_4 rfl 0 rfl ?_
  refine j_getr (r := 1) F D ce_0 fl_X6_bend_12 rfl dX6_bend_5 ?_
  refine j_callVv (As := [.ref (G.2.1 1)]) F D hX (mX0_stage l G) ce_18 rfl kX0_stage rfl gX6_bend_X0_stage ⟨rfl, rfl⟩ ⟨Nat.le_of_ble_eq_true rfl, Nat.le_of_ble_eq_true rfl⟩ rfl (Nat.le_of_ble_eq_true rfl) rfl dX6_bend_8 (fun w1 => ?_)
  refine j_aload_n F dX6_bend_11 rfl 0 rfl ?_
  refine j_aload_n F dX6_bend_12 rfl 0 rfl ?_
  refine j_getr (r := 17) F D ce_0 fl_X6_bend_37 rfl dX6_bend_13 ?_
  refine j_iload_n F dX6_bend_16 rfl 1 rfl ?_
  refine j_iload_n F dX6_bend_17 rfl 2 rfl ?_
  refine j_iload_n F dX6_bend_18 rfl 3 rfl ?_
  refine j_callVi (As := [.int a0, .int a1, .int a2]) F D hX (mX5_addBend l G a0 a1 a2) ce_17 rfl kX5_addBend rfl gX6_bend_X5_addBend ⟨rfl, rfl⟩ ⟨Nat.le_of_ble_eq_true rfl, Nat.le_of_ble_eq_true rfl⟩ rfl (Nat.le_of_ble_eq_true rfl) rfl dX6_bend_19 (fun w2 => ?_)
  refine j_callVi (As := [.int w2.1]) F D hX (mX6_settled l G w2.1) ce_0 rfl kX6_settled rfl gX6_bend_X6_settled ⟨rfl, rfl⟩ ⟨Nat.le_of_ble_eq_true rfl, Nat.le_of_ble_eq_true rfl⟩ rfl (Nat.le_of_ble_eq_true rfl) rfl dX6_bend_22 (fun w3 => ?_)
  exact j_iret F D E rfl dX6_bend_25

/-! FlangeFolder.press -/
def fX6_press (a0 : Int32) (a1 : Int32) (M : Mm) : Option (Int32 × Mm) := (fX0_stage M).bind (fun w1 => (fX5_setPress a0 a1 w1.2).bind (fun w2 => (fX6_settled w2.1 w2.2).bind (fun w3 => some (w3.1, w3.2))))
def rmX6_press : Room := { frames := 3, cells := 0, slots := 0, locals := 102 }
theorem kX6_press : Kc yX6_press cX6_press 3 (some .int) wsX6_press 2 := ⟨⟨_, rfl⟩, by decide +kernel, by decide +kernel, by decide +kernel⟩
theorem ic_X6_press_X6 : ∀ w ∈ u_ws RX6 TX6 9, w ∈ wsX6_press := by decide +kernel
theorem fl_X6_press_44 : Fl wsX6_press RX6 44 6 4 := ⟨RX6, TX6, 9, rfl, by decide, ic_X6_press_X6, by decide +kernel⟩
theorem fl_X6_press_12 : Fl wsX6_press RX6 12 6 0 := ⟨RX6, TX6, 9, rfl, by decide, ic_X6_press_X6, by decide +kernel⟩
theorem fl_X6_press_37 : Fl wsX6_press RX6 37 6 3 := ⟨RX6, TX6, 9, rfl, by decide, ic_X6_press_X6, by decide +kernel⟩
set_option maxHeartbeats 4000000 in
set_option maxRecDepth 100000 in
theorem mX6_press (l : Launch) (G : Gg) (a0 : Int32) (a1 : Int32) : Ci l G SC yX6_press wsX6_press rmX6_press [.ref (G.2.1 0), .int a0, .int a1] (fX6_press a0 a1) := by
  refine Ci.intro (lv := [(0, .ref (G.2.1 0)), (1, .int a0), (2, .int a1)]) RX6 rfl (by decide) kX6_press (Nat.le_of_ble_eq_true rfl) rfl (fun X V M z F D hX hml E => ?_)
  unfold fX6_press
  refine j_aload_n F dX6_press_0 rfl 0 rfl ?_
  refine j_getr (r := 18) F D ce_0 fl_X6_press_44 rfl dX6_press_1 ?_
  refine j_aload_n F dX6_press_4 rfl 0 rfl ?_
  refine j_getr (r := 1) F D ce_0 fl_X6_press_12 rfl dX6_press_5 ?_
  refine j_callVv (As := [.ref (G.2.1 1)]) F D hX (mX0_stage l G) ce_18 rfl kX0_stage rfl gX6_press_X0_stage ⟨rfl, rfl⟩ ⟨Nat.le_of_ble_eq_true rfl, Nat.le_of_ble_eq_true rfl⟩ rfl (Nat.le_of_ble_eq_true rfl) rfl dX6_press_8 (fun w1 => ?_)
  refine j_aload_n F dX6_press_11 rfl 0 rfl ?_
  refine j_aload_n F dX6_press_12 rfl 0 rfl ?_
  refine j_getr (r := 17) F D ce_0 fl_X6_press_37 rfl dX6_press_13 ?_
  refine j_iload_n F dX6_press_16 rfl 1 rfl ?_
  refine j_iload_n F dX6_press_17 rfl 2 rfl ?_
  refine j_callVi (As := [.int a0, .int a1]) F D hX (mX5_setPress l G a0 a1) ce_17 rfl kX5_setPress rfl gX6_press_X5_setPress ⟨rfl, rfl⟩ ⟨Nat.le_of_ble_eq_true rfl, Nat.le_of_ble_eq_true rfl⟩ rfl (Nat.le_of_ble_eq_true rfl) rfl dX6_press_18 (fun w2 => ?_)
  refine j_callVi (As := [.int w2.1]) F D hX (mX6_settled l G w2.1) ce_0 rfl kX6_settled rfl gX6_press_X6_settled ⟨rfl, rfl⟩ ⟨Nat.le_of_ble_eq_true rfl, Nat.le_of_ble_eq_true rfl⟩ rfl (Nat.le_of_ble_eq_true rfl) rfl dX6_press_21 (fun w3 => ?_)
  exact j_iret F D E rfl dX6_press_24

/-! FlangeFolder.takes -/
def fX6_takes (a0 : Int32) (a1 : Int32) (M : Mm) : Option (Int32 × Mm) := (fX0_stage M).bind (fun w1 => (fX5_setTaken a0 a1 w1.2).bind (fun w2 => (fX6_settled w2.1 w2.2).bind (fun w3 => some (w3.1, w3.2))))
def rmX6_takes : Room := { frames := 3, cells := 0, slots := 0, locals := 102 }
theorem kX6_takes : Kc yX6_takes cX6_takes 3 (some .int) wsX6_takes 2 := ⟨⟨_, rfl⟩, by decide +kernel, by decide +kernel, by decide +kernel⟩
theorem ic_X6_takes_X6 : ∀ w ∈ u_ws RX6 TX6 9, w ∈ wsX6_takes := by decide +kernel
theorem fl_X6_takes_44 : Fl wsX6_takes RX6 44 6 4 := ⟨RX6, TX6, 9, rfl, by decide, ic_X6_takes_X6, by decide +kernel⟩
theorem fl_X6_takes_12 : Fl wsX6_takes RX6 12 6 0 := ⟨RX6, TX6, 9, rfl, by decide, ic_X6_takes_X6, by decide +kernel⟩
theorem fl_X6_takes_37 : Fl wsX6_takes RX6 37 6 3 := ⟨RX6, TX6, 9, rfl, by decide, ic_X6_takes_X6, by decide +kernel⟩
set_option maxHeartbeats 4000000 in
set_option maxRecDepth 100000 in
theorem mX6_takes (l : Launch) (G : Gg) (a0 : Int32) (a1 : Int32) : Ci l G SC yX6_takes wsX6_takes rmX6_takes [.ref (G.2.1 0), .int a0, .int a1] (fX6_takes a0 a1) := by
  refine Ci.intro (lv := [(0, .ref (G.2.1 0)), (1, .int a0), (2, .int a1)]) RX6 rfl (by decide) kX6_takes (Nat.le_of_ble_eq_true rfl) rfl (fun X V M z F D hX hml E => ?_)
  unfold fX6_takes
  refine j_aload_n F dX6_takes_0 rfl 0 rfl ?_
  refine j_getr (r := 18) F D ce_0 fl_X6_takes_44 rfl dX6_takes_1 ?_
  refine j_aload_n F dX6_takes_4 rfl 0 rfl ?_
  refine j_getr (r := 1) F D ce_0 fl_X6_takes_12 rfl dX6_takes_5 ?_
  refine j_callVv (As := [.ref (G.2.1 1)]) F D hX (mX0_stage l G) ce_18 rfl kX0_stage rfl gX6_takes_X0_stage ⟨rfl, rfl⟩ ⟨Nat.le_of_ble_eq_true rfl, Nat.le_of_ble_eq_true rfl⟩ rfl (Nat.le_of_ble_eq_true rfl) rfl dX6_takes_8 (fun w1 => ?_)
  refine j_aload_n F dX6_takes_11 rfl 0 rfl ?_
  refine j_aload_n F dX6_takes_12 rfl 0 rfl ?_
  refine j_getr (r := 17) F D ce_0 fl_X6_takes_37 rfl dX6_takes_13 ?_
  refine j_iload_n F dX6_takes_16 rfl 1 rfl ?_
  refine j_iload_n F dX6_takes_17 rfl 2 rfl ?_
  refine j_callVi (As := [.int a0, .int a1]) F D hX (mX5_setTaken l G a0 a1) ce_17 rfl kX5_setTaken rfl gX6_takes_X5_setTaken ⟨rfl, rfl⟩ ⟨Nat.le_of_ble_eq_true rfl, Nat.le_of_ble_eq_true rfl⟩ rfl (Nat.le_of_ble_eq_true rfl) rfl dX6_takes_18 (fun w2 => ?_)
  refine j_callVi (As := [.int w2.1]) F D hX (mX6_settled l G w2.1) ce_0 rfl kX6_settled rfl gX6_takes_X6_settled ⟨rfl, rfl⟩ ⟨Nat.le_of_ble_eq_true rfl, Nat.le_of_ble_eq_true rfl⟩ rfl (Nat.le_of_ble_eq_true rfl) rfl dX6_takes_21 (fun w3 => ?_)
  exact j_iret F D E rfl dX6_takes_24

/-! FlangeFolder.makes -/
def fX6_makes (a0 : Int32) (M : Mm) : Option (Int32 × Mm) := (fX0_stage M).bind (fun w1 => (fX5_makeBend a0 w1.2).bind (fun w2 => (fX6_settled w2.1 w2.2).bind (fun w3 => some (w3.1, w3.2))))
def rmX6_makes : Room := { frames := 5, cells := 0, slots := 0, locals := 114 }
theorem kX6_makes : Kc yX6_makes cX6_makes 2 (some .int) wsX6_makes 1 := ⟨⟨_, rfl⟩, by decide +kernel, by decide +kernel, by decide +kernel⟩
theorem ic_X6_makes_X6 : ∀ w ∈ u_ws RX6 TX6 9, w ∈ wsX6_makes := by decide +kernel
theorem fl_X6_makes_44 : Fl wsX6_makes RX6 44 6 4 := ⟨RX6, TX6, 9, rfl, by decide, ic_X6_makes_X6, by decide +kernel⟩
theorem fl_X6_makes_12 : Fl wsX6_makes RX6 12 6 0 := ⟨RX6, TX6, 9, rfl, by decide, ic_X6_makes_X6, by decide +kernel⟩
theorem fl_X6_makes_37 : Fl wsX6_makes RX6 37 6 3 := ⟨RX6, TX6, 9, rfl, by decide, ic_X6_makes_X6, by decide +kernel⟩
set_option maxHeartbeats 4000000 in
set_option maxRecDepth 100000 in
theorem mX6_makes (l : Launch) (G : Gg) (a0 : Int32) : Ci l G SC yX6_makes wsX6_makes rmX6_makes [.ref (G.2.1 0), .int a0] (fX6_makes a0) := by
  refine Ci.intro (lv := [(0, .ref (G.2.1 0)), (1, .int a0)]) RX6 rfl (by decide) kX6_makes (Nat.le_of_ble_eq_true rfl) rfl (fun X V M z F D hX hml E => ?_)
  unfold fX6_makes
  refine j_aload_n F dX6_makes_0 rfl 0 rfl ?_
  refine j_getr (r := 18) F D ce_0 fl_X6_makes_44 rfl dX6_makes_1 ?_
  refine j_aload_n F dX6_makes_4 rfl 0 rfl ?_
  refine j_getr (r := 1) F D ce_0 fl_X6_makes_12 rfl dX6_makes_5 ?_
  refine j_callVv (As := [.ref (G.2.1 1)]) F D hX (mX0_stage l G) ce_18 rfl kX0_stage rfl gX6_makes_X0_stage ⟨rfl, rfl⟩ ⟨Nat.le_of_ble_eq_true rfl, Nat.le_of_ble_eq_true rfl⟩ rfl (Nat.le_of_ble_eq_true rfl) rfl dX6_makes_8 (fun w1 => ?_)
  refine j_aload_n F dX6_makes_11 rfl 0 rfl ?_
  refine j_aload_n F dX6_makes_12 rfl 0 rfl ?_
  refine j_getr (r := 17) F D ce_0 fl_X6_makes_37 rfl dX6_makes_13 ?_
  refine j_iload_n F dX6_makes_16 rfl 1 rfl ?_
  refine j_callVi (As := [.int a0]) F D hX (mX5_makeBend l G a0) ce_17 rfl kX5_makeBend rfl gX6_makes_X5_makeBend ⟨rfl, rfl⟩ ⟨Nat.le_of_ble_eq_true rfl, Nat.le_of_ble_eq_true rfl⟩ rfl (Nat.le_of_ble_eq_true rfl) rfl dX6_makes_17 (fun w2 => ?_)
  refine j_callVi (As := [.int w2.1]) F D hX (mX6_settled l G w2.1) ce_0 rfl kX6_settled rfl gX6_makes_X6_settled ⟨rfl, rfl⟩ ⟨Nat.le_of_ble_eq_true rfl, Nat.le_of_ble_eq_true rfl⟩ rfl (Nat.le_of_ble_eq_true rfl) rfl dX6_makes_20 (fun w3 => ?_)
  exact j_iret F D E rfl dX6_makes_23

/-! FlangeFolder.unmakes -/
def fX6_unmakes (a0 : Int32) (M : Mm) : Option (Int32 × Mm) := (fX0_stage M).bind (fun w1 => (fX5_unmakeBend a0 w1.2).bind (fun w2 => (fX6_settled w2.1 w2.2).bind (fun w3 => some (w3.1, w3.2))))
def rmX6_unmakes : Room := { frames := 3, cells := 0, slots := 0, locals := 102 }
theorem kX6_unmakes : Kc yX6_unmakes cX6_unmakes 2 (some .int) wsX6_unmakes 1 := ⟨⟨_, rfl⟩, by decide +kernel, by decide +kernel, by decide +kernel⟩
theorem ic_X6_unmakes_X6 : ∀ w ∈ u_ws RX6 TX6 9, w ∈ wsX6_unmakes := by decide +kernel
theorem fl_X6_unmakes_44 : Fl wsX6_unmakes RX6 44 6 4 := ⟨RX6, TX6, 9, rfl, by decide, ic_X6_unmakes_X6, by decide +kernel⟩
theorem fl_X6_unmakes_12 : Fl wsX6_unmakes RX6 12 6 0 := ⟨RX6, TX6, 9, rfl, by decide, ic_X6_unmakes_X6, by decide +kernel⟩
theorem fl_X6_unmakes_37 : Fl wsX6_unmakes RX6 37 6 3 := ⟨RX6, TX6, 9, rfl, by decide, ic_X6_unmakes_X6, by decide +kernel⟩
set_option maxHeartbeats 4000000 in
set_option maxRecDepth 100000 in
theorem mX6_unmakes (l : Launch) (G : Gg) (a0 : Int32) : Ci l G SC yX6_unmakes wsX6_unmakes rmX6_unmakes [.ref (G.2.1 0), .int a0] (fX6_unmakes a0) := by
  refine Ci.intro (lv := [(0, .ref (G.2.1 0)), (1, .int a0)]) RX6 rfl (by decide) kX6_unmakes (Nat.le_of_ble_eq_true rfl) rfl (fun X V M z F D hX hml E => ?_)
  unfold fX6_unmakes
  refine j_aload_n F dX6_unmakes_0 rfl 0 rfl ?_
  refine j_getr (r := 18) F D ce_0 fl_X6_unmakes_44 rfl dX6_unmakes_1 ?_
  refine j_aload_n F dX6_unmakes_4 rfl 0 rfl ?_
  refine j_getr (r := 1) F D ce_0 fl_X6_unmakes_12 rfl dX6_unmakes_5 ?_
  refine j_callVv (As := [.ref (G.2.1 1)]) F D hX (mX0_stage l G) ce_18 rfl kX0_stage rfl gX6_unmakes_X0_stage ⟨rfl, rfl⟩ ⟨Nat.le_of_ble_eq_true rfl, Nat.le_of_ble_eq_true rfl⟩ rfl (Nat.le_of_ble_eq_true rfl) rfl dX6_unmakes_8 (fun w1 => ?_)
  refine j_aload_n F dX6_unmakes_11 rfl 0 rfl ?_
  refine j_aload_n F dX6_unmakes_12 rfl 0 rfl ?_
  refine j_getr (r := 17) F D ce_0 fl_X6_unmakes_37 rfl dX6_unmakes_13 ?_
  refine j_iload_n F dX6_unmakes_16 rfl 1 rfl ?_
  refine j_callVi (As := [.int a0]) F D hX (mX5_unmakeBend l G a0) ce_17 rfl kX5_unmakeBend rfl gX6_unmakes_X5_unmakeBend ⟨rfl, rfl⟩ ⟨Nat.le_of_ble_eq_true rfl, Nat.le_of_ble_eq_true rfl⟩ rfl (Nat.le_of_ble_eq_true rfl) rfl dX6_unmakes_17 (fun w2 => ?_)
  refine j_callVi (As := [.int w2.1]) F D hX (mX6_settled l G w2.1) ce_0 rfl kX6_settled rfl gX6_unmakes_X6_settled ⟨rfl, rfl⟩ ⟨Nat.le_of_ble_eq_true rfl, Nat.le_of_ble_eq_true rfl⟩ rfl (Nat.le_of_ble_eq_true rfl) rfl dX6_unmakes_20 (fun w3 => ?_)
  exact j_iret F D E rfl dX6_unmakes_23

/-! FlangeFolder.again -/
def fX6_again (M : Mm) : Option (Int32 × Mm) := (fX0_stage M).bind (fun w1 => (fX5_unmakeAll w1.2).bind (fun w2 => (fX6_settled w2.1 w2.2).bind (fun w3 => some (w3.1, w3.2))))
def rmX6_again : Room := { frames := 3, cells := 0, slots := 0, locals := 102 }
theorem kX6_again : Kc yX6_again cX6_again 1 (some .int) wsX6_again 0 := ⟨⟨_, rfl⟩, by decide +kernel, by decide +kernel, by decide +kernel⟩
theorem ic_X6_again_X6 : ∀ w ∈ u_ws RX6 TX6 9, w ∈ wsX6_again := by decide +kernel
theorem fl_X6_again_44 : Fl wsX6_again RX6 44 6 4 := ⟨RX6, TX6, 9, rfl, by decide, ic_X6_again_X6, by decide +kernel⟩
theorem fl_X6_again_12 : Fl wsX6_again RX6 12 6 0 := ⟨RX6, TX6, 9, rfl, by decide, ic_X6_again_X6, by decide +kernel⟩
theorem fl_X6_again_37 : Fl wsX6_again RX6 37 6 3 := ⟨RX6, TX6, 9, rfl, by decide, ic_X6_again_X6, by decide +kernel⟩
set_option maxHeartbeats 4000000 in
set_option maxRecDepth 100000 in
theorem mX6_again (l : Launch) (G : Gg) : Ci l G SC yX6_again wsX6_again rmX6_again [.ref (G.2.1 0)] fX6_again := by
  refine Ci.intro (lv := [(0, .ref (G.2.1 0))]) RX6 rfl (by decide) kX6_again (Nat.le_of_ble_eq_true rfl) rfl (fun X V M z F D hX hml E => ?_)
  unfold fX6_again
  refine j_aload_n F dX6_again_0 rfl 0 rfl ?_
  refine j_getr (r := 18) F D ce_0 fl_X6_again_44 rfl dX6_again_1 ?_
  refine j_aload_n F dX6_again_4 rfl 0 rfl ?_
  refine j_getr (r := 1) F D ce_0 fl_X6_again_12 rfl dX6_again_5 ?_
  refine j_callVv (As := [.ref (G.2.1 1)]) F D hX (mX0_stage l G) ce_18 rfl kX0_stage rfl gX6_again_X0_stage ⟨rfl, rfl⟩ ⟨Nat.le_of_ble_eq_true rfl, Nat.le_of_ble_eq_true rfl⟩ rfl (Nat.le_of_ble_eq_true rfl) rfl dX6_again_8 (fun w1 => ?_)
  refine j_aload_n F dX6_again_11 rfl 0 rfl ?_
  refine j_aload_n F dX6_again_12 rfl 0 rfl ?_
  refine j_getr (r := 17) F D ce_0 fl_X6_again_37 rfl dX6_again_13 ?_
  refine j_callVi (As := []) F D hX (mX5_unmakeAll l G) ce_17 rfl kX5_unmakeAll rfl gX6_again_X5_unmakeAll ⟨rfl, rfl⟩ ⟨Nat.le_of_ble_eq_true rfl, Nat.le_of_ble_eq_true rfl⟩ rfl (Nat.le_of_ble_eq_true rfl) rfl dX6_again_16 (fun w2 => ?_)
  refine j_callVi (As := [.int w2.1]) F D hX (mX6_settled l G w2.1) ce_0 rfl kX6_settled rfl gX6_again_X6_settled ⟨rfl, rfl⟩ ⟨Nat.le_of_ble_eq_true rfl, Nat.le_of_ble_eq_true rfl⟩ rfl (Nat.le_of_ble_eq_true rfl) rfl dX6_again_19 (fun w3 => ?_)
  exact j_iret F D E rfl dX6_again_22

/-! FlangeFolder.of -/
def fX6_of (a0 : Int32) (a1 : Int32) (M : Mm) : Option (Int32 × Mm) := (fX4_hasBend a0 M).bind (fun w1 => (if w1.1 = (0 : Int32) then (fX6_refused (-1001 : Int32) w1.2).bind (fun w11 => some (w11.1, w11.2)) else (if a1 = (0 : Int32) then (rd w1.2 2 7 (a0 + (1 : Int32))).bind (fun v3 => some (v3, w1.2)) else (if a1 = (1 : Int32) then (rd w1.2 3 6 a0).bind (fun v5 => some (v5, w1.2)) else (if a1 = (2 : Int32) then (rd w1.2 4 6 a0).bind (fun v7 => some (v7, w1.2)) else (if a1 = (3 : Int32) then (fX4_isMade a0 w1.2).bind (fun w9 => (if w9.1 = (0 : Int32) then some ((0 : Int32), w9.2) else some ((1 : Int32), w9.2))) else (fX6_refused (-1001 : Int32) w1.2).bind (fun w10 => some (w10.1, w10.2))))))))
def rmX6_of : Room := { frames := 1, cells := 0, slots := 0, locals := 21 }
theorem kX6_of : Kc yX6_of cX6_of 3 (some .int) wsX6_of 2 := ⟨⟨_, rfl⟩, by decide +kernel, by decide +kernel, by decide +kernel⟩
theorem ic_X6_of_X6 : ∀ w ∈ u_ws RX6 TX6 9, w ∈ wsX6_of := by decide +kernel
theorem fl_X6_of_12 : Fl wsX6_of RX6 12 6 0 := ⟨RX6, TX6, 9, rfl, by decide, ic_X6_of_X6, by decide +kernel⟩
theorem ic_X6_of_X4 : ∀ w ∈ u_ws RX4 TX4 8, w ∈ wsX6_of := by decide +kernel
theorem fl_X6_of_104 : Fl wsX6_of RX6 104 4 0 := ⟨RX4, TX4, 8, rfl, by decide, ic_X6_of_X4, by decide +kernel⟩
theorem fl_X6_of_108 : Fl wsX6_of RX6 108 4 1 := ⟨RX4, TX4, 8, rfl, by decide, ic_X6_of_X4, by decide +kernel⟩
theorem fl_X6_of_111 : Fl wsX6_of RX6 111 4 2 := ⟨RX4, TX4, 8, rfl, by decide, ic_X6_of_X4, by decide +kernel⟩
set_option maxHeartbeats 4000000 in
set_option maxRecDepth 100000 in
theorem mX6_of (l : Launch) (G : Gg) (a0 : Int32) (a1 : Int32) : Ci l G SC yX6_of wsX6_of rmX6_of [.ref (G.2.1 0), .int a0, .int a1] (fX6_of a0 a1) := by
  refine Ci.intro (lv := [(0, .ref (G.2.1 0)), (1, .int a0), (2, .int a1)]) RX6 rfl (by decide) kX6_of (Nat.le_of_ble_eq_true rfl) rfl (fun X V M z F D hX hml E => ?_)
  unfold fX6_of
  refine j_aload_n F dX6_of_0 rfl 0 rfl ?_
  refine j_getr (r := 1) F D ce_0 fl_X6_of_12 rfl dX6_of_1 ?_
  refine j_iload_n F dX6_of_4 rfl 1 rfl ?_
  refine j_callVi (As := [.int a0]) F D hX (mX4_hasBend l G a0) ce_1 rfl kX4_hasBend rfl gX6_of_X4_hasBend ⟨rfl, rfl⟩ ⟨Nat.le_of_ble_eq_true rfl, Nat.le_of_ble_eq_true rfl⟩ rfl (Nat.le_of_ble_eq_true rfl) rfl dX6_of_5 (fun w1 => ?_)
  refine j_if_ne (tgt := 19) F dX6_of_8 (by decide) ?_ ?_
  · refine j_iload_n F dX6_of_19 rfl 2 rfl ?_
    refine j_ite (fun h2 => ?_) (fun h2 => ?_)
    · refine j_tsw F dX6_of_20 (by decide) 52 (by rw [h2]; decide) ?_
      refine j_aload_n F dX6_of_52 rfl 0 rfl ?_
      refine j_getr (r := 1) F D ce_0 fl_X6_of_12 rfl dX6_of_53 ?_
      refine j_getr (r := 2) F D ce_1 fl_X6_of_104 rfl dX6_of_56 ?_
      refine j_iload_n F dX6_of_59 rfl 1 rfl ?_
      refine j_iconst (v := (1 : Int32)) F dX6_of_60 (by decide) ?_
      refine j_iadd F dX6_of_61 ?_
      refine j_iald F D ce_2 dX6_of_62 (fun v3 => ?_)
      exact j_iret F D E rfl dX6_of_63
    · refine j_ite (fun h4 => ?_) (fun h4 => ?_)
      · refine j_tsw F dX6_of_20 (by decide) 64 (by rw [h4]; decide) ?_
        refine j_aload_n F dX6_of_64 rfl 0 rfl ?_
        refine j_getr (r := 1) F D ce_0 fl_X6_of_12 rfl dX6_of_65 ?_
        refine j_getr (r := 3) F D ce_1 fl_X6_of_108 rfl dX6_of_68 ?_
        refine j_iload_n F dX6_of_71 rfl 1 rfl ?_
        refine j_iald F D ce_3 dX6_of_72 (fun v5 => ?_)
        exact j_iret F D E rfl dX6_of_73
      · refine j_ite (fun h6 => ?_) (fun h6 => ?_)
        · refine j_tsw F dX6_of_20 (by decide) 74 (by rw [h6]; decide) ?_
          refine j_aload_n F dX6_of_74 rfl 0 rfl ?_
          refine j_getr (r := 1) F D ce_0 fl_X6_of_12 rfl dX6_of_75 ?_
          refine j_getr (r := 4) F D ce_1 fl_X6_of_111 rfl dX6_of_78 ?_
          refine j_iload_n F dX6_of_81 rfl 1 rfl ?_
          refine j_iald F D ce_4 dX6_of_82 (fun v7 => ?_)
          exact j_iret F D E rfl dX6_of_83
        · refine j_ite (fun h8 => ?_) (fun h8 => ?_)
          · refine j_tsw F dX6_of_20 (by decide) 84 (by rw [h8]; decide) ?_
            refine j_aload_n F dX6_of_84 rfl 0 rfl ?_
            refine j_getr (r := 1) F D ce_0 fl_X6_of_12 rfl dX6_of_85 ?_
            refine j_iload_n F dX6_of_88 rfl 1 rfl ?_
            refine j_callVi (As := [.int a0]) F D hX (mX4_isMade l G a0) ce_1 rfl kX4_isMade rfl gX6_of_X4_isMade ⟨rfl, rfl⟩ ⟨Nat.le_of_ble_eq_true rfl, Nat.le_of_ble_eq_true rfl⟩ rfl (Nat.le_of_ble_eq_true rfl) rfl dX6_of_89 (fun w9 => ?_)
            refine j_if_eq (tgt := 99) F dX6_of_92 (by decide) ?_ ?_
            · refine j_iconst (v := (0 : Int32)) F dX6_of_99 (by decide) ?_
              exact j_iret F D E rfl dX6_of_100
            · refine j_iconst (v := (1 : Int32)) F dX6_of_95 (by decide) ?_
              refine j_goto (tgt := 100) F dX6_of_96 (by decide) ?_
              exact j_iret F D E rfl dX6_of_100
          · refine j_tsw F dX6_of_20 (by decide) 101 (tsw_d [0, 1, 2, 3] (by decide) (by decide) (by simp only [List.mem_cons, List.not_mem_nil, or_false, not_or]; exact ⟨toInt_ne (by decide) h2, toInt_ne (by decide) h4, toInt_ne (by decide) h6, toInt_ne (by decide) h8⟩)) ?_
            refine j_aload_n F dX6_of_101 rfl 0 rfl ?_
            refine j_sipush (v := (-1001 : Int32)) F dX6_of_102 (by decide) ?_
            refine j_callVi (As := [.int (-1001 : Int32)]) F D hX (mX6_refused l G (-1001 : Int32)) ce_0 rfl kX6_refused rfl gX6_of_X6_refused ⟨rfl, rfl⟩ ⟨Nat.le_of_ble_eq_true rfl, Nat.le_of_ble_eq_true rfl⟩ rfl (Nat.le_of_ble_eq_true rfl) rfl dX6_of_105 (fun w10 => ?_)
            exact j_iret F D E rfl dX6_of_108
  · refine j_aload_n F dX6_of_11 rfl 0 rfl ?_
    refine j_sipush (v := (-1001 : Int32)) F dX6_of_12 (by decide) ?_
    refine j_callVi (As := [.int (-1001 : Int32)]) F D hX (mX6_refused l G (-1001 : Int32)) ce_0 rfl kX6_refused rfl gX6_of_X6_refused ⟨rfl, rfl⟩ ⟨Nat.le_of_ble_eq_true rfl, Nat.le_of_ble_eq_true rfl⟩ rfl (Nat.le_of_ble_eq_true rfl) rfl dX6_of_15 (fun w11 => ?_)
    exact j_iret F D E rfl dX6_of_18

/-! FlangeFolder.joint -/
def fX6_joint (a0 : Int32) (a1 : Int32) (M : Mm) : Option (Int32 × Mm) := (fX6_isWithin a0 (0 : Int32) ((M.1 1 4) + (1 : Int32)) M).bind (fun w1 => (if w1.1 = (0 : Int32) then (fX6_refused (-1001 : Int32) w1.2).bind (fun w2 => some (w2.1, w2.2)) else (fX6_isWithin a1 (0 : Int32) (1 : Int32) w1.2).bind (fun w3 => (if w3.1 = (0 : Int32) then (fX6_refused (-1001 : Int32) w3.2).bind (fun w7 => some (w7.1, w7.2)) else (fX3_trace (w3.2.1 1 5) w3.2).bind (fun w4 => (if a1 = (0 : Int32) then (rd w4.2 7 8 a0).bind (fun v6 => some (v6, w4.2)) else (rd w4.2 8 8 a0).bind (fun v5 => some (v5, w4.2))))))))
def rmX6_joint : Room := { frames := 1, cells := 0, slots := 0, locals := 24 }
theorem kX6_joint : Kc yX6_joint cX6_joint 3 (some .int) wsX6_joint 2 := ⟨⟨_, rfl⟩, by decide +kernel, by decide +kernel, by decide +kernel⟩
theorem ic_X6_joint_X6 : ∀ w ∈ u_ws RX6 TX6 9, w ∈ wsX6_joint := by decide +kernel
theorem fl_X6_joint_12 : Fl wsX6_joint RX6 12 6 0 := ⟨RX6, TX6, 9, rfl, by decide, ic_X6_joint_X6, by decide +kernel⟩
theorem ic_X6_joint_X4 : ∀ w ∈ u_ws RX4 TX4 8, w ∈ wsX6_joint := by decide +kernel
theorem fl_X6_joint_117 : Fl wsX6_joint RX6 117 4 4 := ⟨RX4, TX4, 8, rfl, by decide, ic_X6_joint_X4, by decide +kernel⟩
theorem fl_X6_joint_19 : Fl wsX6_joint RX6 19 6 1 := ⟨RX6, TX6, 9, rfl, by decide, ic_X6_joint_X6, by decide +kernel⟩
theorem fl_X6_joint_124 : Fl wsX6_joint RX6 124 4 5 := ⟨RX4, TX4, 8, rfl, by decide, ic_X6_joint_X4, by decide +kernel⟩
theorem ic_X6_joint_X3 : ∀ w ∈ u_ws RX3 TX3 4, w ∈ wsX6_joint := by decide +kernel
theorem fl_X6_joint_134 : Fl wsX6_joint RX6 134 3 1 := ⟨RX3, TX3, 4, rfl, by decide, ic_X6_joint_X3, by decide +kernel⟩
theorem fl_X6_joint_131 : Fl wsX6_joint RX6 131 3 0 := ⟨RX3, TX3, 4, rfl, by decide, ic_X6_joint_X3, by decide +kernel⟩
set_option maxHeartbeats 4000000 in
set_option maxRecDepth 100000 in
theorem mX6_joint (l : Launch) (G : Gg) (a0 : Int32) (a1 : Int32) : Ci l G SC yX6_joint wsX6_joint rmX6_joint [.ref (G.2.1 0), .int a0, .int a1] (fX6_joint a0 a1) := by
  refine Ci.intro (lv := [(0, .ref (G.2.1 0)), (1, .int a0), (2, .int a1)]) RX6 rfl (by decide) kX6_joint (Nat.le_of_ble_eq_true rfl) rfl (fun X V M z F D hX hml E => ?_)
  unfold fX6_joint
  refine j_iload_n F dX6_joint_0 rfl 1 rfl ?_
  refine j_iconst (v := (0 : Int32)) F dX6_joint_1 (by decide) ?_
  refine j_aload_n F dX6_joint_2 rfl 0 rfl ?_
  refine j_getr (r := 1) F D ce_0 fl_X6_joint_12 rfl dX6_joint_3 ?_
  refine j_geti F D ce_1 fl_X6_joint_117 rfl dX6_joint_6 ?_
  refine j_iconst (v := (1 : Int32)) F dX6_joint_9 (by decide) ?_
  refine j_iadd F dX6_joint_10 ?_
  refine j_callSi (As := [.int a0, .int (0 : Int32), .int ((M.1 1 4) + (1 : Int32))]) F D hX (mX6_isWithin l G a0 (0 : Int32) ((M.1 1 4) + (1 : Int32))) kX6_isWithin gX6_joint_X6_isWithin ⟨rfl, rfl⟩ ⟨Nat.le_of_ble_eq_true rfl, Nat.le_of_ble_eq_true rfl⟩ rfl (Nat.le_of_ble_eq_true rfl) rfl dX6_joint_11 (fun w1 => ?_)
  refine j_if_eq (tgt := 26) F dX6_joint_14 (by decide) ?_ ?_
  · refine j_aload_n F dX6_joint_26 rfl 0 rfl ?_
    refine j_sipush (v := (-1001 : Int32)) F dX6_joint_27 (by decide) ?_
    refine j_callVi (As := [.int (-1001 : Int32)]) F D hX (mX6_refused l G (-1001 : Int32)) ce_0 rfl kX6_refused rfl gX6_joint_X6_refused ⟨rfl, rfl⟩ ⟨Nat.le_of_ble_eq_true rfl, Nat.le_of_ble_eq_true rfl⟩ rfl (Nat.le_of_ble_eq_true rfl) rfl dX6_joint_30 (fun w2 => ?_)
    exact j_iret F D E rfl dX6_joint_33
  · refine j_iload_n F dX6_joint_17 rfl 2 rfl ?_
    refine j_iconst (v := (0 : Int32)) F dX6_joint_18 (by decide) ?_
    refine j_iconst (v := (1 : Int32)) F dX6_joint_19 (by decide) ?_
    refine j_callSi (As := [.int a1, .int (0 : Int32), .int (1 : Int32)]) F D hX (mX6_isWithin l G a1 (0 : Int32) (1 : Int32)) kX6_isWithin gX6_joint_X6_isWithin ⟨rfl, rfl⟩ ⟨Nat.le_of_ble_eq_true rfl, Nat.le_of_ble_eq_true rfl⟩ rfl (Nat.le_of_ble_eq_true rfl) rfl dX6_joint_20 (fun w3 => ?_)
    refine j_if_ne (tgt := 34) F dX6_joint_23 (by decide) ?_ ?_
    · refine j_aload_n F dX6_joint_34 rfl 0 rfl ?_
      refine j_getr (r := 6) F D ce_0 fl_X6_joint_19 rfl dX6_joint_35 ?_
      refine j_aload_n F dX6_joint_38 rfl 0 rfl ?_
      refine j_getr (r := 1) F D ce_0 fl_X6_joint_12 rfl dX6_joint_39 ?_
      refine j_aload_n F dX6_joint_42 rfl 0 rfl ?_
      refine j_getr (r := 1) F D ce_0 fl_X6_joint_12 rfl dX6_joint_43 ?_
      refine j_geti F D ce_1 fl_X6_joint_124 rfl dX6_joint_46 ?_
      refine j_callVv (As := [.ref (G.2.1 1), .int (w3.2.1 1 5)]) F D hX (mX3_trace l G (w3.2.1 1 5)) ce_6 rfl kX3_trace rfl gX6_joint_X3_trace ⟨rfl, rfl⟩ ⟨Nat.le_of_ble_eq_true rfl, Nat.le_of_ble_eq_true rfl⟩ rfl (Nat.le_of_ble_eq_true rfl) rfl dX6_joint_49 (fun w4 => ?_)
      refine j_iload_n F dX6_joint_52 rfl 2 rfl ?_
      refine j_if_ne (tgt := 68) F dX6_joint_53 (by decide) ?_ ?_
      · refine j_aload_n F dX6_joint_68 rfl 0 rfl ?_
        refine j_getr (r := 6) F D ce_0 fl_X6_joint_19 rfl dX6_joint_69 ?_
        refine j_getr (r := 8) F D ce_6 fl_X6_joint_134 rfl dX6_joint_72 ?_
        refine j_iload_n F dX6_joint_75 rfl 1 rfl ?_
        refine j_iald F D ce_8 dX6_joint_76 (fun v5 => ?_)
        exact j_iret F D E rfl dX6_joint_77
      · refine j_aload_n F dX6_joint_56 rfl 0 rfl ?_
        refine j_getr (r := 6) F D ce_0 fl_X6_joint_19 rfl dX6_joint_57 ?_
        refine j_getr (r := 7) F D ce_6 fl_X6_joint_131 rfl dX6_joint_60 ?_
        refine j_iload_n F dX6_joint_63 rfl 1 rfl ?_
        refine j_iald F D ce_7 dX6_joint_64 (fun v6 => ?_)
        refine j_goto (tgt := 77) F dX6_joint_65 (by decide) ?_
        exact j_iret F D E rfl dX6_joint_77
    · refine j_aload_n F dX6_joint_26 rfl 0 rfl ?_
      refine j_sipush (v := (-1001 : Int32)) F dX6_joint_27 (by decide) ?_
      refine j_callVi (As := [.int (-1001 : Int32)]) F D hX (mX6_refused l G (-1001 : Int32)) ce_0 rfl kX6_refused rfl gX6_joint_X6_refused ⟨rfl, rfl⟩ ⟨Nat.le_of_ble_eq_true rfl, Nat.le_of_ble_eq_true rfl⟩ rfl (Nat.le_of_ble_eq_true rfl) rfl dX6_joint_30 (fun w7 => ?_)
      exact j_iret F D E rfl dX6_joint_33

/-! FlangeFolder.box -/
def fX6_box (a0 : Int32) (M : Mm) : Option (Int32 × Mm) := (fX6_isWithin a0 (0 : Int32) (3 : Int32) M).bind (fun w1 => (if w1.1 = (0 : Int32) then (fX6_refused (-1001 : Int32) w1.2).bind (fun w7 => some (w7.1, w7.2)) else (fX3_trace (w1.2.1 1 5) w1.2).bind (fun w2 => (if (irm a0 (2 : Int32)) = (0 : Int32) then (if (2 : Int32) ≤ a0 then (fX3_greatest 7 w2.2).bind (fun w5 => some (w5.1, w5.2)) else (fX3_least 7 w2.2).bind (fun w6 => some (w6.1, w6.2))) else (if (2 : Int32) ≤ a0 then (fX3_greatest 8 w2.2).bind (fun w3 => some (w3.1, w3.2)) else (fX3_least 8 w2.2).bind (fun w4 => some (w4.1, w4.2)))))))
def rmX6_box : Room := { frames := 2, cells := 0, slots := 0, locals := 36 }
theorem kX6_box : Kc yX6_box cX6_box 3 (some .int) wsX6_box 1 := ⟨⟨_, rfl⟩, by decide +kernel, by decide +kernel, by decide +kernel⟩
theorem ic_X6_box_X6 : ∀ w ∈ u_ws RX6 TX6 9, w ∈ wsX6_box := by decide +kernel
theorem fl_X6_box_19 : Fl wsX6_box RX6 19 6 1 := ⟨RX6, TX6, 9, rfl, by decide, ic_X6_box_X6, by decide +kernel⟩
theorem fl_X6_box_12 : Fl wsX6_box RX6 12 6 0 := ⟨RX6, TX6, 9, rfl, by decide, ic_X6_box_X6, by decide +kernel⟩
theorem ic_X6_box_X4 : ∀ w ∈ u_ws RX4 TX4 8, w ∈ wsX6_box := by decide +kernel
theorem fl_X6_box_124 : Fl wsX6_box RX6 124 4 5 := ⟨RX4, TX4, 8, rfl, by decide, ic_X6_box_X4, by decide +kernel⟩
theorem ic_X6_box_X3 : ∀ w ∈ u_ws RX3 TX3 4, w ∈ wsX6_box := by decide +kernel
theorem fl_X6_box_134 : Fl wsX6_box RX6 134 3 1 := ⟨RX3, TX3, 4, rfl, by decide, ic_X6_box_X3, by decide +kernel⟩
theorem fl_X6_box_131 : Fl wsX6_box RX6 131 3 0 := ⟨RX3, TX3, 4, rfl, by decide, ic_X6_box_X3, by decide +kernel⟩
set_option maxHeartbeats 4000000 in
set_option maxRecDepth 100000 in
theorem mX6_box (l : Launch) (G : Gg) (a0 : Int32) : Ci l G SC yX6_box wsX6_box rmX6_box [.ref (G.2.1 0), .int a0] (fX6_box a0) := by
  refine Ci.intro (lv := [(0, .ref (G.2.1 0)), (1, .int a0)]) RX6 rfl (by decide) kX6_box (Nat.le_of_ble_eq_true rfl) rfl (fun X V M z F D hX hml E => ?_)
  unfold fX6_box
  refine j_iload_n F dX6_box_0 rfl 1 rfl ?_
  refine j_iconst (v := (0 : Int32)) F dX6_box_1 (by decide) ?_
  refine j_iconst (v := (3 : Int32)) F dX6_box_2 (by decide) ?_
  refine j_callSi (As := [.int a0, .int (0 : Int32), .int (3 : Int32)]) F D hX (mX6_isWithin l G a0 (0 : Int32) (3 : Int32)) kX6_isWithin gX6_box_X6_isWithin ⟨rfl, rfl⟩ ⟨Nat.le_of_ble_eq_true rfl, Nat.le_of_ble_eq_true rfl⟩ rfl (Nat.le_of_ble_eq_true rfl) rfl dX6_box_3 (fun w1 => ?_)
  refine j_if_ne (tgt := 17) F dX6_box_6 (by decide) ?_ ?_
  · refine j_aload_n F dX6_box_17 rfl 0 rfl ?_
    refine j_getr (r := 6) F D ce_0 fl_X6_box_19 rfl dX6_box_18 ?_
    refine j_aload_n F dX6_box_21 rfl 0 rfl ?_
    refine j_getr (r := 1) F D ce_0 fl_X6_box_12 rfl dX6_box_22 ?_
    refine j_aload_n F dX6_box_25 rfl 0 rfl ?_
    refine j_getr (r := 1) F D ce_0 fl_X6_box_12 rfl dX6_box_26 ?_
    refine j_geti F D ce_1 fl_X6_box_124 rfl dX6_box_29 ?_
    refine j_callVv (As := [.ref (G.2.1 1), .int (w1.2.1 1 5)]) F D hX (mX3_trace l G (w1.2.1 1 5)) ce_6 rfl kX3_trace rfl gX6_box_X3_trace ⟨rfl, rfl⟩ ⟨Nat.le_of_ble_eq_true rfl, Nat.le_of_ble_eq_true rfl⟩ rfl (Nat.le_of_ble_eq_true rfl) rfl dX6_box_32 (fun w2 => ?_)
    refine j_iload_n F dX6_box_35 rfl 1 rfl ?_
    refine j_iconst (v := (2 : Int32)) F dX6_box_36 (by decide) ?_
    refine j_irm F (by decide) dX6_box_37 ?_
    refine j_if_ne (tgt := 51) F dX6_box_38 (by decide) ?_ ?_
    · refine j_aload_n F dX6_box_51 rfl 0 rfl ?_
      refine j_getr (r := 6) F D ce_0 fl_X6_box_19 rfl dX6_box_52 ?_
      refine j_getr (r := 8) F D ce_6 fl_X6_box_134 rfl dX6_box_55 ?_
      refine j_astore_n (lv' := [(2, .ref (G.2.1 8)), (0, .ref (G.2.1 0)), (1, .int a0)]) F dX6_box_58 rfl (by rw [← hml]; decide) rfl ?_
      refine j_iload_n F dX6_box_59 rfl 2 rfl ?_
      refine j_iconst (v := (2 : Int32)) F dX6_box_60 (by decide) ?_
      refine j_icmp_ge (tgt := 75) F dX6_box_61 (by decide) ?_ ?_
      · refine j_aload_n F dX6_box_75 rfl 1 rfl ?_
        refine j_getr (r := 6) F D ce_0 fl_X6_box_19 rfl dX6_box_76 ?_
        refine j_aload_n F dX6_box_79 rfl 0 rfl ?_
        refine j_callVi (As := [.ref (G.2.1 8)]) F D hX (mX3_greatest l G 8 ce_8) ce_6 rfl kX3_greatest rfl gX6_box_X3_greatest ⟨rfl, rfl⟩ ⟨Nat.le_of_ble_eq_true rfl, Nat.le_of_ble_eq_true rfl⟩ rfl (Nat.le_of_ble_eq_true rfl) rfl dX6_box_80 (fun w3 => ?_)
        exact j_iret F D E rfl dX6_box_83
      · refine j_aload_n F dX6_box_64 rfl 1 rfl ?_
        refine j_getr (r := 6) F D ce_0 fl_X6_box_19 rfl dX6_box_65 ?_
        refine j_aload_n F dX6_box_68 rfl 0 rfl ?_
        refine j_callVi (As := [.ref (G.2.1 8)]) F D hX (mX3_least l G 8 ce_8) ce_6 rfl kX3_least rfl gX6_box_X3_least ⟨rfl, rfl⟩ ⟨Nat.le_of_ble_eq_true rfl, Nat.le_of_ble_eq_true rfl⟩ rfl (Nat.le_of_ble_eq_true rfl) rfl dX6_box_69 (fun w4 => ?_)
        refine j_goto (tgt := 83) F dX6_box_72 (by decide) ?_
        exact j_iret F D E rfl dX6_box_83
    · refine j_aload_n F dX6_box_41 rfl 0 rfl ?_
      refine j_getr (r := 6) F D ce_0 fl_X6_box_19 rfl dX6_box_42 ?_
      refine j_getr (r := 7) F D ce_6 fl_X6_box_131 rfl dX6_box_45 ?_
      refine j_goto (tgt := 58) F dX6_box_48 (by decide) ?_
      refine j_astore_n (lv' := [(2, .ref (G.2.1 7)), (0, .ref (G.2.1 0)), (1, .int a0)]) F dX6_box_58 rfl (by rw [← hml]; decide) rfl ?_
      refine j_iload_n F dX6_box_59 rfl 2 rfl ?_
      refine j_iconst (v := (2 : Int32)) F dX6_box_60 (by decide) ?_
      refine j_icmp_ge (tgt := 75) F dX6_box_61 (by decide) ?_ ?_
      · refine j_aload_n F dX6_box_75 rfl 1 rfl ?_
        refine j_getr (r := 6) F D ce_0 fl_X6_box_19 rfl dX6_box_76 ?_
        refine j_aload_n F dX6_box_79 rfl 0 rfl ?_
        refine j_callVi (As := [.ref (G.2.1 7)]) F D hX (mX3_greatest l G 7 ce_7) ce_6 rfl kX3_greatest rfl gX6_box_X3_greatest ⟨rfl, rfl⟩ ⟨Nat.le_of_ble_eq_true rfl, Nat.le_of_ble_eq_true rfl⟩ rfl (Nat.le_of_ble_eq_true rfl) rfl dX6_box_80 (fun w5 => ?_)
        exact j_iret F D E rfl dX6_box_83
      · refine j_aload_n F dX6_box_64 rfl 1 rfl ?_
        refine j_getr (r := 6) F D ce_0 fl_X6_box_19 rfl dX6_box_65 ?_
        refine j_aload_n F dX6_box_68 rfl 0 rfl ?_
        refine j_callVi (As := [.ref (G.2.1 7)]) F D hX (mX3_least l G 7 ce_7) ce_6 rfl kX3_least rfl gX6_box_X3_least ⟨rfl, rfl⟩ ⟨Nat.le_of_ble_eq_true rfl, Nat.le_of_ble_eq_true rfl⟩ rfl (Nat.le_of_ble_eq_true rfl) rfl dX6_box_69 (fun w6 => ?_)
        refine j_goto (tgt := 83) F dX6_box_72 (by decide) ?_
        exact j_iret F D E rfl dX6_box_83
  · refine j_aload_n F dX6_box_9 rfl 0 rfl ?_
    refine j_sipush (v := (-1001 : Int32)) F dX6_box_10 (by decide) ?_
    refine j_callVi (As := [.int (-1001 : Int32)]) F D hX (mX6_refused l G (-1001 : Int32)) ce_0 rfl kX6_refused rfl gX6_box_X6_refused ⟨rfl, rfl⟩ ⟨Nat.le_of_ble_eq_true rfl, Nat.le_of_ble_eq_true rfl⟩ rfl (Nat.le_of_ble_eq_true rfl) rfl dX6_box_13 (fun w7 => ?_)
    exact j_iret F D E rfl dX6_box_16

/-! FlangeFolder.hits -/
def fX6_hits (a0 : Int32) (M : Mm) : Option (Int32 × Mm) := (fX4_hasBend a0 M).bind (fun w1 => (if w1.1 = (0 : Int32) then (fX6_refused (-1001 : Int32) w1.2).bind (fun w5 => some (w5.1, w5.2)) else (fX4_isMade a0 w1.2).bind (fun w2 => (if w2.1 = (0 : Int32) then (fX1_hitOf (w2.2.1 1 5) a0 w2.2).bind (fun w3 => some (w3.1, w3.2)) else (fX6_refused (-1002 : Int32) w2.2).bind (fun w4 => some (w4.1, w4.2))))))
def rmX6_hits : Room := { frames := 4, cells := 0, slots := 0, locals := 93 }
theorem kX6_hits : Kc yX6_hits cX6_hits 2 (some .int) wsX6_hits 1 := ⟨⟨_, rfl⟩, by decide +kernel, by decide +kernel, by decide +kernel⟩
theorem ic_X6_hits_X6 : ∀ w ∈ u_ws RX6 TX6 9, w ∈ wsX6_hits := by decide +kernel
theorem fl_X6_hits_12 : Fl wsX6_hits RX6 12 6 0 := ⟨RX6, TX6, 9, rfl, by decide, ic_X6_hits_X6, by decide +kernel⟩
theorem fl_X6_hits_28 : Fl wsX6_hits RX6 28 6 2 := ⟨RX6, TX6, 9, rfl, by decide, ic_X6_hits_X6, by decide +kernel⟩
theorem ic_X6_hits_X4 : ∀ w ∈ u_ws RX4 TX4 8, w ∈ wsX6_hits := by decide +kernel
theorem fl_X6_hits_124 : Fl wsX6_hits RX6 124 4 5 := ⟨RX4, TX4, 8, rfl, by decide, ic_X6_hits_X4, by decide +kernel⟩
set_option maxHeartbeats 4000000 in
set_option maxRecDepth 100000 in
theorem mX6_hits (l : Launch) (G : Gg) (a0 : Int32) : Ci l G SC yX6_hits wsX6_hits rmX6_hits [.ref (G.2.1 0), .int a0] (fX6_hits a0) := by
  refine Ci.intro (lv := [(0, .ref (G.2.1 0)), (1, .int a0)]) RX6 rfl (by decide) kX6_hits (Nat.le_of_ble_eq_true rfl) rfl (fun X V M z F D hX hml E => ?_)
  unfold fX6_hits
  refine j_aload_n F dX6_hits_0 rfl 0 rfl ?_
  refine j_getr (r := 1) F D ce_0 fl_X6_hits_12 rfl dX6_hits_1 ?_
  refine j_iload_n F dX6_hits_4 rfl 1 rfl ?_
  refine j_callVi (As := [.int a0]) F D hX (mX4_hasBend l G a0) ce_1 rfl kX4_hasBend rfl gX6_hits_X4_hasBend ⟨rfl, rfl⟩ ⟨Nat.le_of_ble_eq_true rfl, Nat.le_of_ble_eq_true rfl⟩ rfl (Nat.le_of_ble_eq_true rfl) rfl dX6_hits_5 (fun w1 => ?_)
  refine j_if_ne (tgt := 19) F dX6_hits_8 (by decide) ?_ ?_
  · refine j_aload_n F dX6_hits_19 rfl 0 rfl ?_
    refine j_getr (r := 1) F D ce_0 fl_X6_hits_12 rfl dX6_hits_20 ?_
    refine j_iload_n F dX6_hits_23 rfl 1 rfl ?_
    refine j_callVi (As := [.int a0]) F D hX (mX4_isMade l G a0) ce_1 rfl kX4_isMade rfl gX6_hits_X4_isMade ⟨rfl, rfl⟩ ⟨Nat.le_of_ble_eq_true rfl, Nat.le_of_ble_eq_true rfl⟩ rfl (Nat.le_of_ble_eq_true rfl) rfl dX6_hits_24 (fun w2 => ?_)
    refine j_if_eq (tgt := 38) F dX6_hits_27 (by decide) ?_ ?_
    · refine j_aload_n F dX6_hits_38 rfl 0 rfl ?_
      refine j_getr (r := 10) F D ce_0 fl_X6_hits_28 rfl dX6_hits_39 ?_
      refine j_aload_n F dX6_hits_42 rfl 0 rfl ?_
      refine j_getr (r := 1) F D ce_0 fl_X6_hits_12 rfl dX6_hits_43 ?_
      refine j_geti F D ce_1 fl_X6_hits_124 rfl dX6_hits_46 ?_
      refine j_iload_n F dX6_hits_49 rfl 1 rfl ?_
      refine j_callVi (As := [.int (w2.2.1 1 5), .int a0]) F D hX (mX1_hitOf l G (w2.2.1 1 5) a0) ce_10 rfl kX1_hitOf rfl gX6_hits_X1_hitOf ⟨rfl, rfl⟩ ⟨Nat.le_of_ble_eq_true rfl, Nat.le_of_ble_eq_true rfl⟩ rfl (Nat.le_of_ble_eq_true rfl) rfl dX6_hits_50 (fun w3 => ?_)
      exact j_iret F D E rfl dX6_hits_53
    · refine j_aload_n F dX6_hits_30 rfl 0 rfl ?_
      refine j_sipush (v := (-1002 : Int32)) F dX6_hits_31 (by decide) ?_
      refine j_callVi (As := [.int (-1002 : Int32)]) F D hX (mX6_refused l G (-1002 : Int32)) ce_0 rfl kX6_refused rfl gX6_hits_X6_refused ⟨rfl, rfl⟩ ⟨Nat.le_of_ble_eq_true rfl, Nat.le_of_ble_eq_true rfl⟩ rfl (Nat.le_of_ble_eq_true rfl) rfl dX6_hits_34 (fun w4 => ?_)
      exact j_iret F D E rfl dX6_hits_37
  · refine j_aload_n F dX6_hits_11 rfl 0 rfl ?_
    refine j_sipush (v := (-1001 : Int32)) F dX6_hits_12 (by decide) ?_
    refine j_callVi (As := [.int (-1001 : Int32)]) F D hX (mX6_refused l G (-1001 : Int32)) ce_0 rfl kX6_refused rfl gX6_hits_X6_refused ⟨rfl, rfl⟩ ⟨Nat.le_of_ble_eq_true rfl, Nat.le_of_ble_eq_true rfl⟩ rfl (Nat.le_of_ble_eq_true rfl) rfl dX6_hits_15 (fun w5 => ?_)
    exact j_iret F D E rfl dX6_hits_18

/-! FlangeFolder.free -/
def fX6_free (M : Mm) : Option (Int32 × Mm) := (fX1_freeAt (M.1 1 5) M).bind (fun w1 => some (w1.1, w1.2))
def rmX6_free : Room := { frames := 4, cells := 0, slots := 0, locals := 93 }
theorem kX6_free : Kc yX6_free cX6_free 1 (some .int) wsX6_free 0 := ⟨⟨_, rfl⟩, by decide +kernel, by decide +kernel, by decide +kernel⟩
theorem ic_X6_free_X6 : ∀ w ∈ u_ws RX6 TX6 9, w ∈ wsX6_free := by decide +kernel
theorem fl_X6_free_28 : Fl wsX6_free RX6 28 6 2 := ⟨RX6, TX6, 9, rfl, by decide, ic_X6_free_X6, by decide +kernel⟩
theorem fl_X6_free_12 : Fl wsX6_free RX6 12 6 0 := ⟨RX6, TX6, 9, rfl, by decide, ic_X6_free_X6, by decide +kernel⟩
theorem ic_X6_free_X4 : ∀ w ∈ u_ws RX4 TX4 8, w ∈ wsX6_free := by decide +kernel
theorem fl_X6_free_124 : Fl wsX6_free RX6 124 4 5 := ⟨RX4, TX4, 8, rfl, by decide, ic_X6_free_X4, by decide +kernel⟩
set_option maxHeartbeats 4000000 in
set_option maxRecDepth 100000 in
theorem mX6_free (l : Launch) (G : Gg) : Ci l G SC yX6_free wsX6_free rmX6_free [.ref (G.2.1 0)] fX6_free := by
  refine Ci.intro (lv := [(0, .ref (G.2.1 0))]) RX6 rfl (by decide) kX6_free (Nat.le_of_ble_eq_true rfl) rfl (fun X V M z F D hX hml E => ?_)
  unfold fX6_free
  refine j_aload_n F dX6_free_0 rfl 0 rfl ?_
  refine j_getr (r := 10) F D ce_0 fl_X6_free_28 rfl dX6_free_1 ?_
  refine j_aload_n F dX6_free_4 rfl 0 rfl ?_
  refine j_getr (r := 1) F D ce_0 fl_X6_free_12 rfl dX6_free_5 ?_
  refine j_geti F D ce_1 fl_X6_free_124 rfl dX6_free_8 ?_
  refine j_callVi (As := [.int (M.1 1 5)]) F D hX (mX1_freeAt l G (M.1 1 5)) ce_10 rfl kX1_freeAt rfl gX6_free_X1_freeAt ⟨rfl, rfl⟩ ⟨Nat.le_of_ble_eq_true rfl, Nat.le_of_ble_eq_true rfl⟩ rfl (Nat.le_of_ble_eq_true rfl) rfl dX6_free_11 (fun w1 => ?_)
  exact j_iret F D E rfl dX6_free_14

/-! FlangeFolder.orders -/
def fX6_orders (M : Mm) : Option (Int32 × Mm) := (fX1_plan M).bind (fun w1 => some ((w1.2.1 10 9), w1.2))
def rmX6_orders : Room := { frames := 6, cells := 0, slots := 0, locals := 138 }
theorem kX6_orders : Kc yX6_orders cX6_orders 1 (some .int) wsX6_orders 0 := ⟨⟨_, rfl⟩, by decide +kernel, by decide +kernel, by decide +kernel⟩
theorem ic_X6_orders_X6 : ∀ w ∈ u_ws RX6 TX6 9, w ∈ wsX6_orders := by decide +kernel
theorem fl_X6_orders_28 : Fl wsX6_orders RX6 28 6 2 := ⟨RX6, TX6, 9, rfl, by decide, ic_X6_orders_X6, by decide +kernel⟩
theorem ic_X6_orders_X1 : ∀ w ∈ u_ws RX1 TX1 12, w ∈ wsX6_orders := by decide +kernel
theorem fl_X6_orders_153 : Fl wsX6_orders RX6 153 1 9 := ⟨RX1, TX1, 12, rfl, by decide, ic_X6_orders_X1, by decide +kernel⟩
set_option maxHeartbeats 4000000 in
set_option maxRecDepth 100000 in
theorem mX6_orders (l : Launch) (G : Gg) : Ci l G SC yX6_orders wsX6_orders rmX6_orders [.ref (G.2.1 0)] fX6_orders := by
  refine Ci.intro (lv := [(0, .ref (G.2.1 0))]) RX6 rfl (by decide) kX6_orders (Nat.le_of_ble_eq_true rfl) rfl (fun X V M z F D hX hml E => ?_)
  unfold fX6_orders
  refine j_aload_n F dX6_orders_0 rfl 0 rfl ?_
  refine j_getr (r := 10) F D ce_0 fl_X6_orders_28 rfl dX6_orders_1 ?_
  refine j_callVv (As := []) F D hX (mX1_plan l G) ce_10 rfl kX1_plan rfl gX6_orders_X1_plan ⟨rfl, rfl⟩ ⟨Nat.le_of_ble_eq_true rfl, Nat.le_of_ble_eq_true rfl⟩ rfl (Nat.le_of_ble_eq_true rfl) rfl dX6_orders_4 (fun w1 => ?_)
  refine j_aload_n F dX6_orders_7 rfl 0 rfl ?_
  refine j_getr (r := 10) F D ce_0 fl_X6_orders_28 rfl dX6_orders_8 ?_
  refine j_geti F D ce_10 fl_X6_orders_153 rfl dX6_orders_11 ?_
  exact j_iret F D E rfl dX6_orders_14

/-! FlangeFolder.order -/
def fX6_order (a0 : Int32) (a1 : Int32) (M : Mm) : Option (Int32 × Mm) := (fX4_hasBend a0 M).bind (fun w1 => (if w1.1 = (0 : Int32) then (fX6_refused (-1001 : Int32) w1.2).bind (fun w2 => some (w2.1, w2.2)) else (fX6_isWithin a1 (0 : Int32) (1 : Int32) w1.2).bind (fun w3 => (if w3.1 = (0 : Int32) then (fX6_refused (-1001 : Int32) w3.2).bind (fun w7 => some (w7.1, w7.2)) else (fX1_plan w3.2).bind (fun w4 => (if a1 = (0 : Int32) then (rd w4.2 15 6 a0).bind (fun v6 => some (v6, w4.2)) else (rd w4.2 16 6 a0).bind (fun v5 => some (v5, w4.2))))))))
def rmX6_order : Room := { frames := 6, cells := 0, slots := 0, locals := 138 }
theorem kX6_order : Kc yX6_order cX6_order 3 (some .int) wsX6_order 2 := ⟨⟨_, rfl⟩, by decide +kernel, by decide +kernel, by decide +kernel⟩
theorem ic_X6_order_X6 : ∀ w ∈ u_ws RX6 TX6 9, w ∈ wsX6_order := by decide +kernel
theorem fl_X6_order_12 : Fl wsX6_order RX6 12 6 0 := ⟨RX6, TX6, 9, rfl, by decide, ic_X6_order_X6, by decide +kernel⟩
theorem fl_X6_order_28 : Fl wsX6_order RX6 28 6 2 := ⟨RX6, TX6, 9, rfl, by decide, ic_X6_order_X6, by decide +kernel⟩
theorem ic_X6_order_X1 : ∀ w ∈ u_ws RX1 TX1 12, w ∈ wsX6_order := by decide +kernel
theorem fl_X6_order_159 : Fl wsX6_order RX6 159 1 8 := ⟨RX1, TX1, 12, rfl, by decide, ic_X6_order_X1, by decide +kernel⟩
theorem fl_X6_order_156 : Fl wsX6_order RX6 156 1 7 := ⟨RX1, TX1, 12, rfl, by decide, ic_X6_order_X1, by decide +kernel⟩
set_option maxHeartbeats 4000000 in
set_option maxRecDepth 100000 in
theorem mX6_order (l : Launch) (G : Gg) (a0 : Int32) (a1 : Int32) : Ci l G SC yX6_order wsX6_order rmX6_order [.ref (G.2.1 0), .int a0, .int a1] (fX6_order a0 a1) := by
  refine Ci.intro (lv := [(0, .ref (G.2.1 0)), (1, .int a0), (2, .int a1)]) RX6 rfl (by decide) kX6_order (Nat.le_of_ble_eq_true rfl) rfl (fun X V M z F D hX hml E => ?_)
  unfold fX6_order
  refine j_aload_n F dX6_order_0 rfl 0 rfl ?_
  refine j_getr (r := 1) F D ce_0 fl_X6_order_12 rfl dX6_order_1 ?_
  refine j_iload_n F dX6_order_4 rfl 1 rfl ?_
  refine j_callVi (As := [.int a0]) F D hX (mX4_hasBend l G a0) ce_1 rfl kX4_hasBend rfl gX6_order_X4_hasBend ⟨rfl, rfl⟩ ⟨Nat.le_of_ble_eq_true rfl, Nat.le_of_ble_eq_true rfl⟩ rfl (Nat.le_of_ble_eq_true rfl) rfl dX6_order_5 (fun w1 => ?_)
  refine j_if_eq (tgt := 20) F dX6_order_8 (by decide) ?_ ?_
  · refine j_aload_n F dX6_order_20 rfl 0 rfl ?_
    refine j_sipush (v := (-1001 : Int32)) F dX6_order_21 (by decide) ?_
    refine j_callVi (As := [.int (-1001 : Int32)]) F D hX (mX6_refused l G (-1001 : Int32)) ce_0 rfl kX6_refused rfl gX6_order_X6_refused ⟨rfl, rfl⟩ ⟨Nat.le_of_ble_eq_true rfl, Nat.le_of_ble_eq_true rfl⟩ rfl (Nat.le_of_ble_eq_true rfl) rfl dX6_order_24 (fun w2 => ?_)
    exact j_iret F D E rfl dX6_order_27
  · refine j_iload_n F dX6_order_11 rfl 2 rfl ?_
    refine j_iconst (v := (0 : Int32)) F dX6_order_12 (by decide) ?_
    refine j_iconst (v := (1 : Int32)) F dX6_order_13 (by decide) ?_
    refine j_callSi (As := [.int a1, .int (0 : Int32), .int (1 : Int32)]) F D hX (mX6_isWithin l G a1 (0 : Int32) (1 : Int32)) kX6_isWithin gX6_order_X6_isWithin ⟨rfl, rfl⟩ ⟨Nat.le_of_ble_eq_true rfl, Nat.le_of_ble_eq_true rfl⟩ rfl (Nat.le_of_ble_eq_true rfl) rfl dX6_order_14 (fun w3 => ?_)
    refine j_if_ne (tgt := 28) F dX6_order_17 (by decide) ?_ ?_
    · refine j_aload_n F dX6_order_28 rfl 0 rfl ?_
      refine j_getr (r := 10) F D ce_0 fl_X6_order_28 rfl dX6_order_29 ?_
      refine j_callVv (As := []) F D hX (mX1_plan l G) ce_10 rfl kX1_plan rfl gX6_order_X1_plan ⟨rfl, rfl⟩ ⟨Nat.le_of_ble_eq_true rfl, Nat.le_of_ble_eq_true rfl⟩ rfl (Nat.le_of_ble_eq_true rfl) rfl dX6_order_32 (fun w4 => ?_)
      refine j_iload_n F dX6_order_35 rfl 2 rfl ?_
      refine j_if_ne (tgt := 51) F dX6_order_36 (by decide) ?_ ?_
      · refine j_aload_n F dX6_order_51 rfl 0 rfl ?_
        refine j_getr (r := 10) F D ce_0 fl_X6_order_28 rfl dX6_order_52 ?_
        refine j_getr (r := 16) F D ce_10 fl_X6_order_159 rfl dX6_order_55 ?_
        refine j_iload_n F dX6_order_58 rfl 1 rfl ?_
        refine j_iald F D ce_16 dX6_order_59 (fun v5 => ?_)
        exact j_iret F D E rfl dX6_order_60
      · refine j_aload_n F dX6_order_39 rfl 0 rfl ?_
        refine j_getr (r := 10) F D ce_0 fl_X6_order_28 rfl dX6_order_40 ?_
        refine j_getr (r := 15) F D ce_10 fl_X6_order_156 rfl dX6_order_43 ?_
        refine j_iload_n F dX6_order_46 rfl 1 rfl ?_
        refine j_iald F D ce_15 dX6_order_47 (fun v6 => ?_)
        refine j_goto (tgt := 60) F dX6_order_48 (by decide) ?_
        exact j_iret F D E rfl dX6_order_60
    · refine j_aload_n F dX6_order_20 rfl 0 rfl ?_
      refine j_sipush (v := (-1001 : Int32)) F dX6_order_21 (by decide) ?_
      refine j_callVi (As := [.int (-1001 : Int32)]) F D hX (mX6_refused l G (-1001 : Int32)) ce_0 rfl kX6_refused rfl gX6_order_X6_refused ⟨rfl, rfl⟩ ⟨Nat.le_of_ble_eq_true rfl, Nat.le_of_ble_eq_true rfl⟩ rfl (Nat.le_of_ble_eq_true rfl) rfl dX6_order_24 (fun w7 => ?_)
      exact j_iret F D E rfl dX6_order_27

/-! FlangeFolder.changes -/
def fX6_changes (a0 : Int32) (M : Mm) : Option (Int32 × Mm) := (fX6_isWithin a0 (0 : Int32) (1 : Int32) M).bind (fun w1 => (if w1.1 = (0 : Int32) then (fX6_refused (-1001 : Int32) w1.2).bind (fun w3 => some (w3.1, w3.2)) else (fX1_plan w1.2).bind (fun w2 => (if a0 = (0 : Int32) then some ((w2.2.1 10 11), w2.2) else some ((w2.2.1 10 10), w2.2)))))
def rmX6_changes : Room := { frames := 6, cells := 0, slots := 0, locals := 138 }
theorem kX6_changes : Kc yX6_changes cX6_changes 2 (some .int) wsX6_changes 1 := ⟨⟨_, rfl⟩, by decide +kernel, by decide +kernel, by decide +kernel⟩
theorem ic_X6_changes_X6 : ∀ w ∈ u_ws RX6 TX6 9, w ∈ wsX6_changes := by decide +kernel
theorem fl_X6_changes_28 : Fl wsX6_changes RX6 28 6 2 := ⟨RX6, TX6, 9, rfl, by decide, ic_X6_changes_X6, by decide +kernel⟩
theorem ic_X6_changes_X1 : ∀ w ∈ u_ws RX1 TX1 12, w ∈ wsX6_changes := by decide +kernel
theorem fl_X6_changes_165 : Fl wsX6_changes RX6 165 1 10 := ⟨RX1, TX1, 12, rfl, by decide, ic_X6_changes_X1, by decide +kernel⟩
theorem fl_X6_changes_162 : Fl wsX6_changes RX6 162 1 11 := ⟨RX1, TX1, 12, rfl, by decide, ic_X6_changes_X1, by decide +kernel⟩
set_option maxHeartbeats 4000000 in
set_option maxRecDepth 100000 in
theorem mX6_changes (l : Launch) (G : Gg) (a0 : Int32) : Ci l G SC yX6_changes wsX6_changes rmX6_changes [.ref (G.2.1 0), .int a0] (fX6_changes a0) := by
  refine Ci.intro (lv := [(0, .ref (G.2.1 0)), (1, .int a0)]) RX6 rfl (by decide) kX6_changes (Nat.le_of_ble_eq_true rfl) rfl (fun X V M z F D hX hml E => ?_)
  unfold fX6_changes
  refine j_iload_n F dX6_changes_0 rfl 1 rfl ?_
  refine j_iconst (v := (0 : Int32)) F dX6_changes_1 (by decide) ?_
  refine j_iconst (v := (1 : Int32)) F dX6_changes_2 (by decide) ?_
  refine j_callSi (As := [.int a0, .int (0 : Int32), .int (1 : Int32)]) F D hX (mX6_isWithin l G a0 (0 : Int32) (1 : Int32)) kX6_isWithin gX6_changes_X6_isWithin ⟨rfl, rfl⟩ ⟨Nat.le_of_ble_eq_true rfl, Nat.le_of_ble_eq_true rfl⟩ rfl (Nat.le_of_ble_eq_true rfl) rfl dX6_changes_3 (fun w1 => ?_)
  refine j_if_ne (tgt := 17) F dX6_changes_6 (by decide) ?_ ?_
  · refine j_aload_n F dX6_changes_17 rfl 0 rfl ?_
    refine j_getr (r := 10) F D ce_0 fl_X6_changes_28 rfl dX6_changes_18 ?_
    refine j_callVv (As := []) F D hX (mX1_plan l G) ce_10 rfl kX1_plan rfl gX6_changes_X1_plan ⟨rfl, rfl⟩ ⟨Nat.le_of_ble_eq_true rfl, Nat.le_of_ble_eq_true rfl⟩ rfl (Nat.le_of_ble_eq_true rfl) rfl dX6_changes_21 (fun w2 => ?_)
    refine j_iload_n F dX6_changes_24 rfl 1 rfl ?_
    refine j_if_ne (tgt := 38) F dX6_changes_25 (by decide) ?_ ?_
    · refine j_aload_n F dX6_changes_38 rfl 0 rfl ?_
      refine j_getr (r := 10) F D ce_0 fl_X6_changes_28 rfl dX6_changes_39 ?_
      refine j_geti F D ce_10 fl_X6_changes_165 rfl dX6_changes_42 ?_
      exact j_iret F D E rfl dX6_changes_45
    · refine j_aload_n F dX6_changes_28 rfl 0 rfl ?_
      refine j_getr (r := 10) F D ce_0 fl_X6_changes_28 rfl dX6_changes_29 ?_
      refine j_geti F D ce_10 fl_X6_changes_162 rfl dX6_changes_32 ?_
      refine j_goto (tgt := 45) F dX6_changes_35 (by decide) ?_
      exact j_iret F D E rfl dX6_changes_45
  · refine j_aload_n F dX6_changes_9 rfl 0 rfl ?_
    refine j_sipush (v := (-1001 : Int32)) F dX6_changes_10 (by decide) ?_
    refine j_callVi (As := [.int (-1001 : Int32)]) F D hX (mX6_refused l G (-1001 : Int32)) ce_0 rfl kX6_refused rfl gX6_changes_X6_refused ⟨rfl, rfl⟩ ⟨Nat.le_of_ble_eq_true rfl, Nat.le_of_ble_eq_true rfl⟩ rfl (Nat.le_of_ble_eq_true rfl) rfl dX6_changes_13 (fun w3 => ?_)
    exact j_iret F D E rfl dX6_changes_16

/-! FlangeFolder.ways -/
def fX6_ways (M : Mm) : Option (Int32 × Mm) := (fX1_pathsFrom (M.1 1 5) M).bind (fun w1 => some (w1.1, w1.2))
def rmX6_ways : Room := { frames := 5, cells := 0, slots := 0, locals := 118 }
theorem kX6_ways : Kc yX6_ways cX6_ways 1 (some .int) wsX6_ways 0 := ⟨⟨_, rfl⟩, by decide +kernel, by decide +kernel, by decide +kernel⟩
theorem ic_X6_ways_X6 : ∀ w ∈ u_ws RX6 TX6 9, w ∈ wsX6_ways := by decide +kernel
theorem fl_X6_ways_28 : Fl wsX6_ways RX6 28 6 2 := ⟨RX6, TX6, 9, rfl, by decide, ic_X6_ways_X6, by decide +kernel⟩
theorem fl_X6_ways_12 : Fl wsX6_ways RX6 12 6 0 := ⟨RX6, TX6, 9, rfl, by decide, ic_X6_ways_X6, by decide +kernel⟩
theorem ic_X6_ways_X4 : ∀ w ∈ u_ws RX4 TX4 8, w ∈ wsX6_ways := by decide +kernel
theorem fl_X6_ways_124 : Fl wsX6_ways RX6 124 4 5 := ⟨RX4, TX4, 8, rfl, by decide, ic_X6_ways_X4, by decide +kernel⟩
set_option maxHeartbeats 4000000 in
set_option maxRecDepth 100000 in
theorem mX6_ways (l : Launch) (G : Gg) : Ci l G SC yX6_ways wsX6_ways rmX6_ways [.ref (G.2.1 0)] fX6_ways := by
  refine Ci.intro (lv := [(0, .ref (G.2.1 0))]) RX6 rfl (by decide) kX6_ways (Nat.le_of_ble_eq_true rfl) rfl (fun X V M z F D hX hml E => ?_)
  unfold fX6_ways
  refine j_aload_n F dX6_ways_0 rfl 0 rfl ?_
  refine j_getr (r := 10) F D ce_0 fl_X6_ways_28 rfl dX6_ways_1 ?_
  refine j_aload_n F dX6_ways_4 rfl 0 rfl ?_
  refine j_getr (r := 1) F D ce_0 fl_X6_ways_12 rfl dX6_ways_5 ?_
  refine j_geti F D ce_1 fl_X6_ways_124 rfl dX6_ways_8 ?_
  refine j_callVi (As := [.int (M.1 1 5)]) F D hX (mX1_pathsFrom l G (M.1 1 5)) ce_10 rfl kX1_pathsFrom rfl gX6_ways_X1_pathsFrom ⟨rfl, rfl⟩ ⟨Nat.le_of_ble_eq_true rfl, Nat.le_of_ble_eq_true rfl⟩ rfl (Nat.le_of_ble_eq_true rfl) rfl dX6_ways_11 (fun w1 => ?_)
  exact j_iret F D E rfl dX6_ways_14

/-! FlangeFolder.count -/
def fX6_count (a0 : Int32) (M : Mm) : Option (Int32 × Mm) := (if a0 = (0 : Int32) then some ((M.1 1 4), M) else (if a0 = (1 : Int32) then (fJ6_bitCount_0f7a4 (M.1 1 5) M).bind (fun w3 => some (w3.1, w3.2)) else (if a0 = (2 : Int32) then some ((M.1 1 5), M) else (if a0 = (3 : Int32) then some ((M.1 1 6), M) else (if a0 = (4 : Int32) then some ((M.1 1 7), M) else (if a0 = (5 : Int32) then (rd M 5 3 (0 : Int32)).bind (fun v8 => some (v8, M)) else (if a0 = (6 : Int32) then (rd M 5 3 (1 : Int32)).bind (fun v10 => some (v10, M)) else (if a0 = (7 : Int32) then (rd M 5 3 (2 : Int32)).bind (fun v12 => some (v12, M)) else (if a0 = (8 : Int32) then (fX4_allBends M).bind (fun w14 => (fX4_lengthLess w14.1 w14.2).bind (fun w15 => some (w15.1, w15.2))) else (if a0 = (9 : Int32) then (fX4_lengthLess (M.1 1 5) M).bind (fun w17 => some (w17.1, w17.2)) else (if a0 = (10 : Int32) then (fX4_allLengths M).bind (fun w19 => some (w19.1, w19.2)) else (fX6_refused (-1001 : Int32) M).bind (fun w20 => some (w20.1, w20.2)))))))))))))
def rmX6_count : Room := { frames := 2, cells := 0, slots := 0, locals := 45 }
theorem kX6_count : Kc yX6_count cX6_count 2 (some .int) wsX6_count 1 := ⟨⟨_, rfl⟩, by decide +kernel, by decide +kernel, by decide +kernel⟩
theorem ic_X6_count_X6 : ∀ w ∈ u_ws RX6 TX6 9, w ∈ wsX6_count := by decide +kernel
theorem fl_X6_count_12 : Fl wsX6_count RX6 12 6 0 := ⟨RX6, TX6, 9, rfl, by decide, ic_X6_count_X6, by decide +kernel⟩
theorem ic_X6_count_X4 : ∀ w ∈ u_ws RX4 TX4 8, w ∈ wsX6_count := by decide +kernel
theorem fl_X6_count_117 : Fl wsX6_count RX6 117 4 4 := ⟨RX4, TX4, 8, rfl, by decide, ic_X6_count_X4, by decide +kernel⟩
theorem fl_X6_count_124 : Fl wsX6_count RX6 124 4 5 := ⟨RX4, TX4, 8, rfl, by decide, ic_X6_count_X4, by decide +kernel⟩
theorem fl_X6_count_176 : Fl wsX6_count RX6 176 4 6 := ⟨RX4, TX4, 8, rfl, by decide, ic_X6_count_X4, by decide +kernel⟩
theorem fl_X6_count_179 : Fl wsX6_count RX6 179 4 7 := ⟨RX4, TX4, 8, rfl, by decide, ic_X6_count_X4, by decide +kernel⟩
theorem fl_X6_count_182 : Fl wsX6_count RX6 182 4 3 := ⟨RX4, TX4, 8, rfl, by decide, ic_X6_count_X4, by decide +kernel⟩
set_option maxHeartbeats 4000000 in
set_option maxRecDepth 100000 in
theorem mX6_count (l : Launch) (G : Gg) (a0 : Int32) : Ci l G SC yX6_count wsX6_count rmX6_count [.ref (G.2.1 0), .int a0] (fX6_count a0) := by
  refine Ci.intro (lv := [(0, .ref (G.2.1 0)), (1, .int a0)]) RX6 rfl (by decide) kX6_count (Nat.le_of_ble_eq_true rfl) rfl (fun X V M z F D hX hml E => ?_)
  unfold fX6_count
  refine j_iload_n F dX6_count_0 rfl 1 rfl ?_
  refine j_ite (fun h1 => ?_) (fun h1 => ?_)
  · refine j_tsw F dX6_count_1 (by decide) 60 (by rw [h1]; decide) ?_
    refine j_aload_n F dX6_count_60 rfl 0 rfl ?_
    refine j_getr (r := 1) F D ce_0 fl_X6_count_12 rfl dX6_count_61 ?_
    refine j_geti F D ce_1 fl_X6_count_117 rfl dX6_count_64 ?_
    exact j_iret F D E rfl dX6_count_67
  · refine j_ite (fun h2 => ?_) (fun h2 => ?_)
    · refine j_tsw F dX6_count_1 (by decide) 68 (by rw [h2]; decide) ?_
      refine j_aload_n F dX6_count_68 rfl 0 rfl ?_
      refine j_getr (r := 1) F D ce_0 fl_X6_count_12 rfl dX6_count_69 ?_
      refine j_geti F D ce_1 fl_X6_count_124 rfl dX6_count_72 ?_
      refine j_callSi (As := [.int (M.1 1 5)]) F D hX (mJ6_bitCount_0f7a4 l G (M.1 1 5)) kJ6_bitCount_0f7a4 gX6_count_J6_bitCount_0f7a4 ⟨rfl, rfl⟩ ⟨Nat.le_of_ble_eq_true rfl, Nat.le_of_ble_eq_true rfl⟩ rfl (Nat.le_of_ble_eq_true rfl) rfl dX6_count_75 (fun w3 => ?_)
      exact j_iret F D E rfl dX6_count_78
    · refine j_ite (fun h4 => ?_) (fun h4 => ?_)
      · refine j_tsw F dX6_count_1 (by decide) 79 (by rw [h4]; decide) ?_
        refine j_aload_n F dX6_count_79 rfl 0 rfl ?_
        refine j_getr (r := 1) F D ce_0 fl_X6_count_12 rfl dX6_count_80 ?_
        refine j_geti F D ce_1 fl_X6_count_124 rfl dX6_count_83 ?_
        exact j_iret F D E rfl dX6_count_86
      · refine j_ite (fun h5 => ?_) (fun h5 => ?_)
        · refine j_tsw F dX6_count_1 (by decide) 87 (by rw [h5]; decide) ?_
          refine j_aload_n F dX6_count_87 rfl 0 rfl ?_
          refine j_getr (r := 1) F D ce_0 fl_X6_count_12 rfl dX6_count_88 ?_
          refine j_geti F D ce_1 fl_X6_count_176 rfl dX6_count_91 ?_
          exact j_iret F D E rfl dX6_count_94
        · refine j_ite (fun h6 => ?_) (fun h6 => ?_)
          · refine j_tsw F dX6_count_1 (by decide) 95 (by rw [h6]; decide) ?_
            refine j_aload_n F dX6_count_95 rfl 0 rfl ?_
            refine j_getr (r := 1) F D ce_0 fl_X6_count_12 rfl dX6_count_96 ?_
            refine j_geti F D ce_1 fl_X6_count_179 rfl dX6_count_99 ?_
            exact j_iret F D E rfl dX6_count_102
          · refine j_ite (fun h7 => ?_) (fun h7 => ?_)
            · refine j_tsw F dX6_count_1 (by decide) 103 (by rw [h7]; decide) ?_
              refine j_aload_n F dX6_count_103 rfl 0 rfl ?_
              refine j_getr (r := 1) F D ce_0 fl_X6_count_12 rfl dX6_count_104 ?_
              refine j_getr (r := 5) F D ce_1 fl_X6_count_182 rfl dX6_count_107 ?_
              refine j_iconst (v := (0 : Int32)) F dX6_count_110 (by decide) ?_
              refine j_iald F D ce_5 dX6_count_111 (fun v8 => ?_)
              exact j_iret F D E rfl dX6_count_112
            · refine j_ite (fun h9 => ?_) (fun h9 => ?_)
              · refine j_tsw F dX6_count_1 (by decide) 113 (by rw [h9]; decide) ?_
                refine j_aload_n F dX6_count_113 rfl 0 rfl ?_
                refine j_getr (r := 1) F D ce_0 fl_X6_count_12 rfl dX6_count_114 ?_
                refine j_getr (r := 5) F D ce_1 fl_X6_count_182 rfl dX6_count_117 ?_
                refine j_iconst (v := (1 : Int32)) F dX6_count_120 (by decide) ?_
                refine j_iald F D ce_5 dX6_count_121 (fun v10 => ?_)
                exact j_iret F D E rfl dX6_count_122
              · refine j_ite (fun h11 => ?_) (fun h11 => ?_)
                · refine j_tsw F dX6_count_1 (by decide) 123 (by rw [h11]; decide) ?_
                  refine j_aload_n F dX6_count_123 rfl 0 rfl ?_
                  refine j_getr (r := 1) F D ce_0 fl_X6_count_12 rfl dX6_count_124 ?_
                  refine j_getr (r := 5) F D ce_1 fl_X6_count_182 rfl dX6_count_127 ?_
                  refine j_iconst (v := (2 : Int32)) F dX6_count_130 (by decide) ?_
                  refine j_iald F D ce_5 dX6_count_131 (fun v12 => ?_)
                  exact j_iret F D E rfl dX6_count_132
                · refine j_ite (fun h13 => ?_) (fun h13 => ?_)
                  · refine j_tsw F dX6_count_1 (by decide) 133 (by rw [h13]; decide) ?_
                    refine j_aload_n F dX6_count_133 rfl 0 rfl ?_
                    refine j_getr (r := 1) F D ce_0 fl_X6_count_12 rfl dX6_count_134 ?_
                    refine j_aload_n F dX6_count_137 rfl 0 rfl ?_
                    refine j_getr (r := 1) F D ce_0 fl_X6_count_12 rfl dX6_count_138 ?_
                    refine j_callVi (As := []) F D hX (mX4_allBends l G) ce_1 rfl kX4_allBends rfl gX6_count_X4_allBends ⟨rfl, rfl⟩ ⟨Nat.le_of_ble_eq_true rfl, Nat.le_of_ble_eq_true rfl⟩ rfl (Nat.le_of_ble_eq_true rfl) rfl dX6_count_141 (fun w14 => ?_)
                    refine j_callVi (As := [.int w14.1]) F D hX (mX4_lengthLess l G w14.1) ce_1 rfl kX4_lengthLess rfl gX6_count_X4_lengthLess ⟨rfl, rfl⟩ ⟨Nat.le_of_ble_eq_true rfl, Nat.le_of_ble_eq_true rfl⟩ rfl (Nat.le_of_ble_eq_true rfl) rfl dX6_count_144 (fun w15 => ?_)
                    exact j_iret F D E rfl dX6_count_147
                  · refine j_ite (fun h16 => ?_) (fun h16 => ?_)
                    · refine j_tsw F dX6_count_1 (by decide) 148 (by rw [h16]; decide) ?_
                      refine j_aload_n F dX6_count_148 rfl 0 rfl ?_
                      refine j_getr (r := 1) F D ce_0 fl_X6_count_12 rfl dX6_count_149 ?_
                      refine j_aload_n F dX6_count_152 rfl 0 rfl ?_
                      refine j_getr (r := 1) F D ce_0 fl_X6_count_12 rfl dX6_count_153 ?_
                      refine j_geti F D ce_1 fl_X6_count_124 rfl dX6_count_156 ?_
                      refine j_callVi (As := [.int (M.1 1 5)]) F D hX (mX4_lengthLess l G (M.1 1 5)) ce_1 rfl kX4_lengthLess rfl gX6_count_X4_lengthLess ⟨rfl, rfl⟩ ⟨Nat.le_of_ble_eq_true rfl, Nat.le_of_ble_eq_true rfl⟩ rfl (Nat.le_of_ble_eq_true rfl) rfl dX6_count_159 (fun w17 => ?_)
                      exact j_iret F D E rfl dX6_count_162
                    · refine j_ite (fun h18 => ?_) (fun h18 => ?_)
                      · refine j_tsw F dX6_count_1 (by decide) 163 (by rw [h18]; decide) ?_
                        refine j_aload_n F dX6_count_163 rfl 0 rfl ?_
                        refine j_getr (r := 1) F D ce_0 fl_X6_count_12 rfl dX6_count_164 ?_
                        refine j_callVi (As := []) F D hX (mX4_allLengths l G) ce_1 rfl kX4_allLengths rfl gX6_count_X4_allLengths ⟨rfl, rfl⟩ ⟨Nat.le_of_ble_eq_true rfl, Nat.le_of_ble_eq_true rfl⟩ rfl (Nat.le_of_ble_eq_true rfl) rfl dX6_count_167 (fun w19 => ?_)
                        exact j_iret F D E rfl dX6_count_170
                      · refine j_tsw F dX6_count_1 (by decide) 171 (tsw_d [0, 1, 2, 3, 4, 5, 6, 7, 8, 9, 10] (by decide) (by decide) (by simp only [List.mem_cons, List.not_mem_nil, or_false, not_or]; exact ⟨toInt_ne (by decide) h1, toInt_ne (by decide) h2, toInt_ne (by decide) h4, toInt_ne (by decide) h5, toInt_ne (by decide) h6, toInt_ne (by decide) h7, toInt_ne (by decide) h9, toInt_ne (by decide) h11, toInt_ne (by decide) h13, toInt_ne (by decide) h16, toInt_ne (by decide) h18⟩)) ?_
                        refine j_aload_n F dX6_count_171 rfl 0 rfl ?_
                        refine j_sipush (v := (-1001 : Int32)) F dX6_count_172 (by decide) ?_
                        refine j_callVi (As := [.int (-1001 : Int32)]) F D hX (mX6_refused l G (-1001 : Int32)) ce_0 rfl kX6_refused rfl gX6_count_X6_refused ⟨rfl, rfl⟩ ⟨Nat.le_of_ble_eq_true rfl, Nat.le_of_ble_eq_true rfl⟩ rfl (Nat.le_of_ble_eq_true rfl) rfl dX6_count_175 (fun w20 => ?_)
                        exact j_iret F D E rfl dX6_count_178

/-! FlangeFolder.type -/
def fX6_type (a0 : Int32) (M : Mm) : Option (Int32 × Mm) := (fX6_isWithin a0 (0 : Int32) (127 : Int32) M).bind (fun w1 => (if w1.1 = (0 : Int32) then (fX6_refused (-1001 : Int32) w1.2).bind (fun w4 => some (w4.1, w4.2)) else (if (w1.2.1 50 3) < (120 : Int32) then (fX2_append a0 w1.2).bind (fun w2 => some ((w2.2.1 50 3), w2.2)) else (fX6_refused (-1003 : Int32) w1.2).bind (fun w3 => some (w3.1, w3.2)))))
def rmX6_type : Room := { frames := 1, cells := 0, slots := 0, locals := 22 }
theorem kX6_type : Kc yX6_type cX6_type 2 (some .int) wsX6_type 1 := ⟨⟨_, rfl⟩, by decide +kernel, by decide +kernel, by decide +kernel⟩
theorem ic_X6_type_X6 : ∀ w ∈ u_ws RX6 TX6 9, w ∈ wsX6_type := by decide +kernel
theorem fl_X6_type_51 : Fl wsX6_type RX6 51 6 5 := ⟨RX6, TX6, 9, rfl, by decide, ic_X6_type_X6, by decide +kernel⟩
theorem ic_X6_type_X2 : ∀ w ∈ u_ws RX2 TX2 6, w ∈ wsX6_type := by decide +kernel
theorem fl_X6_type_194 : Fl wsX6_type RX6 194 2 3 := ⟨RX2, TX2, 6, rfl, by decide, ic_X6_type_X2, by decide +kernel⟩
set_option maxHeartbeats 4000000 in
set_option maxRecDepth 100000 in
theorem mX6_type (l : Launch) (G : Gg) (a0 : Int32) : Ci l G SC yX6_type wsX6_type rmX6_type [.ref (G.2.1 0), .int a0] (fX6_type a0) := by
  refine Ci.intro (lv := [(0, .ref (G.2.1 0)), (1, .int a0)]) RX6 rfl (by decide) kX6_type (Nat.le_of_ble_eq_true rfl) rfl (fun X V M z F D hX hml E => ?_)
  unfold fX6_type
  refine j_iload_n F dX6_type_0 rfl 1 rfl ?_
  refine j_iconst (v := (0 : Int32)) F dX6_type_1 (by decide) ?_
  refine j_bipush (v := (127 : Int32)) F dX6_type_2 (by decide) ?_
  refine j_callSi (As := [.int a0, .int (0 : Int32), .int (127 : Int32)]) F D hX (mX6_isWithin l G a0 (0 : Int32) (127 : Int32)) kX6_isWithin gX6_type_X6_isWithin ⟨rfl, rfl⟩ ⟨Nat.le_of_ble_eq_true rfl, Nat.le_of_ble_eq_true rfl⟩ rfl (Nat.le_of_ble_eq_true rfl) rfl dX6_type_4 (fun w1 => ?_)
  refine j_if_ne (tgt := 18) F dX6_type_7 (by decide) ?_ ?_
  · refine j_aload_n F dX6_type_18 rfl 0 rfl ?_
    refine j_getr (r := 50) F D ce_0 fl_X6_type_51 rfl dX6_type_19 ?_
    refine j_geti F D ce_50 fl_X6_type_194 rfl dX6_type_22 ?_
    refine j_bipush (v := (120 : Int32)) F dX6_type_25 (by decide) ?_
    refine j_icmp_lt (tgt := 38) F dX6_type_27 (by decide) ?_ ?_
    · refine j_aload_n F dX6_type_38 rfl 0 rfl ?_
      refine j_getr (r := 50) F D ce_0 fl_X6_type_51 rfl dX6_type_39 ?_
      refine j_iload_n F dX6_type_42 rfl 1 rfl ?_
      refine j_callVv (As := [.int a0]) F D hX (mX2_append l G a0) ce_50 rfl kX2_append rfl gX6_type_X2_append ⟨rfl, rfl⟩ ⟨Nat.le_of_ble_eq_true rfl, Nat.le_of_ble_eq_true rfl⟩ rfl (Nat.le_of_ble_eq_true rfl) rfl dX6_type_43 (fun w2 => ?_)
      refine j_aload_n F dX6_type_46 rfl 0 rfl ?_
      refine j_getr (r := 50) F D ce_0 fl_X6_type_51 rfl dX6_type_47 ?_
      refine j_geti F D ce_50 fl_X6_type_194 rfl dX6_type_50 ?_
      exact j_iret F D E rfl dX6_type_53
    · refine j_aload_n F dX6_type_30 rfl 0 rfl ?_
      refine j_sipush (v := (-1003 : Int32)) F dX6_type_31 (by decide) ?_
      refine j_callVi (As := [.int (-1003 : Int32)]) F D hX (mX6_refused l G (-1003 : Int32)) ce_0 rfl kX6_refused rfl gX6_type_X6_refused ⟨rfl, rfl⟩ ⟨Nat.le_of_ble_eq_true rfl, Nat.le_of_ble_eq_true rfl⟩ rfl (Nat.le_of_ble_eq_true rfl) rfl dX6_type_34 (fun w3 => ?_)
      exact j_iret F D E rfl dX6_type_37
  · refine j_aload_n F dX6_type_10 rfl 0 rfl ?_
    refine j_sipush (v := (-1001 : Int32)) F dX6_type_11 (by decide) ?_
    refine j_callVi (As := [.int (-1001 : Int32)]) F D hX (mX6_refused l G (-1001 : Int32)) ce_0 rfl kX6_refused rfl gX6_type_X6_refused ⟨rfl, rfl⟩ ⟨Nat.le_of_ble_eq_true rfl, Nat.le_of_ble_eq_true rfl⟩ rfl (Nat.le_of_ble_eq_true rfl) rfl dX6_type_14 (fun w4 => ?_)
    exact j_iret F D E rfl dX6_type_17

/-! FlangeFolder.clear -/
def fX6_clear (M : Mm) : Option (Int32 × Mm) := lt (M.1 50 3) (fun x1 => lt (stI M 50 3 (0 : Int32)) (fun N2 => some (x1, N2)))
def rmX6_clear : Room := { frames := 0, cells := 0, slots := 0, locals := 0 }
theorem kX6_clear : Kc yX6_clear cX6_clear 2 (some .int) wsX6_clear 0 := ⟨⟨_, rfl⟩, by decide +kernel, by decide +kernel, by decide +kernel⟩
theorem ic_X6_clear_X6 : ∀ w ∈ u_ws RX6 TX6 9, w ∈ wsX6_clear := by decide +kernel
theorem fl_X6_clear_51 : Fl wsX6_clear RX6 51 6 5 := ⟨RX6, TX6, 9, rfl, by decide, ic_X6_clear_X6, by decide +kernel⟩
theorem ic_X6_clear_X2 : ∀ w ∈ u_ws RX2 TX2 6, w ∈ wsX6_clear := by decide +kernel
theorem fl_X6_clear_194 : Fl wsX6_clear RX6 194 2 3 := ⟨RX2, TX2, 6, rfl, by decide, ic_X6_clear_X2, by decide +kernel⟩
theorem fp_X6_clear_194 : Fp wsX6_clear RX6 194 2 3 .int := ⟨RX2, TX2, 6, tyX2, rfl, by decide, ic_X6_clear_X2, by decide +kernel, tyX2_ok, nmX2, rfl, rfl⟩
set_option maxHeartbeats 4000000 in
set_option maxRecDepth 100000 in
theorem mX6_clear (l : Launch) (G : Gg) : Ci l G SC yX6_clear wsX6_clear rmX6_clear [.ref (G.2.1 0)] fX6_clear := by
  refine Ci.intro (lv := [(0, .ref (G.2.1 0))]) RX6 rfl (by decide) kX6_clear (Nat.le_of_ble_eq_true rfl) rfl (fun X V M z F D hX hml E => ?_)
  unfold fX6_clear
  refine j_aload_n F dX6_clear_0 rfl 0 rfl ?_
  refine j_getr (r := 50) F D ce_0 fl_X6_clear_51 rfl dX6_clear_1 ?_
  refine j_geti F D ce_50 fl_X6_clear_194 rfl dX6_clear_4 ?_
  refine j_let (f := Value.int) (fun x1 => ?_)
  refine j_istore_n (lv' := [(1, .int x1), (0, .ref (G.2.1 0))]) F dX6_clear_7 rfl (by rw [← hml]; decide) rfl ?_
  refine j_aload_n F dX6_clear_8 rfl 1 rfl ?_
  refine j_getr (r := 50) F D ce_0 fl_X6_clear_51 rfl dX6_clear_9 ?_
  refine j_iconst (v := (0 : Int32)) F dX6_clear_12 (by decide) ?_
  refine j_puti F D ce_50 fp_X6_clear_194 rfl rfl rfl dX6_clear_13 ?_
  refine j_letM (fun N2 => ?_)
  refine j_iload_n F dX6_clear_16 rfl 0 rfl ?_
  exact j_iret F D E rfl dX6_clear_17

/-! FlangeFolder.does -/
def lX6_does_31 (K5 : Int32 → Mm → Option (Int32 × Mm))  : Nat → Int32 → Mm → Option (Int32 × Mm)
  | 0, _, _ => none
  | n9 + 1, x3, N4 => (if (N4.1 50 4) ≤ x3 then (fX0_keepStaged N4).bind (fun w10 => some ((w10.2.1 50 4), w10.2)) else (fX5_perform x3 N4).bind (fun w11 => (fX6_isRefusal w11.1 w11.2).bind (fun w12 => (if w12.1 = (0 : Int32) then lX6_does_31 K5 n9 (x3 + (1 : Int32)) w12.2 else K5 x3 w12.2))))
def fX6_does (M : Mm) : Option (Int32 × Mm) := (fX2_read M).bind (fun w1 => (if w1.1 = (-1 : Int32) then (fX0_stage w1.2).bind (fun w2 => lX6_does_31 (fun (x6 : Int32) (N7 : Mm) => (fX0_restoreStaged N7).bind (fun w13 => (fX1_forget w13.2).bind (fun w14 => some (((-2000 : Int32) - x6), w14.2))))  fu (0 : Int32) w2.2) else some (((-10 : Int32) - w1.1), w1.2)))
def rmX6_does : Room := { frames := 6, cells := 0, slots := 0, locals := 138 }
theorem kX6_does : Kc yX6_does cX6_does 3 (some .int) wsX6_does 0 := ⟨⟨_, rfl⟩, by decide +kernel, by decide +kernel, by decide +kernel⟩
theorem ic_X6_does_X6 : ∀ w ∈ u_ws RX6 TX6 9, w ∈ wsX6_does := by decide +kernel
theorem fl_X6_does_51 : Fl wsX6_does RX6 51 6 5 := ⟨RX6, TX6, 9, rfl, by decide, ic_X6_does_X6, by decide +kernel⟩
theorem fl_X6_does_44 : Fl wsX6_does RX6 44 6 4 := ⟨RX6, TX6, 9, rfl, by decide, ic_X6_does_X6, by decide +kernel⟩
theorem fl_X6_does_12 : Fl wsX6_does RX6 12 6 0 := ⟨RX6, TX6, 9, rfl, by decide, ic_X6_does_X6, by decide +kernel⟩
theorem ic_X6_does_X2 : ∀ w ∈ u_ws RX2 TX2 6, w ∈ wsX6_does := by decide +kernel
theorem fl_X6_does_204 : Fl wsX6_does RX6 204 2 4 := ⟨RX2, TX2, 6, rfl, by decide, ic_X6_does_X2, by decide +kernel⟩
theorem fl_X6_does_37 : Fl wsX6_does RX6 37 6 3 := ⟨RX6, TX6, 9, rfl, by decide, ic_X6_does_X6, by decide +kernel⟩
theorem fl_X6_does_28 : Fl wsX6_does RX6 28 6 2 := ⟨RX6, TX6, 9, rfl, by decide, ic_X6_does_X6, by decide +kernel⟩
set_option maxHeartbeats 4000000 in
set_option maxRecDepth 100000 in
theorem mX6_does (l : Launch) (G : Gg) : Ci l G SC yX6_does wsX6_does rmX6_does [.ref (G.2.1 0)] fX6_does := by
  refine Ci.intro (lv := [(0, .ref (G.2.1 0))]) RX6 rfl (by decide) kX6_does (Nat.le_of_ble_eq_true rfl) rfl (fun X V M z F D hX hml E => ?_)
  unfold fX6_does
  refine j_aload_n F dX6_does_0 rfl 0 rfl ?_
  refine j_getr (r := 50) F D ce_0 fl_X6_does_51 rfl dX6_does_1 ?_
  refine j_callVi (As := []) F D hX (mX2_read l G) ce_50 rfl kX2_read rfl gX6_does_X2_read ⟨rfl, rfl⟩ ⟨Nat.le_of_ble_eq_true rfl, Nat.le_of_ble_eq_true rfl⟩ rfl (Nat.le_of_ble_eq_true rfl) rfl dX6_does_4 (fun w1 => ?_)
  refine j_istore_n (lv' := [(1, .int w1.1), (0, .ref (G.2.1 0))]) F dX6_does_7 rfl (by rw [← hml]; decide) rfl ?_
  refine j_iload_n F dX6_does_8 rfl 0 rfl ?_
  refine j_iconst (v := (-1 : Int32)) F dX6_does_9 (by decide) ?_
  refine j_icmp_eq (tgt := 18) F dX6_does_10 (by decide) ?_ ?_
  · refine j_aload_n F dX6_does_18 rfl 1 rfl ?_
    refine j_getr (r := 18) F D ce_0 fl_X6_does_44 rfl dX6_does_19 ?_
    refine j_aload_n F dX6_does_22 rfl 1 rfl ?_
    refine j_getr (r := 1) F D ce_0 fl_X6_does_12 rfl dX6_does_23 ?_
    refine j_callVv (As := [.ref (G.2.1 1)]) F D hX (mX0_stage l G) ce_18 rfl kX0_stage rfl gX6_does_X0_stage ⟨rfl, rfl⟩ ⟨Nat.le_of_ble_eq_true rfl, Nat.le_of_ble_eq_true rfl⟩ rfl (Nat.le_of_ble_eq_true rfl) rfl dX6_does_26 (fun w2 => ?_)
    refine j_iconst (v := (0 : Int32)) F dX6_does_29 (by decide) ?_
    refine j_istore_n (lv' := [(2, .int (0 : Int32)), (1, .int w1.1), (0, .ref (G.2.1 0))]) F dX6_does_30 rfl (by rw [← hml]; decide) rfl ?_
    have hL15 : ∀ (K5 : Int32 → Mm → Option (Int32 × Mm)) , (∀ (x6 : Int32) (N7 : Mm), Jg X V z (K5 x6 N7) N7 60 [(0, .ref (G.2.1 0)), (2, .int x6)] []) → ∀ (n9 : Nat) (x3 : Int32) (N4 : Mm), Jg X V z (lX6_does_31 K5 n9 x3 N4) N4 31 [(0, .ref (G.2.1 0)), (2, .int x3)] [] := by
      intro K5  hK5 n9
      induction n9 with
      | zero => intro x3 N4; rw [lX6_does_31]; exact j_none
      | succ n9 ih8 =>
        intro x3 N4
        rw [lX6_does_31]
        refine j_iload_n F dX6_does_31 rfl 1 rfl ?_
        refine j_aload_n F dX6_does_32 rfl 0 rfl ?_
        refine j_getr (r := 50) F D ce_0 fl_X6_does_51 rfl dX6_does_33 ?_
        refine j_geti F D ce_50 fl_X6_does_204 rfl dX6_does_36 ?_
        refine j_icmp_ge (tgt := 90) F dX6_does_39 (by decide) ?_ ?_
        · refine j_aload_n F dX6_does_90 rfl 0 rfl ?_
          refine j_getr (r := 18) F D ce_0 fl_X6_does_44 rfl dX6_does_91 ?_
          refine j_callVv (As := []) F D hX (mX0_keepStaged l G) ce_18 rfl kX0_keepStaged rfl gX6_does_X0_keepStaged ⟨rfl, rfl⟩ ⟨Nat.le_of_ble_eq_true rfl, Nat.le_of_ble_eq_true rfl⟩ rfl (Nat.le_of_ble_eq_true rfl) rfl dX6_does_94 (fun w10 => ?_)
          refine j_aload_n F dX6_does_97 rfl 0 rfl ?_
          refine j_getr (r := 50) F D ce_0 fl_X6_does_51 rfl dX6_does_98 ?_
          refine j_geti F D ce_50 fl_X6_does_204 rfl dX6_does_101 ?_
          exact j_iret F D E rfl dX6_does_104
        · refine j_aload_n F dX6_does_42 rfl 0 rfl ?_
          refine j_getr (r := 17) F D ce_0 fl_X6_does_37 rfl dX6_does_43 ?_
          refine j_aload_n F dX6_does_46 rfl 0 rfl ?_
          refine j_getr (r := 50) F D ce_0 fl_X6_does_51 rfl dX6_does_47 ?_
          refine j_iload_n F dX6_does_50 rfl 1 rfl ?_
          refine j_callVi (As := [.ref (G.2.1 50), .int x3]) F D hX (mX5_perform l G x3) ce_17 rfl kX5_perform rfl gX6_does_X5_perform ⟨rfl, rfl⟩ ⟨Nat.le_of_ble_eq_true rfl, Nat.le_of_ble_eq_true rfl⟩ rfl (Nat.le_of_ble_eq_true rfl) rfl dX6_does_51 (fun w11 => ?_)
          refine j_callSi (As := [.int w11.1]) F D hX (mX6_isRefusal l G w11.1) kX6_isRefusal gX6_does_X6_isRefusal ⟨rfl, rfl⟩ ⟨Nat.le_of_ble_eq_true rfl, Nat.le_of_ble_eq_true rfl⟩ rfl (Nat.le_of_ble_eq_true rfl) rfl dX6_does_54 (fun w12 => ?_)
          refine j_if_eq (tgt := 84) F dX6_does_57 (by decide) ?_ ?_
          · refine j_iinc (v := (x3 + (1 : Int32))) (lv' := [(2, .int (x3 + (1 : Int32))), (0, .ref (G.2.1 0))]) F dX6_does_84 1 rfl rfl (by rw [← hml]; decide) rfl ?_
            refine j_goto (tgt := 31) F dX6_does_87 (by decide) ?_
            exact j_sub [1, 0] rfl (ih8 (x3 + (1 : Int32)) w12.2)
          · exact j_sub [0, 1] rfl (hK5 x3 w12.2)
    refine j_sub [2, 0] rfl (hL15 _  ?_ fu (0 : Int32) w2.2)
    intro x6 N7
    refine j_aload_n F dX6_does_60 rfl 0 rfl ?_
    refine j_getr (r := 18) F D ce_0 fl_X6_does_44 rfl dX6_does_61 ?_
    refine j_aload_n F dX6_does_64 rfl 0 rfl ?_
    refine j_getr (r := 1) F D ce_0 fl_X6_does_12 rfl dX6_does_65 ?_
    refine j_callVv (As := [.ref (G.2.1 1)]) F D hX (mX0_restoreStaged l G) ce_18 rfl kX0_restoreStaged rfl gX6_does_X0_restoreStaged ⟨rfl, rfl⟩ ⟨Nat.le_of_ble_eq_true rfl, Nat.le_of_ble_eq_true rfl⟩ rfl (Nat.le_of_ble_eq_true rfl) rfl dX6_does_68 (fun w13 => ?_)
    refine j_aload_n F dX6_does_71 rfl 0 rfl ?_
    refine j_getr (r := 10) F D ce_0 fl_X6_does_28 rfl dX6_does_72 ?_
    refine j_callVv (As := []) F D hX (mX1_forget l G) ce_10 rfl kX1_forget rfl gX6_does_X1_forget ⟨rfl, rfl⟩ ⟨Nat.le_of_ble_eq_true rfl, Nat.le_of_ble_eq_true rfl⟩ rfl (Nat.le_of_ble_eq_true rfl) rfl dX6_does_75 (fun w14 => ?_)
    refine j_sipush (v := (-2000 : Int32)) F dX6_does_78 (by decide) ?_
    refine j_iload_n F dX6_does_81 rfl 1 rfl ?_
    refine j_isub F dX6_does_82 ?_
    exact j_iret F D E rfl dX6_does_83
  · refine j_bipush (v := (-10 : Int32)) F dX6_does_13 (by decide) ?_
    refine j_iload_n F dX6_does_15 rfl 0 rfl ?_
    refine j_isub F dX6_does_16 ?_
    exact j_iret F D E rfl dX6_does_17

/-! FlangeFolder.back -/
def fX6_back (M : Mm) : Option (Int32 × Mm) := (if (M.1 18 2) = (0 : Int32) then (fX6_refused (-1002 : Int32) M).bind (fun w3 => some (w3.1, w3.2)) else (fX0_restoreLast M).bind (fun w1 => (fX1_forget w1.2).bind (fun w2 => some ((w2.2.1 18 2), w2.2))))
def rmX6_back : Room := { frames := 3, cells := 0, slots := 0, locals := 102 }
theorem kX6_back : Kc yX6_back cX6_back 1 (some .int) wsX6_back 0 := ⟨⟨_, rfl⟩, by decide +kernel, by decide +kernel, by decide +kernel⟩
theorem ic_X6_back_X6 : ∀ w ∈ u_ws RX6 TX6 9, w ∈ wsX6_back := by decide +kernel
theorem fl_X6_back_44 : Fl wsX6_back RX6 44 6 4 := ⟨RX6, TX6, 9, rfl, by decide, ic_X6_back_X6, by decide +kernel⟩
theorem ic_X6_back_X0 : ∀ w ∈ u_ws RX0 TX0 3, w ∈ wsX6_back := by decide +kernel
theorem fl_X6_back_221 : Fl wsX6_back RX6 221 0 2 := ⟨RX0, TX0, 3, rfl, by decide, ic_X6_back_X0, by decide +kernel⟩
theorem fl_X6_back_12 : Fl wsX6_back RX6 12 6 0 := ⟨RX6, TX6, 9, rfl, by decide, ic_X6_back_X6, by decide +kernel⟩
theorem fl_X6_back_28 : Fl wsX6_back RX6 28 6 2 := ⟨RX6, TX6, 9, rfl, by decide, ic_X6_back_X6, by decide +kernel⟩
set_option maxHeartbeats 4000000 in
set_option maxRecDepth 100000 in
theorem mX6_back (l : Launch) (G : Gg) : Ci l G SC yX6_back wsX6_back rmX6_back [.ref (G.2.1 0)] fX6_back := by
  refine Ci.intro (lv := [(0, .ref (G.2.1 0))]) RX6 rfl (by decide) kX6_back (Nat.le_of_ble_eq_true rfl) rfl (fun X V M z F D hX hml E => ?_)
  unfold fX6_back
  refine j_aload_n F dX6_back_0 rfl 0 rfl ?_
  refine j_getr (r := 18) F D ce_0 fl_X6_back_44 rfl dX6_back_1 ?_
  refine j_geti F D ce_18 fl_X6_back_221 rfl dX6_back_4 ?_
  refine j_if_ne (tgt := 18) F dX6_back_7 (by decide) ?_ ?_
  · refine j_aload_n F dX6_back_18 rfl 0 rfl ?_
    refine j_getr (r := 18) F D ce_0 fl_X6_back_44 rfl dX6_back_19 ?_
    refine j_aload_n F dX6_back_22 rfl 0 rfl ?_
    refine j_getr (r := 1) F D ce_0 fl_X6_back_12 rfl dX6_back_23 ?_
    refine j_callVv (As := [.ref (G.2.1 1)]) F D hX (mX0_restoreLast l G) ce_18 rfl kX0_restoreLast rfl gX6_back_X0_restoreLast ⟨rfl, rfl⟩ ⟨Nat.le_of_ble_eq_true rfl, Nat.le_of_ble_eq_true rfl⟩ rfl (Nat.le_of_ble_eq_true rfl) rfl dX6_back_26 (fun w1 => ?_)
    refine j_aload_n F dX6_back_29 rfl 0 rfl ?_
    refine j_getr (r := 10) F D ce_0 fl_X6_back_28 rfl dX6_back_30 ?_
    refine j_callVv (As := []) F D hX (mX1_forget l G) ce_10 rfl kX1_forget rfl gX6_back_X1_forget ⟨rfl, rfl⟩ ⟨Nat.le_of_ble_eq_true rfl, Nat.le_of_ble_eq_true rfl⟩ rfl (Nat.le_of_ble_eq_true rfl) rfl dX6_back_33 (fun w2 => ?_)
    refine j_aload_n F dX6_back_36 rfl 0 rfl ?_
    refine j_getr (r := 18) F D ce_0 fl_X6_back_44 rfl dX6_back_37 ?_
    refine j_geti F D ce_18 fl_X6_back_221 rfl dX6_back_40 ?_
    exact j_iret F D E rfl dX6_back_43
  · refine j_aload_n F dX6_back_10 rfl 0 rfl ?_
    refine j_sipush (v := (-1002 : Int32)) F dX6_back_11 (by decide) ?_
    refine j_callVi (As := [.int (-1002 : Int32)]) F D hX (mX6_refused l G (-1002 : Int32)) ce_0 rfl kX6_refused rfl gX6_back_X6_refused ⟨rfl, rfl⟩ ⟨Nat.le_of_ble_eq_true rfl, Nat.le_of_ble_eq_true rfl⟩ rfl (Nat.le_of_ble_eq_true rfl) rfl dX6_back_14 (fun w3 => ?_)
    exact j_iret F D E rfl dX6_back_17

/-! FlangeFolder.told -/
def fX6_told (a0 : Int32) (M : Mm) : Option (Int32 × Mm) := (if a0 = (0 : Int32) then some ((M.1 0 6), M) else (if a0 = (1 : Int32) then some ((M.1 0 7), M) else (if a0 = (2 : Int32) then some ((M.1 0 8), M) else (if a0 = (3 : Int32) then some ((M.1 50 3), M) else (if a0 = (4 : Int32) then some ((M.1 18 2), M) else (fX6_refused (-1001 : Int32) M).bind (fun w6 => some (w6.1, w6.2)))))))
def rmX6_told : Room := { frames := 1, cells := 0, slots := 0, locals := 21 }
theorem kX6_told : Kc yX6_told cX6_told 2 (some .int) wsX6_told 1 := ⟨⟨_, rfl⟩, by decide +kernel, by decide +kernel, by decide +kernel⟩
theorem ic_X6_told_X6 : ∀ w ∈ u_ws RX6 TX6 9, w ∈ wsX6_told := by decide +kernel
theorem fl_X6_told_55 : Fl wsX6_told RX6 55 6 6 := ⟨RX6, TX6, 9, rfl, by decide, ic_X6_told_X6, by decide +kernel⟩
theorem fl_X6_told_59 : Fl wsX6_told RX6 59 6 7 := ⟨RX6, TX6, 9, rfl, by decide, ic_X6_told_X6, by decide +kernel⟩
theorem fl_X6_told_62 : Fl wsX6_told RX6 62 6 8 := ⟨RX6, TX6, 9, rfl, by decide, ic_X6_told_X6, by decide +kernel⟩
theorem fl_X6_told_51 : Fl wsX6_told RX6 51 6 5 := ⟨RX6, TX6, 9, rfl, by decide, ic_X6_told_X6, by decide +kernel⟩
theorem ic_X6_told_X2 : ∀ w ∈ u_ws RX2 TX2 6, w ∈ wsX6_told := by decide +kernel
theorem fl_X6_told_194 : Fl wsX6_told RX6 194 2 3 := ⟨RX2, TX2, 6, rfl, by decide, ic_X6_told_X2, by decide +kernel⟩
theorem fl_X6_told_44 : Fl wsX6_told RX6 44 6 4 := ⟨RX6, TX6, 9, rfl, by decide, ic_X6_told_X6, by decide +kernel⟩
theorem ic_X6_told_X0 : ∀ w ∈ u_ws RX0 TX0 3, w ∈ wsX6_told := by decide +kernel
theorem fl_X6_told_221 : Fl wsX6_told RX6 221 0 2 := ⟨RX0, TX0, 3, rfl, by decide, ic_X6_told_X0, by decide +kernel⟩
set_option maxHeartbeats 4000000 in
set_option maxRecDepth 100000 in
theorem mX6_told (l : Launch) (G : Gg) (a0 : Int32) : Ci l G SC yX6_told wsX6_told rmX6_told [.ref (G.2.1 0), .int a0] (fX6_told a0) := by
  refine Ci.intro (lv := [(0, .ref (G.2.1 0)), (1, .int a0)]) RX6 rfl (by decide) kX6_told (Nat.le_of_ble_eq_true rfl) rfl (fun X V M z F D hX hml E => ?_)
  unfold fX6_told
  refine j_iload_n F dX6_told_0 rfl 1 rfl ?_
  refine j_ite (fun h1 => ?_) (fun h1 => ?_)
  · refine j_tsw F dX6_told_1 (by decide) 36 (by rw [h1]; decide) ?_
    refine j_aload_n F dX6_told_36 rfl 0 rfl ?_
    refine j_geti F D ce_0 fl_X6_told_55 rfl dX6_told_37 ?_
    exact j_iret F D E rfl dX6_told_40
  · refine j_ite (fun h2 => ?_) (fun h2 => ?_)
    · refine j_tsw F dX6_told_1 (by decide) 41 (by rw [h2]; decide) ?_
      refine j_aload_n F dX6_told_41 rfl 0 rfl ?_
      refine j_geti F D ce_0 fl_X6_told_59 rfl dX6_told_42 ?_
      exact j_iret F D E rfl dX6_told_45
    · refine j_ite (fun h3 => ?_) (fun h3 => ?_)
      · refine j_tsw F dX6_told_1 (by decide) 46 (by rw [h3]; decide) ?_
        refine j_aload_n F dX6_told_46 rfl 0 rfl ?_
        refine j_geti F D ce_0 fl_X6_told_62 rfl dX6_told_47 ?_
        exact j_iret F D E rfl dX6_told_50
      · refine j_ite (fun h4 => ?_) (fun h4 => ?_)
        · refine j_tsw F dX6_told_1 (by decide) 51 (by rw [h4]; decide) ?_
          refine j_aload_n F dX6_told_51 rfl 0 rfl ?_
          refine j_getr (r := 50) F D ce_0 fl_X6_told_51 rfl dX6_told_52 ?_
          refine j_geti F D ce_50 fl_X6_told_194 rfl dX6_told_55 ?_
          exact j_iret F D E rfl dX6_told_58
        · refine j_ite (fun h5 => ?_) (fun h5 => ?_)
          · refine j_tsw F dX6_told_1 (by decide) 59 (by rw [h5]; decide) ?_
            refine j_aload_n F dX6_told_59 rfl 0 rfl ?_
            refine j_getr (r := 18) F D ce_0 fl_X6_told_44 rfl dX6_told_60 ?_
            refine j_geti F D ce_18 fl_X6_told_221 rfl dX6_told_63 ?_
            exact j_iret F D E rfl dX6_told_66
          · refine j_tsw F dX6_told_1 (by decide) 67 (tsw_d [0, 1, 2, 3, 4] (by decide) (by decide) (by simp only [List.mem_cons, List.not_mem_nil, or_false, not_or]; exact ⟨toInt_ne (by decide) h1, toInt_ne (by decide) h2, toInt_ne (by decide) h3, toInt_ne (by decide) h4, toInt_ne (by decide) h5⟩)) ?_
            refine j_aload_n F dX6_told_67 rfl 0 rfl ?_
            refine j_sipush (v := (-1001 : Int32)) F dX6_told_68 (by decide) ?_
            refine j_callVi (As := [.int (-1001 : Int32)]) F D hX (mX6_refused l G (-1001 : Int32)) ce_0 rfl kX6_refused rfl gX6_told_X6_refused ⟨rfl, rfl⟩ ⟨Nat.le_of_ble_eq_true rfl, Nat.le_of_ble_eq_true rfl⟩ rfl (Nat.le_of_ble_eq_true rfl) rfl dX6_told_71 (fun w6 => ?_)
            exact j_iret F D E rfl dX6_told_74

/-! FlangeFolder.digest -/
def lX6_digest_6 (K5 : Int64 → Mm → Option (Int64 × Mm))  : Nat → Int64 → Int32 → Mm → Option (Int64 × Mm)
  | 0, _, _, _ => none
  | n9 + 1, x2, x3, N4 => (if (4 : Int32) < x3 then K5 x2 N4 else (fX6_told x3 N4).bind (fun w10 => lt (((31 : Int64) * x2) + (w10.1).toInt64) (fun x11 => lX6_digest_6 K5 n9 x11 (x3 + (1 : Int32)) w10.2)))
def lX6_digest_32 (K15 : Int64 → Mm → Option (Int64 × Mm))  : Nat → Int64 → Int32 → Mm → Option (Int64 × Mm)
  | 0, _, _, _ => none
  | n19 + 1, x12, x13, N14 => (if (10 : Int32) < x13 then K15 x12 N14 else (fX6_count x13 N14).bind (fun w20 => lt (((31 : Int64) * x12) + (w20.1).toInt64) (fun x21 => lX6_digest_32 K15 n19 x21 (x13 + (1 : Int32)) w20.2)))
def lX6_digest_90 (K36 : Int64 → Mm → Option (Int64 × Mm)) (c33 : Int32) : Nat → Int64 → Int32 → Mm → Option (Int64 × Mm)
  | 0, _, _, _ => none
  | n40 + 1, x32, x34, N35 => (if (3 : Int32) < x34 then K36 x32 N35 else (fX6_of c33 x34 N35).bind (fun w41 => lt (((31 : Int64) * x32) + (w41.1).toInt64) (fun x42 => lX6_digest_90 K36 c33 n40 x42 (x34 + (1 : Int32)) w41.2)))
def lX6_digest_76 (K27 : Int64 → Mm → Option (Int64 × Mm))  : Nat → Int64 → Int32 → Mm → Option (Int64 × Mm)
  | 0, _, _, _ => none
  | n31 + 1, x24, x25, N26 => (if (N26.1 1 4) ≤ x25 then K27 x24 N26 else lX6_digest_90 (fun (x37 : Int64) (N38 : Mm) => lX6_digest_76 K27 n31 x37 (x25 + (1 : Int32)) N38) x25 fu x24 (0 : Int32) N26)
def lX6_digest_125 (K47 : Int64 → Mm → Option (Int64 × Mm))  : Nat → Int64 → Int32 → Mm → Option (Int64 × Mm)
  | 0, _, _, _ => none
  | n51 + 1, x44, x45, N46 => (if ((N46.1 1 4) + (1 : Int32)) < x45 then K47 x44 N46 else (fX6_joint x45 (0 : Int32) N46).bind (fun w52 => lt (((31 : Int64) * x44) + (w52.1).toInt64) (fun x53 => (fX6_joint x45 (1 : Int32) w52.2).bind (fun w54 => lt (((31 : Int64) * x53) + (w54.1).toInt64) (fun x55 => lX6_digest_125 K47 n51 x55 (x45 + (1 : Int32)) w54.2)))))
def lX6_digest_174 (K59 : Int64 → Mm → Option (Int64 × Mm))  : Nat → Int64 → Int32 → Mm → Option (Int64 × Mm)
  | 0, _, _, _ => none
  | n63 + 1, x56, x57, N58 => (if (3 : Int32) < x57 then K59 x56 N58 else (fX6_box x57 N58).bind (fun w64 => lt (((31 : Int64) * x56) + (w64.1).toInt64) (fun x65 => lX6_digest_174 K59 n63 x65 (x57 + (1 : Int32)) w64.2)))
def fX6_digest (M : Mm) : Option (Int64 × Mm) := lt (2934 : Int64) (fun x1 => lX6_digest_6 (fun (x6 : Int64) (N7 : Mm) => lX6_digest_32 (fun (x16 : Int64) (N17 : Mm) => (rd N17 2 7 (0 : Int32)).bind (fun v22 => lt (((31 : Int64) * x16) + (v22).toInt64) (fun x23 => lX6_digest_76 (fun (x28 : Int64) (N29 : Mm) => lX6_digest_125 (fun (x48 : Int64) (N49 : Mm) => lX6_digest_174 (fun (x60 : Int64) (N61 : Mm) => (fX1_plan N61).bind (fun w66 => (fX1_freeAt (w66.2.1 1 5) w66.2).bind (fun w67 => lt (((31 : Int64) * x60) + (w67.1).toInt64) (fun x68 => lt (((31 : Int64) * x68) + ((w67.2.1 10 9)).toInt64) (fun x69 => lt (((31 : Int64) * x69) + ((w67.2.1 10 11)).toInt64) (fun x70 => lt (((31 : Int64) * x70) + ((w67.2.1 10 10)).toInt64) (fun x71 => (fX1_pathsFrom (w67.2.1 1 5) w67.2).bind (fun w72 => some ((((31 : Int64) * x71) + (w72.1).toInt64), w72.2)))))))))  fu x48 (0 : Int32) N49)  fu x28 (0 : Int32) N29)  fu x23 (0 : Int32) N17)))  fu x6 (0 : Int32) N7)  fu x1 (0 : Int32) M)
def rmX6_digest : Room := { frames := 6, cells := 0, slots := 0, locals := 138 }
theorem kX6_digest : Kc yX6_digest cX6_digest 5 (some .long) wsX6_digest 0 := ⟨⟨_, rfl⟩, by decide +kernel, by decide +kernel, by decide +kernel⟩
theorem kc_X6_digest_227 : Cond.constantLong RX6 227 (2934) ∈ wsX6_digest := by decide +kernel
theorem kc_X6_digest_229 : Cond.constantLong RX6 229 (31) ∈ wsX6_digest := by decide +kernel
theorem ic_X6_digest_X6 : ∀ w ∈ u_ws RX6 TX6 9, w ∈ wsX6_digest := by decide +kernel
theorem fl_X6_digest_12 : Fl wsX6_digest RX6 12 6 0 := ⟨RX6, TX6, 9, rfl, by decide, ic_X6_digest_X6, by decide +kernel⟩
theorem ic_X6_digest_X4 : ∀ w ∈ u_ws RX4 TX4 8, w ∈ wsX6_digest := by decide +kernel
theorem fl_X6_digest_104 : Fl wsX6_digest RX6 104 4 0 := ⟨RX4, TX4, 8, rfl, by decide, ic_X6_digest_X4, by decide +kernel⟩
theorem fl_X6_digest_117 : Fl wsX6_digest RX6 117 4 4 := ⟨RX4, TX4, 8, rfl, by decide, ic_X6_digest_X4, by decide +kernel⟩
theorem fl_X6_digest_28 : Fl wsX6_digest RX6 28 6 2 := ⟨RX6, TX6, 9, rfl, by decide, ic_X6_digest_X6, by decide +kernel⟩
theorem fl_X6_digest_124 : Fl wsX6_digest RX6 124 4 5 := ⟨RX4, TX4, 8, rfl, by decide, ic_X6_digest_X4, by decide +kernel⟩
theorem ic_X6_digest_X1 : ∀ w ∈ u_ws RX1 TX1 12, w ∈ wsX6_digest := by decide +kernel
theorem fl_X6_digest_153 : Fl wsX6_digest RX6 153 1 9 := ⟨RX1, TX1, 12, rfl, by decide, ic_X6_digest_X1, by decide +kernel⟩
theorem fl_X6_digest_162 : Fl wsX6_digest RX6 162 1 11 := ⟨RX1, TX1, 12, rfl, by decide, ic_X6_digest_X1, by decide +kernel⟩
theorem fl_X6_digest_165 : Fl wsX6_digest RX6 165 1 10 := ⟨RX1, TX1, 12, rfl, by decide, ic_X6_digest_X1, by decide +kernel⟩
set_option maxHeartbeats 4000000 in
set_option maxRecDepth 100000 in
theorem mX6_digest (l : Launch) (G : Gg) : Cl l G SC yX6_digest wsX6_digest rmX6_digest [.ref (G.2.1 0)] fX6_digest := by
  refine Cl.intro (lv := [(0, .ref (G.2.1 0))]) RX6 rfl (by decide) kX6_digest (Nat.le_of_ble_eq_true rfl) rfl (fun X V M z F D hX hml E => ?_)
  unfold fX6_digest
  refine j_ldc2 (v := (2934 : Int64)) F kc_X6_digest_227 dX6_digest_0 ?_
  refine j_let (f := Value.long) (fun x1 => ?_)
  refine j_lstore_n (lv' := [(1, .long x1), (0, .ref (G.2.1 0))]) F dX6_digest_3 rfl (by rw [← hml]; decide) rfl ?_
  refine j_iconst (v := (0 : Int32)) F dX6_digest_4 (by decide) ?_
  refine j_istore_n (lv' := [(3, .int (0 : Int32)), (1, .long x1), (0, .ref (G.2.1 0))]) F dX6_digest_5 rfl (by rw [← hml]; decide) rfl ?_
  have hL77 : ∀ (K5 : Int64 → Mm → Option (Int64 × Mm)) , (∀ (x6 : Int64) (N7 : Mm), Jg X V z (K5 x6 N7) N7 30 [(0, .ref (G.2.1 0)), (1, .long x6)] []) → ∀ (n9 : Nat) (x2 : Int64) (x3 : Int32) (N4 : Mm), Jg X V z (lX6_digest_6 K5 n9 x2 x3 N4) N4 6 [(0, .ref (G.2.1 0)), (1, .long x2), (3, .int x3)] [] := by
    intro K5  hK5 n9
    induction n9 with
    | zero => intro x2 x3 N4; rw [lX6_digest_6]; exact j_none
    | succ n9 ih8 =>
      intro x2 x3 N4
      rw [lX6_digest_6]
      refine j_iload_n F dX6_digest_6 rfl 2 rfl ?_
      refine j_iconst (v := (4 : Int32)) F dX6_digest_7 (by decide) ?_
      refine j_icmp_gt (tgt := 30) F dX6_digest_8 (by decide) ?_ ?_
      · exact j_sub [0, 1] rfl (hK5 x2 N4)
      · refine j_ldc2 (v := (31 : Int64)) F kc_X6_digest_229 dX6_digest_11 ?_
        refine j_lload_n F dX6_digest_14 rfl 1 rfl ?_
        refine j_lmul F dX6_digest_15 ?_
        refine j_aload_n F dX6_digest_16 rfl 0 rfl ?_
        refine j_iload_n F dX6_digest_17 rfl 2 rfl ?_
        refine j_callVi (As := [.int x3]) F D hX (mX6_told l G x3) ce_0 rfl kX6_told rfl gX6_digest_X6_told ⟨rfl, rfl⟩ ⟨Nat.le_of_ble_eq_true rfl, Nat.le_of_ble_eq_true rfl⟩ rfl (Nat.le_of_ble_eq_true rfl) rfl dX6_digest_18 (fun w10 => ?_)
        refine j_i2l F dX6_digest_21 ?_
        refine j_ladd F dX6_digest_22 ?_
        refine j_let (f := Value.long) (fun x11 => ?_)
        refine j_lstore_n (lv' := [(1, .long x11), (0, .ref (G.2.1 0)), (3, .int x3)]) F dX6_digest_23 rfl (by rw [← hml]; decide) rfl ?_
        refine j_iinc (v := (x3 + (1 : Int32))) (lv' := [(3, .int (x3 + (1 : Int32))), (1, .long x11), (0, .ref (G.2.1 0))]) F dX6_digest_24 2 rfl rfl (by rw [← hml]; decide) rfl ?_
        refine j_goto (tgt := 6) F dX6_digest_27 (by decide) ?_
        exact j_sub [2, 1, 0] rfl (ih8 x11 (x3 + (1 : Int32)) w10.2)
  refine j_sub [2, 1, 0] rfl (hL77 _  ?_ fu x1 (0 : Int32) M)
  intro x6 N7
  refine j_iconst (v := (0 : Int32)) F dX6_digest_30 (by decide) ?_
  refine j_istore_n (lv' := [(3, .int (0 : Int32)), (0, .ref (G.2.1 0)), (1, .long x6)]) F dX6_digest_31 rfl (by rw [← hml]; decide) rfl ?_
  have hL76 : ∀ (K15 : Int64 → Mm → Option (Int64 × Mm)) , (∀ (x16 : Int64) (N17 : Mm), Jg X V z (K15 x16 N17) N17 57 [(0, .ref (G.2.1 0)), (1, .long x16)] []) → ∀ (n19 : Nat) (x12 : Int64) (x13 : Int32) (N14 : Mm), Jg X V z (lX6_digest_32 K15 n19 x12 x13 N14) N14 32 [(0, .ref (G.2.1 0)), (1, .long x12), (3, .int x13)] [] := by
    intro K15  hK15 n19
    induction n19 with
    | zero => intro x12 x13 N14; rw [lX6_digest_32]; exact j_none
    | succ n19 ih18 =>
      intro x12 x13 N14
      rw [lX6_digest_32]
      refine j_iload_n F dX6_digest_32 rfl 2 rfl ?_
      refine j_bipush (v := (10 : Int32)) F dX6_digest_33 (by decide) ?_
      refine j_icmp_gt (tgt := 57) F dX6_digest_35 (by decide) ?_ ?_
      · exact j_sub [0, 1] rfl (hK15 x12 N14)
      · refine j_ldc2 (v := (31 : Int64)) F kc_X6_digest_229 dX6_digest_38 ?_
        refine j_lload_n F dX6_digest_41 rfl 1 rfl ?_
        refine j_lmul F dX6_digest_42 ?_
        refine j_aload_n F dX6_digest_43 rfl 0 rfl ?_
        refine j_iload_n F dX6_digest_44 rfl 2 rfl ?_
        refine j_callVi (As := [.int x13]) F D hX (mX6_count l G x13) ce_0 rfl kX6_count rfl gX6_digest_X6_count ⟨rfl, rfl⟩ ⟨Nat.le_of_ble_eq_true rfl, Nat.le_of_ble_eq_true rfl⟩ rfl (Nat.le_of_ble_eq_true rfl) rfl dX6_digest_45 (fun w20 => ?_)
        refine j_i2l F dX6_digest_48 ?_
        refine j_ladd F dX6_digest_49 ?_
        refine j_let (f := Value.long) (fun x21 => ?_)
        refine j_lstore_n (lv' := [(1, .long x21), (0, .ref (G.2.1 0)), (3, .int x13)]) F dX6_digest_50 rfl (by rw [← hml]; decide) rfl ?_
        refine j_iinc (v := (x13 + (1 : Int32))) (lv' := [(3, .int (x13 + (1 : Int32))), (1, .long x21), (0, .ref (G.2.1 0))]) F dX6_digest_51 2 rfl rfl (by rw [← hml]; decide) rfl ?_
        refine j_goto (tgt := 32) F dX6_digest_54 (by decide) ?_
        exact j_sub [2, 1, 0] rfl (ih18 x21 (x13 + (1 : Int32)) w20.2)
  refine j_sub [1, 2, 0] rfl (hL76 _  ?_ fu x6 (0 : Int32) N7)
  intro x16 N17
  refine j_ldc2 (v := (31 : Int64)) F kc_X6_digest_229 dX6_digest_57 ?_
  refine j_lload_n F dX6_digest_60 rfl 1 rfl ?_
  refine j_lmul F dX6_digest_61 ?_
  refine j_aload_n F dX6_digest_62 rfl 0 rfl ?_
  refine j_getr (r := 1) F D ce_0 fl_X6_digest_12 rfl dX6_digest_63 ?_
  refine j_getr (r := 2) F D ce_1 fl_X6_digest_104 rfl dX6_digest_66 ?_
  refine j_iconst (v := (0 : Int32)) F dX6_digest_69 (by decide) ?_
  refine j_iald F D ce_2 dX6_digest_70 (fun v22 => ?_)
  refine j_i2l F dX6_digest_71 ?_
  refine j_ladd F dX6_digest_72 ?_
  refine j_let (f := Value.long) (fun x23 => ?_)
  refine j_lstore_n (lv' := [(1, .long x23), (0, .ref (G.2.1 0))]) F dX6_digest_73 rfl (by rw [← hml]; decide) rfl ?_
  refine j_iconst (v := (0 : Int32)) F dX6_digest_74 (by decide) ?_
  refine j_istore_n (lv' := [(3, .int (0 : Int32)), (1, .long x23), (0, .ref (G.2.1 0))]) F dX6_digest_75 rfl (by rw [← hml]; decide) rfl ?_
  have hL75 : ∀ (K27 : Int64 → Mm → Option (Int64 × Mm)) , (∀ (x28 : Int64) (N29 : Mm), Jg X V z (K27 x28 N29) N29 123 [(0, .ref (G.2.1 0)), (1, .long x28)] []) → ∀ (n31 : Nat) (x24 : Int64) (x25 : Int32) (N26 : Mm), Jg X V z (lX6_digest_76 K27 n31 x24 x25 N26) N26 76 [(0, .ref (G.2.1 0)), (1, .long x24), (3, .int x25)] [] := by
    intro K27  hK27 n31
    induction n31 with
    | zero => intro x24 x25 N26; rw [lX6_digest_76]; exact j_none
    | succ n31 ih30 =>
      intro x24 x25 N26
      rw [lX6_digest_76]
      refine j_iload_n F dX6_digest_76 rfl 2 rfl ?_
      refine j_aload_n F dX6_digest_77 rfl 0 rfl ?_
      refine j_getr (r := 1) F D ce_0 fl_X6_digest_12 rfl dX6_digest_78 ?_
      refine j_geti F D ce_1 fl_X6_digest_117 rfl dX6_digest_81 ?_
      refine j_icmp_ge (tgt := 123) F dX6_digest_84 (by decide) ?_ ?_
      · exact j_sub [0, 1] rfl (hK27 x24 N26)
      · refine j_iconst (v := (0 : Int32)) F dX6_digest_87 (by decide) ?_
        refine j_istore (lv' := [(4, .int (0 : Int32)), (0, .ref (G.2.1 0)), (1, .long x24), (3, .int x25)]) F dX6_digest_88 (by rw [← hml]; decide) rfl ?_
        have hL43 : ∀ (K36 : Int64 → Mm → Option (Int64 × Mm)) (c33 : Int32), (∀ (x37 : Int64) (N38 : Mm), Jg X V z (K36 x37 N38) N38 117 [(0, .ref (G.2.1 0)), (1, .long x37), (3, .int c33)] []) → ∀ (n40 : Nat) (x32 : Int64) (x34 : Int32) (N35 : Mm), Jg X V z (lX6_digest_90 K36 c33 n40 x32 x34 N35) N35 90 [(0, .ref (G.2.1 0)), (1, .long x32), (3, .int c33), (4, .int x34)] [] := by
          intro K36 c33 hK36 n40
          induction n40 with
          | zero => intro x32 x34 N35; rw [lX6_digest_90]; exact j_none
          | succ n40 ih39 =>
            intro x32 x34 N35
            rw [lX6_digest_90]
            refine j_iload F dX6_digest_90 3 rfl ?_
            refine j_iconst (v := (3 : Int32)) F dX6_digest_92 (by decide) ?_
            refine j_icmp_gt (tgt := 117) F dX6_digest_93 (by decide) ?_ ?_
            · exact j_sub [0, 1, 2] rfl (hK36 x32 N35)
            · refine j_ldc2 (v := (31 : Int64)) F kc_X6_digest_229 dX6_digest_96 ?_
              refine j_lload_n F dX6_digest_99 rfl 1 rfl ?_
              refine j_lmul F dX6_digest_100 ?_
              refine j_aload_n F dX6_digest_101 rfl 0 rfl ?_
              refine j_iload_n F dX6_digest_102 rfl 2 rfl ?_
              refine j_iload F dX6_digest_103 3 rfl ?_
              refine j_callVi (As := [.int c33, .int x34]) F D hX (mX6_of l G c33 x34) ce_0 rfl kX6_of rfl gX6_digest_X6_of ⟨rfl, rfl⟩ ⟨Nat.le_of_ble_eq_true rfl, Nat.le_of_ble_eq_true rfl⟩ rfl (Nat.le_of_ble_eq_true rfl) rfl dX6_digest_105 (fun w41 => ?_)
              refine j_i2l F dX6_digest_108 ?_
              refine j_ladd F dX6_digest_109 ?_
              refine j_let (f := Value.long) (fun x42 => ?_)
              refine j_lstore_n (lv' := [(1, .long x42), (0, .ref (G.2.1 0)), (3, .int c33), (4, .int x34)]) F dX6_digest_110 rfl (by rw [← hml]; decide) rfl ?_
              refine j_iinc (v := (x34 + (1 : Int32))) (lv' := [(4, .int (x34 + (1 : Int32))), (1, .long x42), (0, .ref (G.2.1 0)), (3, .int c33)]) F dX6_digest_111 3 rfl rfl (by rw [← hml]; decide) rfl ?_
              refine j_goto (tgt := 90) F dX6_digest_114 (by decide) ?_
              exact j_sub [2, 1, 3, 0] rfl (ih39 x42 (x34 + (1 : Int32)) w41.2)
        refine j_sub [1, 2, 3, 0] rfl (hL43 _ x25 ?_ fu x24 (0 : Int32) N26)
        intro x37 N38
        refine j_iinc (v := (x25 + (1 : Int32))) (lv' := [(3, .int (x25 + (1 : Int32))), (0, .ref (G.2.1 0)), (1, .long x37)]) F dX6_digest_117 2 rfl rfl (by rw [← hml]; decide) rfl ?_
        refine j_goto (tgt := 76) F dX6_digest_120 (by decide) ?_
        exact j_sub [1, 2, 0] rfl (ih30 x37 (x25 + (1 : Int32)) N38)
  refine j_sub [2, 1, 0] rfl (hL75 _  ?_ fu x23 (0 : Int32) N17)
  intro x28 N29
  refine j_iconst (v := (0 : Int32)) F dX6_digest_123 (by decide) ?_
  refine j_istore_n (lv' := [(3, .int (0 : Int32)), (0, .ref (G.2.1 0)), (1, .long x28)]) F dX6_digest_124 rfl (by rw [← hml]; decide) rfl ?_
  have hL74 : ∀ (K47 : Int64 → Mm → Option (Int64 × Mm)) , (∀ (x48 : Int64) (N49 : Mm), Jg X V z (K47 x48 N49) N49 172 [(0, .ref (G.2.1 0)), (1, .long x48)] []) → ∀ (n51 : Nat) (x44 : Int64) (x45 : Int32) (N46 : Mm), Jg X V z (lX6_digest_125 K47 n51 x44 x45 N46) N46 125 [(0, .ref (G.2.1 0)), (1, .long x44), (3, .int x45)] [] := by
    intro K47  hK47 n51
    induction n51 with
    | zero => intro x44 x45 N46; rw [lX6_digest_125]; exact j_none
    | succ n51 ih50 =>
      intro x44 x45 N46
      rw [lX6_digest_125]
      refine j_iload_n F dX6_digest_125 rfl 2 rfl ?_
      refine j_aload_n F dX6_digest_126 rfl 0 rfl ?_
      refine j_getr (r := 1) F D ce_0 fl_X6_digest_12 rfl dX6_digest_127 ?_
      refine j_geti F D ce_1 fl_X6_digest_117 rfl dX6_digest_130 ?_
      refine j_iconst (v := (1 : Int32)) F dX6_digest_133 (by decide) ?_
      refine j_iadd F dX6_digest_134 ?_
      refine j_icmp_gt (tgt := 172) F dX6_digest_135 (by decide) ?_ ?_
      · exact j_sub [0, 1] rfl (hK47 x44 N46)
      · refine j_ldc2 (v := (31 : Int64)) F kc_X6_digest_229 dX6_digest_138 ?_
        refine j_lload_n F dX6_digest_141 rfl 1 rfl ?_
        refine j_lmul F dX6_digest_142 ?_
        refine j_aload_n F dX6_digest_143 rfl 0 rfl ?_
        refine j_iload_n F dX6_digest_144 rfl 2 rfl ?_
        refine j_iconst (v := (0 : Int32)) F dX6_digest_145 (by decide) ?_
        refine j_callVi (As := [.int x45, .int (0 : Int32)]) F D hX (mX6_joint l G x45 (0 : Int32)) ce_0 rfl kX6_joint rfl gX6_digest_X6_joint ⟨rfl, rfl⟩ ⟨Nat.le_of_ble_eq_true rfl, Nat.le_of_ble_eq_true rfl⟩ rfl (Nat.le_of_ble_eq_true rfl) rfl dX6_digest_146 (fun w52 => ?_)
        refine j_i2l F dX6_digest_149 ?_
        refine j_ladd F dX6_digest_150 ?_
        refine j_let (f := Value.long) (fun x53 => ?_)
        refine j_lstore_n (lv' := [(1, .long x53), (0, .ref (G.2.1 0)), (3, .int x45)]) F dX6_digest_151 rfl (by rw [← hml]; decide) rfl ?_
        refine j_ldc2 (v := (31 : Int64)) F kc_X6_digest_229 dX6_digest_152 ?_
        refine j_lload_n F dX6_digest_155 rfl 0 rfl ?_
        refine j_lmul F dX6_digest_156 ?_
        refine j_aload_n F dX6_digest_157 rfl 1 rfl ?_
        refine j_iload_n F dX6_digest_158 rfl 2 rfl ?_
        refine j_iconst (v := (1 : Int32)) F dX6_digest_159 (by decide) ?_
        refine j_callVi (As := [.int x45, .int (1 : Int32)]) F D hX (mX6_joint l G x45 (1 : Int32)) ce_0 rfl kX6_joint rfl gX6_digest_X6_joint ⟨rfl, rfl⟩ ⟨Nat.le_of_ble_eq_true rfl, Nat.le_of_ble_eq_true rfl⟩ rfl (Nat.le_of_ble_eq_true rfl) rfl dX6_digest_160 (fun w54 => ?_)
        refine j_i2l F dX6_digest_163 ?_
        refine j_ladd F dX6_digest_164 ?_
        refine j_let (f := Value.long) (fun x55 => ?_)
        refine j_lstore_n (lv' := [(1, .long x55), (0, .ref (G.2.1 0)), (3, .int x45)]) F dX6_digest_165 rfl (by rw [← hml]; decide) rfl ?_
        refine j_iinc (v := (x45 + (1 : Int32))) (lv' := [(3, .int (x45 + (1 : Int32))), (1, .long x55), (0, .ref (G.2.1 0))]) F dX6_digest_166 2 rfl rfl (by rw [← hml]; decide) rfl ?_
        refine j_goto (tgt := 125) F dX6_digest_169 (by decide) ?_
        exact j_sub [2, 1, 0] rfl (ih50 x55 (x45 + (1 : Int32)) w54.2)
  refine j_sub [1, 2, 0] rfl (hL74 _  ?_ fu x28 (0 : Int32) N29)
  intro x48 N49
  refine j_iconst (v := (0 : Int32)) F dX6_digest_172 (by decide) ?_
  refine j_istore_n (lv' := [(3, .int (0 : Int32)), (0, .ref (G.2.1 0)), (1, .long x48)]) F dX6_digest_173 rfl (by rw [← hml]; decide) rfl ?_
  have hL73 : ∀ (K59 : Int64 → Mm → Option (Int64 × Mm)) , (∀ (x60 : Int64) (N61 : Mm), Jg X V z (K59 x60 N61) N61 198 [(0, .ref (G.2.1 0)), (1, .long x60)] []) → ∀ (n63 : Nat) (x56 : Int64) (x57 : Int32) (N58 : Mm), Jg X V z (lX6_digest_174 K59 n63 x56 x57 N58) N58 174 [(0, .ref (G.2.1 0)), (1, .long x56), (3, .int x57)] [] := by
    intro K59  hK59 n63
    induction n63 with
    | zero => intro x56 x57 N58; rw [lX6_digest_174]; exact j_none
    | succ n63 ih62 =>
      intro x56 x57 N58
      rw [lX6_digest_174]
      refine j_iload_n F dX6_digest_174 rfl 2 rfl ?_
      refine j_iconst (v := (3 : Int32)) F dX6_digest_175 (by decide) ?_
      refine j_icmp_gt (tgt := 198) F dX6_digest_176 (by decide) ?_ ?_
      · exact j_sub [0, 1] rfl (hK59 x56 N58)
      · refine j_ldc2 (v := (31 : Int64)) F kc_X6_digest_229 dX6_digest_179 ?_
        refine j_lload_n F dX6_digest_182 rfl 1 rfl ?_
        refine j_lmul F dX6_digest_183 ?_
        refine j_aload_n F dX6_digest_184 rfl 0 rfl ?_
        refine j_iload_n F dX6_digest_185 rfl 2 rfl ?_
        refine j_callVi (As := [.int x57]) F D hX (mX6_box l G x57) ce_0 rfl kX6_box rfl gX6_digest_X6_box ⟨rfl, rfl⟩ ⟨Nat.le_of_ble_eq_true rfl, Nat.le_of_ble_eq_true rfl⟩ rfl (Nat.le_of_ble_eq_true rfl) rfl dX6_digest_186 (fun w64 => ?_)
        refine j_i2l F dX6_digest_189 ?_
        refine j_ladd F dX6_digest_190 ?_
        refine j_let (f := Value.long) (fun x65 => ?_)
        refine j_lstore_n (lv' := [(1, .long x65), (0, .ref (G.2.1 0)), (3, .int x57)]) F dX6_digest_191 rfl (by rw [← hml]; decide) rfl ?_
        refine j_iinc (v := (x57 + (1 : Int32))) (lv' := [(3, .int (x57 + (1 : Int32))), (1, .long x65), (0, .ref (G.2.1 0))]) F dX6_digest_192 2 rfl rfl (by rw [← hml]; decide) rfl ?_
        refine j_goto (tgt := 174) F dX6_digest_195 (by decide) ?_
        exact j_sub [2, 1, 0] rfl (ih62 x65 (x57 + (1 : Int32)) w64.2)
  refine j_sub [1, 2, 0] rfl (hL73 _  ?_ fu x48 (0 : Int32) N49)
  intro x60 N61
  refine j_aload_n F dX6_digest_198 rfl 0 rfl ?_
  refine j_getr (r := 10) F D ce_0 fl_X6_digest_28 rfl dX6_digest_199 ?_
  refine j_callVv (As := []) F D hX (mX1_plan l G) ce_10 rfl kX1_plan rfl gX6_digest_X1_plan ⟨rfl, rfl⟩ ⟨Nat.le_of_ble_eq_true rfl, Nat.le_of_ble_eq_true rfl⟩ rfl (Nat.le_of_ble_eq_true rfl) rfl dX6_digest_202 (fun w66 => ?_)
  refine j_ldc2 (v := (31 : Int64)) F kc_X6_digest_229 dX6_digest_205 ?_
  refine j_lload_n F dX6_digest_208 rfl 1 rfl ?_
  refine j_lmul F dX6_digest_209 ?_
  refine j_aload_n F dX6_digest_210 rfl 0 rfl ?_
  refine j_getr (r := 10) F D ce_0 fl_X6_digest_28 rfl dX6_digest_211 ?_
  refine j_aload_n F dX6_digest_214 rfl 0 rfl ?_
  refine j_getr (r := 1) F D ce_0 fl_X6_digest_12 rfl dX6_digest_215 ?_
  refine j_geti F D ce_1 fl_X6_digest_124 rfl dX6_digest_218 ?_
  refine j_callVi (As := [.int (w66.2.1 1 5)]) F D hX (mX1_freeAt l G (w66.2.1 1 5)) ce_10 rfl kX1_freeAt rfl gX6_digest_X1_freeAt ⟨rfl, rfl⟩ ⟨Nat.le_of_ble_eq_true rfl, Nat.le_of_ble_eq_true rfl⟩ rfl (Nat.le_of_ble_eq_true rfl) rfl dX6_digest_221 (fun w67 => ?_)
  refine j_i2l F dX6_digest_224 ?_
  refine j_ladd F dX6_digest_225 ?_
  refine j_let (f := Value.long) (fun x68 => ?_)
  refine j_lstore_n (lv' := [(1, .long x68), (0, .ref (G.2.1 0))]) F dX6_digest_226 rfl (by rw [← hml]; decide) rfl ?_
  refine j_ldc2 (v := (31 : Int64)) F kc_X6_digest_229 dX6_digest_227 ?_
  refine j_lload_n F dX6_digest_230 rfl 0 rfl ?_
  refine j_lmul F dX6_digest_231 ?_
  refine j_aload_n F dX6_digest_232 rfl 1 rfl ?_
  refine j_getr (r := 10) F D ce_0 fl_X6_digest_28 rfl dX6_digest_233 ?_
  refine j_geti F D ce_10 fl_X6_digest_153 rfl dX6_digest_236 ?_
  refine j_i2l F dX6_digest_239 ?_
  refine j_ladd F dX6_digest_240 ?_
  refine j_let (f := Value.long) (fun x69 => ?_)
  refine j_lstore_n (lv' := [(1, .long x69), (0, .ref (G.2.1 0))]) F dX6_digest_241 rfl (by rw [← hml]; decide) rfl ?_
  refine j_ldc2 (v := (31 : Int64)) F kc_X6_digest_229 dX6_digest_242 ?_
  refine j_lload_n F dX6_digest_245 rfl 0 rfl ?_
  refine j_lmul F dX6_digest_246 ?_
  refine j_aload_n F dX6_digest_247 rfl 1 rfl ?_
  refine j_getr (r := 10) F D ce_0 fl_X6_digest_28 rfl dX6_digest_248 ?_
  refine j_geti F D ce_10 fl_X6_digest_162 rfl dX6_digest_251 ?_
  refine j_i2l F dX6_digest_254 ?_
  refine j_ladd F dX6_digest_255 ?_
  refine j_let (f := Value.long) (fun x70 => ?_)
  refine j_lstore_n (lv' := [(1, .long x70), (0, .ref (G.2.1 0))]) F dX6_digest_256 rfl (by rw [← hml]; decide) rfl ?_
  refine j_ldc2 (v := (31 : Int64)) F kc_X6_digest_229 dX6_digest_257 ?_
  refine j_lload_n F dX6_digest_260 rfl 0 rfl ?_
  refine j_lmul F dX6_digest_261 ?_
  refine j_aload_n F dX6_digest_262 rfl 1 rfl ?_
  refine j_getr (r := 10) F D ce_0 fl_X6_digest_28 rfl dX6_digest_263 ?_
  refine j_geti F D ce_10 fl_X6_digest_165 rfl dX6_digest_266 ?_
  refine j_i2l F dX6_digest_269 ?_
  refine j_ladd F dX6_digest_270 ?_
  refine j_let (f := Value.long) (fun x71 => ?_)
  refine j_lstore_n (lv' := [(1, .long x71), (0, .ref (G.2.1 0))]) F dX6_digest_271 rfl (by rw [← hml]; decide) rfl ?_
  refine j_ldc2 (v := (31 : Int64)) F kc_X6_digest_229 dX6_digest_272 ?_
  refine j_lload_n F dX6_digest_275 rfl 0 rfl ?_
  refine j_lmul F dX6_digest_276 ?_
  refine j_aload_n F dX6_digest_277 rfl 1 rfl ?_
  refine j_getr (r := 10) F D ce_0 fl_X6_digest_28 rfl dX6_digest_278 ?_
  refine j_aload_n F dX6_digest_281 rfl 1 rfl ?_
  refine j_getr (r := 1) F D ce_0 fl_X6_digest_12 rfl dX6_digest_282 ?_
  refine j_geti F D ce_1 fl_X6_digest_124 rfl dX6_digest_285 ?_
  refine j_callVi (As := [.int (w67.2.1 1 5)]) F D hX (mX1_pathsFrom l G (w67.2.1 1 5)) ce_10 rfl kX1_pathsFrom rfl gX6_digest_X1_pathsFrom ⟨rfl, rfl⟩ ⟨Nat.le_of_ble_eq_true rfl, Nat.le_of_ble_eq_true rfl⟩ rfl (Nat.le_of_ble_eq_true rfl) rfl dX6_digest_288 (fun w72 => ?_)
  refine j_i2l F dX6_digest_291 ?_
  refine j_ladd F dX6_digest_292 ?_
  exact j_lret F D E dX6_digest_293
