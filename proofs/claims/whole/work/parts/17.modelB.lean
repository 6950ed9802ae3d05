/-! FlangeFolderModel.strip -/
def fX7_strip (a0 : Int32) (M : Mm) : Option (Int32 × Mm) := (fX7_within a0 (1 : Int32) (20 : Int32) M).bind (fun w1 => (if w1.1 = (0 : Int32) then (fX7_counts (-1001 : Int32) w1.2).bind (fun w4 => some (w4.1, w4.2)) else (fX7_leaves w1.2).bind (fun w2 => (fX7_strips a0 w2.2).bind (fun w3 => some (w3.1, w3.2)))))
def rmX7_strip : Room := { frames := 1, cells := 0, slots := 0, locals := 22 }
theorem kX7_strip : Kc yX7_strip cX7_strip 2 (some .int) wsX7_strip 1 := ⟨⟨_, rfl⟩, by decide +kernel, by decide +kernel, by decide +kernel⟩
set_option maxHeartbeats 4000000 in
set_option maxRecDepth 100000 in
theorem mX7_strip (l : Launch) (G : Gg) (a0 : Int32) : Ci l G SM yX7_strip wsX7_strip rmX7_strip [.ref (G.2.1 54), .int a0] (fX7_strip a0) := by
  refine Ci.intro (lv := [(0, .ref (G.2.1 54)), (1, .int a0)]) RX7 rfl (by decide) kX7_strip (Nat.le_of_ble_eq_true rfl) rfl (fun X V M z F D hX hml E => ?_)
  unfold fX7_strip
  refine j_iload_n F dX7_strip_0 rfl 1 rfl ?_
  refine j_iconst (v := (1 : Int32)) F dX7_strip_1 (by decide) ?_
  refine j_bipush (v := (20 : Int32)) F dX7_strip_2 (by decide) ?_
  refine j_callSi (As := [.int a0, .int (1 : Int32), .int (20 : Int32)]) F D hX (mX7_within l G a0 (1 : Int32) (20 : Int32)) kX7_within gX7_strip_X7_within ⟨rfl, rfl⟩ ⟨Nat.le_of_ble_eq_true rfl, Nat.le_of_ble_eq_true rfl⟩ rfl (Nat.le_of_ble_eq_true rfl) rfl dX7_strip_4 (fun w1 => ?_)
  refine j_if_ne (tgt := 18) F dX7_strip_7 (by decide) ?_ ?_
  · refine j_aload_n F dX7_strip_18 rfl 0 rfl ?_
    refine j_callVv (As := []) F D hX (mX7_leaves l G) ce_54 rfl kX7_leaves rfl gX7_strip_X7_leaves ⟨rfl, rfl⟩ ⟨Nat.le_of_ble_eq_true rfl, Nat.le_of_ble_eq_true rfl⟩ rfl (Nat.le_of_ble_eq_true rfl) rfl dX7_strip_19 (fun w2 => ?_)
    refine j_aload_n F dX7_strip_22 rfl 0 rfl ?_
    refine j_iload_n F dX7_strip_23 rfl 1 rfl ?_
    refine j_callVi (As := [.int a0]) F D hX (mX7_strips l G a0) ce_54 rfl kX7_strips rfl gX7_strip_X7_strips ⟨rfl, rfl⟩ ⟨Nat.le_of_ble_eq_true rfl, Nat.le_of_ble_eq_true rfl⟩ rfl (Nat.le_of_ble_eq_true rfl) rfl dX7_strip_24 (fun w3 => ?_)
    exact j_iret F D E rfl dX7_strip_27
  · refine j_aload_n F dX7_strip_10 rfl 0 rfl ?_
    refine j_sipush (v := (-1001 : Int32)) F dX7_strip_11 (by decide) ?_
    refine j_callVi (As := [.int (-1001 : Int32)]) F D hX (mX7_counts l G (-1001 : Int32)) ce_54 rfl kX7_counts rfl gX7_strip_X7_counts ⟨rfl, rfl⟩ ⟨Nat.le_of_ble_eq_true rfl, Nat.le_of_ble_eq_true rfl⟩ rfl (Nat.le_of_ble_eq_true rfl) rfl dX7_strip_14 (fun w4 => ?_)
    exact j_iret F D E rfl dX7_strip_17

/-! FlangeFolderModel.bend -/
def fX7_bend (a0 : Int32) (a1 : Int32) (a2 : Int32) (M : Mm) : Option (Int32 × Mm) := (fX7_mayBend a0 a1 a2 M).bind (fun w1 => (if w1.1 = (0 : Int32) then (fX7_counts (-1001 : Int32) w1.2).bind (fun w6 => some (w6.1, w6.2)) else (rd w1.2 55 26 (0 : Int32)).bind (fun v2 => (if v2 = (6 : Int32) then (fX7_counts (-1003 : Int32) w1.2).bind (fun w5 => some (w5.1, w5.2)) else (fX7_leaves w1.2).bind (fun w3 => (fX7_adds a0 a1 a2 w3.2).bind (fun w4 => some (w4.1, w4.2)))))))
def rmX7_bend : Room := { frames := 2, cells := 0, slots := 0, locals := 45 }
theorem kX7_bend : Kc yX7_bend cX7_bend 4 (some .int) wsX7_bend 3 := ⟨⟨_, rfl⟩, by decide +kernel, by decide +kernel, by decide +kernel⟩
theorem ic_X7_bend_X7 : ∀ w ∈ u_ws RX7 TX7 19, w ∈ wsX7_bend := by decide +kernel
theorem fl_X7_bend_7 : Fl wsX7_bend RX7 7 7 0 := ⟨RX7, TX7, 19, rfl, by decide, ic_X7_bend_X7, by decide +kernel⟩
set_option maxHeartbeats 4000000 in
set_option maxRecDepth 100000 in
theorem mX7_bend (l : Launch) (G : Gg) (a0 : Int32) (a1 : Int32) (a2 : Int32) : Ci l G SM yX7_bend wsX7_bend rmX7_bend [.ref (G.2.1 54), .int a0, .int a1, .int a2] (fX7_bend a0 a1 a2) := by
  refine Ci.intro (lv := [(0, .ref (G.2.1 54)), (1, .int a0), (2, .int a1), (3, .int a2)]) RX7 rfl (by decide) kX7_bend (Nat.le_of_ble_eq_true rfl) rfl (fun X V M z F D hX hml E => ?_)
  unfold fX7_bend
  refine j_aload_n F dX7_bend_0 rfl 0 rfl ?_
  refine j_iload_n F dX7_bend_1 rfl 1 rfl ?_
  refine j_iload_n F dX7_bend_2 rfl 2 rfl ?_
  refine j_iload_n F dX7_bend_3 rfl 3 rfl ?_
  refine j_callVi (As := [.int a0, .int a1, .int a2]) F D hX (mX7_mayBend l G a0 a1 a2) ce_54 rfl kX7_mayBend rfl gX7_bend_X7_mayBend ⟨rfl, rfl⟩ ⟨Nat.le_of_ble_eq_true rfl, Nat.le_of_ble_eq_true rfl⟩ rfl (Nat.le_of_ble_eq_true rfl) rfl dX7_bend_4 (fun w1 => ?_)
  refine j_if_ne (tgt := 18) F dX7_bend_7 (by decide) ?_ ?_
  · refine j_aload_n F dX7_bend_18 rfl 0 rfl ?_
    refine j_getr (r := 55) F D ce_54 fl_X7_bend_7 rfl dX7_bend_19 ?_
    refine j_iconst (v := (0 : Int32)) F dX7_bend_22 (by decide) ?_
    refine j_iald F D ce_55 dX7_bend_23 (fun v2 => ?_)
    refine j_bipush (v := (6 : Int32)) F dX7_bend_24 (by decide) ?_
    refine j_icmp_ne (tgt := 37) F dX7_bend_26 (by decide) ?_ ?_
    · refine j_aload_n F dX7_bend_37 rfl 0 rfl ?_
      refine j_callVv (As := []) F D hX (mX7_leaves l G) ce_54 rfl kX7_leaves rfl gX7_bend_X7_leaves ⟨rfl, rfl⟩ ⟨Nat.le_of_ble_eq_true rfl, Nat.le_of_ble_eq_true rfl⟩ rfl (Nat.le_of_ble_eq_true rfl) rfl dX7_bend_38 (fun w3 => ?_)
      refine j_aload_n F dX7_bend_41 rfl 0 rfl ?_
      refine j_iload_n F dX7_bend_42 rfl 1 rfl ?_
      refine j_iload_n F dX7_bend_43 rfl 2 rfl ?_
      refine j_iload_n F dX7_bend_44 rfl 3 rfl ?_
      refine j_callVi (As := [.int a0, .int a1, .int a2]) F D hX (mX7_adds l G a0 a1 a2) ce_54 rfl kX7_adds rfl gX7_bend_X7_adds ⟨rfl, rfl⟩ ⟨Nat.le_of_ble_eq_true rfl, Nat.le_of_ble_eq_true rfl⟩ rfl (Nat.le_of_ble_eq_true rfl) rfl dX7_bend_45 (fun w4 => ?_)
      exact j_iret F D E rfl dX7_bend_48
    · refine j_aload_n F dX7_bend_29 rfl 0 rfl ?_
      refine j_sipush (v := (-1003 : Int32)) F dX7_bend_30 (by decide) ?_
      refine j_callVi (As := [.int (-1003 : Int32)]) F D hX (mX7_counts l G (-1003 : Int32)) ce_54 rfl kX7_counts rfl gX7_bend_X7_counts ⟨rfl, rfl⟩ ⟨Nat.le_of_ble_eq_true rfl, Nat.le_of_ble_eq_true rfl⟩ rfl (Nat.le_of_ble_eq_true rfl) rfl dX7_bend_33 (fun w5 => ?_)
      exact j_iret F D E rfl dX7_bend_36
  · refine j_aload_n F dX7_bend_10 rfl 0 rfl ?_
    refine j_sipush (v := (-1001 : Int32)) F dX7_bend_11 (by decide) ?_
    refine j_callVi (As := [.int (-1001 : Int32)]) F D hX (mX7_counts l G (-1001 : Int32)) ce_54 rfl kX7_counts rfl gX7_bend_X7_counts ⟨rfl, rfl⟩ ⟨Nat.le_of_ble_eq_true rfl, Nat.le_of_ble_eq_true rfl⟩ rfl (Nat.le_of_ble_eq_true rfl) rfl dX7_bend_14 (fun w6 => ?_)
    exact j_iret F D E rfl dX7_bend_17

/-! FlangeFolderModel.press -/
def fX7_press (a0 : Int32) (a1 : Int32) (M : Mm) : Option (Int32 × Mm) := (fX7_mayPress a0 a1 M).bind (fun w1 => (if w1.1 = (0 : Int32) then (fX7_counts (-1001 : Int32) w1.2).bind (fun w4 => some (w4.1, w4.2)) else (fX7_leaves w1.2).bind (fun w2 => (fX7_presses a0 a1 w2.2).bind (fun w3 => some (w3.1, w3.2)))))
def rmX7_press : Room := { frames := 2, cells := 0, slots := 0, locals := 44 }
theorem kX7_press : Kc yX7_press cX7_press 3 (some .int) wsX7_press 2 := ⟨⟨_, rfl⟩, by decide +kernel, by decide +kernel, by decide +kernel⟩
set_option maxHeartbeats 4000000 in
set_option maxRecDepth 100000 in
theorem mX7_press (l : Launch) (G : Gg) (a0 : Int32) (a1 : Int32) : Ci l G SM yX7_press wsX7_press rmX7_press [.ref (G.2.1 54), .int a0, .int a1] (fX7_press a0 a1) := by
  refine Ci.intro (lv := [(0, .ref (G.2.1 54)), (1, .int a0), (2, .int a1)]) RX7 rfl (by decide) kX7_press (Nat.le_of_ble_eq_true rfl) rfl (fun X V M z F D hX hml E => ?_)
  unfold fX7_press
  refine j_aload_n F dX7_press_0 rfl 0 rfl ?_
  refine j_iload_n F dX7_press_1 rfl 1 rfl ?_
  refine j_iload_n F dX7_press_2 rfl 2 rfl ?_
  refine j_callVi (As := [.int a0, .int a1]) F D hX (mX7_mayPress l G a0 a1) ce_54 rfl kX7_mayPress rfl gX7_press_X7_mayPress ⟨rfl, rfl⟩ ⟨Nat.le_of_ble_eq_true rfl, Nat.le_of_ble_eq_true rfl⟩ rfl (Nat.le_of_ble_eq_true rfl) rfl dX7_press_3 (fun w1 => ?_)
  refine j_if_ne (tgt := 17) F dX7_press_6 (by decide) ?_ ?_
  · refine j_aload_n F dX7_press_17 rfl 0 rfl ?_
    refine j_callVv (As := []) F D hX (mX7_leaves l G) ce_54 rfl kX7_leaves rfl gX7_press_X7_leaves ⟨rfl, rfl⟩ ⟨Nat.le_of_ble_eq_true rfl, Nat.le_of_ble_eq_true rfl⟩ rfl (Nat.le_of_ble_eq_true rfl) rfl dX7_press_18 (fun w2 => ?_)
    refine j_aload_n F dX7_press_21 rfl 0 rfl ?_
    refine j_iload_n F dX7_press_22 rfl 1 rfl ?_
    refine j_iload_n F dX7_press_23 rfl 2 rfl ?_
    refine j_callVi (As := [.int a0, .int a1]) F D hX (mX7_presses l G a0 a1) ce_54 rfl kX7_presses rfl gX7_press_X7_presses ⟨rfl, rfl⟩ ⟨Nat.le_of_ble_eq_true rfl, Nat.le_of_ble_eq_true rfl⟩ rfl (Nat.le_of_ble_eq_true rfl) rfl dX7_press_24 (fun w3 => ?_)
    exact j_iret F D E rfl dX7_press_27
  · refine j_aload_n F dX7_press_9 rfl 0 rfl ?_
    refine j_sipush (v := (-1001 : Int32)) F dX7_press_10 (by decide) ?_
    refine j_callVi (As := [.int (-1001 : Int32)]) F D hX (mX7_counts l G (-1001 : Int32)) ce_54 rfl kX7_counts rfl gX7_press_X7_counts ⟨rfl, rfl⟩ ⟨Nat.le_of_ble_eq_true rfl, Nat.le_of_ble_eq_true rfl⟩ rfl (Nat.le_of_ble_eq_true rfl) rfl dX7_press_13 (fun w4 => ?_)
    exact j_iret F D E rfl dX7_press_16

/-! FlangeFolderModel.takes -/
def fX7_takes (a0 : Int32) (a1 : Int32) (M : Mm) : Option (Int32 × Mm) := (fX7_mayTake a0 a1 M).bind (fun w1 => (if w1.1 = (0 : Int32) then (fX7_counts (-1001 : Int32) w1.2).bind (fun w4 => some (w4.1, w4.2)) else (fX7_leaves w1.2).bind (fun w2 => (fX7_takesNow a0 a1 w2.2).bind (fun w3 => some (w3.1, w3.2)))))
def rmX7_takes : Room := { frames := 2, cells := 0, slots := 0, locals := 44 }
theorem kX7_takes : Kc yX7_takes cX7_takes 3 (some .int) wsX7_takes 2 := ⟨⟨_, rfl⟩, by decide +kernel, by decide +kernel, by decide +kernel⟩
set_option maxHeartbeats 4000000 in
set_option maxRecDepth 100000 in
theorem mX7_takes (l : Launch) (G : Gg) (a0 : Int32) (a1 : Int32) : Ci l G SM yX7_takes wsX7_takes rmX7_takes [.ref (G.2.1 54), .int a0, .int a1] (fX7_takes a0 a1) := by
  refine Ci.intro (lv := [(0, .ref (G.2.1 54)), (1, .int a0), (2, .int a1)]) RX7 rfl (by decide) kX7_takes (Nat.le_of_ble_eq_true rfl) rfl (fun X V M z F D hX hml E => ?_)
  unfold fX7_takes
  refine j_aload_n F dX7_takes_0 rfl 0 rfl ?_
  refine j_iload_n F dX7_takes_1 rfl 1 rfl ?_
  refine j_iload_n F dX7_takes_2 rfl 2 rfl ?_
  refine j_callVi (As := [.int a0, .int a1]) F D hX (mX7_mayTake l G a0 a1) ce_54 rfl kX7_mayTake rfl gX7_takes_X7_mayTake ⟨rfl, rfl⟩ ⟨Nat.le_of_ble_eq_true rfl, Nat.le_of_ble_eq_true rfl⟩ rfl (Nat.le_of_ble_eq_true rfl) rfl dX7_takes_3 (fun w1 => ?_)
  refine j_if_ne (tgt := 17) F dX7_takes_6 (by decide) ?_ ?_
  · refine j_aload_n F dX7_takes_17 rfl 0 rfl ?_
    refine j_callVv (As := []) F D hX (mX7_leaves l G) ce_54 rfl kX7_leaves rfl gX7_takes_X7_leaves ⟨rfl, rfl⟩ ⟨Nat.le_of_ble_eq_true rfl, Nat.le_of_ble_eq_true rfl⟩ rfl (Nat.le_of_ble_eq_true rfl) rfl dX7_takes_18 (fun w2 => ?_)
    refine j_aload_n F dX7_takes_21 rfl 0 rfl ?_
    refine j_iload_n F dX7_takes_22 rfl 1 rfl ?_
    refine j_iload_n F dX7_takes_23 rfl 2 rfl ?_
    refine j_callVi (As := [.int a0, .int a1]) F D hX (mX7_takesNow l G a0 a1) ce_54 rfl kX7_takesNow rfl gX7_takes_X7_takesNow ⟨rfl, rfl⟩ ⟨Nat.le_of_ble_eq_true rfl, Nat.le_of_ble_eq_true rfl⟩ rfl (Nat.le_of_ble_eq_true rfl) rfl dX7_takes_24 (fun w3 => ?_)
    exact j_iret F D E rfl dX7_takes_27
  · refine j_aload_n F dX7_takes_9 rfl 0 rfl ?_
    refine j_sipush (v := (-1001 : Int32)) F dX7_takes_10 (by decide) ?_
    refine j_callVi (As := [.int (-1001 : Int32)]) F D hX (mX7_counts l G (-1001 : Int32)) ce_54 rfl kX7_counts rfl gX7_takes_X7_counts ⟨rfl, rfl⟩ ⟨Nat.le_of_ble_eq_true rfl, Nat.le_of_ble_eq_true rfl⟩ rfl (Nat.le_of_ble_eq_true rfl) rfl dX7_takes_13 (fun w4 => ?_)
    exact j_iret F D E rfl dX7_takes_16

/-! FlangeFolderModel.makes -/
def fX7_makes (a0 : Int32) (M : Mm) : Option (Int32 × Mm) := (fX7_isBend a0 M).bind (fun w1 => (if w1.1 = (0 : Int32) then (fX7_counts (-1001 : Int32) w1.2).bind (fun w10 => some (w10.1, w10.2)) else (rd w1.2 55 26 (20 : Int32)).bind (fun v2 => (fX7_isFree a0 v2 w1.2).bind (fun w3 => (if w3.1 = (0 : Int32) then (fX7_counts (-1002 : Int32) w3.2).bind (fun w9 => some (w9.1, w9.2)) else (fX7_leaves w3.2).bind (fun w4 => (rd w4.2 55 26 (20 : Int32)).bind (fun v5 => (wr w4.2 55 26 (20 : Int32) (v5 ||| ((1 : Int32) <<< (a0 &&& 31)))).bind (fun N6 => (rd N6 55 26 (20 : Int32)).bind (fun v7 => (fX7_ones v7 N6).bind (fun w8 => some (w8.1, w8.2)))))))))))
def rmX7_makes : Room := { frames := 4, cells := 0, slots := 0, locals := 100 }
theorem kX7_makes : Kc yX7_makes cX7_makes 2 (some .int) wsX7_makes 1 := ⟨⟨_, rfl⟩, by decide +kernel, by decide +kernel, by decide +kernel⟩
theorem ic_X7_makes_X7 : ∀ w ∈ u_ws RX7 TX7 19, w ∈ wsX7_makes := by decide +kernel
theorem fl_X7_makes_7 : Fl wsX7_makes RX7 7 7 0 := ⟨RX7, TX7, 19, rfl, by decide, ic_X7_makes_X7, by decide +kernel⟩
set_option maxHeartbeats 4000000 in
set_option maxRecDepth 100000 in
theorem mX7_makes (l : Launch) (G : Gg) (a0 : Int32) : Ci l G SM yX7_makes wsX7_makes rmX7_makes [.ref (G.2.1 54), .int a0] (fX7_makes a0) := by
  refine Ci.intro (lv := [(0, .ref (G.2.1 54)), (1, .int a0)]) RX7 rfl (by decide) kX7_makes (Nat.le_of_ble_eq_true rfl) rfl (fun X V M z F D hX hml E => ?_)
  unfold fX7_makes
  refine j_aload_n F dX7_makes_0 rfl 0 rfl ?_
  refine j_iload_n F dX7_makes_1 rfl 1 rfl ?_
  refine j_callVi (As := [.int a0]) F D hX (mX7_isBend l G a0) ce_54 rfl kX7_isBend rfl gX7_makes_X7_isBend ⟨rfl, rfl⟩ ⟨Nat.le_of_ble_eq_true rfl, Nat.le_of_ble_eq_true rfl⟩ rfl (Nat.le_of_ble_eq_true rfl) rfl dX7_makes_2 (fun w1 => ?_)
  refine j_if_ne (tgt := 16) F dX7_makes_5 (by decide) ?_ ?_
  · refine j_aload_n F dX7_makes_16 rfl 0 rfl ?_
    refine j_iload_n F dX7_makes_17 rfl 1 rfl ?_
    refine j_aload_n F dX7_makes_18 rfl 0 rfl ?_
    refine j_getr (r := 55) F D ce_54 fl_X7_makes_7 rfl dX7_makes_19 ?_
    refine j_bipush (v := (20 : Int32)) F dX7_makes_22 (by decide) ?_
    refine j_iald F D ce_55 dX7_makes_24 (fun v2 => ?_)
    refine j_callVi (As := [.int a0, .int v2]) F D hX (mX7_isFree l G a0 v2) ce_54 rfl kX7_isFree rfl gX7_makes_X7_isFree ⟨rfl, rfl⟩ ⟨Nat.le_of_ble_eq_true rfl, Nat.le_of_ble_eq_true rfl⟩ rfl (Nat.le_of_ble_eq_true rfl) rfl dX7_makes_25 (fun w3 => ?_)
    refine j_if_ne (tgt := 39) F dX7_makes_28 (by decide) ?_ ?_
    · refine j_aload_n F dX7_makes_39 rfl 0 rfl ?_
      refine j_callVv (As := []) F D hX (mX7_leaves l G) ce_54 rfl kX7_leaves rfl gX7_makes_X7_leaves ⟨rfl, rfl⟩ ⟨Nat.le_of_ble_eq_true rfl, Nat.le_of_ble_eq_true rfl⟩ rfl (Nat.le_of_ble_eq_true rfl) rfl dX7_makes_40 (fun w4 => ?_)
      refine j_aload_n F dX7_makes_43 rfl 0 rfl ?_
      refine j_getr (r := 55) F D ce_54 fl_X7_makes_7 rfl dX7_makes_44 ?_
      refine j_bipush (v := (20 : Int32)) F dX7_makes_47 (by decide) ?_
      refine j_dup2 F rfl rfl dX7_makes_49 ?_
      refine j_iald F D ce_55 dX7_makes_50 (fun v5 => ?_)
      refine j_iconst (v := (1 : Int32)) F dX7_makes_51 (by decide) ?_
      refine j_iload_n F dX7_makes_52 rfl 1 rfl ?_
      refine j_ishl F dX7_makes_53 ?_
      refine j_ior F dX7_makes_54 ?_
      refine j_iast F D ce_55 dX7_makes_55 (fun N6 => ?_)
      refine j_aload_n F dX7_makes_56 rfl 0 rfl ?_
      refine j_getr (r := 55) F D ce_54 fl_X7_makes_7 rfl dX7_makes_57 ?_
      refine j_bipush (v := (20 : Int32)) F dX7_makes_60 (by decide) ?_
      refine j_iald F D ce_55 dX7_makes_62 (fun v7 => ?_)
      refine j_callSi (As := [.int v7]) F D hX (mX7_ones l G v7) kX7_ones gX7_makes_X7_ones ⟨rfl, rfl⟩ ⟨Nat.le_of_ble_eq_true rfl, Nat.le_of_ble_eq_true rfl⟩ rfl (Nat.le_of_ble_eq_true rfl) rfl dX7_makes_63 (fun w8 => ?_)
      exact j_iret F D E rfl dX7_makes_66
    · refine j_aload_n F dX7_makes_31 rfl 0 rfl ?_
      refine j_sipush (v := (-1002 : Int32)) F dX7_makes_32 (by decide) ?_
      refine j_callVi (As := [.int (-1002 : Int32)]) F D hX (mX7_counts l G (-1002 : Int32)) ce_54 rfl kX7_counts rfl gX7_makes_X7_counts ⟨rfl, rfl⟩ ⟨Nat.le_of_ble_eq_true rfl, Nat.le_of_ble_eq_true rfl⟩ rfl (Nat.le_of_ble_eq_true rfl) rfl dX7_makes_35 (fun w9 => ?_)
      exact j_iret F D E rfl dX7_makes_38
  · refine j_aload_n F dX7_makes_8 rfl 0 rfl ?_
    refine j_sipush (v := (-1001 : Int32)) F dX7_makes_9 (by decide) ?_
    refine j_callVi (As := [.int (-1001 : Int32)]) F D hX (mX7_counts l G (-1001 : Int32)) ce_54 rfl kX7_counts rfl gX7_makes_X7_counts ⟨rfl, rfl⟩ ⟨Nat.le_of_ble_eq_true rfl, Nat.le_of_ble_eq_true rfl⟩ rfl (Nat.le_of_ble_eq_true rfl) rfl dX7_makes_12 (fun w10 => ?_)
    exact j_iret F D E rfl dX7_makes_15

/-! FlangeFolderModel.unmakes -/
def fX7_unmakes (a0 : Int32) (M : Mm) : Option (Int32 × Mm) := (fX7_isBend a0 M).bind (fun w1 => (if w1.1 = (0 : Int32) then (fX7_counts (-1001 : Int32) w1.2).bind (fun w10 => some (w10.1, w10.2)) else (rd w1.2 55 26 (20 : Int32)).bind (fun v2 => (fX7_has v2 a0 w1.2).bind (fun w3 => (if w3.1 = (0 : Int32) then (fX7_counts (-1002 : Int32) w3.2).bind (fun w9 => some (w9.1, w9.2)) else (fX7_leaves w3.2).bind (fun w4 => (rd w4.2 55 26 (20 : Int32)).bind (fun v5 => (wr w4.2 55 26 (20 : Int32) (v5 &&& (((1 : Int32) <<< (a0 &&& 31)) ^^^ (-1 : Int32)))).bind (fun N6 => (rd N6 55 26 (20 : Int32)).bind (fun v7 => (fX7_ones v7 N6).bind (fun w8 => some (w8.1, w8.2)))))))))))
def rmX7_unmakes : Room := { frames := 2, cells := 0, slots := 0, locals := 43 }
theorem kX7_unmakes : Kc yX7_unmakes cX7_unmakes 2 (some .int) wsX7_unmakes 1 := ⟨⟨_, rfl⟩, by decide +kernel, by decide +kernel, by decide +kernel⟩
theorem ic_X7_unmakes_X7 : ∀ w ∈ u_ws RX7 TX7 19, w ∈ wsX7_unmakes := by decide +kernel
theorem fl_X7_unmakes_7 : Fl wsX7_unmakes RX7 7 7 0 := ⟨RX7, TX7, 19, rfl, by decide, ic_X7_unmakes_X7, by decide +kernel⟩
set_option maxHeartbeats 4000000 in
set_option maxRecDepth 100000 in
theorem mX7_unmakes (l : Launch) (G : Gg) (a0 : Int32) : Ci l G SM yX7_unmakes wsX7_unmakes rmX7_unmakes [.ref (G.2.1 54), .int a0] (fX7_unmakes a0) := by
  refine Ci.intro (lv := [(0, .ref (G.2.1 54)), (1, .int a0)]) RX7 rfl (by decide) kX7_unmakes (Nat.le_of_ble_eq_true rfl) rfl (fun X V M z F D hX hml E => ?_)
  unfold fX7_unmakes
  refine j_aload_n F dX7_unmakes_0 rfl 0 rfl ?_
  refine j_iload_n F dX7_unmakes_1 rfl 1 rfl ?_
  refine j_callVi (As := [.int a0]) F D hX (mX7_isBend l G a0) ce_54 rfl kX7_isBend rfl gX7_unmakes_X7_isBend ⟨rfl, rfl⟩ ⟨Nat.le_of_ble_eq_true rfl, Nat.le_of_ble_eq_true rfl⟩ rfl (Nat.le_of_ble_eq_true rfl) rfl dX7_unmakes_2 (fun w1 => ?_)
  refine j_if_ne (tgt := 16) F dX7_unmakes_5 (by decide) ?_ ?_
  · refine j_aload_n F dX7_unmakes_16 rfl 0 rfl ?_
    refine j_getr (r := 55) F D ce_54 fl_X7_unmakes_7 rfl dX7_unmakes_17 ?_
    refine j_bipush (v := (20 : Int32)) F dX7_unmakes_20 (by decide) ?_
    refine j_iald F D ce_55 dX7_unmakes_22 (fun v2 => ?_)
    refine j_iload_n F dX7_unmakes_23 rfl 1 rfl ?_
    refine j_callSi (As := [.int v2, .int a0]) F D hX (mX7_has l G v2 a0) kX7_has gX7_unmakes_X7_has ⟨rfl, rfl⟩ ⟨Nat.le_of_ble_eq_true rfl, Nat.le_of_ble_eq_true rfl⟩ rfl (Nat.le_of_ble_eq_true rfl) rfl dX7_unmakes_24 (fun w3 => ?_)
    refine j_if_ne (tgt := 38) F dX7_unmakes_27 (by decide) ?_ ?_
    · refine j_aload_n F dX7_unmakes_38 rfl 0 rfl ?_
      refine j_callVv (As := []) F D hX (mX7_leaves l G) ce_54 rfl kX7_leaves rfl gX7_unmakes_X7_leaves ⟨rfl, rfl⟩ ⟨Nat.le_of_ble_eq_true rfl, Nat.le_of_ble_eq_true rfl⟩ rfl (Nat.le_of_ble_eq_true rfl) rfl dX7_unmakes_39 (fun w4 => ?_)
      refine j_aload_n F dX7_unmakes_42 rfl 0 rfl ?_
      refine j_getr (r := 55) F D ce_54 fl_X7_unmakes_7 rfl dX7_unmakes_43 ?_
      refine j_bipush (v := (20 : Int32)) F dX7_unmakes_46 (by decide) ?_
      refine j_dup2 F rfl rfl dX7_unmakes_48 ?_
      refine j_iald F D ce_55 dX7_unmakes_49 (fun v5 => ?_)
      refine j_iconst (v := (1 : Int32)) F dX7_unmakes_50 (by decide) ?_
      refine j_iload_n F dX7_unmakes_51 rfl 1 rfl ?_
      refine j_ishl F dX7_unmakes_52 ?_
      refine j_iconst (v := (-1 : Int32)) F dX7_unmakes_53 (by decide) ?_
      refine j_ixor F dX7_unmakes_54 ?_
      refine j_iand F dX7_unmakes_55 ?_
      refine j_iast F D ce_55 dX7_unmakes_56 (fun N6 => ?_)
      refine j_aload_n F dX7_unmakes_57 rfl 0 rfl ?_
      refine j_getr (r := 55) F D ce_54 fl_X7_unmakes_7 rfl dX7_unmakes_58 ?_
      refine j_bipush (v := (20 : Int32)) F dX7_unmakes_61 (by decide) ?_
      refine j_iald F D ce_55 dX7_unmakes_63 (fun v7 => ?_)
      refine j_callSi (As := [.int v7]) F D hX (mX7_ones l G v7) kX7_ones gX7_unmakes_X7_ones ⟨rfl, rfl⟩ ⟨Nat.le_of_ble_eq_true rfl, Nat.le_of_ble_eq_true rfl⟩ rfl (Nat.le_of_ble_eq_true rfl) rfl dX7_unmakes_64 (fun w8 => ?_)
      exact j_iret F D E rfl dX7_unmakes_67
    · refine j_aload_n F dX7_unmakes_30 rfl 0 rfl ?_
      refine j_sipush (v := (-1002 : Int32)) F dX7_unmakes_31 (by decide) ?_
      refine j_callVi (As := [.int (-1002 : Int32)]) F D hX (mX7_counts l G (-1002 : Int32)) ce_54 rfl kX7_counts rfl gX7_unmakes_X7_counts ⟨rfl, rfl⟩ ⟨Nat.le_of_ble_eq_true rfl, Nat.le_of_ble_eq_true rfl⟩ rfl (Nat.le_of_ble_eq_true rfl) rfl dX7_unmakes_34 (fun w9 => ?_)
      exact j_iret F D E rfl dX7_unmakes_37
  · refine j_aload_n F dX7_unmakes_8 rfl 0 rfl ?_
    refine j_sipush (v := (-1001 : Int32)) F dX7_unmakes_9 (by decide) ?_
    refine j_callVi (As := [.int (-1001 : Int32)]) F D hX (mX7_counts l G (-1001 : Int32)) ce_54 rfl kX7_counts rfl gX7_unmakes_X7_counts ⟨rfl, rfl⟩ ⟨Nat.le_of_ble_eq_true rfl, Nat.le_of_ble_eq_true rfl⟩ rfl (Nat.le_of_ble_eq_true rfl) rfl dX7_unmakes_12 (fun w10 => ?_)
    exact j_iret F D E rfl dX7_unmakes_15

/-! FlangeFolderModel.again -/
def fX7_again (M : Mm) : Option (Int32 × Mm) := (fX7_leaves M).bind (fun w1 => (rd w1.2 55 26 (20 : Int32)).bind (fun v2 => (fX7_ones v2 w1.2).bind (fun w3 => (wr w3.2 55 26 (20 : Int32) (0 : Int32)).bind (fun N4 => some (w3.1, N4)))))
def rmX7_again : Room := { frames := 1, cells := 0, slots := 0, locals := 22 }
theorem kX7_again : Kc yX7_again cX7_again 2 (some .int) wsX7_again 0 := ⟨⟨_, rfl⟩, by decide +kernel, by decide +kernel, by decide +kernel⟩
theorem ic_X7_again_X7 : ∀ w ∈ u_ws RX7 TX7 19, w ∈ wsX7_again := by decide +kernel
theorem fl_X7_again_7 : Fl wsX7_again RX7 7 7 0 := ⟨RX7, TX7, 19, rfl, by decide, ic_X7_again_X7, by decide +kernel⟩
set_option maxHeartbeats 4000000 in
set_option maxRecDepth 100000 in
theorem mX7_again (l : Launch) (G : Gg) : Ci l G SM yX7_again wsX7_again rmX7_again [.ref (G.2.1 54)] fX7_again := by
  refine Ci.intro (lv := [(0, .ref (G.2.1 54))]) RX7 rfl (by decide) kX7_again (Nat.le_of_ble_eq_true rfl) rfl (fun X V M z F D hX hml E => ?_)
  unfold fX7_again
  refine j_aload_n F dX7_again_0 rfl 0 rfl ?_
  refine j_callVv (As := []) F D hX (mX7_leaves l G) ce_54 rfl kX7_leaves rfl gX7_again_X7_leaves ⟨rfl, rfl⟩ ⟨Nat.le_of_ble_eq_true rfl, Nat.le_of_ble_eq_true rfl⟩ rfl (Nat.le_of_ble_eq_true rfl) rfl dX7_again_1 (fun w1 => ?_)
  refine j_aload_n F dX7_again_4 rfl 0 rfl ?_
  refine j_getr (r := 55) F D ce_54 fl_X7_again_7 rfl dX7_again_5 ?_
  refine j_bipush (v := (20 : Int32)) F dX7_again_8 (by decide) ?_
  refine j_iald F D ce_55 dX7_again_10 (fun v2 => ?_)
  refine j_callSi (As := [.int v2]) F D hX (mX7_ones l G v2) kX7_ones gX7_again_X7_ones ⟨rfl, rfl⟩ ⟨Nat.le_of_ble_eq_true rfl, Nat.le_of_ble_eq_true rfl⟩ rfl (Nat.le_of_ble_eq_true rfl) rfl dX7_again_11 (fun w3 => ?_)
  refine j_istore_n (lv' := [(1, .int w3.1), (0, .ref (G.2.1 54))]) F dX7_again_14 rfl (by rw [← hml]; decide) rfl ?_
  refine j_aload_n F dX7_again_15 rfl 1 rfl ?_
  refine j_getr (r := 55) F D ce_54 fl_X7_again_7 rfl dX7_again_16 ?_
  refine j_bipush (v := (20 : Int32)) F dX7_again_19 (by decide) ?_
  refine j_iconst (v := (0 : Int32)) F dX7_again_21 (by decide) ?_
  refine j_iast F D ce_55 dX7_again_22 (fun N4 => ?_)
  refine j_iload_n F dX7_again_23 rfl 0 rfl ?_
  exact j_iret F D E rfl dX7_again_24

/-! FlangeFolderModel.ofBend -/
def fX7_ofBend (a0 : Int32) (a1 : Int32) (M : Mm) : Option (Int32 × Mm) := (if a1 = (0 : Int32) then (rd M 55 26 (((1 : Int32) + a0) + (1 : Int32))).bind (fun v4 => some (v4, M)) else (if a1 = (1 : Int32) then (rd M 55 26 ((8 : Int32) + a0)).bind (fun v3 => some (v3, M)) else (if a1 = (2 : Int32) then (rd M 55 26 ((14 : Int32) + a0)).bind (fun v2 => some (v2, M)) else (rd M 55 26 (20 : Int32)).bind (fun v1 => some (((v1 >>> (a0 &&& 31)) &&& (1 : Int32)), M)))))
def rmX7_ofBend : Room := { frames := 0, cells := 0, slots := 0, locals := 0 }
theorem kX7_ofBend : Kc yX7_ofBend cX7_ofBend 3 (some .int) wsX7_ofBend 2 := ⟨⟨_, rfl⟩, by decide +kernel, by decide +kernel, by decide +kernel⟩
theorem ic_X7_ofBend_X7 : ∀ w ∈ u_ws RX7 TX7 19, w ∈ wsX7_ofBend := by decide +kernel
theorem fl_X7_ofBend_7 : Fl wsX7_ofBend RX7 7 7 0 := ⟨RX7, TX7, 19, rfl, by decide, ic_X7_ofBend_X7, by decide +kernel⟩
set_option maxHeartbeats 4000000 in
set_option maxRecDepth 100000 in
theorem mX7_ofBend (l : Launch) (G : Gg) (a0 : Int32) (a1 : Int32) : Ci l G SM yX7_ofBend wsX7_ofBend rmX7_ofBend [.ref (G.2.1 54), .int a0, .int a1] (fX7_ofBend a0 a1) := by
  refine Ci.intro (lv := [(0, .ref (G.2.1 54)), (1, .int a0), (2, .int a1)]) RX7 rfl (by decide) kX7_ofBend (Nat.le_of_ble_eq_true rfl) rfl (fun X V M z F D hX hml E => ?_)
  unfold fX7_ofBend
  refine j_iload_n F dX7_ofBend_0 rfl 2 rfl ?_
  refine j_if_ne (tgt := 17) F dX7_ofBend_1 (by decide) ?_ ?_
  · refine j_iload_n F dX7_ofBend_17 rfl 2 rfl ?_
    refine j_iconst (v := (1 : Int32)) F dX7_ofBend_18 (by decide) ?_
    refine j_icmp_ne (tgt := 34) F dX7_ofBend_19 (by decide) ?_ ?_
    · refine j_iload_n F dX7_ofBend_34 rfl 2 rfl ?_
      refine j_iconst (v := (2 : Int32)) F dX7_ofBend_35 (by decide) ?_
      refine j_icmp_ne (tgt := 51) F dX7_ofBend_36 (by decide) ?_ ?_
      · refine j_aload_n F dX7_ofBend_51 rfl 0 rfl ?_
        refine j_getr (r := 55) F D ce_54 fl_X7_ofBend_7 rfl dX7_ofBend_52 ?_
        refine j_bipush (v := (20 : Int32)) F dX7_ofBend_55 (by decide) ?_
        refine j_iald F D ce_55 dX7_ofBend_57 (fun v1 => ?_)
        refine j_iload_n F dX7_ofBend_58 rfl 1 rfl ?_
        refine j_ishr F dX7_ofBend_59 ?_
        refine j_iconst (v := (1 : Int32)) F dX7_ofBend_60 (by decide) ?_
        refine j_iand F dX7_ofBend_61 ?_
        exact j_iret F D E rfl dX7_ofBend_62
      · refine j_aload_n F dX7_ofBend_39 rfl 0 rfl ?_
        refine j_getr (r := 55) F D ce_54 fl_X7_ofBend_7 rfl dX7_ofBend_40 ?_
        refine j_bipush (v := (14 : Int32)) F dX7_ofBend_43 (by decide) ?_
        refine j_iload_n F dX7_ofBend_45 rfl 1 rfl ?_
        refine j_iadd F dX7_ofBend_46 ?_
        refine j_iald F D ce_55 dX7_ofBend_47 (fun v2 => ?_)
        refine j_goto (tgt := 62) F dX7_ofBend_48 (by decide) ?_
        exact j_iret F D E rfl dX7_ofBend_62
    · refine j_aload_n F dX7_ofBend_22 rfl 0 rfl ?_
      refine j_getr (r := 55) F D ce_54 fl_X7_ofBend_7 rfl dX7_ofBend_23 ?_
      refine j_bipush (v := (8 : Int32)) F dX7_ofBend_26 (by decide) ?_
      refine j_iload_n F dX7_ofBend_28 rfl 1 rfl ?_
      refine j_iadd F dX7_ofBend_29 ?_
      refine j_iald F D ce_55 dX7_ofBend_30 (fun v3 => ?_)
      refine j_goto (tgt := 62) F dX7_ofBend_31 (by decide) ?_
      exact j_iret F D E rfl dX7_ofBend_62
  · refine j_aload_n F dX7_ofBend_4 rfl 0 rfl ?_
    refine j_getr (r := 55) F D ce_54 fl_X7_ofBend_7 rfl dX7_ofBend_5 ?_
    refine j_iconst (v := (1 : Int32)) F dX7_ofBend_8 (by decide) ?_
    refine j_iload_n F dX7_ofBend_9 rfl 1 rfl ?_
    refine j_iadd F dX7_ofBend_10 ?_
    refine j_iconst (v := (1 : Int32)) F dX7_ofBend_11 (by decide) ?_
    refine j_iadd F dX7_ofBend_12 ?_
    refine j_iald F D ce_55 dX7_ofBend_13 (fun v4 => ?_)
    refine j_goto (tgt := 62) F dX7_ofBend_14 (by decide) ?_
    exact j_iret F D E rfl dX7_ofBend_62

/-! FlangeFolderModel.of -/
def fX7_of (a0 : Int32) (a1 : Int32) (M : Mm) : Option (Int32 × Mm) := (fX7_isBend a0 M).bind (fun w1 => (if w1.1 = (0 : Int32) then (fX7_counts (-1001 : Int32) w1.2).bind (fun w2 => some (w2.1, w2.2)) else (fX7_within a1 (0 : Int32) (3 : Int32) w1.2).bind (fun w3 => (if w3.1 = (0 : Int32) then (fX7_counts (-1001 : Int32) w3.2).bind (fun w4 => some (w4.1, w4.2)) else (fX7_ofBend a0 a1 w3.2).bind (fun w5 => some (w5.1, w5.2))))))
def rmX7_of : Room := { frames := 2, cells := 0, slots := 0, locals := 43 }
theorem kX7_of : Kc yX7_of cX7_of 3 (some .int) wsX7_of 2 := ⟨⟨_, rfl⟩, by decide +kernel, by decide +kernel, by decide +kernel⟩
set_option maxHeartbeats 4000000 in
set_option maxRecDepth 100000 in
theorem mX7_of (l : Launch) (G : Gg) (a0 : Int32) (a1 : Int32) : Ci l G SM yX7_of wsX7_of rmX7_of [.ref (G.2.1 54), .int a0, .int a1] (fX7_of a0 a1) := by
  refine Ci.intro (lv := [(0, .ref (G.2.1 54)), (1, .int a0), (2, .int a1)]) RX7 rfl (by decide) kX7_of (Nat.le_of_ble_eq_true rfl) rfl (fun X V M z F D hX hml E => ?_)
  unfold fX7_of
  refine j_aload_n F dX7_of_0 rfl 0 rfl ?_
  refine j_iload_n F dX7_of_1 rfl 1 rfl ?_
  refine j_callVi (As := [.int a0]) F D hX (mX7_isBend l G a0) ce_54 rfl kX7_isBend rfl gX7_of_X7_isBend ⟨rfl, rfl⟩ ⟨Nat.le_of_ble_eq_true rfl, Nat.le_of_ble_eq_true rfl⟩ rfl (Nat.le_of_ble_eq_true rfl) rfl dX7_of_2 (fun w1 => ?_)
  refine j_if_eq (tgt := 26) F dX7_of_5 (by decide) ?_ ?_
  · refine j_aload_n F dX7_of_26 rfl 0 rfl ?_
    refine j_sipush (v := (-1001 : Int32)) F dX7_of_27 (by decide) ?_
    refine j_callVi (As := [.int (-1001 : Int32)]) F D hX (mX7_counts l G (-1001 : Int32)) ce_54 rfl kX7_counts rfl gX7_of_X7_counts ⟨rfl, rfl⟩ ⟨Nat.le_of_ble_eq_true rfl, Nat.le_of_ble_eq_true rfl⟩ rfl (Nat.le_of_ble_eq_true rfl) rfl dX7_of_30 (fun w2 => ?_)
    exact j_iret F D E rfl dX7_of_33
  · refine j_iload_n F dX7_of_8 rfl 2 rfl ?_
    refine j_iconst (v := (0 : Int32)) F dX7_of_9 (by decide) ?_
    refine j_iconst (v := (3 : Int32)) F dX7_of_10 (by decide) ?_
    refine j_callSi (As := [.int a1, .int (0 : Int32), .int (3 : Int32)]) F D hX (mX7_within l G a1 (0 : Int32) (3 : Int32)) kX7_within gX7_of_X7_within ⟨rfl, rfl⟩ ⟨Nat.le_of_ble_eq_true rfl, Nat.le_of_ble_eq_true rfl⟩ rfl (Nat.le_of_ble_eq_true rfl) rfl dX7_of_11 (fun w3 => ?_)
    refine j_if_eq (tgt := 26) F dX7_of_14 (by decide) ?_ ?_
    · refine j_aload_n F dX7_of_26 rfl 0 rfl ?_
      refine j_sipush (v := (-1001 : Int32)) F dX7_of_27 (by decide) ?_
      refine j_callVi (As := [.int (-1001 : Int32)]) F D hX (mX7_counts l G (-1001 : Int32)) ce_54 rfl kX7_counts rfl gX7_of_X7_counts ⟨rfl, rfl⟩ ⟨Nat.le_of_ble_eq_true rfl, Nat.le_of_ble_eq_true rfl⟩ rfl (Nat.le_of_ble_eq_true rfl) rfl dX7_of_30 (fun w4 => ?_)
      exact j_iret F D E rfl dX7_of_33
    · refine j_aload_n F dX7_of_17 rfl 0 rfl ?_
      refine j_iload_n F dX7_of_18 rfl 1 rfl ?_
      refine j_iload_n F dX7_of_19 rfl 2 rfl ?_
      refine j_callVi (As := [.int a0, .int a1]) F D hX (mX7_ofBend l G a0 a1) ce_54 rfl kX7_ofBend rfl gX7_of_X7_ofBend ⟨rfl, rfl⟩ ⟨Nat.le_of_ble_eq_true rfl, Nat.le_of_ble_eq_true rfl⟩ rfl (Nat.le_of_ble_eq_true rfl) rfl dX7_of_20 (fun w5 => ?_)
      refine j_goto (tgt := 33) F dX7_of_23 (by decide) ?_
      exact j_iret F D E rfl dX7_of_33

/-! FlangeFolderModel.joint -/
def fX7_joint (a0 : Int32) (a1 : Int32) (M : Mm) : Option (Int32 × Mm) := (rd M 55 26 (0 : Int32)).bind (fun v1 => (fX7_within a0 (0 : Int32) (v1 + (1 : Int32)) M).bind (fun w2 => (if w2.1 = (0 : Int32) then (fX7_counts (-1001 : Int32) w2.2).bind (fun w3 => some (w3.1, w3.2)) else (fX7_within a1 (0 : Int32) (1 : Int32) w2.2).bind (fun w4 => (if w4.1 = (0 : Int32) then (fX7_counts (-1001 : Int32) w4.2).bind (fun w9 => some (w9.1, w9.2)) else (rd w4.2 55 26 (20 : Int32)).bind (fun v5 => (fX7_lays v5 w4.2).bind (fun w6 => (if a1 = (0 : Int32) then (rd w6.2 60 8 a0).bind (fun v8 => some (v8, w6.2)) else (rd w6.2 61 8 a0).bind (fun v7 => some (v7, w6.2))))))))))
def rmX7_joint : Room := { frames := 2, cells := 0, slots := 0, locals := 44 }
theorem kX7_joint : Kc yX7_joint cX7_joint 3 (some .int) wsX7_joint 2 := ⟨⟨_, rfl⟩, by decide +kernel, by decide +kernel, by decide +kernel⟩
theorem ic_X7_joint_X7 : ∀ w ∈ u_ws RX7 TX7 19, w ∈ wsX7_joint := by decide +kernel
theorem fl_X7_joint_7 : Fl wsX7_joint RX7 7 7 0 := ⟨RX7, TX7, 19, rfl, by decide, ic_X7_joint_X7, by decide +kernel⟩
theorem fl_X7_joint_28 : Fl wsX7_joint RX7 28 7 8 := ⟨RX7, TX7, 19, rfl, by decide, ic_X7_joint_X7, by decide +kernel⟩
theorem fl_X7_joint_25 : Fl wsX7_joint RX7 25 7 7 := ⟨RX7, TX7, 19, rfl, by decide, ic_X7_joint_X7, by decide +kernel⟩
set_option maxHeartbeats 4000000 in
set_option maxRecDepth 100000 in
theorem mX7_joint (l : Launch) (G : Gg) (a0 : Int32) (a1 : Int32) : Ci l G SM yX7_joint wsX7_joint rmX7_joint [.ref (G.2.1 54), .int a0, .int a1] (fX7_joint a0 a1) := by
  refine Ci.intro (lv := [(0, .ref (G.2.1 54)), (1, .int a0), (2, .int a1)]) RX7 rfl (by decide) kX7_joint (Nat.le_of_ble_eq_true rfl) rfl (fun X V M z F D hX hml E => ?_)
  unfold fX7_joint
  refine j_iload_n F dX7_joint_0 rfl 1 rfl ?_
  refine j_iconst (v := (0 : Int32)) F dX7_joint_1 (by decide) ?_
  refine j_aload_n F dX7_joint_2 rfl 0 rfl ?_
  refine j_getr (r := 55) F D ce_54 fl_X7_joint_7 rfl dX7_joint_3 ?_
  refine j_iconst (v := (0 : Int32)) F dX7_joint_6 (by decide) ?_
  refine j_iald F D ce_55 dX7_joint_7 (fun v1 => ?_)
  refine j_iconst (v := (1 : Int32)) F dX7_joint_8 (by decide) ?_
  refine j_iadd F dX7_joint_9 ?_
  refine j_callSi (As := [.int a0, .int (0 : Int32), .int (v1 + (1 : Int32))]) F D hX (mX7_within l G a0 (0 : Int32) (v1 + (1 : Int32))) kX7_within gX7_joint_X7_within ⟨rfl, rfl⟩ ⟨Nat.le_of_ble_eq_true rfl, Nat.le_of_ble_eq_true rfl⟩ rfl (Nat.le_of_ble_eq_true rfl) rfl dX7_joint_10 (fun w2 => ?_)
  refine j_if_eq (tgt := 25) F dX7_joint_13 (by decide) ?_ ?_
  · refine j_aload_n F dX7_joint_25 rfl 0 rfl ?_
    refine j_sipush (v := (-1001 : Int32)) F dX7_joint_26 (by decide) ?_
    refine j_callVi (As := [.int (-1001 : Int32)]) F D hX (mX7_counts l G (-1001 : Int32)) ce_54 rfl kX7_counts rfl gX7_joint_X7_counts ⟨rfl, rfl⟩ ⟨Nat.le_of_ble_eq_true rfl, Nat.le_of_ble_eq_true rfl⟩ rfl (Nat.le_of_ble_eq_true rfl) rfl dX7_joint_29 (fun w3 => ?_)
    exact j_iret F D E rfl dX7_joint_32
  · refine j_iload_n F dX7_joint_16 rfl 2 rfl ?_
    refine j_iconst (v := (0 : Int32)) F dX7_joint_17 (by decide) ?_
    refine j_iconst (v := (1 : Int32)) F dX7_joint_18 (by decide) ?_
    refine j_callSi (As := [.int a1, .int (0 : Int32), .int (1 : Int32)]) F D hX (mX7_within l G a1 (0 : Int32) (1 : Int32)) kX7_within gX7_joint_X7_within ⟨rfl, rfl⟩ ⟨Nat.le_of_ble_eq_true rfl, Nat.le_of_ble_eq_true rfl⟩ rfl (Nat.le_of_ble_eq_true rfl) rfl dX7_joint_19 (fun w4 => ?_)
    refine j_if_ne (tgt := 33) F dX7_joint_22 (by decide) ?_ ?_
    · refine j_aload_n F dX7_joint_33 rfl 0 rfl ?_
      refine j_aload_n F dX7_joint_34 rfl 0 rfl ?_
      refine j_getr (r := 55) F D ce_54 fl_X7_joint_7 rfl dX7_joint_35 ?_
      refine j_bipush (v := (20 : Int32)) F dX7_joint_38 (by decide) ?_
      refine j_iald F D ce_55 dX7_joint_40 (fun v5 => ?_)
      refine j_callVv (As := [.int v5]) F D hX (mX7_lays l G v5) ce_54 rfl kX7_lays rfl gX7_joint_X7_lays ⟨rfl, rfl⟩ ⟨Nat.le_of_ble_eq_true rfl, Nat.le_of_ble_eq_true rfl⟩ rfl (Nat.le_of_ble_eq_true rfl) rfl dX7_joint_41 (fun w6 => ?_)
      refine j_iload_n F dX7_joint_44 rfl 2 rfl ?_
      refine j_if_ne (tgt := 57) F dX7_joint_45 (by decide) ?_ ?_
      · refine j_aload_n F dX7_joint_57 rfl 0 rfl ?_
        refine j_getr (r := 61) F D ce_54 fl_X7_joint_28 rfl dX7_joint_58 ?_
        refine j_iload_n F dX7_joint_61 rfl 1 rfl ?_
        refine j_iald F D ce_61 dX7_joint_62 (fun v7 => ?_)
        exact j_iret F D E rfl dX7_joint_63
      · refine j_aload_n F dX7_joint_48 rfl 0 rfl ?_
        refine j_getr (r := 60) F D ce_54 fl_X7_joint_25 rfl dX7_joint_49 ?_
        refine j_iload_n F dX7_joint_52 rfl 1 rfl ?_
        refine j_iald F D ce_60 dX7_joint_53 (fun v8 => ?_)
        refine j_goto (tgt := 63) F dX7_joint_54 (by decide) ?_
        exact j_iret F D E rfl dX7_joint_63
    · refine j_aload_n F dX7_joint_25 rfl 0 rfl ?_
      refine j_sipush (v := (-1001 : Int32)) F dX7_joint_26 (by decide) ?_
      refine j_callVi (As := [.int (-1001 : Int32)]) F D hX (mX7_counts l G (-1001 : Int32)) ce_54 rfl kX7_counts rfl gX7_joint_X7_counts ⟨rfl, rfl⟩ ⟨Nat.le_of_ble_eq_true rfl, Nat.le_of_ble_eq_true rfl⟩ rfl (Nat.le_of_ble_eq_true rfl) rfl dX7_joint_29 (fun w9 => ?_)
      exact j_iret F D E rfl dX7_joint_32

/-! FlangeFolderModel.boxIs -/
def lX7_boxIs_15 (K7 : Int32 → Mm → Option (Int32 × Mm)) (c3 : Int32) : Nat → Int32 → Int32 → Mm → Option (Int32 × Mm)
  | 0, _, _, _ => none
  | n11 + 1, x4, x5, N6 => (rd N6 55 26 (0 : Int32)).bind (fun v12 => (if (v12 + (2 : Int32)) ≤ x5 then K7 x4 N6 else jn (fun (x13 : Int32) => (if (2 : Int32) ≤ c3 then (fX7_greater x4 x13 N6).bind (fun w15 => lX7_boxIs_15 K7 c3 n11 w15.1 (x5 + (1 : Int32)) w15.2) else (fX7_lesser x4 x13 N6).bind (fun w16 => lX7_boxIs_15 K7 c3 n11 w16.1 (x5 + (1 : Int32)) w16.2))) (fun K14 => (if (irm c3 (2 : Int32)) = (0 : Int32) then (rd N6 60 8 x5).bind (fun v18 => K14 v18) else (rd N6 61 8 x5).bind (fun v17 => K14 v17)))))
def fX7_boxIs (a0 : Int32) (M : Mm) : Option (Int32 × Mm) := (rd M 55 26 (20 : Int32)).bind (fun v1 => (fX7_lays v1 M).bind (fun w2 => lX7_boxIs_15 (fun (x8 : Int32) (N9 : Mm) => some (x8, N9)) a0 fu (0 : Int32) (1 : Int32) w2.2))
def rmX7_boxIs : Room := { frames := 2, cells := 0, slots := 0, locals := 44 }
theorem kX7_boxIs : Kc yX7_boxIs cX7_boxIs 5 (some .int) wsX7_boxIs 1 := ⟨⟨_, rfl⟩, by decide +kernel, by decide +kernel, by decide +kernel⟩
theorem ic_X7_boxIs_X7 : ∀ w ∈ u_ws RX7 TX7 19, w ∈ wsX7_boxIs := by decide +kernel
theorem fl_X7_boxIs_7 : Fl wsX7_boxIs RX7 7 7 0 := ⟨RX7, TX7, 19, rfl, by decide, ic_X7_boxIs_X7, by decide +kernel⟩
theorem fl_X7_boxIs_28 : Fl wsX7_boxIs RX7 28 7 8 := ⟨RX7, TX7, 19, rfl, by decide, ic_X7_boxIs_X7, by decide +kernel⟩
theorem fl_X7_boxIs_25 : Fl wsX7_boxIs RX7 25 7 7 := ⟨RX7, TX7, 19, rfl, by decide, ic_X7_boxIs_X7, by decide +kernel⟩
set_option maxHeartbeats 4000000 in
set_option maxRecDepth 100000 in
theorem mX7_boxIs (l : Launch) (G : Gg) (a0 : Int32) : Ci l G SM yX7_boxIs wsX7_boxIs rmX7_boxIs [.ref (G.2.1 54), .int a0] (fX7_boxIs a0) := by
  refine Ci.intro (lv := [(0, .ref (G.2.1 54)), (1, .int a0)]) RX7 rfl (by decide) kX7_boxIs (Nat.le_of_ble_eq_true rfl) rfl (fun X V M z F D hX hml E => ?_)
  unfold fX7_boxIs
  refine j_aload_n F dX7_boxIs_0 rfl 0 rfl ?_
  refine j_aload_n F dX7_boxIs_1 rfl 0 rfl ?_
  refine j_getr (r := 55) F D ce_54 fl_X7_boxIs_7 rfl dX7_boxIs_2 ?_
  refine j_bipush (v := (20 : Int32)) F dX7_boxIs_5 (by decide) ?_
  refine j_iald F D ce_55 dX7_boxIs_7 (fun v1 => ?_)
  refine j_callVv (As := [.int v1]) F D hX (mX7_lays l G v1) ce_54 rfl kX7_lays rfl gX7_boxIs_X7_lays ⟨rfl, rfl⟩ ⟨Nat.le_of_ble_eq_true rfl, Nat.le_of_ble_eq_true rfl⟩ rfl (Nat.le_of_ble_eq_true rfl) rfl dX7_boxIs_8 (fun w2 => ?_)
  refine j_iconst (v := (0 : Int32)) F dX7_boxIs_11 (by decide) ?_
  refine j_istore_n (lv' := [(2, .int (0 : Int32)), (0, .ref (G.2.1 54)), (1, .int a0)]) F dX7_boxIs_12 rfl (by rw [← hml]; decide) rfl ?_
  refine j_iconst (v := (1 : Int32)) F dX7_boxIs_13 (by decide) ?_
  refine j_istore_n (lv' := [(3, .int (1 : Int32)), (2, .int (0 : Int32)), (0, .ref (G.2.1 54)), (1, .int a0)]) F dX7_boxIs_14 rfl (by rw [← hml]; decide) rfl ?_
  have hL19 : ∀ (K7 : Int32 → Mm → Option (Int32 × Mm)) (c3 : Int32), (∀ (x8 : Int32) (N9 : Mm), Jg X V z (K7 x8 N9) N9 77 [(2, .int x8)] []) → ∀ (n11 : Nat) (x4 : Int32) (x5 : Int32) (N6 : Mm), Jg X V z (lX7_boxIs_15 K7 c3 n11 x4 x5 N6) N6 15 [(0, .ref (G.2.1 54)), (1, .int c3), (2, .int x4), (3, .int x5)] [] := by
    intro K7 c3 hK7 n11
    induction n11 with
    | zero => intro x4 x5 N6; rw [lX7_boxIs_15]; exact j_none
    | succ n11 ih10 =>
      intro x4 x5 N6
      rw [lX7_boxIs_15]
      refine j_iload_n F dX7_boxIs_15 rfl 3 rfl ?_
      refine j_aload_n F dX7_boxIs_16 rfl 0 rfl ?_
      refine j_getr (r := 55) F D ce_54 fl_X7_boxIs_7 rfl dX7_boxIs_17 ?_
      refine j_iconst (v := (0 : Int32)) F dX7_boxIs_20 (by decide) ?_
      refine j_iald F D ce_55 dX7_boxIs_21 (fun v12 => ?_)
      refine j_iconst (v := (2 : Int32)) F dX7_boxIs_22 (by decide) ?_
      refine j_iadd F dX7_boxIs_23 ?_
      refine j_icmp_ge (tgt := 77) F dX7_boxIs_24 (by decide) ?_ ?_
      · exact j_sub [2] rfl (hK7 x4 N6)
      · refine j_iload_n F dX7_boxIs_27 rfl 1 rfl ?_
        refine j_iconst (v := (2 : Int32)) F dX7_boxIs_28 (by decide) ?_
        refine j_irm F (by decide) dX7_boxIs_29 ?_
        refine j_jn (P := fun (K14 : Int32 → Option (Int32 × Mm)) => ∀ (x13 : Int32), Jg X V z (K14 x13) N6 48 [(0, .ref (G.2.1 54)), (1, .int c3), (2, .int x4), (3, .int x5)] [.int x13]) ?_ (fun K14 hK14 => ?_)
        · intro x13
          refine j_istore (lv' := [(4, .int x13), (0, .ref (G.2.1 54)), (1, .int c3), (2, .int x4), (3, .int x5)]) F dX7_boxIs_48 (by rw [← hml]; decide) rfl ?_
          refine j_iload_n F dX7_boxIs_50 rfl 2 rfl ?_
          refine j_iconst (v := (2 : Int32)) F dX7_boxIs_51 (by decide) ?_
          refine j_icmp_ge (tgt := 64) F dX7_boxIs_52 (by decide) ?_ ?_
          · refine j_iload_n F dX7_boxIs_64 rfl 3 rfl ?_
            refine j_iload F dX7_boxIs_65 0 rfl ?_
            refine j_callSi (As := [.int x4, .int x13]) F D hX (mX7_greater l G x4 x13) kX7_greater gX7_boxIs_X7_greater ⟨rfl, rfl⟩ ⟨Nat.le_of_ble_eq_true rfl, Nat.le_of_ble_eq_true rfl⟩ rfl (Nat.le_of_ble_eq_true rfl) rfl dX7_boxIs_67 (fun w15 => ?_)
            refine j_istore_n (lv' := [(2, .int w15.1), (4, .int x13), (0, .ref (G.2.1 54)), (1, .int c3), (3, .int x5)]) F dX7_boxIs_70 rfl (by rw [← hml]; decide) rfl ?_
            refine j_iinc (v := (x5 + (1 : Int32))) (lv' := [(3, .int (x5 + (1 : Int32))), (2, .int w15.1), (4, .int x13), (0, .ref (G.2.1 54)), (1, .int c3)]) F dX7_boxIs_71 4 rfl rfl (by rw [← hml]; decide) rfl ?_
            refine j_goto (tgt := 15) F dX7_boxIs_74 (by decide) ?_
            exact j_sub [3, 4, 1, 0] rfl (ih10 w15.1 (x5 + (1 : Int32)) w15.2)
          · refine j_iload_n F dX7_boxIs_55 rfl 3 rfl ?_
            refine j_iload F dX7_boxIs_56 0 rfl ?_
            refine j_callSi (As := [.int x4, .int x13]) F D hX (mX7_lesser l G x4 x13) kX7_lesser gX7_boxIs_X7_lesser ⟨rfl, rfl⟩ ⟨Nat.le_of_ble_eq_true rfl, Nat.le_of_ble_eq_true rfl⟩ rfl (Nat.le_of_ble_eq_true rfl) rfl dX7_boxIs_58 (fun w16 => ?_)
            refine j_goto (tgt := 70) F dX7_boxIs_61 (by decide) ?_
            refine j_istore_n (lv' := [(2, .int w16.1), (4, .int x13), (0, .ref (G.2.1 54)), (1, .int c3), (3, .int x5)]) F dX7_boxIs_70 rfl (by rw [← hml]; decide) rfl ?_
            refine j_iinc (v := (x5 + (1 : Int32))) (lv' := [(3, .int (x5 + (1 : Int32))), (2, .int w16.1), (4, .int x13), (0, .ref (G.2.1 54)), (1, .int c3)]) F dX7_boxIs_71 4 rfl rfl (by rw [← hml]; decide) rfl ?_
            refine j_goto (tgt := 15) F dX7_boxIs_74 (by decide) ?_
            exact j_sub [3, 4, 1, 0] rfl (ih10 w16.1 (x5 + (1 : Int32)) w16.2)
        · refine j_if_ne (tgt := 42) F dX7_boxIs_30 (by decide) ?_ ?_
          · refine j_aload_n F dX7_boxIs_42 rfl 0 rfl ?_
            refine j_getr (r := 61) F D ce_54 fl_X7_boxIs_28 rfl dX7_boxIs_43 ?_
            refine j_iload_n F dX7_boxIs_46 rfl 3 rfl ?_
            refine j_iald F D ce_61 dX7_boxIs_47 (fun v17 => ?_)
            exact j_sub [0, 1, 2, 3] rfl (hK14 v17)
          · refine j_aload_n F dX7_boxIs_33 rfl 0 rfl ?_
            refine j_getr (r := 60) F D ce_54 fl_X7_boxIs_25 rfl dX7_boxIs_34 ?_
            refine j_iload_n F dX7_boxIs_37 rfl 3 rfl ?_
            refine j_iald F D ce_60 dX7_boxIs_38 (fun v18 => ?_)
            refine j_goto (tgt := 48) F dX7_boxIs_39 (by decide) ?_
            exact j_sub [0, 1, 2, 3] rfl (hK14 v18)
  refine j_sub [2, 3, 1, 0] rfl (hL19 _ a0 ?_ fu (0 : Int32) (1 : Int32) w2.2)
  intro x8 N9
  refine j_iload_n F dX7_boxIs_77 rfl 0 rfl ?_
  exact j_iret F D E rfl dX7_boxIs_78

/-! FlangeFolderModel.box -/
def fX7_box (a0 : Int32) (M : Mm) : Option (Int32 × Mm) := (fX7_within a0 (0 : Int32) (3 : Int32) M).bind (fun w1 => (if w1.1 = (0 : Int32) then (fX7_counts (-1001 : Int32) w1.2).bind (fun w2 => some (w2.1, w2.2)) else (fX7_boxIs a0 w1.2).bind (fun w3 => some (w3.1, w3.2))))
def rmX7_box : Room := { frames := 3, cells := 0, slots := 0, locals := 68 }
theorem kX7_box : Kc yX7_box cX7_box 2 (some .int) wsX7_box 1 := ⟨⟨_, rfl⟩, by decide +kernel, by decide +kernel, by decide +kernel⟩
set_option maxHeartbeats 4000000 in
set_option maxRecDepth 100000 in
theorem mX7_box (l : Launch) (G : Gg) (a0 : Int32) : Ci l G SM yX7_box wsX7_box rmX7_box [.ref (G.2.1 54), .int a0] (fX7_box a0) := by
  refine Ci.intro (lv := [(0, .ref (G.2.1 54)), (1, .int a0)]) RX7 rfl (by decide) kX7_box (Nat.le_of_ble_eq_true rfl) rfl (fun X V M z F D hX hml E => ?_)
  unfold fX7_box
  refine j_iload_n F dX7_box_0 rfl 1 rfl ?_
  refine j_iconst (v := (0 : Int32)) F dX7_box_1 (by decide) ?_
  refine j_iconst (v := (3 : Int32)) F dX7_box_2 (by decide) ?_
  refine j_callSi (As := [.int a0, .int (0 : Int32), .int (3 : Int32)]) F D hX (mX7_within l G a0 (0 : Int32) (3 : Int32)) kX7_within gX7_box_X7_within ⟨rfl, rfl⟩ ⟨Nat.le_of_ble_eq_true rfl, Nat.le_of_ble_eq_true rfl⟩ rfl (Nat.le_of_ble_eq_true rfl) rfl dX7_box_3 (fun w1 => ?_)
  refine j_if_eq (tgt := 17) F dX7_box_6 (by decide) ?_ ?_
  · refine j_aload_n F dX7_box_17 rfl 0 rfl ?_
    refine j_sipush (v := (-1001 : Int32)) F dX7_box_18 (by decide) ?_
    refine j_callVi (As := [.int (-1001 : Int32)]) F D hX (mX7_counts l G (-1001 : Int32)) ce_54 rfl kX7_counts rfl gX7_box_X7_counts ⟨rfl, rfl⟩ ⟨Nat.le_of_ble_eq_true rfl, Nat.le_of_ble_eq_true rfl⟩ rfl (Nat.le_of_ble_eq_true rfl) rfl dX7_box_21 (fun w2 => ?_)
    exact j_iret F D E rfl dX7_box_24
  · refine j_aload_n F dX7_box_9 rfl 0 rfl ?_
    refine j_iload_n F dX7_box_10 rfl 1 rfl ?_
    refine j_callVi (As := [.int a0]) F D hX (mX7_boxIs l G a0) ce_54 rfl kX7_boxIs rfl gX7_box_X7_boxIs ⟨rfl, rfl⟩ ⟨Nat.le_of_ble_eq_true rfl, Nat.le_of_ble_eq_true rfl⟩ rfl (Nat.le_of_ble_eq_true rfl) rfl dX7_box_11 (fun w3 => ?_)
    refine j_goto (tgt := 24) F dX7_box_14 (by decide) ?_
    exact j_iret F D E rfl dX7_box_24

/-! FlangeFolderModel.hits -/
def fX7_hits (a0 : Int32) (M : Mm) : Option (Int32 × Mm) := (fX7_isBend a0 M).bind (fun w1 => (if w1.1 = (0 : Int32) then (fX7_counts (-1001 : Int32) w1.2).bind (fun w7 => some (w7.1, w7.2)) else (rd w1.2 55 26 (20 : Int32)).bind (fun v2 => (fX7_has v2 a0 w1.2).bind (fun w3 => (if w3.1 = (0 : Int32) then (rd w3.2 55 26 (20 : Int32)).bind (fun v4 => (fX7_hitBy a0 v4 w3.2).bind (fun w5 => some (w5.1, w5.2))) else (fX7_counts (-1002 : Int32) w3.2).bind (fun w6 => some (w6.1, w6.2)))))))
def rmX7_hits : Room := { frames := 3, cells := 0, slots := 0, locals := 78 }
theorem kX7_hits : Kc yX7_hits cX7_hits 2 (some .int) wsX7_hits 1 := ⟨⟨_, rfl⟩, by decide +kernel, by decide +kernel, by decide +kernel⟩
theorem ic_X7_hits_X7 : ∀ w ∈ u_ws RX7 TX7 19, w ∈ wsX7_hits := by decide +kernel
theorem fl_X7_hits_7 : Fl wsX7_hits RX7 7 7 0 := ⟨RX7, TX7, 19, rfl, by decide, ic_X7_hits_X7, by decide +kernel⟩
set_option maxHeartbeats 4000000 in
set_option maxRecDepth 100000 in
theorem mX7_hits (l : Launch) (G : Gg) (a0 : Int32) : Ci l G SM yX7_hits wsX7_hits rmX7_hits [.ref (G.2.1 54), .int a0] (fX7_hits a0) := by
  refine Ci.intro (lv := [(0, .ref (G.2.1 54)), (1, .int a0)]) RX7 rfl (by decide) kX7_hits (Nat.le_of_ble_eq_true rfl) rfl (fun X V M z F D hX hml E => ?_)
  unfold fX7_hits
  refine j_aload_n F dX7_hits_0 rfl 0 rfl ?_
  refine j_iload_n F dX7_hits_1 rfl 1 rfl ?_
  refine j_callVi (As := [.int a0]) F D hX (mX7_isBend l G a0) ce_54 rfl kX7_isBend rfl gX7_hits_X7_isBend ⟨rfl, rfl⟩ ⟨Nat.le_of_ble_eq_true rfl, Nat.le_of_ble_eq_true rfl⟩ rfl (Nat.le_of_ble_eq_true rfl) rfl dX7_hits_2 (fun w1 => ?_)
  refine j_if_ne (tgt := 16) F dX7_hits_5 (by decide) ?_ ?_
  · refine j_aload_n F dX7_hits_16 rfl 0 rfl ?_
    refine j_getr (r := 55) F D ce_54 fl_X7_hits_7 rfl dX7_hits_17 ?_
    refine j_bipush (v := (20 : Int32)) F dX7_hits_20 (by decide) ?_
    refine j_iald F D ce_55 dX7_hits_22 (fun v2 => ?_)
    refine j_iload_n F dX7_hits_23 rfl 1 rfl ?_
    refine j_callSi (As := [.int v2, .int a0]) F D hX (mX7_has l G v2 a0) kX7_has gX7_hits_X7_has ⟨rfl, rfl⟩ ⟨Nat.le_of_ble_eq_true rfl, Nat.le_of_ble_eq_true rfl⟩ rfl (Nat.le_of_ble_eq_true rfl) rfl dX7_hits_24 (fun w3 => ?_)
    refine j_if_eq (tgt := 40) F dX7_hits_27 (by decide) ?_ ?_
    · refine j_aload_n F dX7_hits_40 rfl 0 rfl ?_
      refine j_iload_n F dX7_hits_41 rfl 1 rfl ?_
      refine j_aload_n F dX7_hits_42 rfl 0 rfl ?_
      refine j_getr (r := 55) F D ce_54 fl_X7_hits_7 rfl dX7_hits_43 ?_
      refine j_bipush (v := (20 : Int32)) F dX7_hits_46 (by decide) ?_
      refine j_iald F D ce_55 dX7_hits_48 (fun v4 => ?_)
      refine j_callVi (As := [.int a0, .int v4]) F D hX (mX7_hitBy l G a0 v4) ce_54 rfl kX7_hitBy rfl gX7_hits_X7_hitBy ⟨rfl, rfl⟩ ⟨Nat.le_of_ble_eq_true rfl, Nat.le_of_ble_eq_true rfl⟩ rfl (Nat.le_of_ble_eq_true rfl) rfl dX7_hits_49 (fun w5 => ?_)
      exact j_iret F D E rfl dX7_hits_52
    · refine j_aload_n F dX7_hits_30 rfl 0 rfl ?_
      refine j_sipush (v := (-1002 : Int32)) F dX7_hits_31 (by decide) ?_
      refine j_callVi (As := [.int (-1002 : Int32)]) F D hX (mX7_counts l G (-1002 : Int32)) ce_54 rfl kX7_counts rfl gX7_hits_X7_counts ⟨rfl, rfl⟩ ⟨Nat.le_of_ble_eq_true rfl, Nat.le_of_ble_eq_true rfl⟩ rfl (Nat.le_of_ble_eq_true rfl) rfl dX7_hits_34 (fun w6 => ?_)
      refine j_goto (tgt := 52) F dX7_hits_37 (by decide) ?_
      exact j_iret F D E rfl dX7_hits_52
  · refine j_aload_n F dX7_hits_8 rfl 0 rfl ?_
    refine j_sipush (v := (-1001 : Int32)) F dX7_hits_9 (by decide) ?_
    refine j_callVi (As := [.int (-1001 : Int32)]) F D hX (mX7_counts l G (-1001 : Int32)) ce_54 rfl kX7_counts rfl gX7_hits_X7_counts ⟨rfl, rfl⟩ ⟨Nat.le_of_ble_eq_true rfl, Nat.le_of_ble_eq_true rfl⟩ rfl (Nat.le_of_ble_eq_true rfl) rfl dX7_hits_12 (fun w7 => ?_)
    exact j_iret F D E rfl dX7_hits_15

/-! FlangeFolderModel.free -/
def lX7_free_4 (K4 : Int32 → Mm → Option (Int32 × Mm))  : Nat → Int32 → Int32 → Mm → Option (Int32 × Mm)
  | 0, _, _, _ => none
  | n8 + 1, x1, x2, N3 => (rd N3 55 26 (0 : Int32)).bind (fun v9 => (if v9 ≤ x2 then K4 x1 N3 else (rd N3 55 26 (20 : Int32)).bind (fun v10 => (fX7_isFree x2 v10 N3).bind (fun w11 => (if w11.1 = (0 : Int32) then lt (x1 ||| (0 : Int32)) (fun x12 => lX7_free_4 K4 n8 x12 (x2 + (1 : Int32)) w11.2) else lt (x1 ||| ((1 : Int32) <<< (x2 &&& 31))) (fun x13 => lX7_free_4 K4 n8 x13 (x2 + (1 : Int32)) w11.2))))))
def fX7_free (M : Mm) : Option (Int32 × Mm) := lX7_free_4 (fun (x5 : Int32) (N6 : Mm) => some (x5, N6))  fu (0 : Int32) (0 : Int32) M
def rmX7_free : Room := { frames := 4, cells := 0, slots := 0, locals := 100 }
theorem kX7_free : Kc yX7_free cX7_free 3 (some .int) wsX7_free 0 := ⟨⟨_, rfl⟩, by decide +kernel, by decide +kernel, by decide +kernel⟩
theorem ic_X7_free_X7 : ∀ w ∈ u_ws RX7 TX7 19, w ∈ wsX7_free := by decide +kernel
theorem fl_X7_free_7 : Fl wsX7_free RX7 7 7 0 := ⟨RX7, TX7, 19, rfl, by decide, ic_X7_free_X7, by decide +kernel⟩
set_option maxHeartbeats 4000000 in
set_option maxRecDepth 100000 in
theorem mX7_free (l : Launch) (G : Gg) : Ci l G SM yX7_free wsX7_free rmX7_free [.ref (G.2.1 54)] fX7_free := by
  refine Ci.intro (lv := [(0, .ref (G.2.1 54))]) RX7 rfl (by decide) kX7_free (Nat.le_of_ble_eq_true rfl) rfl (fun X V M z F D hX hml E => ?_)
  unfold fX7_free
  refine j_iconst (v := (0 : Int32)) F dX7_free_0 (by decide) ?_
  refine j_istore_n (lv' := [(1, .int (0 : Int32)), (0, .ref (G.2.1 54))]) F dX7_free_1 rfl (by rw [← hml]; decide) rfl ?_
  refine j_iconst (v := (0 : Int32)) F dX7_free_2 (by decide) ?_
  refine j_istore_n (lv' := [(2, .int (0 : Int32)), (1, .int (0 : Int32)), (0, .ref (G.2.1 54))]) F dX7_free_3 rfl (by rw [← hml]; decide) rfl ?_
  have hL14 : ∀ (K4 : Int32 → Mm → Option (Int32 × Mm)) , (∀ (x5 : Int32) (N6 : Mm), Jg X V z (K4 x5 N6) N6 45 [(1, .int x5)] []) → ∀ (n8 : Nat) (x1 : Int32) (x2 : Int32) (N3 : Mm), Jg X V z (lX7_free_4 K4 n8 x1 x2 N3) N3 4 [(0, .ref (G.2.1 54)), (1, .int x1), (2, .int x2)] [] := by
    intro K4  hK4 n8
    induction n8 with
    | zero => intro x1 x2 N3; rw [lX7_free_4]; exact j_none
    | succ n8 ih7 =>
      intro x1 x2 N3
      rw [lX7_free_4]
      refine j_iload_n F dX7_free_4 rfl 2 rfl ?_
      refine j_aload_n F dX7_free_5 rfl 0 rfl ?_
      refine j_getr (r := 55) F D ce_54 fl_X7_free_7 rfl dX7_free_6 ?_
      refine j_iconst (v := (0 : Int32)) F dX7_free_9 (by decide) ?_
      refine j_iald F D ce_55 dX7_free_10 (fun v9 => ?_)
      refine j_icmp_ge (tgt := 45) F dX7_free_11 (by decide) ?_ ?_
      · exact j_sub [1] rfl (hK4 x1 N3)
      · refine j_iload_n F dX7_free_14 rfl 1 rfl ?_
        refine j_aload_n F dX7_free_15 rfl 0 rfl ?_
        refine j_iload_n F dX7_free_16 rfl 2 rfl ?_
        refine j_aload_n F dX7_free_17 rfl 0 rfl ?_
        refine j_getr (r := 55) F D ce_54 fl_X7_free_7 rfl dX7_free_18 ?_
        refine j_bipush (v := (20 : Int32)) F dX7_free_21 (by decide) ?_
        refine j_iald F D ce_55 dX7_free_23 (fun v10 => ?_)
        refine j_callVi (As := [.int x2, .int v10]) F D hX (mX7_isFree l G x2 v10) ce_54 rfl kX7_isFree rfl gX7_free_X7_isFree ⟨rfl, rfl⟩ ⟨Nat.le_of_ble_eq_true rfl, Nat.le_of_ble_eq_true rfl⟩ rfl (Nat.le_of_ble_eq_true rfl) rfl dX7_free_24 (fun w11 => ?_)
        refine j_if_eq (tgt := 36) F dX7_free_27 (by decide) ?_ ?_
        · refine j_iconst (v := (0 : Int32)) F dX7_free_36 (by decide) ?_
          refine j_ior F dX7_free_37 ?_
          refine j_let (f := Value.int) (fun x12 => ?_)
          refine j_istore_n (lv' := [(1, .int x12), (0, .ref (G.2.1 54)), (2, .int x2)]) F dX7_free_38 rfl (by rw [← hml]; decide) rfl ?_
          refine j_iinc (v := (x2 + (1 : Int32))) (lv' := [(2, .int (x2 + (1 : Int32))), (1, .int x12), (0, .ref (G.2.1 54))]) F dX7_free_39 2 rfl rfl (by rw [← hml]; decide) rfl ?_
          refine j_goto (tgt := 4) F dX7_free_42 (by decide) ?_
          exact j_sub [2, 1, 0] rfl (ih7 x12 (x2 + (1 : Int32)) w11.2)
        · refine j_iconst (v := (1 : Int32)) F dX7_free_30 (by decide) ?_
          refine j_iload_n F dX7_free_31 rfl 2 rfl ?_
          refine j_ishl F dX7_free_32 ?_
          refine j_goto (tgt := 37) F dX7_free_33 (by decide) ?_
          refine j_ior F dX7_free_37 ?_
          refine j_let (f := Value.int) (fun x13 => ?_)
          refine j_istore_n (lv' := [(1, .int x13), (0, .ref (G.2.1 54)), (2, .int x2)]) F dX7_free_38 rfl (by rw [← hml]; decide) rfl ?_
          refine j_iinc (v := (x2 + (1 : Int32))) (lv' := [(2, .int (x2 + (1 : Int32))), (1, .int x13), (0, .ref (G.2.1 54))]) F dX7_free_39 2 rfl rfl (by rw [← hml]; decide) rfl ?_
          refine j_goto (tgt := 4) F dX7_free_42 (by decide) ?_
          exact j_sub [2, 1, 0] rfl (ih7 x13 (x2 + (1 : Int32)) w11.2)
  refine j_sub [2, 1, 0] rfl (hL14 _  ?_ fu (0 : Int32) (0 : Int32) M)
  intro x5 N6
  refine j_iload_n F dX7_free_45 rfl 0 rfl ?_
  exact j_iret F D E rfl dX7_free_46
