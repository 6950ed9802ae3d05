/-! FlangeFolder$Planner.forget -/
def fX1_forget (M : Mm) : Option (Unit × Mm) := (fJ7_fill_53178 11 64 (-1 : Int32) M).bind (fun w1 => (fJ7_fill_53178 12 64 (-1 : Int32) w1.2).bind (fun w2 => lt (stI w2.2 10 6 (0 : Int32)) (fun N3 => some ((), N3))))
def rmX1_forget : Room := { frames := 1, cells := 0, slots := 0, locals := 23 }
theorem kX1_forget : Kc yX1_forget cX1_forget 1 none wsX1_forget 0 := ⟨⟨_, rfl⟩, by decide +kernel, by decide +kernel, by decide +kernel⟩
theorem ic_X1_forget_X1 : ∀ w ∈ u_ws RX1 TX1 12, w ∈ wsX1_forget := by decide +kernel
theorem fl_X1_forget_9 : Fl wsX1_forget RX1 9 1 2 := ⟨RX1, TX1, 12, rfl, by decide, ic_X1_forget_X1, by decide +kernel⟩
theorem fl_X1_forget_15 : Fl wsX1_forget RX1 15 1 3 := ⟨RX1, TX1, 12, rfl, by decide, ic_X1_forget_X1, by decide +kernel⟩
theorem fp_X1_forget_44 : Fp wsX1_forget RX1 44 1 6 .boolean := ⟨RX1, TX1, 12, tyX1, rfl, by decide, ic_X1_forget_X1, by decide +kernel, tyX1_ok, nmX1, rfl, rfl⟩
set_option maxHeartbeats 4000000 in
set_option maxRecDepth 100000 in
theorem mX1_forget (l : Launch) (G : Gg) : Cv l G SC yX1_forget wsX1_forget rmX1_forget [.ref (G.2.1 10)] fX1_forget := by
  refine Cv.intro (lv := [(0, .ref (G.2.1 10))]) RX1 rfl (by decide) kX1_forget (Nat.le_of_ble_eq_true rfl) rfl (fun X V M z F D hX hml E => ?_)
  unfold fX1_forget
  refine j_aload_n F dX1_forget_0 rfl 0 rfl ?_
  refine j_getr (r := 11) F D ce_10 fl_X1_forget_9 rfl dX1_forget_1 ?_
  refine j_iconst (v := (-1 : Int32)) F dX1_forget_4 (by decide) ?_
  refine j_callSv (As := [.ref (G.2.1 11), .int (-1 : Int32)]) F D hX (mJ7_fill_53178 l G 11 64 (-1 : Int32) ce_11) kJ7_fill_53178 gX1_forget_J7_fill_53178 ⟨rfl, rfl⟩ ⟨Nat.le_of_ble_eq_true rfl, Nat.le_of_ble_eq_true rfl⟩ rfl (Nat.le_of_ble_eq_true rfl) rfl dX1_forget_5 (fun w1 => ?_)
  refine j_aload_n F dX1_forget_8 rfl 0 rfl ?_
  refine j_getr (r := 12) F D ce_10 fl_X1_forget_15 rfl dX1_forget_9 ?_
  refine j_iconst (v := (-1 : Int32)) F dX1_forget_12 (by decide) ?_
  refine j_callSv (As := [.ref (G.2.1 12), .int (-1 : Int32)]) F D hX (mJ7_fill_53178 l G 12 64 (-1 : Int32) ce_12) kJ7_fill_53178 gX1_forget_J7_fill_53178 ⟨rfl, rfl⟩ ⟨Nat.le_of_ble_eq_true rfl, Nat.le_of_ble_eq_true rfl⟩ rfl (Nat.le_of_ble_eq_true rfl) rfl dX1_forget_13 (fun w2 => ?_)
  refine j_aload_n F dX1_forget_16 rfl 0 rfl ?_
  refine j_iconst (v := (0 : Int32)) F dX1_forget_17 (by decide) ?_
  refine j_puti F D ce_10 fp_X1_forget_44 rfl rfl rfl dX1_forget_18 ?_
  refine j_letM (fun N3 => ?_)
  exact j_vret F D E dX1_forget_21

/-! FlangeFolder$Planner.crossesAt -/
def fX1_crossesAt (a0 : Int32) (M : Mm) : Option (Int32 × Mm) := (rd M 12 64 a0).bind (fun v1 => jn (fun (N2 : Mm) => (rd N2 12 64 a0).bind (fun v4 => (if v4 = (1 : Int32) then some ((1 : Int32), N2) else some ((0 : Int32), N2)))) (fun K3 => (if v1 = (-1 : Int32) then (fX3_trace a0 M).bind (fun w5 => (fX3_crossesItself w5.2).bind (fun w6 => (if w6.1 = (0 : Int32) then (wr w6.2 12 64 a0 (0 : Int32)).bind (fun N7 => K3 N7) else (wr w6.2 12 64 a0 (1 : Int32)).bind (fun N8 => K3 N8)))) else K3 M)))
def rmX1_crossesAt : Room := { frames := 2, cells := 0, slots := 0, locals := 49 }
theorem kX1_crossesAt : Kc yX1_crossesAt cX1_crossesAt 2 (some .boolean) wsX1_crossesAt 1 := ⟨⟨_, rfl⟩, by decide +kernel, by decide +kernel, by decide +kernel⟩
theorem ic_X1_crossesAt_X1 : ∀ w ∈ u_ws RX1 TX1 12, w ∈ wsX1_crossesAt := by decide +kernel
theorem fl_X1_crossesAt_15 : Fl wsX1_crossesAt RX1 15 1 3 := ⟨RX1, TX1, 12, rfl, by decide, ic_X1_crossesAt_X1, by decide +kernel⟩
theorem fl_X1_crossesAt_34 : Fl wsX1_crossesAt RX1 34 1 1 := ⟨RX1, TX1, 12, rfl, by decide, ic_X1_crossesAt_X1, by decide +kernel⟩
theorem fl_X1_crossesAt_30 : Fl wsX1_crossesAt RX1 30 1 0 := ⟨RX1, TX1, 12, rfl, by decide, ic_X1_crossesAt_X1, by decide +kernel⟩
set_option maxHeartbeats 4000000 in
set_option maxRecDepth 100000 in
theorem mX1_crossesAt (l : Launch) (G : Gg) (a0 : Int32) : Ci l G SC yX1_crossesAt wsX1_crossesAt rmX1_crossesAt [.ref (G.2.1 10), .int a0] (fX1_crossesAt a0) := by
  refine Ci.intro (lv := [(0, .ref (G.2.1 10)), (1, .int a0)]) RX1 rfl (by decide) kX1_crossesAt (Nat.le_of_ble_eq_true rfl) rfl (fun X V M z F D hX hml E => ?_)
  unfold fX1_crossesAt
  refine j_aload_n F dX1_crossesAt_0 rfl 0 rfl ?_
  refine j_getr (r := 12) F D ce_10 fl_X1_crossesAt_15 rfl dX1_crossesAt_1 ?_
  refine j_iload_n F dX1_crossesAt_4 rfl 1 rfl ?_
  refine j_iald F D ce_12 dX1_crossesAt_5 (fun v1 => ?_)
  refine j_iconst (v := (-1 : Int32)) F dX1_crossesAt_6 (by decide) ?_
  refine j_jn (P := fun (K3 : Mm → Option (Int32 × Mm)) => ∀ (N2 : Mm), Jg X V z (K3 N2) N2 43 [(0, .ref (G.2.1 10)), (1, .int a0)] []) ?_ (fun K3 hK3 => ?_)
  · intro N2
    refine j_aload_n F dX1_crossesAt_43 rfl 0 rfl ?_
    refine j_getr (r := 12) F D ce_10 fl_X1_crossesAt_15 rfl dX1_crossesAt_44 ?_
    refine j_iload_n F dX1_crossesAt_47 rfl 1 rfl ?_
    refine j_iald F D ce_12 dX1_crossesAt_48 (fun v4 => ?_)
    refine j_iconst (v := (1 : Int32)) F dX1_crossesAt_49 (by decide) ?_
    refine j_icmp_ne (tgt := 57) F dX1_crossesAt_50 (by decide) ?_ ?_
    · refine j_iconst (v := (0 : Int32)) F dX1_crossesAt_57 (by decide) ?_
      exact j_iret F D E rfl dX1_crossesAt_58
    · refine j_iconst (v := (1 : Int32)) F dX1_crossesAt_53 (by decide) ?_
      refine j_goto (tgt := 58) F dX1_crossesAt_54 (by decide) ?_
      exact j_iret F D E rfl dX1_crossesAt_58
  · refine j_icmp_ne (tgt := 43) F dX1_crossesAt_7 (by decide) ?_ ?_
    · exact j_sub [0, 1] rfl (hK3 M)
    · refine j_aload_n F dX1_crossesAt_10 rfl 0 rfl ?_
      refine j_getr (r := 6) F D ce_10 fl_X1_crossesAt_34 rfl dX1_crossesAt_11 ?_
      refine j_aload_n F dX1_crossesAt_14 rfl 0 rfl ?_
      refine j_getr (r := 1) F D ce_10 fl_X1_crossesAt_30 rfl dX1_crossesAt_15 ?_
      refine j_iload_n F dX1_crossesAt_18 rfl 1 rfl ?_
      refine j_callVv (As := [.ref (G.2.1 1), .int a0]) F D hX (mX3_trace l G a0) ce_6 rfl kX3_trace rfl gX1_crossesAt_X3_trace ⟨rfl, rfl⟩ ⟨Nat.le_of_ble_eq_true rfl, Nat.le_of_ble_eq_true rfl⟩ rfl (Nat.le_of_ble_eq_true rfl) rfl dX1_crossesAt_19 (fun w5 => ?_)
      refine j_aload_n F dX1_crossesAt_22 rfl 0 rfl ?_
      refine j_getr (r := 12) F D ce_10 fl_X1_crossesAt_15 rfl dX1_crossesAt_23 ?_
      refine j_iload_n F dX1_crossesAt_26 rfl 1 rfl ?_
      refine j_aload_n F dX1_crossesAt_27 rfl 0 rfl ?_
      refine j_getr (r := 6) F D ce_10 fl_X1_crossesAt_34 rfl dX1_crossesAt_28 ?_
      refine j_callVi (As := []) F D hX (mX3_crossesItself l G) ce_6 rfl kX3_crossesItself rfl gX1_crossesAt_X3_crossesItself ⟨rfl, rfl⟩ ⟨Nat.le_of_ble_eq_true rfl, Nat.le_of_ble_eq_true rfl⟩ rfl (Nat.le_of_ble_eq_true rfl) rfl dX1_crossesAt_31 (fun w6 => ?_)
      refine j_if_eq (tgt := 41) F dX1_crossesAt_34 (by decide) ?_ ?_
      · refine j_iconst (v := (0 : Int32)) F dX1_crossesAt_41 (by decide) ?_
        refine j_iast F D ce_12 dX1_crossesAt_42 (fun N7 => ?_)
        exact j_sub [0, 1] rfl (hK3 N7)
      · refine j_iconst (v := (1 : Int32)) F dX1_crossesAt_37 (by decide) ?_
        refine j_goto (tgt := 42) F dX1_crossesAt_38 (by decide) ?_
        refine j_iast F D ce_12 dX1_crossesAt_42 (fun N8 => ?_)
        exact j_sub [0, 1] rfl (hK3 N8)

/-! FlangeFolder$Planner.hitOf -/
def fX1_hitOf (a0 : Int32) (a1 : Int32) (M : Mm) : Option (Int32 × Mm) := (fX3_trace a0 M).bind (fun w1 => (fX3_pressHit a1 w1.2).bind (fun w2 => (if w2.1 = (0 : Int32) then (fX1_crossesAt (a0 ||| ((1 : Int32) <<< (a1 &&& 31))) w2.2).bind (fun w3 => (if w3.1 = (0 : Int32) then some ((0 : Int32), w3.2) else some ((3 : Int32), w3.2))) else some (w2.1, w2.2))))
def rmX1_hitOf : Room := { frames := 3, cells := 0, slots := 0, locals := 70 }
theorem kX1_hitOf : Kc yX1_hitOf cX1_hitOf 4 (some .int) wsX1_hitOf 2 := ⟨⟨_, rfl⟩, by decide +kernel, by decide +kernel, by decide +kernel⟩
theorem ic_X1_hitOf_X1 : ∀ w ∈ u_ws RX1 TX1 12, w ∈ wsX1_hitOf := by decide +kernel
theorem fl_X1_hitOf_34 : Fl wsX1_hitOf RX1 34 1 1 := ⟨RX1, TX1, 12, rfl, by decide, ic_X1_hitOf_X1, by decide +kernel⟩
theorem fl_X1_hitOf_30 : Fl wsX1_hitOf RX1 30 1 0 := ⟨RX1, TX1, 12, rfl, by decide, ic_X1_hitOf_X1, by decide +kernel⟩
set_option maxHeartbeats 4000000 in
set_option maxRecDepth 100000 in
theorem mX1_hitOf (l : Launch) (G : Gg) (a0 : Int32) (a1 : Int32) : Ci l G SC yX1_hitOf wsX1_hitOf rmX1_hitOf [.ref (G.2.1 10), .int a0, .int a1] (fX1_hitOf a0 a1) := by
  refine Ci.intro (lv := [(0, .ref (G.2.1 10)), (1, .int a0), (2, .int a1)]) RX1 rfl (by decide) kX1_hitOf (Nat.le_of_ble_eq_true rfl) rfl (fun X V M z F D hX hml E => ?_)
  unfold fX1_hitOf
  refine j_aload_n F dX1_hitOf_0 rfl 0 rfl ?_
  refine j_getr (r := 6) F D ce_10 fl_X1_hitOf_34 rfl dX1_hitOf_1 ?_
  refine j_aload_n F dX1_hitOf_4 rfl 0 rfl ?_
  refine j_getr (r := 1) F D ce_10 fl_X1_hitOf_30 rfl dX1_hitOf_5 ?_
  refine j_iload_n F dX1_hitOf_8 rfl 1 rfl ?_
  refine j_callVv (As := [.ref (G.2.1 1), .int a0]) F D hX (mX3_trace l G a0) ce_6 rfl kX3_trace rfl gX1_hitOf_X3_trace ⟨rfl, rfl⟩ ⟨Nat.le_of_ble_eq_true rfl, Nat.le_of_ble_eq_true rfl⟩ rfl (Nat.le_of_ble_eq_true rfl) rfl dX1_hitOf_9 (fun w1 => ?_)
  refine j_aload_n F dX1_hitOf_12 rfl 0 rfl ?_
  refine j_getr (r := 6) F D ce_10 fl_X1_hitOf_34 rfl dX1_hitOf_13 ?_
  refine j_aload_n F dX1_hitOf_16 rfl 0 rfl ?_
  refine j_getr (r := 1) F D ce_10 fl_X1_hitOf_30 rfl dX1_hitOf_17 ?_
  refine j_iload_n F dX1_hitOf_20 rfl 2 rfl ?_
  refine j_callVi (As := [.ref (G.2.1 1), .int a1]) F D hX (mX3_pressHit l G a1) ce_6 rfl kX3_pressHit rfl gX1_hitOf_X3_pressHit ⟨rfl, rfl⟩ ⟨Nat.le_of_ble_eq_true rfl, Nat.le_of_ble_eq_true rfl⟩ rfl (Nat.le_of_ble_eq_true rfl) rfl dX1_hitOf_21 (fun w2 => ?_)
  refine j_istore_n (lv' := [(3, .int w2.1), (0, .ref (G.2.1 10)), (1, .int a0), (2, .int a1)]) F dX1_hitOf_24 rfl (by rw [← hml]; decide) rfl ?_
  refine j_iload_n F dX1_hitOf_25 rfl 0 rfl ?_
  refine j_if_eq (tgt := 31) F dX1_hitOf_26 (by decide) ?_ ?_
  · refine j_aload_n F dX1_hitOf_31 rfl 1 rfl ?_
    refine j_iload_n F dX1_hitOf_32 rfl 2 rfl ?_
    refine j_iconst (v := (1 : Int32)) F dX1_hitOf_33 (by decide) ?_
    refine j_iload_n F dX1_hitOf_34 rfl 3 rfl ?_
    refine j_ishl F dX1_hitOf_35 ?_
    refine j_ior F dX1_hitOf_36 ?_
    refine j_callVi (As := [.int (a0 ||| ((1 : Int32) <<< (a1 &&& 31)))]) F D hX (mX1_crossesAt l G (a0 ||| ((1 : Int32) <<< (a1 &&& 31)))) ce_10 rfl kX1_crossesAt rfl gX1_hitOf_X1_crossesAt ⟨rfl, rfl⟩ ⟨Nat.le_of_ble_eq_true rfl, Nat.le_of_ble_eq_true rfl⟩ rfl (Nat.le_of_ble_eq_true rfl) rfl dX1_hitOf_37 (fun w3 => ?_)
    refine j_if_eq (tgt := 47) F dX1_hitOf_40 (by decide) ?_ ?_
    · refine j_iconst (v := (0 : Int32)) F dX1_hitOf_47 (by decide) ?_
      exact j_iret F D E rfl dX1_hitOf_48
    · refine j_iconst (v := (3 : Int32)) F dX1_hitOf_43 (by decide) ?_
      refine j_goto (tgt := 48) F dX1_hitOf_44 (by decide) ?_
      exact j_iret F D E rfl dX1_hitOf_48
  · refine j_iload_n F dX1_hitOf_29 rfl 0 rfl ?_
    exact j_iret F D E rfl dX1_hitOf_30

/-! FlangeFolder$Planner.freeAt -/
def lX1_freeAt_33 (K7 : Int32 → Mm → Option (Int32 × Mm)) (c3 : Int32) : Nat → Int32 → Int32 → Mm → Option (Int32 × Mm)
  | 0, _, _, _ => none
  | n11 + 1, x4, x5, N6 => (if (N6.1 1 4) ≤ x5 then K7 x4 N6 else (if ((c3 >>> (x5 &&& 31)) &&& (1 : Int32)) = (0 : Int32) then (fX3_pressHit x5 N6).bind (fun w12 => (if w12.1 = (0 : Int32) then lt (x4 ||| ((1 : Int32) <<< (x5 &&& 31))) (fun x13 => lX1_freeAt_33 K7 c3 n11 x13 (x5 + (1 : Int32)) w12.2) else lX1_freeAt_33 K7 c3 n11 x4 (x5 + (1 : Int32)) w12.2)) else lX1_freeAt_33 K7 c3 n11 x4 (x5 + (1 : Int32)) N6))
def lX1_freeAt_81 (K18 : Int32 → Mm → Option (Int32 × Mm)) (c14 : Int32) : Nat → Int32 → Int32 → Mm → Option (Int32 × Mm)
  | 0, _, _, _ => none
  | n22 + 1, x15, x16, N17 => (if (N17.1 1 4) ≤ x16 then K18 x15 N17 else (if ((x15 >>> (x16 &&& 31)) &&& (1 : Int32)) = (1 : Int32) then (fX1_crossesAt (c14 ||| ((1 : Int32) <<< (x16 &&& 31))) N17).bind (fun w23 => (if w23.1 = (0 : Int32) then lX1_freeAt_81 K18 c14 n22 x15 (x16 + (1 : Int32)) w23.2 else lt (x15 - ((1 : Int32) <<< (x16 &&& 31))) (fun x24 => lX1_freeAt_81 K18 c14 n22 x24 (x16 + (1 : Int32)) w23.2))) else lX1_freeAt_81 K18 c14 n22 x15 (x16 + (1 : Int32)) N17))
def fX1_freeAt (a0 : Int32) (M : Mm) : Option (Int32 × Mm) := (rd M 11 64 a0).bind (fun v1 => (if v1 = (-1 : Int32) then (fX3_trace a0 M).bind (fun w2 => lX1_freeAt_33 (fun (x8 : Int32) (N9 : Mm) => lX1_freeAt_81 (fun (x19 : Int32) (N20 : Mm) => (wr N20 11 64 a0 x19).bind (fun N25 => some (x19, N25))) a0 fu x8 (0 : Int32) N9) a0 fu (0 : Int32) (0 : Int32) w2.2) else (rd M 11 64 a0).bind (fun v28 => some (v28, M))))
def rmX1_freeAt : Room := { frames := 3, cells := 0, slots := 0, locals := 70 }
theorem kX1_freeAt : Kc yX1_freeAt cX1_freeAt 4 (some .int) wsX1_freeAt 1 := ⟨⟨_, rfl⟩, by decide +kernel, by decide +kernel, by decide +kernel⟩
theorem ic_X1_freeAt_X1 : ∀ w ∈ u_ws RX1 TX1 12, w ∈ wsX1_freeAt := by decide +kernel
theorem fl_X1_freeAt_9 : Fl wsX1_freeAt RX1 9 1 2 := ⟨RX1, TX1, 12, rfl, by decide, ic_X1_freeAt_X1, by decide +kernel⟩
theorem fl_X1_freeAt_34 : Fl wsX1_freeAt RX1 34 1 1 := ⟨RX1, TX1, 12, rfl, by decide, ic_X1_freeAt_X1, by decide +kernel⟩
theorem fl_X1_freeAt_30 : Fl wsX1_freeAt RX1 30 1 0 := ⟨RX1, TX1, 12, rfl, by decide, ic_X1_freeAt_X1, by decide +kernel⟩
theorem ic_X1_freeAt_X4 : ∀ w ∈ u_ws RX4 TX4 8, w ∈ wsX1_freeAt := by decide +kernel
theorem fl_X1_freeAt_72 : Fl wsX1_freeAt RX1 72 4 4 := ⟨RX4, TX4, 8, rfl, by decide, ic_X1_freeAt_X4, by decide +kernel⟩
set_option maxHeartbeats 4000000 in
set_option maxRecDepth 100000 in
theorem mX1_freeAt (l : Launch) (G : Gg) (a0 : Int32) : Ci l G SC yX1_freeAt wsX1_freeAt rmX1_freeAt [.ref (G.2.1 10), .int a0] (fX1_freeAt a0) := by
  refine Ci.intro (lv := [(0, .ref (G.2.1 10)), (1, .int a0)]) RX1 rfl (by decide) kX1_freeAt (Nat.le_of_ble_eq_true rfl) rfl (fun X V M z F D hX hml E => ?_)
  unfold fX1_freeAt
  refine j_aload_n F dX1_freeAt_0 rfl 0 rfl ?_
  refine j_getr (r := 11) F D ce_10 fl_X1_freeAt_9 rfl dX1_freeAt_1 ?_
  refine j_iload_n F dX1_freeAt_4 rfl 1 rfl ?_
  refine j_iald F D ce_11 dX1_freeAt_5 (fun v1 => ?_)
  refine j_iconst (v := (-1 : Int32)) F dX1_freeAt_6 (by decide) ?_
  refine j_icmp_eq (tgt := 17) F dX1_freeAt_7 (by decide) ?_ ?_
  · refine j_iconst (v := (0 : Int32)) F dX1_freeAt_17 (by decide) ?_
    refine j_istore_n (lv' := [(2, .int (0 : Int32)), (0, .ref (G.2.1 10)), (1, .int a0)]) F dX1_freeAt_18 rfl (by rw [← hml]; decide) rfl ?_
    refine j_aload_n F dX1_freeAt_19 rfl 1 rfl ?_
    refine j_getr (r := 6) F D ce_10 fl_X1_freeAt_34 rfl dX1_freeAt_20 ?_
    refine j_aload_n F dX1_freeAt_23 rfl 1 rfl ?_
    refine j_getr (r := 1) F D ce_10 fl_X1_freeAt_30 rfl dX1_freeAt_24 ?_
    refine j_iload_n F dX1_freeAt_27 rfl 2 rfl ?_
    refine j_callVv (As := [.ref (G.2.1 1), .int a0]) F D hX (mX3_trace l G a0) ce_6 rfl kX3_trace rfl gX1_freeAt_X3_trace ⟨rfl, rfl⟩ ⟨Nat.le_of_ble_eq_true rfl, Nat.le_of_ble_eq_true rfl⟩ rfl (Nat.le_of_ble_eq_true rfl) rfl dX1_freeAt_28 (fun w2 => ?_)
    refine j_iconst (v := (0 : Int32)) F dX1_freeAt_31 (by decide) ?_
    refine j_istore_n (lv' := [(3, .int (0 : Int32)), (2, .int (0 : Int32)), (0, .ref (G.2.1 10)), (1, .int a0)]) F dX1_freeAt_32 rfl (by rw [← hml]; decide) rfl ?_
    have hL27 : ∀ (K7 : Int32 → Mm → Option (Int32 × Mm)) (c3 : Int32), (∀ (x8 : Int32) (N9 : Mm), Jg X V z (K7 x8 N9) N9 79 [(0, .ref (G.2.1 10)), (1, .int c3), (2, .int x8)] []) → ∀ (n11 : Nat) (x4 : Int32) (x5 : Int32) (N6 : Mm), Jg X V z (lX1_freeAt_33 K7 c3 n11 x4 x5 N6) N6 33 [(0, .ref (G.2.1 10)), (1, .int c3), (2, .int x4), (3, .int x5)] [] := by
      intro K7 c3 hK7 n11
      induction n11 with
      | zero => intro x4 x5 N6; rw [lX1_freeAt_33]; exact j_none
      | succ n11 ih10 =>
        intro x4 x5 N6
        rw [lX1_freeAt_33]
        refine j_iload_n F dX1_freeAt_33 rfl 3 rfl ?_
        refine j_aload_n F dX1_freeAt_34 rfl 0 rfl ?_
        refine j_getr (r := 1) F D ce_10 fl_X1_freeAt_30 rfl dX1_freeAt_35 ?_
        refine j_geti F D ce_1 fl_X1_freeAt_72 rfl dX1_freeAt_38 ?_
        refine j_icmp_ge (tgt := 79) F dX1_freeAt_41 (by decide) ?_ ?_
        · exact j_sub [0, 1, 2] rfl (hK7 x4 N6)
        · refine j_iload_n F dX1_freeAt_44 rfl 1 rfl ?_
          refine j_iload_n F dX1_freeAt_45 rfl 3 rfl ?_
          refine j_ishr F dX1_freeAt_46 ?_
          refine j_iconst (v := (1 : Int32)) F dX1_freeAt_47 (by decide) ?_
          refine j_iand F dX1_freeAt_48 ?_
          refine j_if_ne (tgt := 73) F dX1_freeAt_49 (by decide) ?_ ?_
          · refine j_iinc (v := (x5 + (1 : Int32))) (lv' := [(3, .int (x5 + (1 : Int32))), (0, .ref (G.2.1 10)), (1, .int c3), (2, .int x4)]) F dX1_freeAt_73 3 rfl rfl (by rw [← hml]; decide) rfl ?_
            refine j_goto (tgt := 33) F dX1_freeAt_76 (by decide) ?_
            exact j_sub [1, 2, 3, 0] rfl (ih10 x4 (x5 + (1 : Int32)) N6)
          · refine j_aload_n F dX1_freeAt_52 rfl 0 rfl ?_
            refine j_getr (r := 6) F D ce_10 fl_X1_freeAt_34 rfl dX1_freeAt_53 ?_
            refine j_aload_n F dX1_freeAt_56 rfl 0 rfl ?_
            refine j_getr (r := 1) F D ce_10 fl_X1_freeAt_30 rfl dX1_freeAt_57 ?_
            refine j_iload_n F dX1_freeAt_60 rfl 3 rfl ?_
            refine j_callVi (As := [.ref (G.2.1 1), .int x5]) F D hX (mX3_pressHit l G x5) ce_6 rfl kX3_pressHit rfl gX1_freeAt_X3_pressHit ⟨rfl, rfl⟩ ⟨Nat.le_of_ble_eq_true rfl, Nat.le_of_ble_eq_true rfl⟩ rfl (Nat.le_of_ble_eq_true rfl) rfl dX1_freeAt_61 (fun w12 => ?_)
            refine j_if_ne (tgt := 73) F dX1_freeAt_64 (by decide) ?_ ?_
            · refine j_iinc (v := (x5 + (1 : Int32))) (lv' := [(3, .int (x5 + (1 : Int32))), (0, .ref (G.2.1 10)), (1, .int c3), (2, .int x4)]) F dX1_freeAt_73 3 rfl rfl (by rw [← hml]; decide) rfl ?_
              refine j_goto (tgt := 33) F dX1_freeAt_76 (by decide) ?_
              exact j_sub [1, 2, 3, 0] rfl (ih10 x4 (x5 + (1 : Int32)) w12.2)
            · refine j_iload_n F dX1_freeAt_67 rfl 2 rfl ?_
              refine j_iconst (v := (1 : Int32)) F dX1_freeAt_68 (by decide) ?_
              refine j_iload_n F dX1_freeAt_69 rfl 3 rfl ?_
              refine j_ishl F dX1_freeAt_70 ?_
              refine j_ior F dX1_freeAt_71 ?_
              refine j_let (f := Value.int) (fun x13 => ?_)
              refine j_istore_n (lv' := [(2, .int x13), (0, .ref (G.2.1 10)), (1, .int c3), (3, .int x5)]) F dX1_freeAt_72 rfl (by rw [← hml]; decide) rfl ?_
              refine j_iinc (v := (x5 + (1 : Int32))) (lv' := [(3, .int (x5 + (1 : Int32))), (2, .int x13), (0, .ref (G.2.1 10)), (1, .int c3)]) F dX1_freeAt_73 3 rfl rfl (by rw [← hml]; decide) rfl ?_
              refine j_goto (tgt := 33) F dX1_freeAt_76 (by decide) ?_
              exact j_sub [2, 3, 1, 0] rfl (ih10 x13 (x5 + (1 : Int32)) w12.2)
    refine j_sub [2, 3, 1, 0] rfl (hL27 _ a0 ?_ fu (0 : Int32) (0 : Int32) w2.2)
    intro x8 N9
    refine j_iconst (v := (0 : Int32)) F dX1_freeAt_79 (by decide) ?_
    refine j_istore_n (lv' := [(3, .int (0 : Int32)), (0, .ref (G.2.1 10)), (1, .int a0), (2, .int x8)]) F dX1_freeAt_80 rfl (by rw [← hml]; decide) rfl ?_
    have hL26 : ∀ (K18 : Int32 → Mm → Option (Int32 × Mm)) (c14 : Int32), (∀ (x19 : Int32) (N20 : Mm), Jg X V z (K18 x19 N20) N20 125 [(0, .ref (G.2.1 10)), (1, .int c14), (2, .int x19)] []) → ∀ (n22 : Nat) (x15 : Int32) (x16 : Int32) (N17 : Mm), Jg X V z (lX1_freeAt_81 K18 c14 n22 x15 x16 N17) N17 81 [(0, .ref (G.2.1 10)), (1, .int c14), (2, .int x15), (3, .int x16)] [] := by
      intro K18 c14 hK18 n22
      induction n22 with
      | zero => intro x15 x16 N17; rw [lX1_freeAt_81]; exact j_none
      | succ n22 ih21 =>
        intro x15 x16 N17
        rw [lX1_freeAt_81]
        refine j_iload_n F dX1_freeAt_81 rfl 3 rfl ?_
        refine j_aload_n F dX1_freeAt_82 rfl 0 rfl ?_
        refine j_getr (r := 1) F D ce_10 fl_X1_freeAt_30 rfl dX1_freeAt_83 ?_
        refine j_geti F D ce_1 fl_X1_freeAt_72 rfl dX1_freeAt_86 ?_
        refine j_icmp_ge (tgt := 125) F dX1_freeAt_89 (by decide) ?_ ?_
        · exact j_sub [0, 1, 2] rfl (hK18 x15 N17)
        · refine j_iload_n F dX1_freeAt_92 rfl 2 rfl ?_
          refine j_iload_n F dX1_freeAt_93 rfl 3 rfl ?_
          refine j_ishr F dX1_freeAt_94 ?_
          refine j_iconst (v := (1 : Int32)) F dX1_freeAt_95 (by decide) ?_
          refine j_iand F dX1_freeAt_96 ?_
          refine j_iconst (v := (1 : Int32)) F dX1_freeAt_97 (by decide) ?_
          refine j_icmp_ne (tgt := 119) F dX1_freeAt_98 (by decide) ?_ ?_
          · refine j_iinc (v := (x16 + (1 : Int32))) (lv' := [(3, .int (x16 + (1 : Int32))), (0, .ref (G.2.1 10)), (1, .int c14), (2, .int x15)]) F dX1_freeAt_119 3 rfl rfl (by rw [← hml]; decide) rfl ?_
            refine j_goto (tgt := 81) F dX1_freeAt_122 (by decide) ?_
            exact j_sub [1, 2, 3, 0] rfl (ih21 x15 (x16 + (1 : Int32)) N17)
          · refine j_aload_n F dX1_freeAt_101 rfl 0 rfl ?_
            refine j_iload_n F dX1_freeAt_102 rfl 1 rfl ?_
            refine j_iconst (v := (1 : Int32)) F dX1_freeAt_103 (by decide) ?_
            refine j_iload_n F dX1_freeAt_104 rfl 3 rfl ?_
            refine j_ishl F dX1_freeAt_105 ?_
            refine j_ior F dX1_freeAt_106 ?_
            refine j_callVi (As := [.int (c14 ||| ((1 : Int32) <<< (x16 &&& 31)))]) F D hX (mX1_crossesAt l G (c14 ||| ((1 : Int32) <<< (x16 &&& 31)))) ce_10 rfl kX1_crossesAt rfl gX1_freeAt_X1_crossesAt ⟨rfl, rfl⟩ ⟨Nat.le_of_ble_eq_true rfl, Nat.le_of_ble_eq_true rfl⟩ rfl (Nat.le_of_ble_eq_true rfl) rfl dX1_freeAt_107 (fun w23 => ?_)
            refine j_if_eq (tgt := 119) F dX1_freeAt_110 (by decide) ?_ ?_
            · refine j_iinc (v := (x16 + (1 : Int32))) (lv' := [(3, .int (x16 + (1 : Int32))), (0, .ref (G.2.1 10)), (1, .int c14), (2, .int x15)]) F dX1_freeAt_119 3 rfl rfl (by rw [← hml]; decide) rfl ?_
              refine j_goto (tgt := 81) F dX1_freeAt_122 (by decide) ?_
              exact j_sub [1, 2, 3, 0] rfl (ih21 x15 (x16 + (1 : Int32)) w23.2)
            · refine j_iload_n F dX1_freeAt_113 rfl 2 rfl ?_
              refine j_iconst (v := (1 : Int32)) F dX1_freeAt_114 (by decide) ?_
              refine j_iload_n F dX1_freeAt_115 rfl 3 rfl ?_
              refine j_ishl F dX1_freeAt_116 ?_
              refine j_isub F dX1_freeAt_117 ?_
              refine j_let (f := Value.int) (fun x24 => ?_)
              refine j_istore_n (lv' := [(2, .int x24), (0, .ref (G.2.1 10)), (1, .int c14), (3, .int x16)]) F dX1_freeAt_118 rfl (by rw [← hml]; decide) rfl ?_
              refine j_iinc (v := (x16 + (1 : Int32))) (lv' := [(3, .int (x16 + (1 : Int32))), (2, .int x24), (0, .ref (G.2.1 10)), (1, .int c14)]) F dX1_freeAt_119 3 rfl rfl (by rw [← hml]; decide) rfl ?_
              refine j_goto (tgt := 81) F dX1_freeAt_122 (by decide) ?_
              exact j_sub [2, 3, 1, 0] rfl (ih21 x24 (x16 + (1 : Int32)) w23.2)
    refine j_sub [1, 2, 3, 0] rfl (hL26 _ a0 ?_ fu x8 (0 : Int32) N9)
    intro x19 N20
    refine j_aload_n F dX1_freeAt_125 rfl 0 rfl ?_
    refine j_getr (r := 11) F D ce_10 fl_X1_freeAt_9 rfl dX1_freeAt_126 ?_
    refine j_iload_n F dX1_freeAt_129 rfl 1 rfl ?_
    refine j_iload_n F dX1_freeAt_130 rfl 2 rfl ?_
    refine j_iast F D ce_11 dX1_freeAt_131 (fun N25 => ?_)
    refine j_iload_n F dX1_freeAt_132 rfl 2 rfl ?_
    exact j_iret F D E rfl dX1_freeAt_133
  · refine j_aload_n F dX1_freeAt_10 rfl 0 rfl ?_
    refine j_getr (r := 11) F D ce_10 fl_X1_freeAt_9 rfl dX1_freeAt_11 ?_
    refine j_iload_n F dX1_freeAt_14 rfl 1 rfl ?_
    refine j_iald F D ce_11 dX1_freeAt_15 (fun v28 => ?_)
    exact j_iret F D E rfl dX1_freeAt_16

/-! FlangeFolder$Planner.pathsFrom -/
def lX1_pathsFrom_52 (K18 : Mm → Option (Int32 × Mm)) (c13 : Int32) (c14 : Int32) (c15 : Int32) : Nat → Int32 → Mm → Option (Int32 × Mm)
  | 0, _, _ => none
  | n21 + 1, x16, N17 => (if (N17.1 1 4) ≤ x16 then K18 N17 else (if ((c15 >>> (x16 &&& 31)) &&& (1 : Int32)) = (1 : Int32) then (rd N17 13 64 (c14 ||| ((1 : Int32) <<< (x16 &&& 31)))).bind (fun v22 => (rd N17 13 64 c14).bind (fun v23 => (wr N17 13 64 (c14 ||| ((1 : Int32) <<< (x16 &&& 31))) (v22 + v23)).bind (fun N24 => lX1_pathsFrom_52 K18 c13 c14 c15 n21 (x16 + (1 : Int32)) N24))) else lX1_pathsFrom_52 K18 c13 c14 c15 n21 (x16 + (1 : Int32)) N17))
def lX1_pathsFrom_25 (K7 : Mm → Option (Int32 × Mm)) (c4 : Int32) : Nat → Int32 → Mm → Option (Int32 × Mm)
  | 0, _, _ => none
  | n10 + 1, x5, N6 => (if c4 ≤ x5 then K7 N6 else (rd N6 13 64 x5).bind (fun v11 => (if v11 = (0 : Int32) then lX1_pathsFrom_25 K7 c4 n10 (x5 + (1 : Int32)) N6 else (fX1_freeAt x5 N6).bind (fun w12 => lX1_pathsFrom_52 (fun (N19 : Mm) => lX1_pathsFrom_25 K7 c4 n10 (x5 + (1 : Int32)) N19) c4 x5 w12.1 fu (0 : Int32) w12.2))))
def fX1_pathsFrom (a0 : Int32) (M : Mm) : Option (Int32 × Mm) := (fX4_allBends M).bind (fun w1 => (fJ7_fill_53178 13 64 (0 : Int32) w1.2).bind (fun w2 => (wr w2.2 13 64 a0 (1 : Int32)).bind (fun N3 => lX1_pathsFrom_25 (fun (N8 : Mm) => (rd N8 13 64 w1.1).bind (fun v26 => some (v26, N8))) w1.1 fu a0 N3)))
def rmX1_pathsFrom : Room := { frames := 4, cells := 0, slots := 0, locals := 93 }
theorem kX1_pathsFrom : Kc yX1_pathsFrom cX1_pathsFrom 6 (some .int) wsX1_pathsFrom 1 := ⟨⟨_, rfl⟩, by decide +kernel, by decide +kernel, by decide +kernel⟩
theorem ic_X1_pathsFrom_X1 : ∀ w ∈ u_ws RX1 TX1 12, w ∈ wsX1_pathsFrom := by decide +kernel
theorem fl_X1_pathsFrom_30 : Fl wsX1_pathsFrom RX1 30 1 0 := ⟨RX1, TX1, 12, rfl, by decide, ic_X1_pathsFrom_X1, by decide +kernel⟩
theorem fl_X1_pathsFrom_18 : Fl wsX1_pathsFrom RX1 18 1 4 := ⟨RX1, TX1, 12, rfl, by decide, ic_X1_pathsFrom_X1, by decide +kernel⟩
theorem ic_X1_pathsFrom_X4 : ∀ w ∈ u_ws RX4 TX4 8, w ∈ wsX1_pathsFrom := by decide +kernel
theorem fl_X1_pathsFrom_72 : Fl wsX1_pathsFrom RX1 72 4 4 := ⟨RX4, TX4, 8, rfl, by decide, ic_X1_pathsFrom_X4, by decide +kernel⟩
set_option maxHeartbeats 4000000 in
set_option maxRecDepth 100000 in
theorem mX1_pathsFrom (l : Launch) (G : Gg) (a0 : Int32) : Ci l G SC yX1_pathsFrom wsX1_pathsFrom rmX1_pathsFrom [.ref (G.2.1 10), .int a0] (fX1_pathsFrom a0) := by
  refine Ci.intro (lv := [(0, .ref (G.2.1 10)), (1, .int a0)]) RX1 rfl (by decide) kX1_pathsFrom (Nat.le_of_ble_eq_true rfl) rfl (fun X V M z F D hX hml E => ?_)
  unfold fX1_pathsFrom
  refine j_aload_n F dX1_pathsFrom_0 rfl 0 rfl ?_
  refine j_getr (r := 1) F D ce_10 fl_X1_pathsFrom_30 rfl dX1_pathsFrom_1 ?_
  refine j_callVi (As := []) F D hX (mX4_allBends l G) ce_1 rfl kX4_allBends rfl gX1_pathsFrom_X4_allBends ⟨rfl, rfl⟩ ⟨Nat.le_of_ble_eq_true rfl, Nat.le_of_ble_eq_true rfl⟩ rfl (Nat.le_of_ble_eq_true rfl) rfl dX1_pathsFrom_4 (fun w1 => ?_)
  refine j_istore_n (lv' := [(2, .int w1.1), (0, .ref (G.2.1 10)), (1, .int a0)]) F dX1_pathsFrom_7 rfl (by rw [← hml]; decide) rfl ?_
  refine j_aload_n F dX1_pathsFrom_8 rfl 1 rfl ?_
  refine j_getr (r := 13) F D ce_10 fl_X1_pathsFrom_18 rfl dX1_pathsFrom_9 ?_
  refine j_iconst (v := (0 : Int32)) F dX1_pathsFrom_12 (by decide) ?_
  refine j_callSv (As := [.ref (G.2.1 13), .int (0 : Int32)]) F D hX (mJ7_fill_53178 l G 13 64 (0 : Int32) ce_13) kJ7_fill_53178 gX1_pathsFrom_J7_fill_53178 ⟨rfl, rfl⟩ ⟨Nat.le_of_ble_eq_true rfl, Nat.le_of_ble_eq_true rfl⟩ rfl (Nat.le_of_ble_eq_true rfl) rfl dX1_pathsFrom_13 (fun w2 => ?_)
  refine j_aload_n F dX1_pathsFrom_16 rfl 1 rfl ?_
  refine j_getr (r := 13) F D ce_10 fl_X1_pathsFrom_18 rfl dX1_pathsFrom_17 ?_
  refine j_iload_n F dX1_pathsFrom_20 rfl 2 rfl ?_
  refine j_iconst (v := (1 : Int32)) F dX1_pathsFrom_21 (by decide) ?_
  refine j_iast F D ce_13 dX1_pathsFrom_22 (fun N3 => ?_)
  refine j_iload_n F dX1_pathsFrom_23 rfl 2 rfl ?_
  refine j_istore_n (lv' := [(3, .int a0), (2, .int w1.1), (0, .ref (G.2.1 10)), (1, .int a0)]) F dX1_pathsFrom_24 rfl (by rw [← hml]; decide) rfl ?_
  have hL27 : ∀ (K7 : Mm → Option (Int32 × Mm)) (c4 : Int32), (∀ (N8 : Mm), Jg X V z (K7 N8) N8 107 [(0, .ref (G.2.1 10)), (2, .int c4)] []) → ∀ (n10 : Nat) (x5 : Int32) (N6 : Mm), Jg X V z (lX1_pathsFrom_25 K7 c4 n10 x5 N6) N6 25 [(0, .ref (G.2.1 10)), (2, .int c4), (3, .int x5)] [] := by
    intro K7 c4 hK7 n10
    induction n10 with
    | zero => intro x5 N6; rw [lX1_pathsFrom_25]; exact j_none
    | succ n10 ih9 =>
      intro x5 N6
      rw [lX1_pathsFrom_25]
      refine j_iload_n F dX1_pathsFrom_25 rfl 2 rfl ?_
      refine j_iload_n F dX1_pathsFrom_26 rfl 1 rfl ?_
      refine j_icmp_ge (tgt := 107) F dX1_pathsFrom_27 (by decide) ?_ ?_
      · exact j_sub [0, 1] rfl (hK7 N6)
      · refine j_aload_n F dX1_pathsFrom_30 rfl 0 rfl ?_
        refine j_getr (r := 13) F D ce_10 fl_X1_pathsFrom_18 rfl dX1_pathsFrom_31 ?_
        refine j_iload_n F dX1_pathsFrom_34 rfl 2 rfl ?_
        refine j_iald F D ce_13 dX1_pathsFrom_35 (fun v11 => ?_)
        refine j_if_ne (tgt := 42) F dX1_pathsFrom_36 (by decide) ?_ ?_
        · refine j_aload_n F dX1_pathsFrom_42 rfl 0 rfl ?_
          refine j_iload_n F dX1_pathsFrom_43 rfl 2 rfl ?_
          refine j_callVi (As := [.int x5]) F D hX (mX1_freeAt l G x5) ce_10 rfl kX1_freeAt rfl gX1_pathsFrom_X1_freeAt ⟨rfl, rfl⟩ ⟨Nat.le_of_ble_eq_true rfl, Nat.le_of_ble_eq_true rfl⟩ rfl (Nat.le_of_ble_eq_true rfl) rfl dX1_pathsFrom_44 (fun w12 => ?_)
          refine j_istore (lv' := [(4, .int w12.1), (0, .ref (G.2.1 10)), (2, .int c4), (3, .int x5)]) F dX1_pathsFrom_47 (by rw [← hml]; decide) rfl ?_
          refine j_iconst (v := (0 : Int32)) F dX1_pathsFrom_49 (by decide) ?_
          refine j_istore (lv' := [(5, .int (0 : Int32)), (4, .int w12.1), (0, .ref (G.2.1 10)), (2, .int c4), (3, .int x5)]) F dX1_pathsFrom_50 (by rw [← hml]; decide) rfl ?_
          have hL25 : ∀ (K18 : Mm → Option (Int32 × Mm)) (c13 : Int32) (c14 : Int32) (c15 : Int32), (∀ (N19 : Mm), Jg X V z (K18 N19) N19 101 [(0, .ref (G.2.1 10)), (2, .int c13), (3, .int c14)] []) → ∀ (n21 : Nat) (x16 : Int32) (N17 : Mm), Jg X V z (lX1_pathsFrom_52 K18 c13 c14 c15 n21 x16 N17) N17 52 [(0, .ref (G.2.1 10)), (2, .int c13), (3, .int c14), (4, .int c15), (5, .int x16)] [] := by
            intro K18 c13 c14 c15 hK18 n21
            induction n21 with
            | zero => intro x16 N17; rw [lX1_pathsFrom_52]; exact j_none
            | succ n21 ih20 =>
              intro x16 N17
              rw [lX1_pathsFrom_52]
              refine j_iload F dX1_pathsFrom_52 4 rfl ?_
              refine j_aload_n F dX1_pathsFrom_54 rfl 0 rfl ?_
              refine j_getr (r := 1) F D ce_10 fl_X1_pathsFrom_30 rfl dX1_pathsFrom_55 ?_
              refine j_geti F D ce_1 fl_X1_pathsFrom_72 rfl dX1_pathsFrom_58 ?_
              refine j_icmp_ge (tgt := 101) F dX1_pathsFrom_61 (by decide) ?_ ?_
              · exact j_sub [0, 1, 2] rfl (hK18 N17)
              · refine j_iload F dX1_pathsFrom_64 3 rfl ?_
                refine j_iload F dX1_pathsFrom_66 4 rfl ?_
                refine j_ishr F dX1_pathsFrom_68 ?_
                refine j_iconst (v := (1 : Int32)) F dX1_pathsFrom_69 (by decide) ?_
                refine j_iand F dX1_pathsFrom_70 ?_
                refine j_iconst (v := (1 : Int32)) F dX1_pathsFrom_71 (by decide) ?_
                refine j_icmp_ne (tgt := 95) F dX1_pathsFrom_72 (by decide) ?_ ?_
                · refine j_iinc (v := (x16 + (1 : Int32))) (lv' := [(5, .int (x16 + (1 : Int32))), (0, .ref (G.2.1 10)), (2, .int c13), (3, .int c14), (4, .int c15)]) F dX1_pathsFrom_95 4 rfl rfl (by rw [← hml]; decide) rfl ?_
                  refine j_goto (tgt := 52) F dX1_pathsFrom_98 (by decide) ?_
                  exact j_sub [1, 2, 3, 4, 0] rfl (ih20 (x16 + (1 : Int32)) N17)
                · refine j_aload_n F dX1_pathsFrom_75 rfl 0 rfl ?_
                  refine j_getr (r := 13) F D ce_10 fl_X1_pathsFrom_18 rfl dX1_pathsFrom_76 ?_
                  refine j_iload_n F dX1_pathsFrom_79 rfl 2 rfl ?_
                  refine j_iconst (v := (1 : Int32)) F dX1_pathsFrom_80 (by decide) ?_
                  refine j_iload F dX1_pathsFrom_81 4 rfl ?_
                  refine j_ishl F dX1_pathsFrom_83 ?_
                  refine j_ior F dX1_pathsFrom_84 ?_
                  refine j_dup2 F rfl rfl dX1_pathsFrom_85 ?_
                  refine j_iald F D ce_13 dX1_pathsFrom_86 (fun v22 => ?_)
                  refine j_aload_n F dX1_pathsFrom_87 rfl 0 rfl ?_
                  refine j_getr (r := 13) F D ce_10 fl_X1_pathsFrom_18 rfl dX1_pathsFrom_88 ?_
                  refine j_iload_n F dX1_pathsFrom_91 rfl 2 rfl ?_
                  refine j_iald F D ce_13 dX1_pathsFrom_92 (fun v23 => ?_)
                  refine j_iadd F dX1_pathsFrom_93 ?_
                  refine j_iast F D ce_13 dX1_pathsFrom_94 (fun N24 => ?_)
                  refine j_iinc (v := (x16 + (1 : Int32))) (lv' := [(5, .int (x16 + (1 : Int32))), (0, .ref (G.2.1 10)), (2, .int c13), (3, .int c14), (4, .int c15)]) F dX1_pathsFrom_95 4 rfl rfl (by rw [← hml]; decide) rfl ?_
                  refine j_goto (tgt := 52) F dX1_pathsFrom_98 (by decide) ?_
                  exact j_sub [1, 2, 3, 4, 0] rfl (ih20 (x16 + (1 : Int32)) N24)
          refine j_sub [2, 3, 4, 1, 0] rfl (hL25 _ c4 x5 w12.1 ?_ fu (0 : Int32) w12.2)
          intro N19
          refine j_iinc (v := (x5 + (1 : Int32))) (lv' := [(3, .int (x5 + (1 : Int32))), (0, .ref (G.2.1 10)), (2, .int c4)]) F dX1_pathsFrom_101 2 rfl rfl (by rw [← hml]; decide) rfl ?_
          refine j_goto (tgt := 25) F dX1_pathsFrom_104 (by decide) ?_
          exact j_sub [1, 2, 0] rfl (ih9 (x5 + (1 : Int32)) N19)
        · refine j_goto (tgt := 101) F dX1_pathsFrom_39 (by decide) ?_
          refine j_iinc (v := (x5 + (1 : Int32))) (lv' := [(3, .int (x5 + (1 : Int32))), (0, .ref (G.2.1 10)), (2, .int c4)]) F dX1_pathsFrom_101 2 rfl rfl (by rw [← hml]; decide) rfl ?_
          refine j_goto (tgt := 25) F dX1_pathsFrom_104 (by decide) ?_
          exact j_sub [1, 2, 0] rfl (ih9 (x5 + (1 : Int32)) N6)
  refine j_sub [2, 1, 0] rfl (hL27 _ w1.1 ?_ fu a0 N3)
  intro N8
  refine j_aload_n F dX1_pathsFrom_107 rfl 0 rfl ?_
  refine j_getr (r := 13) F D ce_10 fl_X1_pathsFrom_18 rfl dX1_pathsFrom_108 ?_
  refine j_iload_n F dX1_pathsFrom_111 rfl 1 rfl ?_
  refine j_iald F D ce_13 dX1_pathsFrom_112 (fun v26 => ?_)
  exact j_iret F D E rfl dX1_pathsFrom_113

/-! FlangeFolder$Planner.changeTo -/
def fX1_changeTo (a0 : Int32) (a1 : Int32) (M : Mm) : Option (Int32 × Mm) := (if a0 = (3 : Int32) then some ((0 : Int32), M) else (if a0 = a1 then some ((0 : Int32), M) else some ((1 : Int32), M)))
def rmX1_changeTo : Room := { frames := 0, cells := 0, slots := 0, locals := 0 }
theorem kX1_changeTo : Kc yX1_changeTo cX1_changeTo 2 (some .int) wsX1_changeTo 2 := ⟨⟨_, rfl⟩, by decide +kernel, by decide +kernel, by decide +kernel⟩
set_option maxHeartbeats 4000000 in
set_option maxRecDepth 100000 in
theorem mX1_changeTo (l : Launch) (G : Gg) (a0 : Int32) (a1 : Int32) : Ci l G SC yX1_changeTo wsX1_changeTo rmX1_changeTo [.int a0, .int a1] (fX1_changeTo a0 a1) := by
  refine Ci.intro (lv := [(0, .int a0), (1, .int a1)]) RX1 rfl (by decide) kX1_changeTo (Nat.le_of_ble_eq_true rfl) rfl (fun X V M z F D hX hml E => ?_)
  unfold fX1_changeTo
  refine j_iload_n F dX1_changeTo_0 rfl 0 rfl ?_
  refine j_iconst (v := (3 : Int32)) F dX1_changeTo_1 (by decide) ?_
  refine j_icmp_eq (tgt := 10) F dX1_changeTo_2 (by decide) ?_ ?_
  · refine j_iconst (v := (0 : Int32)) F dX1_changeTo_10 (by decide) ?_
    refine j_goto (tgt := 15) F dX1_changeTo_11 (by decide) ?_
    exact j_iret F D E rfl dX1_changeTo_15
  · refine j_iload_n F dX1_changeTo_5 rfl 0 rfl ?_
    refine j_iload_n F dX1_changeTo_6 rfl 1 rfl ?_
    refine j_icmp_ne (tgt := 14) F dX1_changeTo_7 (by decide) ?_ ?_
    · refine j_iconst (v := (1 : Int32)) F dX1_changeTo_14 (by decide) ?_
      exact j_iret F D E rfl dX1_changeTo_15
    · refine j_iconst (v := (0 : Int32)) F dX1_changeTo_10 (by decide) ?_
      refine j_goto (tgt := 15) F dX1_changeTo_11 (by decide) ?_
      exact j_iret F D E rfl dX1_changeTo_15

/-! FlangeFolder$Planner.changesBy -/
def fX1_changesBy (a0 : Int32) (a1 : Int32) (a2 : Int32) (M : Mm) : Option (Int32 × Mm) := (rd M 4 6 a2).bind (fun v1 => (fX1_changeTo a1 v1 M).bind (fun w2 => (rd w2.2 14 256 (((a0 ||| ((1 : Int32) <<< (a2 &&& 31))) * (4 : Int32)) + v1)).bind (fun v3 => some ((w2.1 + v3), w2.2))))
def rmX1_changesBy : Room := { frames := 1, cells := 0, slots := 0, locals := 21 }
theorem kX1_changesBy : Kc yX1_changesBy cX1_changesBy 5 (some .int) wsX1_changesBy 3 := ⟨⟨_, rfl⟩, by decide +kernel, by decide +kernel, by decide +kernel⟩
theorem ic_X1_changesBy_X1 : ∀ w ∈ u_ws RX1 TX1 12, w ∈ wsX1_changesBy := by decide +kernel
theorem fl_X1_changesBy_30 : Fl wsX1_changesBy RX1 30 1 0 := ⟨RX1, TX1, 12, rfl, by decide, ic_X1_changesBy_X1, by decide +kernel⟩
theorem ic_X1_changesBy_X4 : ∀ w ∈ u_ws RX4 TX4 8, w ∈ wsX1_changesBy := by decide +kernel
theorem fl_X1_changesBy_112 : Fl wsX1_changesBy RX1 112 4 2 := ⟨RX4, TX4, 8, rfl, by decide, ic_X1_changesBy_X4, by decide +kernel⟩
theorem fl_X1_changesBy_21 : Fl wsX1_changesBy RX1 21 1 5 := ⟨RX1, TX1, 12, rfl, by decide, ic_X1_changesBy_X1, by decide +kernel⟩
set_option maxHeartbeats 4000000 in
set_option maxRecDepth 100000 in
theorem mX1_changesBy (l : Launch) (G : Gg) (a0 : Int32) (a1 : Int32) (a2 : Int32) : Ci l G SC yX1_changesBy wsX1_changesBy rmX1_changesBy [.ref (G.2.1 10), .int a0, .int a1, .int a2] (fX1_changesBy a0 a1 a2) := by
  refine Ci.intro (lv := [(0, .ref (G.2.1 10)), (1, .int a0), (2, .int a1), (3, .int a2)]) RX1 rfl (by decide) kX1_changesBy (Nat.le_of_ble_eq_true rfl) rfl (fun X V M z F D hX hml E => ?_)
  unfold fX1_changesBy
  refine j_aload_n F dX1_changesBy_0 rfl 0 rfl ?_
  refine j_getr (r := 1) F D ce_10 fl_X1_changesBy_30 rfl dX1_changesBy_1 ?_
  refine j_getr (r := 4) F D ce_1 fl_X1_changesBy_112 rfl dX1_changesBy_4 ?_
  refine j_iload_n F dX1_changesBy_7 rfl 3 rfl ?_
  refine j_iald F D ce_4 dX1_changesBy_8 (fun v1 => ?_)
  refine j_istore (lv' := [(4, .int v1), (0, .ref (G.2.1 10)), (1, .int a0), (2, .int a1), (3, .int a2)]) F dX1_changesBy_9 (by rw [← hml]; decide) rfl ?_
  refine j_iload_n F dX1_changesBy_11 rfl 3 rfl ?_
  refine j_iload F dX1_changesBy_12 0 rfl ?_
  refine j_callSi (As := [.int a1, .int v1]) F D hX (mX1_changeTo l G a1 v1) kX1_changeTo gX1_changesBy_X1_changeTo ⟨rfl, rfl⟩ ⟨Nat.le_of_ble_eq_true rfl, Nat.le_of_ble_eq_true rfl⟩ rfl (Nat.le_of_ble_eq_true rfl) rfl dX1_changesBy_14 (fun w2 => ?_)
  refine j_aload_n F dX1_changesBy_17 rfl 1 rfl ?_
  refine j_getr (r := 14) F D ce_10 fl_X1_changesBy_21 rfl dX1_changesBy_18 ?_
  refine j_iload_n F dX1_changesBy_21 rfl 2 rfl ?_
  refine j_iconst (v := (1 : Int32)) F dX1_changesBy_22 (by decide) ?_
  refine j_iload_n F dX1_changesBy_23 rfl 4 rfl ?_
  refine j_ishl F dX1_changesBy_24 ?_
  refine j_ior F dX1_changesBy_25 ?_
  refine j_iconst (v := (4 : Int32)) F dX1_changesBy_26 (by decide) ?_
  refine j_imul F dX1_changesBy_27 ?_
  refine j_iload F dX1_changesBy_28 0 rfl ?_
  refine j_iadd F dX1_changesBy_30 ?_
  refine j_iald F D ce_14 dX1_changesBy_31 (fun v3 => ?_)
  refine j_iadd F dX1_changesBy_32 ?_
  exact j_iret F D E rfl dX1_changesBy_33

/-! FlangeFolder$Planner.fewestFrom -/
def lX1_fewestFrom_15 (K8 : Int32 → Mm → Option (Int32 × Mm)) (c2 : Int32) (c3 : Int32) (c4 : Int32) : Nat → Int32 → Int32 → Mm → Option (Int32 × Mm)
  | 0, _, _, _ => none
  | n12 + 1, x5, x6, N7 => (if (N7.1 1 4) ≤ x6 then K8 x5 N7 else (if ((c4 >>> (x6 &&& 31)) &&& (1 : Int32)) = (1 : Int32) then (fX1_changesBy c2 c3 x6 N7).bind (fun w13 => lt (mn x5 w13.1) (fun x14 => lX1_fewestFrom_15 K8 c2 c3 c4 n12 x14 (x6 + (1 : Int32)) w13.2)) else lX1_fewestFrom_15 K8 c2 c3 c4 n12 x5 (x6 + (1 : Int32)) N7))
def fX1_fewestFrom (a0 : Int32) (a1 : Int32) (M : Mm) : Option (Int32 × Mm) := (rd M 11 64 a0).bind (fun v1 => lX1_fewestFrom_15 (fun (x9 : Int32) (N10 : Mm) => some (x9, N10)) a0 a1 v1 fu (1000 : Int32) (0 : Int32) M)
def rmX1_fewestFrom : Room := { frames := 2, cells := 0, slots := 0, locals := 45 }
theorem kX1_fewestFrom : Kc yX1_fewestFrom cX1_fewestFrom 6 (some .int) wsX1_fewestFrom 2 := ⟨⟨_, rfl⟩, by decide +kernel, by decide +kernel, by decide +kernel⟩
theorem ic_X1_fewestFrom_X1 : ∀ w ∈ u_ws RX1 TX1 12, w ∈ wsX1_fewestFrom := by decide +kernel
theorem fl_X1_fewestFrom_9 : Fl wsX1_fewestFrom RX1 9 1 2 := ⟨RX1, TX1, 12, rfl, by decide, ic_X1_fewestFrom_X1, by decide +kernel⟩
theorem fl_X1_fewestFrom_30 : Fl wsX1_fewestFrom RX1 30 1 0 := ⟨RX1, TX1, 12, rfl, by decide, ic_X1_fewestFrom_X1, by decide +kernel⟩
theorem ic_X1_fewestFrom_X4 : ∀ w ∈ u_ws RX4 TX4 8, w ∈ wsX1_fewestFrom := by decide +kernel
theorem fl_X1_fewestFrom_72 : Fl wsX1_fewestFrom RX1 72 4 4 := ⟨RX4, TX4, 8, rfl, by decide, ic_X1_fewestFrom_X4, by decide +kernel⟩
theorem km_X1_fewestFrom_107 : Cond.methodLink RX1 107 Lib.Math.min.name ∈ wsX1_fewestFrom := by decide +kernel
theorem kn_X1_fewestFrom_min : Cond.static Lib.Math.min.name ∈ wsX1_fewestFrom := by decide +kernel
theorem ko_X1_fewestFrom : Cond.initialized "java/lang/Math" ∈ wsX1_fewestFrom := by decide +kernel
theorem kp_X1_fewestFrom_min : Cond.code Lib.Math.min.name Lib.Math.min.code 2 (some .int) ∈ wsX1_fewestFrom := by decide +kernel
set_option maxHeartbeats 4000000 in
set_option maxRecDepth 100000 in
theorem mX1_fewestFrom (l : Launch) (G : Gg) (a0 : Int32) (a1 : Int32) : Ci l G SC yX1_fewestFrom wsX1_fewestFrom rmX1_fewestFrom [.ref (G.2.1 10), .int a0, .int a1] (fX1_fewestFrom a0 a1) := by
  refine Ci.intro (lv := [(0, .ref (G.2.1 10)), (1, .int a0), (2, .int a1)]) RX1 rfl (by decide) kX1_fewestFrom (Nat.le_of_ble_eq_true rfl) rfl (fun X V M z F D hX hml E => ?_)
  unfold fX1_fewestFrom
  refine j_aload_n F dX1_fewestFrom_0 rfl 0 rfl ?_
  refine j_getr (r := 11) F D ce_10 fl_X1_fewestFrom_9 rfl dX1_fewestFrom_1 ?_
  refine j_iload_n F dX1_fewestFrom_4 rfl 1 rfl ?_
  refine j_iald F D ce_11 dX1_fewestFrom_5 (fun v1 => ?_)
  refine j_istore_n (lv' := [(3, .int v1), (0, .ref (G.2.1 10)), (1, .int a0), (2, .int a1)]) F dX1_fewestFrom_6 rfl (by rw [← hml]; decide) rfl ?_
  refine j_sipush (v := (1000 : Int32)) F dX1_fewestFrom_7 (by decide) ?_
  refine j_istore (lv' := [(4, .int (1000 : Int32)), (3, .int v1), (0, .ref (G.2.1 10)), (1, .int a0), (2, .int a1)]) F dX1_fewestFrom_10 (by rw [← hml]; decide) rfl ?_
  refine j_iconst (v := (0 : Int32)) F dX1_fewestFrom_12 (by decide) ?_
  refine j_istore (lv' := [(5, .int (0 : Int32)), (4, .int (1000 : Int32)), (3, .int v1), (0, .ref (G.2.1 10)), (1, .int a0), (2, .int a1)]) F dX1_fewestFrom_13 (by rw [← hml]; decide) rfl ?_
  have hL15 : ∀ (K8 : Int32 → Mm → Option (Int32 × Mm)) (c2 : Int32) (c3 : Int32) (c4 : Int32), (∀ (x9 : Int32) (N10 : Mm), Jg X V z (K8 x9 N10) N10 58 [(4, .int x9)] []) → ∀ (n12 : Nat) (x5 : Int32) (x6 : Int32) (N7 : Mm), Jg X V z (lX1_fewestFrom_15 K8 c2 c3 c4 n12 x5 x6 N7) N7 15 [(0, .ref (G.2.1 10)), (1, .int c2), (2, .int c3), (3, .int c4), (4, .int x5), (5, .int x6)] [] := by
    intro K8 c2 c3 c4 hK8 n12
    induction n12 with
    | zero => intro x5 x6 N7; rw [lX1_fewestFrom_15]; exact j_none
    | succ n12 ih11 =>
      intro x5 x6 N7
      rw [lX1_fewestFrom_15]
      refine j_iload F dX1_fewestFrom_15 5 rfl ?_
      refine j_aload_n F dX1_fewestFrom_17 rfl 0 rfl ?_
      refine j_getr (r := 1) F D ce_10 fl_X1_fewestFrom_30 rfl dX1_fewestFrom_18 ?_
      refine j_geti F D ce_1 fl_X1_fewestFrom_72 rfl dX1_fewestFrom_21 ?_
      refine j_icmp_ge (tgt := 58) F dX1_fewestFrom_24 (by decide) ?_ ?_
      · exact j_sub [4] rfl (hK8 x5 N7)
      · refine j_iload_n F dX1_fewestFrom_27 rfl 3 rfl ?_
        refine j_iload F dX1_fewestFrom_28 5 rfl ?_
        refine j_ishr F dX1_fewestFrom_30 ?_
        refine j_iconst (v := (1 : Int32)) F dX1_fewestFrom_31 (by decide) ?_
        refine j_iand F dX1_fewestFrom_32 ?_
        refine j_iconst (v := (1 : Int32)) F dX1_fewestFrom_33 (by decide) ?_
        refine j_icmp_ne (tgt := 52) F dX1_fewestFrom_34 (by decide) ?_ ?_
        · refine j_iinc (v := (x6 + (1 : Int32))) (lv' := [(5, .int (x6 + (1 : Int32))), (0, .ref (G.2.1 10)), (1, .int c2), (2, .int c3), (3, .int c4), (4, .int x5)]) F dX1_fewestFrom_52 5 rfl rfl (by rw [← hml]; decide) rfl ?_
          refine j_goto (tgt := 15) F dX1_fewestFrom_55 (by decide) ?_
          exact j_sub [1, 2, 3, 4, 5, 0] rfl (ih11 x5 (x6 + (1 : Int32)) N7)
        · refine j_iload F dX1_fewestFrom_37 4 rfl ?_
          refine j_aload_n F dX1_fewestFrom_39 rfl 0 rfl ?_
          refine j_iload_n F dX1_fewestFrom_40 rfl 1 rfl ?_
          refine j_iload_n F dX1_fewestFrom_41 rfl 2 rfl ?_
          refine j_iload F dX1_fewestFrom_42 5 rfl ?_
          refine j_callVi (As := [.int c2, .int c3, .int x6]) F D hX (mX1_changesBy l G c2 c3 x6) ce_10 rfl kX1_changesBy rfl gX1_fewestFrom_X1_changesBy ⟨rfl, rfl⟩ ⟨Nat.le_of_ble_eq_true rfl, Nat.le_of_ble_eq_true rfl⟩ rfl (Nat.le_of_ble_eq_true rfl) rfl dX1_fewestFrom_44 (fun w13 => ?_)
          refine j_min F km_X1_fewestFrom_107 kn_X1_fewestFrom_min ko_X1_fewestFrom kp_X1_fewestFrom_min ⟨Nat.le_of_ble_eq_true rfl, Nat.le_of_ble_eq_true rfl⟩ dX1_fewestFrom_47 ?_
          refine j_let (f := Value.int) (fun x14 => ?_)
          refine j_istore (lv' := [(4, .int x14), (0, .ref (G.2.1 10)), (1, .int c2), (2, .int c3), (3, .int c4), (5, .int x6)]) F dX1_fewestFrom_50 (by rw [← hml]; decide) rfl ?_
          refine j_iinc (v := (x6 + (1 : Int32))) (lv' := [(5, .int (x6 + (1 : Int32))), (4, .int x14), (0, .ref (G.2.1 10)), (1, .int c2), (2, .int c3), (3, .int c4)]) F dX1_fewestFrom_52 5 rfl rfl (by rw [← hml]; decide) rfl ?_
          refine j_goto (tgt := 15) F dX1_fewestFrom_55 (by decide) ?_
          exact j_sub [2, 3, 4, 5, 1, 0] rfl (ih11 x14 (x6 + (1 : Int32)) w13.2)
  refine j_sub [3, 4, 5, 2, 1, 0] rfl (hL15 _ a0 a1 v1 ?_ fu (1000 : Int32) (0 : Int32) M)
  intro x9 N10
  refine j_iload F dX1_fewestFrom_58 0 rfl ?_
  exact j_iret F D E rfl dX1_fewestFrom_60

/-! FlangeFolder$Planner.findFewest -/
def lX1_findFewest_20 (K6 : Mm → Option (Unit × Mm)) (c3 : Int32) : Nat → Int32 → Mm → Option (Unit × Mm)
  | 0, _, _ => none
  | n9 + 1, x4, N5 => (if (4 : Int32) ≤ x4 then K6 N5 else (wr N5 14 256 ((c3 * (4 : Int32)) + x4) (0 : Int32)).bind (fun N10 => lX1_findFewest_20 K6 c3 n9 (x4 + (1 : Int32)) N10))
def lX1_findFewest_52 (K21 : Mm → Option (Unit × Mm)) (c18 : Int32) : Nat → Int32 → Mm → Option (Unit × Mm)
  | 0, _, _ => none
  | n24 + 1, x19, N20 => (if (4 : Int32) ≤ x19 then K21 N20 else (rd N20 13 64 c18).bind (fun v25 => (if v25 ≤ (0 : Int32) then K21 N20 else (fX1_fewestFrom c18 x19 N20).bind (fun w26 => (wr w26.2 14 256 ((c18 * (4 : Int32)) + x19) w26.1).bind (fun N27 => lX1_findFewest_52 K21 c18 n24 (x19 + (1 : Int32)) N27)))))
def lX1_findFewest_46 (K14 : Mm → Option (Unit × Mm))  : Nat → Int32 → Mm → Option (Unit × Mm)
  | 0, _, _ => none
  | n17 + 1, x12, N13 => (if x12 < (0 : Int32) then K14 N13 else lX1_findFewest_52 (fun (N22 : Mm) => lX1_findFewest_46 K14 n17 (x12 + (-1 : Int32)) N22) x12 fu (0 : Int32) N13)
def fX1_findFewest (M : Mm) : Option (Unit × Mm) := (fX4_allBends M).bind (fun w1 => (fJ7_fill_53178 14 256 (1000 : Int32) w1.2).bind (fun w2 => lX1_findFewest_20 (fun (N7 : Mm) => lt (w1.1 - (1 : Int32)) (fun x11 => lX1_findFewest_46 (fun (N15 : Mm) => some ((), N15))  fu x11 N7)) w1.1 fu (0 : Int32) w2.2))
def rmX1_findFewest : Room := { frames := 3, cells := 0, slots := 0, locals := 70 }
theorem kX1_findFewest : Kc yX1_findFewest cX1_findFewest 4 none wsX1_findFewest 0 := ⟨⟨_, rfl⟩, by decide +kernel, by decide +kernel, by decide +kernel⟩
theorem ic_X1_findFewest_X1 : ∀ w ∈ u_ws RX1 TX1 12, w ∈ wsX1_findFewest := by decide +kernel
theorem fl_X1_findFewest_30 : Fl wsX1_findFewest RX1 30 1 0 := ⟨RX1, TX1, 12, rfl, by decide, ic_X1_findFewest_X1, by decide +kernel⟩
theorem fl_X1_findFewest_21 : Fl wsX1_findFewest RX1 21 1 5 := ⟨RX1, TX1, 12, rfl, by decide, ic_X1_findFewest_X1, by decide +kernel⟩
theorem fl_X1_findFewest_18 : Fl wsX1_findFewest RX1 18 1 4 := ⟨RX1, TX1, 12, rfl, by decide, ic_X1_findFewest_X1, by decide +kernel⟩
set_option maxHeartbeats 4000000 in
set_option maxRecDepth 100000 in
theorem mX1_findFewest (l : Launch) (G : Gg) : Cv l G SC yX1_findFewest wsX1_findFewest rmX1_findFewest [.ref (G.2.1 10)] fX1_findFewest := by
  refine Cv.intro (lv := [(0, .ref (G.2.1 10))]) RX1 rfl (by decide) kX1_findFewest (Nat.le_of_ble_eq_true rfl) rfl (fun X V M z F D hX hml E => ?_)
  unfold fX1_findFewest
  refine j_aload_n F dX1_findFewest_0 rfl 0 rfl ?_
  refine j_getr (r := 1) F D ce_10 fl_X1_findFewest_30 rfl dX1_findFewest_1 ?_
  refine j_callVi (As := []) F D hX (mX4_allBends l G) ce_1 rfl kX4_allBends rfl gX1_findFewest_X4_allBends ⟨rfl, rfl⟩ ⟨Nat.le_of_ble_eq_true rfl, Nat.le_of_ble_eq_true rfl⟩ rfl (Nat.le_of_ble_eq_true rfl) rfl dX1_findFewest_4 (fun w1 => ?_)
  refine j_istore_n (lv' := [(1, .int w1.1), (0, .ref (G.2.1 10))]) F dX1_findFewest_7 rfl (by rw [← hml]; decide) rfl ?_
  refine j_aload_n F dX1_findFewest_8 rfl 1 rfl ?_
  refine j_getr (r := 14) F D ce_10 fl_X1_findFewest_21 rfl dX1_findFewest_9 ?_
  refine j_sipush (v := (1000 : Int32)) F dX1_findFewest_12 (by decide) ?_
  refine j_callSv (As := [.ref (G.2.1 14), .int (1000 : Int32)]) F D hX (mJ7_fill_53178 l G 14 256 (1000 : Int32) ce_14) kJ7_fill_53178 gX1_findFewest_J7_fill_53178 ⟨rfl, rfl⟩ ⟨Nat.le_of_ble_eq_true rfl, Nat.le_of_ble_eq_true rfl⟩ rfl (Nat.le_of_ble_eq_true rfl) rfl dX1_findFewest_15 (fun w2 => ?_)
  refine j_iconst (v := (0 : Int32)) F dX1_findFewest_18 (by decide) ?_
  refine j_istore_n (lv' := [(2, .int (0 : Int32)), (1, .int w1.1), (0, .ref (G.2.1 10))]) F dX1_findFewest_19 rfl (by rw [← hml]; decide) rfl ?_
  have hL30 : ∀ (K6 : Mm → Option (Unit × Mm)) (c3 : Int32), (∀ (N7 : Mm), Jg X V z (K6 N7) N7 42 [(0, .ref (G.2.1 10)), (1, .int c3)] []) → ∀ (n9 : Nat) (x4 : Int32) (N5 : Mm), Jg X V z (lX1_findFewest_20 K6 c3 n9 x4 N5) N5 20 [(0, .ref (G.2.1 10)), (1, .int c3), (2, .int x4)] [] := by
    intro K6 c3 hK6 n9
    induction n9 with
    | zero => intro x4 N5; rw [lX1_findFewest_20]; exact j_none
    | succ n9 ih8 =>
      intro x4 N5
      rw [lX1_findFewest_20]
      refine j_iload_n F dX1_findFewest_20 rfl 2 rfl ?_
      refine j_iconst (v := (4 : Int32)) F dX1_findFewest_21 (by decide) ?_
      refine j_icmp_ge (tgt := 42) F dX1_findFewest_22 (by decide) ?_ ?_
      · exact j_sub [0, 1] rfl (hK6 N5)
      · refine j_aload_n F dX1_findFewest_25 rfl 0 rfl ?_
        refine j_getr (r := 14) F D ce_10 fl_X1_findFewest_21 rfl dX1_findFewest_26 ?_
        refine j_iload_n F dX1_findFewest_29 rfl 1 rfl ?_
        refine j_iconst (v := (4 : Int32)) F dX1_findFewest_30 (by decide) ?_
        refine j_imul F dX1_findFewest_31 ?_
        refine j_iload_n F dX1_findFewest_32 rfl 2 rfl ?_
        refine j_iadd F dX1_findFewest_33 ?_
        refine j_iconst (v := (0 : Int32)) F dX1_findFewest_34 (by decide) ?_
        refine j_iast F D ce_14 dX1_findFewest_35 (fun N10 => ?_)
        refine j_iinc (v := (x4 + (1 : Int32))) (lv' := [(2, .int (x4 + (1 : Int32))), (0, .ref (G.2.1 10)), (1, .int c3)]) F dX1_findFewest_36 2 rfl rfl (by rw [← hml]; decide) rfl ?_
        refine j_goto (tgt := 20) F dX1_findFewest_39 (by decide) ?_
        exact j_sub [1, 2, 0] rfl (ih8 (x4 + (1 : Int32)) N10)
  refine j_sub [2, 1, 0] rfl (hL30 _ w1.1 ?_ fu (0 : Int32) w2.2)
  intro N7
  refine j_iload_n F dX1_findFewest_42 rfl 1 rfl ?_
  refine j_iconst (v := (1 : Int32)) F dX1_findFewest_43 (by decide) ?_
  refine j_isub F dX1_findFewest_44 ?_
  refine j_let (f := Value.int) (fun x11 => ?_)
  refine j_istore_n (lv' := [(2, .int x11), (0, .ref (G.2.1 10)), (1, .int w1.1)]) F dX1_findFewest_45 rfl (by rw [← hml]; decide) rfl ?_
  have hL29 : ∀ (K14 : Mm → Option (Unit × Mm)) , (∀ (N15 : Mm), Jg X V z (K14 N15) N15 94 [] []) → ∀ (n17 : Nat) (x12 : Int32) (N13 : Mm), Jg X V z (lX1_findFewest_46 K14 n17 x12 N13) N13 46 [(0, .ref (G.2.1 10)), (2, .int x12)] [] := by
    intro K14  hK14 n17
    induction n17 with
    | zero => intro x12 N13; rw [lX1_findFewest_46]; exact j_none
    | succ n17 ih16 =>
      intro x12 N13
      rw [lX1_findFewest_46]
      refine j_iload_n F dX1_findFewest_46 rfl 1 rfl ?_
      refine j_if_lt (tgt := 94) F dX1_findFewest_47 (by decide) ?_ ?_
      · exact j_sub [] rfl (hK14 N13)
      · refine j_iconst (v := (0 : Int32)) F dX1_findFewest_50 (by decide) ?_
        refine j_istore_n (lv' := [(3, .int (0 : Int32)), (0, .ref (G.2.1 10)), (2, .int x12)]) F dX1_findFewest_51 rfl (by rw [← hml]; decide) rfl ?_
        have hL28 : ∀ (K21 : Mm → Option (Unit × Mm)) (c18 : Int32), (∀ (N22 : Mm), Jg X V z (K21 N22) N22 88 [(0, .ref (G.2.1 10)), (2, .int c18)] []) → ∀ (n24 : Nat) (x19 : Int32) (N20 : Mm), Jg X V z (lX1_findFewest_52 K21 c18 n24 x19 N20) N20 52 [(0, .ref (G.2.1 10)), (2, .int c18), (3, .int x19)] [] := by
          intro K21 c18 hK21 n24
          induction n24 with
          | zero => intro x19 N20; rw [lX1_findFewest_52]; exact j_none
          | succ n24 ih23 =>
            intro x19 N20
            rw [lX1_findFewest_52]
            refine j_iload_n F dX1_findFewest_52 rfl 2 rfl ?_
            refine j_iconst (v := (4 : Int32)) F dX1_findFewest_53 (by decide) ?_
            refine j_icmp_ge (tgt := 88) F dX1_findFewest_54 (by decide) ?_ ?_
            · exact j_sub [0, 1] rfl (hK21 N20)
            · refine j_aload_n F dX1_findFewest_57 rfl 0 rfl ?_
              refine j_getr (r := 13) F D ce_10 fl_X1_findFewest_18 rfl dX1_findFewest_58 ?_
              refine j_iload_n F dX1_findFewest_61 rfl 1 rfl ?_
              refine j_iald F D ce_13 dX1_findFewest_62 (fun v25 => ?_)
              refine j_if_le (tgt := 88) F dX1_findFewest_63 (by decide) ?_ ?_
              · exact j_sub [0, 1] rfl (hK21 N20)
              · refine j_aload_n F dX1_findFewest_66 rfl 0 rfl ?_
                refine j_getr (r := 14) F D ce_10 fl_X1_findFewest_21 rfl dX1_findFewest_67 ?_
                refine j_iload_n F dX1_findFewest_70 rfl 1 rfl ?_
                refine j_iconst (v := (4 : Int32)) F dX1_findFewest_71 (by decide) ?_
                refine j_imul F dX1_findFewest_72 ?_
                refine j_iload_n F dX1_findFewest_73 rfl 2 rfl ?_
                refine j_iadd F dX1_findFewest_74 ?_
                refine j_aload_n F dX1_findFewest_75 rfl 0 rfl ?_
                refine j_iload_n F dX1_findFewest_76 rfl 1 rfl ?_
                refine j_iload_n F dX1_findFewest_77 rfl 2 rfl ?_
                refine j_callVi (As := [.int c18, .int x19]) F D hX (mX1_fewestFrom l G c18 x19) ce_10 rfl kX1_fewestFrom rfl gX1_findFewest_X1_fewestFrom ⟨rfl, rfl⟩ ⟨Nat.le_of_ble_eq_true rfl, Nat.le_of_ble_eq_true rfl⟩ rfl (Nat.le_of_ble_eq_true rfl) rfl dX1_findFewest_78 (fun w26 => ?_)
                refine j_iast F D ce_14 dX1_findFewest_81 (fun N27 => ?_)
                refine j_iinc (v := (x19 + (1 : Int32))) (lv' := [(3, .int (x19 + (1 : Int32))), (0, .ref (G.2.1 10)), (2, .int c18)]) F dX1_findFewest_82 2 rfl rfl (by rw [← hml]; decide) rfl ?_
                refine j_goto (tgt := 52) F dX1_findFewest_85 (by decide) ?_
                exact j_sub [1, 2, 0] rfl (ih23 (x19 + (1 : Int32)) N27)
        refine j_sub [1, 2, 0] rfl (hL28 _ x12 ?_ fu (0 : Int32) N13)
        intro N22
        refine j_iinc (v := (x12 + (-1 : Int32))) (lv' := [(2, .int (x12 + (-1 : Int32))), (0, .ref (G.2.1 10))]) F dX1_findFewest_88 1 rfl rfl (by rw [← hml]; decide) rfl ?_
        refine j_goto (tgt := 46) F dX1_findFewest_91 (by decide) ?_
        exact j_sub [1, 0] rfl (ih16 (x12 + (-1 : Int32)) N22)
  refine j_sub [1, 0] rfl (hL29 _  ?_ fu x11 N7)
  intro N15
  exact j_vret F D E dX1_findFewest_94

/-! FlangeFolder$Planner.leastWithin -/
def lX1_leastWithin_11 (K8 : Mm → Option (Int32 × Mm)) (c2 : Int32) (c3 : Int32) (c4 : Int32) (c5 : Int32) : Nat → Int32 → Mm → Option (Int32 × Mm)
  | 0, _, _ => none
  | n11 + 1, x6, N7 => (if (N7.1 1 4) ≤ x6 then K8 N7 else (if ((c5 >>> (x6 &&& 31)) &&& (1 : Int32)) = (1 : Int32) then (fX1_changesBy c2 c3 x6 N7).bind (fun w12 => (if c4 < w12.1 then lX1_leastWithin_11 K8 c2 c3 c4 c5 n11 (x6 + (1 : Int32)) w12.2 else some (x6, w12.2))) else lX1_leastWithin_11 K8 c2 c3 c4 c5 n11 (x6 + (1 : Int32)) N7))
def fX1_leastWithin (a0 : Int32) (a1 : Int32) (a2 : Int32) (M : Mm) : Option (Int32 × Mm) := (rd M 11 64 a0).bind (fun v1 => lX1_leastWithin_11 (fun (N9 : Mm) => some ((0 : Int32), N9)) a0 a1 a2 v1 fu (0 : Int32) M)
def rmX1_leastWithin : Room := { frames := 2, cells := 0, slots := 0, locals := 45 }
theorem kX1_leastWithin : Kc yX1_leastWithin cX1_leastWithin 6 (some .int) wsX1_leastWithin 3 := ⟨⟨_, rfl⟩, by decide +kernel, by decide +kernel, by decide +kernel⟩
theorem ic_X1_leastWithin_X1 : ∀ w ∈ u_ws RX1 TX1 12, w ∈ wsX1_leastWithin := by decide +kernel
theorem fl_X1_leastWithin_9 : Fl wsX1_leastWithin RX1 9 1 2 := ⟨RX1, TX1, 12, rfl, by decide, ic_X1_leastWithin_X1, by decide +kernel⟩
theorem fl_X1_leastWithin_30 : Fl wsX1_leastWithin RX1 30 1 0 := ⟨RX1, TX1, 12, rfl, by decide, ic_X1_leastWithin_X1, by decide +kernel⟩
theorem ic_X1_leastWithin_X4 : ∀ w ∈ u_ws RX4 TX4 8, w ∈ wsX1_leastWithin := by decide +kernel
theorem fl_X1_leastWithin_72 : Fl wsX1_leastWithin RX1 72 4 4 := ⟨RX4, TX4, 8, rfl, by decide, ic_X1_leastWithin_X4, by decide +kernel⟩
set_option maxHeartbeats 4000000 in
set_option maxRecDepth 100000 in
theorem mX1_leastWithin (l : Launch) (G : Gg) (a0 : Int32) (a1 : Int32) (a2 : Int32) : Ci l G SC yX1_leastWithin wsX1_leastWithin rmX1_leastWithin [.ref (G.2.1 10), .int a0, .int a1, .int a2] (fX1_leastWithin a0 a1 a2) := by
  refine Ci.intro (lv := [(0, .ref (G.2.1 10)), (1, .int a0), (2, .int a1), (3, .int a2)]) RX1 rfl (by decide) kX1_leastWithin (Nat.le_of_ble_eq_true rfl) rfl (fun X V M z F D hX hml E => ?_)
  unfold fX1_leastWithin
  refine j_aload_n F dX1_leastWithin_0 rfl 0 rfl ?_
  refine j_getr (r := 11) F D ce_10 fl_X1_leastWithin_9 rfl dX1_leastWithin_1 ?_
  refine j_iload_n F dX1_leastWithin_4 rfl 1 rfl ?_
  refine j_iald F D ce_11 dX1_leastWithin_5 (fun v1 => ?_)
  refine j_istore (lv' := [(4, .int v1), (0, .ref (G.2.1 10)), (1, .int a0), (2, .int a1), (3, .int a2)]) F dX1_leastWithin_6 (by rw [← hml]; decide) rfl ?_
  refine j_iconst (v := (0 : Int32)) F dX1_leastWithin_8 (by decide) ?_
  refine j_istore (lv' := [(5, .int (0 : Int32)), (4, .int v1), (0, .ref (G.2.1 10)), (1, .int a0), (2, .int a1), (3, .int a2)]) F dX1_leastWithin_9 (by rw [← hml]; decide) rfl ?_
  have hL13 : ∀ (K8 : Mm → Option (Int32 × Mm)) (c2 : Int32) (c3 : Int32) (c4 : Int32) (c5 : Int32), (∀ (N9 : Mm), Jg X V z (K8 N9) N9 55 [] []) → ∀ (n11 : Nat) (x6 : Int32) (N7 : Mm), Jg X V z (lX1_leastWithin_11 K8 c2 c3 c4 c5 n11 x6 N7) N7 11 [(0, .ref (G.2.1 10)), (1, .int c2), (2, .int c3), (3, .int c4), (4, .int c5), (5, .int x6)] [] := by
    intro K8 c2 c3 c4 c5 hK8 n11
    induction n11 with
    | zero => intro x6 N7; rw [lX1_leastWithin_11]; exact j_none
    | succ n11 ih10 =>
      intro x6 N7
      rw [lX1_leastWithin_11]
      refine j_iload F dX1_leastWithin_11 5 rfl ?_
      refine j_aload_n F dX1_leastWithin_13 rfl 0 rfl ?_
      refine j_getr (r := 1) F D ce_10 fl_X1_leastWithin_30 rfl dX1_leastWithin_14 ?_
      refine j_geti F D ce_1 fl_X1_leastWithin_72 rfl dX1_leastWithin_17 ?_
      refine j_icmp_ge (tgt := 55) F dX1_leastWithin_20 (by decide) ?_ ?_
      · exact j_sub [] rfl (hK8 N7)
      · refine j_iload F dX1_leastWithin_23 4 rfl ?_
        refine j_iload F dX1_leastWithin_25 5 rfl ?_
        refine j_ishr F dX1_leastWithin_27 ?_
        refine j_iconst (v := (1 : Int32)) F dX1_leastWithin_28 (by decide) ?_
        refine j_iand F dX1_leastWithin_29 ?_
        refine j_iconst (v := (1 : Int32)) F dX1_leastWithin_30 (by decide) ?_
        refine j_icmp_ne (tgt := 49) F dX1_leastWithin_31 (by decide) ?_ ?_
        · refine j_iinc (v := (x6 + (1 : Int32))) (lv' := [(5, .int (x6 + (1 : Int32))), (0, .ref (G.2.1 10)), (1, .int c2), (2, .int c3), (3, .int c4), (4, .int c5)]) F dX1_leastWithin_49 5 rfl rfl (by rw [← hml]; decide) rfl ?_
          refine j_goto (tgt := 11) F dX1_leastWithin_52 (by decide) ?_
          exact j_sub [1, 2, 3, 4, 5, 0] rfl (ih10 (x6 + (1 : Int32)) N7)
        · refine j_aload_n F dX1_leastWithin_34 rfl 0 rfl ?_
          refine j_iload_n F dX1_leastWithin_35 rfl 1 rfl ?_
          refine j_iload_n F dX1_leastWithin_36 rfl 2 rfl ?_
          refine j_iload F dX1_leastWithin_37 5 rfl ?_
          refine j_callVi (As := [.int c2, .int c3, .int x6]) F D hX (mX1_changesBy l G c2 c3 x6) ce_10 rfl kX1_changesBy rfl gX1_leastWithin_X1_changesBy ⟨rfl, rfl⟩ ⟨Nat.le_of_ble_eq_true rfl, Nat.le_of_ble_eq_true rfl⟩ rfl (Nat.le_of_ble_eq_true rfl) rfl dX1_leastWithin_39 (fun w12 => ?_)
          refine j_iload_n F dX1_leastWithin_42 rfl 3 rfl ?_
          refine j_icmp_gt (tgt := 49) F dX1_leastWithin_43 (by decide) ?_ ?_
          · refine j_iinc (v := (x6 + (1 : Int32))) (lv' := [(5, .int (x6 + (1 : Int32))), (0, .ref (G.2.1 10)), (1, .int c2), (2, .int c3), (3, .int c4), (4, .int c5)]) F dX1_leastWithin_49 5 rfl rfl (by rw [← hml]; decide) rfl ?_
            refine j_goto (tgt := 11) F dX1_leastWithin_52 (by decide) ?_
            exact j_sub [1, 2, 3, 4, 5, 0] rfl (ih10 (x6 + (1 : Int32)) w12.2)
          · refine j_iload F dX1_leastWithin_46 5 rfl ?_
            exact j_iret F D E rfl dX1_leastWithin_48
  refine j_sub [2, 3, 4, 5, 1, 0] rfl (hL13 _ a0 a1 a2 v1 ?_ fu (0 : Int32) M)
  intro N9
  refine j_iconst (v := (0 : Int32)) F dX1_leastWithin_55 (by decide) ?_
  exact j_iret F D E rfl dX1_leastWithin_56

/-! FlangeFolder$Planner.walk -/
def lX1_walk_11 (K7 : Int32 → Mm → Option (Int32 × Mm)) (kr : Nat) (c1 : Int32) : Nat → Int32 → Int32 → Int32 → Int32 → Mm → Option (Int32 × Mm)
  | 0, _, _, _, _, _ => none
  | n11 + 1, x2, x3, x4, x5, N6 => (if (N6.1 1 4) ≤ x5 then K7 x4 N6 else jn (fun (x12 : Int32) => (fX1_leastWithin x2 x3 x12 N6).bind (fun w14 => (rd w14.2 4 6 w14.1).bind (fun v15 => (fX1_changeTo x3 v15 w14.2).bind (fun w16 => lt (x4 + w16.1) (fun x17 => (rd w16.2 4 6 w14.1).bind (fun v18 => lt (x2 ||| ((1 : Int32) <<< (w14.1 &&& 31))) (fun x19 => (wr w16.2 kr 6 x5 w14.1).bind (fun N20 => lX1_walk_11 K7 kr c1 n11 x19 v18 x17 (x5 + (1 : Int32)) N20)))))))) (fun K13 => (if c1 = (0 : Int32) then K13 (999 : Int32) else (rd N6 14 256 ((x2 * (4 : Int32)) + x3)).bind (fun v21 => K13 v21))))
def fX1_walk (kr : Nat) (a0 : Int32) (M : Mm) : Option (Int32 × Mm) := lX1_walk_11 (fun (x8 : Int32) (N9 : Mm) => some (x8, N9)) kr a0 fu (0 : Int32) (3 : Int32) (0 : Int32) (0 : Int32) M
def rmX1_walk : Room := { frames := 3, cells := 0, slots := 0, locals := 70 }
theorem kX1_walk : Kc yX1_walk cX1_walk 9 (some .int) wsX1_walk 2 := ⟨⟨_, rfl⟩, by decide +kernel, by decide +kernel, by decide +kernel⟩
theorem ic_X1_walk_X1 : ∀ w ∈ u_ws RX1 TX1 12, w ∈ wsX1_walk := by decide +kernel
theorem fl_X1_walk_30 : Fl wsX1_walk RX1 30 1 0 := ⟨RX1, TX1, 12, rfl, by decide, ic_X1_walk_X1, by decide +kernel⟩
theorem ic_X1_walk_X4 : ∀ w ∈ u_ws RX4 TX4 8, w ∈ wsX1_walk := by decide +kernel
theorem fl_X1_walk_72 : Fl wsX1_walk RX1 72 4 4 := ⟨RX4, TX4, 8, rfl, by decide, ic_X1_walk_X4, by decide +kernel⟩
theorem fl_X1_walk_112 : Fl wsX1_walk RX1 112 4 2 := ⟨RX4, TX4, 8, rfl, by decide, ic_X1_walk_X4, by decide +kernel⟩
theorem fl_X1_walk_21 : Fl wsX1_walk RX1 21 1 5 := ⟨RX1, TX1, 12, rfl, by decide, ic_X1_walk_X1, by decide +kernel⟩
set_option maxHeartbeats 4000000 in
set_option maxRecDepth 100000 in
theorem mX1_walk (l : Launch) (G : Gg) (kr : Nat) (a0 : Int32) (hc_kr : Ce SC kr (.inl 6)) : Ci l G SC yX1_walk wsX1_walk rmX1_walk [.ref (G.2.1 10), .ref (G.2.1 kr), .int a0] (fX1_walk kr a0) := by
  refine Ci.intro (lv := [(0, .ref (G.2.1 10)), (1, .ref (G.2.1 kr)), (2, .int a0)]) RX1 rfl (by decide) kX1_walk (Nat.le_of_ble_eq_true rfl) rfl (fun X V M z F D hX hml E => ?_)
  unfold fX1_walk
  refine j_iconst (v := (0 : Int32)) F dX1_walk_0 (by decide) ?_
  refine j_istore_n (lv' := [(3, .int (0 : Int32)), (0, .ref (G.2.1 10)), (1, .ref (G.2.1 kr)), (2, .int a0)]) F dX1_walk_1 rfl (by rw [← hml]; decide) rfl ?_
  refine j_iconst (v := (3 : Int32)) F dX1_walk_2 (by decide) ?_
  refine j_istore (lv' := [(4, .int (3 : Int32)), (3, .int (0 : Int32)), (0, .ref (G.2.1 10)), (1, .ref (G.2.1 kr)), (2, .int a0)]) F dX1_walk_3 (by rw [← hml]; decide) rfl ?_
  refine j_iconst (v := (0 : Int32)) F dX1_walk_5 (by decide) ?_
  refine j_istore (lv' := [(5, .int (0 : Int32)), (4, .int (3 : Int32)), (3, .int (0 : Int32)), (0, .ref (G.2.1 10)), (1, .ref (G.2.1 kr)), (2, .int a0)]) F dX1_walk_6 (by rw [← hml]; decide) rfl ?_
  refine j_iconst (v := (0 : Int32)) F dX1_walk_8 (by decide) ?_
  refine j_istore (lv' := [(6, .int (0 : Int32)), (5, .int (0 : Int32)), (4, .int (3 : Int32)), (3, .int (0 : Int32)), (0, .ref (G.2.1 10)), (1, .ref (G.2.1 kr)), (2, .int a0)]) F dX1_walk_9 (by rw [← hml]; decide) rfl ?_
  have hL22 : ∀ (K7 : Int32 → Mm → Option (Int32 × Mm)) (c1 : Int32), (∀ (x8 : Int32) (N9 : Mm), Jg X V z (K7 x8 N9) N9 108 [(5, .int x8)] []) → ∀ (n11 : Nat) (x2 : Int32) (x3 : Int32) (x4 : Int32) (x5 : Int32) (N6 : Mm), Jg X V z (lX1_walk_11 K7 kr c1 n11 x2 x3 x4 x5 N6) N6 11 [(0, .ref (G.2.1 10)), (1, .ref (G.2.1 kr)), (2, .int c1), (3, .int x2), (4, .int x3), (5, .int x4), (6, .int x5)] [] := by
    intro K7 c1 hK7 n11
    induction n11 with
    | zero => intro x2 x3 x4 x5 N6; rw [lX1_walk_11]; exact j_none
    | succ n11 ih10 =>
      intro x2 x3 x4 x5 N6
      rw [lX1_walk_11]
      refine j_iload F dX1_walk_11 6 rfl ?_
      refine j_aload_n F dX1_walk_13 rfl 0 rfl ?_
      refine j_getr (r := 1) F D ce_10 fl_X1_walk_30 rfl dX1_walk_14 ?_
      refine j_geti F D ce_1 fl_X1_walk_72 rfl dX1_walk_17 ?_
      refine j_icmp_ge (tgt := 108) F dX1_walk_20 (by decide) ?_ ?_
      · exact j_sub [5] rfl (hK7 x4 N6)
      · refine j_iload_n F dX1_walk_23 rfl 2 rfl ?_
        refine j_jn (P := fun (K13 : Int32 → Option (Int32 × Mm)) => ∀ (x12 : Int32), Jg X V z (K13 x12) N6 44 [(0, .ref (G.2.1 10)), (1, .ref (G.2.1 kr)), (2, .int c1), (3, .int x2), (4, .int x3), (5, .int x4), (6, .int x5)] [.int x12]) ?_ (fun K13 hK13 => ?_)
        · intro x12
          refine j_istore (lv' := [(7, .int x12), (0, .ref (G.2.1 10)), (1, .ref (G.2.1 kr)), (2, .int c1), (3, .int x2), (4, .int x3), (5, .int x4), (6, .int x5)]) F dX1_walk_44 (by rw [← hml]; decide) rfl ?_
          refine j_aload_n F dX1_walk_46 rfl 1 rfl ?_
          refine j_iload_n F dX1_walk_47 rfl 4 rfl ?_
          refine j_iload F dX1_walk_48 5 rfl ?_
          refine j_iload F dX1_walk_50 0 rfl ?_
          refine j_callVi (As := [.int x2, .int x3, .int x12]) F D hX (mX1_leastWithin l G x2 x3 x12) ce_10 rfl kX1_leastWithin rfl gX1_walk_X1_leastWithin ⟨rfl, rfl⟩ ⟨Nat.le_of_ble_eq_true rfl, Nat.le_of_ble_eq_true rfl⟩ rfl (Nat.le_of_ble_eq_true rfl) rfl dX1_walk_52 (fun w14 => ?_)
          refine j_istore (lv' := [(8, .int w14.1), (7, .int x12), (0, .ref (G.2.1 10)), (1, .ref (G.2.1 kr)), (2, .int c1), (3, .int x2), (4, .int x3), (5, .int x4), (6, .int x5)]) F dX1_walk_55 (by rw [← hml]; decide) rfl ?_
          refine j_iload F dX1_walk_57 7 rfl ?_
          refine j_iload F dX1_walk_59 6 rfl ?_
          refine j_aload_n F dX1_walk_61 rfl 2 rfl ?_
          refine j_getr (r := 1) F D ce_10 fl_X1_walk_30 rfl dX1_walk_62 ?_
          refine j_getr (r := 4) F D ce_1 fl_X1_walk_112 rfl dX1_walk_65 ?_
          refine j_iload F dX1_walk_68 0 rfl ?_
          refine j_iald F D ce_4 dX1_walk_70 (fun v15 => ?_)
          refine j_callSi (As := [.int x3, .int v15]) F D hX (mX1_changeTo l G x3 v15) kX1_changeTo gX1_walk_X1_changeTo ⟨rfl, rfl⟩ ⟨Nat.le_of_ble_eq_true rfl, Nat.le_of_ble_eq_true rfl⟩ rfl (Nat.le_of_ble_eq_true rfl) rfl dX1_walk_71 (fun w16 => ?_)
          refine j_iadd F dX1_walk_74 ?_
          refine j_let (f := Value.int) (fun x17 => ?_)
          refine j_istore (lv' := [(5, .int x17), (8, .int w14.1), (7, .int x12), (0, .ref (G.2.1 10)), (1, .ref (G.2.1 kr)), (2, .int c1), (3, .int x2), (4, .int x3), (6, .int x5)]) F dX1_walk_75 (by rw [← hml]; decide) rfl ?_
          refine j_aload_n F dX1_walk_77 rfl 3 rfl ?_
          refine j_getr (r := 1) F D ce_10 fl_X1_walk_30 rfl dX1_walk_78 ?_
          refine j_getr (r := 4) F D ce_1 fl_X1_walk_112 rfl dX1_walk_81 ?_
          refine j_iload F dX1_walk_84 1 rfl ?_
          refine j_iald F D ce_4 dX1_walk_86 (fun v18 => ?_)
          refine j_istore (lv' := [(4, .int v18), (5, .int x17), (8, .int w14.1), (7, .int x12), (0, .ref (G.2.1 10)), (1, .ref (G.2.1 kr)), (2, .int c1), (3, .int x2), (6, .int x5)]) F dX1_walk_87 (by rw [← hml]; decide) rfl ?_
          refine j_iload_n F dX1_walk_89 rfl 7 rfl ?_
          refine j_iconst (v := (1 : Int32)) F dX1_walk_90 (by decide) ?_
          refine j_iload F dX1_walk_91 2 rfl ?_
          refine j_ishl F dX1_walk_93 ?_
          refine j_ior F dX1_walk_94 ?_
          refine j_let (f := Value.int) (fun x19 => ?_)
          refine j_istore_n (lv' := [(3, .int x19), (4, .int v18), (5, .int x17), (8, .int w14.1), (7, .int x12), (0, .ref (G.2.1 10)), (1, .ref (G.2.1 kr)), (2, .int c1), (6, .int x5)]) F dX1_walk_95 rfl (by rw [← hml]; decide) rfl ?_
          refine j_aload_n F dX1_walk_96 rfl 6 rfl ?_
          refine j_iload F dX1_walk_97 8 rfl ?_
          refine j_iload F dX1_walk_99 3 rfl ?_
          refine j_iast F D hc_kr dX1_walk_101 (fun N20 => ?_)
          refine j_iinc (v := (x5 + (1 : Int32))) (lv' := [(6, .int (x5 + (1 : Int32))), (3, .int x19), (4, .int v18), (5, .int x17), (8, .int w14.1), (7, .int x12), (0, .ref (G.2.1 10)), (1, .ref (G.2.1 kr)), (2, .int c1)]) F dX1_walk_102 8 rfl rfl (by rw [← hml]; decide) rfl ?_
          refine j_goto (tgt := 11) F dX1_walk_105 (by decide) ?_
          exact j_sub [6, 7, 8, 1, 2, 3, 0] rfl (ih10 x19 v18 x17 (x5 + (1 : Int32)) N20)
        · refine j_if_eq (tgt := 41) F dX1_walk_24 (by decide) ?_ ?_
          · refine j_sipush (v := (999 : Int32)) F dX1_walk_41 (by decide) ?_
            exact j_sub [0, 1, 2, 3, 4, 5, 6] rfl (hK13 (999 : Int32))
          · refine j_aload_n F dX1_walk_27 rfl 0 rfl ?_
            refine j_getr (r := 14) F D ce_10 fl_X1_walk_21 rfl dX1_walk_28 ?_
            refine j_iload_n F dX1_walk_31 rfl 3 rfl ?_
            refine j_iconst (v := (4 : Int32)) F dX1_walk_32 (by decide) ?_
            refine j_imul F dX1_walk_33 ?_
            refine j_iload F dX1_walk_34 4 rfl ?_
            refine j_iadd F dX1_walk_36 ?_
            refine j_iald F D ce_14 dX1_walk_37 (fun v21 => ?_)
            refine j_goto (tgt := 44) F dX1_walk_38 (by decide) ?_
            exact j_sub [0, 1, 2, 3, 4, 5, 6] rfl (hK13 v21)
  refine j_sub [4, 5, 6, 3, 2, 1, 0] rfl (hL22 _ a0 ?_ fu (0 : Int32) (3 : Int32) (0 : Int32) (0 : Int32) M)
  intro x8 N9
  refine j_iload F dX1_walk_108 0 rfl ?_
  exact j_iret F D E rfl dX1_walk_110

/-! FlangeFolder$Planner.plan -/
def fX1_plan (M : Mm) : Option (Unit × Mm) := (if (M.1 10 6) = (0 : Int32) then lt (stI M 10 6 (1 : Int32)) (fun N1 => (fX1_pathsFrom (0 : Int32) N1).bind (fun w2 => lt (stI w2.2 10 9 w2.1) (fun N3 => (if (N3.1 10 9) = (0 : Int32) then (fJ7_fill_53178 15 6 (-1000 : Int32) N3).bind (fun w9 => (fJ7_fill_53178 16 6 (-1000 : Int32) w9.2).bind (fun w10 => lt (stI w10.2 10 10 (-1000 : Int32)) (fun N11 => lt (stI N11 10 11 (-1000 : Int32)) (fun N12 => some ((), N12))))) else (fX1_findFewest N3).bind (fun w4 => (fX1_walk 15 (0 : Int32) w4.2).bind (fun w5 => lt (stI w5.2 10 10 w5.1) (fun N6 => (fX1_walk 16 (1 : Int32) N6).bind (fun w7 => lt (stI w7.2 10 11 w7.1) (fun N8 => some ((), N8)))))))))) else some ((), M))
def rmX1_plan : Room := { frames := 5, cells := 0, slots := 0, locals := 118 }
theorem kX1_plan : Kc yX1_plan cX1_plan 1 none wsX1_plan 0 := ⟨⟨_, rfl⟩, by decide +kernel, by decide +kernel, by decide +kernel⟩
theorem ic_X1_plan_X1 : ∀ w ∈ u_ws RX1 TX1 12, w ∈ wsX1_plan := by decide +kernel
theorem fl_X1_plan_44 : Fl wsX1_plan RX1 44 1 6 := ⟨RX1, TX1, 12, rfl, by decide, ic_X1_plan_X1, by decide +kernel⟩
theorem fp_X1_plan_44 : Fp wsX1_plan RX1 44 1 6 .boolean := ⟨RX1, TX1, 12, tyX1, rfl, by decide, ic_X1_plan_X1, by decide +kernel, tyX1_ok, nmX1, rfl, rfl⟩
theorem fp_X1_plan_48 : Fp wsX1_plan RX1 48 1 9 .int := ⟨RX1, TX1, 12, tyX1, rfl, by decide, ic_X1_plan_X1, by decide +kernel, tyX1_ok, nmX1, rfl, rfl⟩
theorem fl_X1_plan_48 : Fl wsX1_plan RX1 48 1 9 := ⟨RX1, TX1, 12, rfl, by decide, ic_X1_plan_X1, by decide +kernel⟩
theorem fl_X1_plan_24 : Fl wsX1_plan RX1 24 1 7 := ⟨RX1, TX1, 12, rfl, by decide, ic_X1_plan_X1, by decide +kernel⟩
theorem fp_X1_plan_52 : Fp wsX1_plan RX1 52 1 10 .int := ⟨RX1, TX1, 12, tyX1, rfl, by decide, ic_X1_plan_X1, by decide +kernel, tyX1_ok, nmX1, rfl, rfl⟩
theorem fl_X1_plan_27 : Fl wsX1_plan RX1 27 1 8 := ⟨RX1, TX1, 12, rfl, by decide, ic_X1_plan_X1, by decide +kernel⟩
theorem fp_X1_plan_55 : Fp wsX1_plan RX1 55 1 11 .int := ⟨RX1, TX1, 12, tyX1, rfl, by decide, ic_X1_plan_X1, by decide +kernel, tyX1_ok, nmX1, rfl, rfl⟩
set_option maxHeartbeats 4000000 in
set_option maxRecDepth 100000 in
theorem mX1_plan (l : Launch) (G : Gg) : Cv l G SC yX1_plan wsX1_plan rmX1_plan [.ref (G.2.1 10)] fX1_plan := by
  refine Cv.intro (lv := [(0, .ref (G.2.1 10))]) RX1 rfl (by decide) kX1_plan (Nat.le_of_ble_eq_true rfl) rfl (fun X V M z F D hX hml E => ?_)
  unfold fX1_plan
  refine j_aload_n F dX1_plan_0 rfl 0 rfl ?_
  refine j_geti F D ce_10 fl_X1_plan_44 rfl dX1_plan_1 ?_
  refine j_if_eq (tgt := 8) F dX1_plan_4 (by decide) ?_ ?_
  · refine j_aload_n F dX1_plan_8 rfl 0 rfl ?_
    refine j_iconst (v := (1 : Int32)) F dX1_plan_9 (by decide) ?_
    refine j_puti F D ce_10 fp_X1_plan_44 rfl rfl rfl dX1_plan_10 ?_
    refine j_letM (fun N1 => ?_)
    refine j_aload_n F dX1_plan_13 rfl 0 rfl ?_
    refine j_aload_n F dX1_plan_14 rfl 0 rfl ?_
    refine j_iconst (v := (0 : Int32)) F dX1_plan_15 (by decide) ?_
    refine j_callVi (As := [.int (0 : Int32)]) F D hX (mX1_pathsFrom l G (0 : Int32)) ce_10 rfl kX1_pathsFrom rfl gX1_plan_X1_pathsFrom ⟨rfl, rfl⟩ ⟨Nat.le_of_ble_eq_true rfl, Nat.le_of_ble_eq_true rfl⟩ rfl (Nat.le_of_ble_eq_true rfl) rfl dX1_plan_16 (fun w2 => ?_)
    refine j_puti F D ce_10 fp_X1_plan_48 rfl rfl rfl dX1_plan_19 ?_
    refine j_letM (fun N3 => ?_)
    refine j_aload_n F dX1_plan_22 rfl 0 rfl ?_
    refine j_geti F D ce_10 fl_X1_plan_48 rfl dX1_plan_23 ?_
    refine j_if_ne (tgt := 64) F dX1_plan_26 (by decide) ?_ ?_
    · refine j_aload_n F dX1_plan_64 rfl 0 rfl ?_
      refine j_callVv (As := []) F D hX (mX1_findFewest l G) ce_10 rfl kX1_findFewest rfl gX1_plan_X1_findFewest ⟨rfl, rfl⟩ ⟨Nat.le_of_ble_eq_true rfl, Nat.le_of_ble_eq_true rfl⟩ rfl (Nat.le_of_ble_eq_true rfl) rfl dX1_plan_65 (fun w4 => ?_)
      refine j_aload_n F dX1_plan_68 rfl 0 rfl ?_
      refine j_aload_n F dX1_plan_69 rfl 0 rfl ?_
      refine j_aload_n F dX1_plan_70 rfl 0 rfl ?_
      refine j_getr (r := 15) F D ce_10 fl_X1_plan_24 rfl dX1_plan_71 ?_
      refine j_iconst (v := (0 : Int32)) F dX1_plan_74 (by decide) ?_
      refine j_callVi (As := [.ref (G.2.1 15), .int (0 : Int32)]) F D hX (mX1_walk l G 15 (0 : Int32) ce_15) ce_10 rfl kX1_walk rfl gX1_plan_X1_walk ⟨rfl, rfl⟩ ⟨Nat.le_of_ble_eq_true rfl, Nat.le_of_ble_eq_true rfl⟩ rfl (Nat.le_of_ble_eq_true rfl) rfl dX1_plan_75 (fun w5 => ?_)
      refine j_puti F D ce_10 fp_X1_plan_52 rfl rfl rfl dX1_plan_78 ?_
      refine j_letM (fun N6 => ?_)
      refine j_aload_n F dX1_plan_81 rfl 0 rfl ?_
      refine j_aload_n F dX1_plan_82 rfl 0 rfl ?_
      refine j_aload_n F dX1_plan_83 rfl 0 rfl ?_
      refine j_getr (r := 16) F D ce_10 fl_X1_plan_27 rfl dX1_plan_84 ?_
      refine j_iconst (v := (1 : Int32)) F dX1_plan_87 (by decide) ?_
      refine j_callVi (As := [.ref (G.2.1 16), .int (1 : Int32)]) F D hX (mX1_walk l G 16 (1 : Int32) ce_16) ce_10 rfl kX1_walk rfl gX1_plan_X1_walk ⟨rfl, rfl⟩ ⟨Nat.le_of_ble_eq_true rfl, Nat.le_of_ble_eq_true rfl⟩ rfl (Nat.le_of_ble_eq_true rfl) rfl dX1_plan_88 (fun w7 => ?_)
      refine j_puti F D ce_10 fp_X1_plan_55 rfl rfl rfl dX1_plan_91 ?_
      refine j_letM (fun N8 => ?_)
      exact j_vret F D E dX1_plan_94
    · refine j_aload_n F dX1_plan_29 rfl 0 rfl ?_
      refine j_getr (r := 15) F D ce_10 fl_X1_plan_24 rfl dX1_plan_30 ?_
      refine j_sipush (v := (-1000 : Int32)) F dX1_plan_33 (by decide) ?_
      refine j_callSv (As := [.ref (G.2.1 15), .int (-1000 : Int32)]) F D hX (mJ7_fill_53178 l G 15 6 (-1000 : Int32) ce_15) kJ7_fill_53178 gX1_plan_J7_fill_53178 ⟨rfl, rfl⟩ ⟨Nat.le_of_ble_eq_true rfl, Nat.le_of_ble_eq_true rfl⟩ rfl (Nat.le_of_ble_eq_true rfl) rfl dX1_plan_36 (fun w9 => ?_)
      refine j_aload_n F dX1_plan_39 rfl 0 rfl ?_
      refine j_getr (r := 16) F D ce_10 fl_X1_plan_27 rfl dX1_plan_40 ?_
      refine j_sipush (v := (-1000 : Int32)) F dX1_plan_43 (by decide) ?_
      refine j_callSv (As := [.ref (G.2.1 16), .int (-1000 : Int32)]) F D hX (mJ7_fill_53178 l G 16 6 (-1000 : Int32) ce_16) kJ7_fill_53178 gX1_plan_J7_fill_53178 ⟨rfl, rfl⟩ ⟨Nat.le_of_ble_eq_true rfl, Nat.le_of_ble_eq_true rfl⟩ rfl (Nat.le_of_ble_eq_true rfl) rfl dX1_plan_46 (fun w10 => ?_)
      refine j_aload_n F dX1_plan_49 rfl 0 rfl ?_
      refine j_sipush (v := (-1000 : Int32)) F dX1_plan_50 (by decide) ?_
      refine j_puti F D ce_10 fp_X1_plan_52 rfl rfl rfl dX1_plan_53 ?_
      refine j_letM (fun N11 => ?_)
      refine j_aload_n F dX1_plan_56 rfl 0 rfl ?_
      refine j_sipush (v := (-1000 : Int32)) F dX1_plan_57 (by decide) ?_
      refine j_puti F D ce_10 fp_X1_plan_55 rfl rfl rfl dX1_plan_60 ?_
      refine j_letM (fun N12 => ?_)
      exact j_vret F D E dX1_plan_63
  · exact j_vret F D E dX1_plan_7
