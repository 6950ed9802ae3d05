/-! FlangeFolder.isWithin -/
def fX6_isWithin (a0 : Int32) (a1 : Int32) (a2 : Int32) (M : Mm) : Option (Int32 × Mm) := (if a0 < a1 then some ((0 : Int32), M) else (if a2 < a0 then some ((0 : Int32), M) else some ((1 : Int32), M)))
def rmX6_isWithin : Room := { frames := 0, cells := 0, slots := 0, locals := 0 }
theorem kX6_isWithin : Kc yX6_isWithin cX6_isWithin 3 (some .boolean) wsX6_isWithin 3 := ⟨⟨_, rfl⟩, by decide +kernel, by decide +kernel, by decide +kernel⟩
set_option maxHeartbeats 4000000 in
set_option maxRecDepth 100000 in
theorem mX6_isWithin (l : Launch) (G : Gg) (a0 : Int32) (a1 : Int32) (a2 : Int32) : Ci l G SC yX6_isWithin wsX6_isWithin rmX6_isWithin [.int a0, .int a1, .int a2] (fX6_isWithin a0 a1 a2) := by
  refine Ci.intro (lv := [(0, .int a0), (1, .int a1), (2, .int a2)]) RX6 rfl (by decide) kX6_isWithin (Nat.le_of_ble_eq_true rfl) rfl (fun X V M z F D hX hml E => ?_)
  unfold fX6_isWithin
  refine j_iload_n F dX6_isWithin_0 rfl 0 rfl ?_
  refine j_iload_n F dX6_isWithin_1 rfl 1 rfl ?_
  refine j_icmp_lt (tgt := 14) F dX6_isWithin_2 (by decide) ?_ ?_
  · refine j_iconst (v := (0 : Int32)) F dX6_isWithin_14 (by decide) ?_
    exact j_iret F D E rfl dX6_isWithin_15
  · refine j_iload_n F dX6_isWithin_5 rfl 0 rfl ?_
    refine j_iload_n F dX6_isWithin_6 rfl 2 rfl ?_
    refine j_icmp_gt (tgt := 14) F dX6_isWithin_7 (by decide) ?_ ?_
    · refine j_iconst (v := (0 : Int32)) F dX6_isWithin_14 (by decide) ?_
      exact j_iret F D E rfl dX6_isWithin_15
    · refine j_iconst (v := (1 : Int32)) F dX6_isWithin_10 (by decide) ?_
      refine j_goto (tgt := 15) F dX6_isWithin_11 (by decide) ?_
      exact j_iret F D E rfl dX6_isWithin_15

/-! FlangeFolder$Worker.newStrip -/
def fX5_newStrip (a0 : Int32) (M : Mm) : Option (Int32 × Mm) := (fX6_isWithin a0 (1 : Int32) (20 : Int32) M).bind (fun w1 => (if w1.1 = (0 : Int32) then some ((-1001 : Int32), w1.2) else lt ((w1.2.1 1 4) + (1 : Int32)) (fun x2 => (wr w1.2 2 7 (0 : Int32) a0).bind (fun N3 => lt (stI N3 1 4 (0 : Int32)) (fun N4 => lt (stI N4 1 5 (0 : Int32)) (fun N5 => (fX1_forget N5).bind (fun w6 => some (x2, w6.2))))))))
def rmX5_newStrip : Room := { frames := 2, cells := 0, slots := 0, locals := 43 }
theorem kX5_newStrip : Kc yX5_newStrip cX5_newStrip 3 (some .int) wsX5_newStrip 1 := ⟨⟨_, rfl⟩, by decide +kernel, by decide +kernel, by decide +kernel⟩
theorem ic_X5_newStrip_X5 : ∀ w ∈ u_ws RX5 TX5 2, w ∈ wsX5_newStrip := by decide +kernel
theorem fl_X5_newStrip_9 : Fl wsX5_newStrip RX5 9 5 0 := ⟨RX5, TX5, 2, rfl, by decide, ic_X5_newStrip_X5, by decide +kernel⟩
theorem ic_X5_newStrip_X4 : ∀ w ∈ u_ws RX4 TX4 8, w ∈ wsX5_newStrip := by decide +kernel
theorem fl_X5_newStrip_23 : Fl wsX5_newStrip RX5 23 4 4 := ⟨RX4, TX4, 8, rfl, by decide, ic_X5_newStrip_X4, by decide +kernel⟩
theorem fl_X5_newStrip_29 : Fl wsX5_newStrip RX5 29 4 0 := ⟨RX4, TX4, 8, rfl, by decide, ic_X5_newStrip_X4, by decide +kernel⟩
theorem fp_X5_newStrip_23 : Fp wsX5_newStrip RX5 23 4 4 .int := ⟨RX4, TX4, 8, tyX4, rfl, by decide, ic_X5_newStrip_X4, by decide +kernel, tyX4_ok, nmX4, rfl, rfl⟩
theorem fp_X5_newStrip_33 : Fp wsX5_newStrip RX5 33 4 5 .int := ⟨RX4, TX4, 8, tyX4, rfl, by decide, ic_X5_newStrip_X4, by decide +kernel, tyX4_ok, nmX4, rfl, rfl⟩
theorem fl_X5_newStrip_15 : Fl wsX5_newStrip RX5 15 5 1 := ⟨RX5, TX5, 2, rfl, by decide, ic_X5_newStrip_X5, by decide +kernel⟩
theorem kv_X5_newStrip : Cond.static yX6_isWithin ∈ wsX5_newStrip := by decide +kernel
theorem kw_X5_newStrip : Cond.initialized RX6 ∈ wsX5_newStrip := by decide +kernel
set_option maxHeartbeats 4000000 in
set_option maxRecDepth 100000 in
theorem mX5_newStrip (l : Launch) (G : Gg) (a0 : Int32) : Ci l G SC yX5_newStrip wsX5_newStrip rmX5_newStrip [.ref (G.2.1 17), .int a0] (fX5_newStrip a0) := by
  refine Ci.intro (lv := [(0, .ref (G.2.1 17)), (1, .int a0)]) RX5 rfl (by decide) kX5_newStrip (Nat.le_of_ble_eq_true rfl) rfl (fun X V M z F D hX hml E => ?_)
  unfold fX5_newStrip
  refine j_iload_n F dX5_newStrip_0 rfl 1 rfl ?_
  refine j_iconst (v := (1 : Int32)) F dX5_newStrip_1 (by decide) ?_
  refine j_bipush (v := (20 : Int32)) F dX5_newStrip_2 (by decide) ?_
  refine j_callNi (As := [.int a0, .int (1 : Int32), .int (20 : Int32)]) F D hX (mX6_isWithin l G a0 (1 : Int32) (20 : Int32)) kX6_isWithin gX5_newStrip_X6_isWithin_n19 kv_X5_newStrip kw_X5_newStrip ⟨rfl, rfl⟩ ⟨Nat.le_of_ble_eq_true rfl, Nat.le_of_ble_eq_true rfl⟩ rfl (Nat.le_of_ble_eq_true rfl) rfl dX5_newStrip_4 (fun w1 => ?_)
  refine j_if_ne (tgt := 14) F dX5_newStrip_7 (by decide) ?_ ?_
  · refine j_aload_n F dX5_newStrip_14 rfl 0 rfl ?_
    refine j_getr (r := 1) F D ce_17 fl_X5_newStrip_9 rfl dX5_newStrip_15 ?_
    refine j_geti F D ce_1 fl_X5_newStrip_23 rfl dX5_newStrip_18 ?_
    refine j_iconst (v := (1 : Int32)) F dX5_newStrip_21 (by decide) ?_
    refine j_iadd F dX5_newStrip_22 ?_
    refine j_let (f := Value.int) (fun x2 => ?_)
    refine j_istore_n (lv' := [(2, .int x2), (0, .ref (G.2.1 17)), (1, .int a0)]) F dX5_newStrip_23 rfl (by rw [← hml]; decide) rfl ?_
    refine j_aload_n F dX5_newStrip_24 rfl 1 rfl ?_
    refine j_getr (r := 1) F D ce_17 fl_X5_newStrip_9 rfl dX5_newStrip_25 ?_
    refine j_getr (r := 2) F D ce_1 fl_X5_newStrip_29 rfl dX5_newStrip_28 ?_
    refine j_iconst (v := (0 : Int32)) F dX5_newStrip_31 (by decide) ?_
    refine j_iload_n F dX5_newStrip_32 rfl 2 rfl ?_
    refine j_iast F D ce_2 dX5_newStrip_33 (fun N3 => ?_)
    refine j_aload_n F dX5_newStrip_34 rfl 1 rfl ?_
    refine j_getr (r := 1) F D ce_17 fl_X5_newStrip_9 rfl dX5_newStrip_35 ?_
    refine j_iconst (v := (0 : Int32)) F dX5_newStrip_38 (by decide) ?_
    refine j_puti F D ce_1 fp_X5_newStrip_23 rfl rfl rfl dX5_newStrip_39 ?_
    refine j_letM (fun N4 => ?_)
    refine j_aload_n F dX5_newStrip_42 rfl 1 rfl ?_
    refine j_getr (r := 1) F D ce_17 fl_X5_newStrip_9 rfl dX5_newStrip_43 ?_
    refine j_iconst (v := (0 : Int32)) F dX5_newStrip_46 (by decide) ?_
    refine j_puti F D ce_1 fp_X5_newStrip_33 rfl rfl rfl dX5_newStrip_47 ?_
    refine j_letM (fun N5 => ?_)
    refine j_aload_n F dX5_newStrip_50 rfl 1 rfl ?_
    refine j_getr (r := 10) F D ce_17 fl_X5_newStrip_15 rfl dX5_newStrip_51 ?_
    refine j_callVv (As := []) F D hX (mX1_forget l G) ce_10 rfl kX1_forget rfl gX5_newStrip_X1_forget ⟨rfl, rfl⟩ ⟨Nat.le_of_ble_eq_true rfl, Nat.le_of_ble_eq_true rfl⟩ rfl (Nat.le_of_ble_eq_true rfl) rfl dX5_newStrip_54 (fun w6 => ?_)
    refine j_iload_n F dX5_newStrip_57 rfl 0 rfl ?_
    exact j_iret F D E rfl dX5_newStrip_58
  · refine j_sipush (v := (-1001 : Int32)) F dX5_newStrip_10 (by decide) ?_
    exact j_iret F D E rfl dX5_newStrip_13

/-! FlangeFolder$Worker.addBend -/
def fX5_addBend (a0 : Int32) (a1 : Int32) (a2 : Int32) (M : Mm) : Option (Int32 × Mm) := jn (fun (x1 : Int32) => (fX6_isWithin a0 (1 : Int32) (20 : Int32) M).bind (fun w3 => (if w3.1 = (0 : Int32) then some ((-1001 : Int32), w3.2) else (if x1 = (0 : Int32) then some ((-1001 : Int32), w3.2) else (fX6_isWithin a2 (0 : Int32) (2 : Int32) w3.2).bind (fun w4 => (if w4.1 = (0 : Int32) then some ((-1001 : Int32), w4.2) else lt (w4.2.1 1 4) (fun x5 => (if x5 < (6 : Int32) then (wr w4.2 3 6 x5 a1).bind (fun N6 => (wr N6 4 6 x5 a2).bind (fun N7 => (wr N7 2 7 (x5 + (1 : Int32)) a0).bind (fun N8 => lt (stI N8 1 4 (x5 + (1 : Int32))) (fun N9 => (fX1_forget N9).bind (fun w10 => some (x5, w10.2)))))) else some ((-1003 : Int32), w4.2))))))))) (fun K2 => jn (fun (_u : Unit) => K2 (1 : Int32)) (fun K11 => (if a1 = (1 : Int32) then K11 () else (if a1 = (-1 : Int32) then K11 () else K2 (0 : Int32)))))
def rmX5_addBend : Room := { frames := 2, cells := 0, slots := 0, locals := 43 }
theorem kX5_addBend : Kc yX5_addBend cX5_addBend 6 (some .int) wsX5_addBend 3 := ⟨⟨_, rfl⟩, by decide +kernel, by decide +kernel, by decide +kernel⟩
theorem ic_X5_addBend_X5 : ∀ w ∈ u_ws RX5 TX5 2, w ∈ wsX5_addBend := by decide +kernel
theorem fl_X5_addBend_9 : Fl wsX5_addBend RX5 9 5 0 := ⟨RX5, TX5, 2, rfl, by decide, ic_X5_addBend_X5, by decide +kernel⟩
theorem ic_X5_addBend_X4 : ∀ w ∈ u_ws RX4 TX4 8, w ∈ wsX5_addBend := by decide +kernel
theorem fl_X5_addBend_23 : Fl wsX5_addBend RX5 23 4 4 := ⟨RX4, TX4, 8, rfl, by decide, ic_X5_addBend_X4, by decide +kernel⟩
theorem fl_X5_addBend_41 : Fl wsX5_addBend RX5 41 4 1 := ⟨RX4, TX4, 8, rfl, by decide, ic_X5_addBend_X4, by decide +kernel⟩
theorem fl_X5_addBend_44 : Fl wsX5_addBend RX5 44 4 2 := ⟨RX4, TX4, 8, rfl, by decide, ic_X5_addBend_X4, by decide +kernel⟩
theorem fl_X5_addBend_29 : Fl wsX5_addBend RX5 29 4 0 := ⟨RX4, TX4, 8, rfl, by decide, ic_X5_addBend_X4, by decide +kernel⟩
theorem fp_X5_addBend_23 : Fp wsX5_addBend RX5 23 4 4 .int := ⟨RX4, TX4, 8, tyX4, rfl, by decide, ic_X5_addBend_X4, by decide +kernel, tyX4_ok, nmX4, rfl, rfl⟩
theorem fl_X5_addBend_15 : Fl wsX5_addBend RX5 15 5 1 := ⟨RX5, TX5, 2, rfl, by decide, ic_X5_addBend_X5, by decide +kernel⟩
theorem kv_X5_addBend : Cond.static yX6_isWithin ∈ wsX5_addBend := by decide +kernel
theorem kw_X5_addBend : Cond.initialized RX6 ∈ wsX5_addBend := by decide +kernel
set_option maxHeartbeats 4000000 in
set_option maxRecDepth 100000 in
theorem mX5_addBend (l : Launch) (G : Gg) (a0 : Int32) (a1 : Int32) (a2 : Int32) : Ci l G SC yX5_addBend wsX5_addBend rmX5_addBend [.ref (G.2.1 17), .int a0, .int a1, .int a2] (fX5_addBend a0 a1 a2) := by
  refine Ci.intro (lv := [(0, .ref (G.2.1 17)), (1, .int a0), (2, .int a1), (3, .int a2)]) RX5 rfl (by decide) kX5_addBend (Nat.le_of_ble_eq_true rfl) rfl (fun X V M z F D hX hml E => ?_)
  unfold fX5_addBend
  refine j_iload_n F dX5_addBend_0 rfl 2 rfl ?_
  refine j_iconst (v := (1 : Int32)) F dX5_addBend_1 (by decide) ?_
  refine j_jn (P := fun (K2 : Int32 → Option (Int32 × Mm)) => ∀ (x1 : Int32), Jg X V z (K2 x1) M 15 [(0, .ref (G.2.1 17)), (1, .int a0), (2, .int a1), (3, .int a2)] [.int x1]) ?_ (fun K2 hK2 => ?_)
  · intro x1
    refine j_istore (lv' := [(4, .int x1), (0, .ref (G.2.1 17)), (1, .int a0), (2, .int a1), (3, .int a2)]) F dX5_addBend_15 (by rw [← hml]; decide) rfl ?_
    refine j_iload_n F dX5_addBend_17 rfl 2 rfl ?_
    refine j_iconst (v := (1 : Int32)) F dX5_addBend_18 (by decide) ?_
    refine j_bipush (v := (20 : Int32)) F dX5_addBend_19 (by decide) ?_
    refine j_callNi (As := [.int a0, .int (1 : Int32), .int (20 : Int32)]) F D hX (mX6_isWithin l G a0 (1 : Int32) (20 : Int32)) kX6_isWithin gX5_addBend_X6_isWithin_n19 kv_X5_addBend kw_X5_addBend ⟨rfl, rfl⟩ ⟨Nat.le_of_ble_eq_true rfl, Nat.le_of_ble_eq_true rfl⟩ rfl (Nat.le_of_ble_eq_true rfl) rfl dX5_addBend_21 (fun w3 => ?_)
    refine j_if_eq (tgt := 41) F dX5_addBend_24 (by decide) ?_ ?_
    · refine j_sipush (v := (-1001 : Int32)) F dX5_addBend_41 (by decide) ?_
      exact j_iret F D E rfl dX5_addBend_44
    · refine j_iload F dX5_addBend_27 0 rfl ?_
      refine j_if_eq (tgt := 41) F dX5_addBend_29 (by decide) ?_ ?_
      · refine j_sipush (v := (-1001 : Int32)) F dX5_addBend_41 (by decide) ?_
        exact j_iret F D E rfl dX5_addBend_44
      · refine j_iload_n F dX5_addBend_32 rfl 4 rfl ?_
        refine j_iconst (v := (0 : Int32)) F dX5_addBend_33 (by decide) ?_
        refine j_iconst (v := (2 : Int32)) F dX5_addBend_34 (by decide) ?_
        refine j_callNi (As := [.int a2, .int (0 : Int32), .int (2 : Int32)]) F D hX (mX6_isWithin l G a2 (0 : Int32) (2 : Int32)) kX6_isWithin gX5_addBend_X6_isWithin_n19 kv_X5_addBend kw_X5_addBend ⟨rfl, rfl⟩ ⟨Nat.le_of_ble_eq_true rfl, Nat.le_of_ble_eq_true rfl⟩ rfl (Nat.le_of_ble_eq_true rfl) rfl dX5_addBend_35 (fun w4 => ?_)
        refine j_if_ne (tgt := 45) F dX5_addBend_38 (by decide) ?_ ?_
        · refine j_aload_n F dX5_addBend_45 rfl 1 rfl ?_
          refine j_getr (r := 1) F D ce_17 fl_X5_addBend_9 rfl dX5_addBend_46 ?_
          refine j_geti F D ce_1 fl_X5_addBend_23 rfl dX5_addBend_49 ?_
          refine j_let (f := Value.int) (fun x5 => ?_)
          refine j_istore (lv' := [(5, .int x5), (4, .int x1), (0, .ref (G.2.1 17)), (1, .int a0), (2, .int a1), (3, .int a2)]) F dX5_addBend_52 (by rw [← hml]; decide) rfl ?_
          refine j_iload F dX5_addBend_54 0 rfl ?_
          refine j_bipush (v := (6 : Int32)) F dX5_addBend_56 (by decide) ?_
          refine j_icmp_lt (tgt := 65) F dX5_addBend_58 (by decide) ?_ ?_
          · refine j_aload_n F dX5_addBend_65 rfl 2 rfl ?_
            refine j_getr (r := 1) F D ce_17 fl_X5_addBend_9 rfl dX5_addBend_66 ?_
            refine j_getr (r := 3) F D ce_1 fl_X5_addBend_41 rfl dX5_addBend_69 ?_
            refine j_iload F dX5_addBend_72 0 rfl ?_
            refine j_iload_n F dX5_addBend_74 rfl 4 rfl ?_
            refine j_iast F D ce_3 dX5_addBend_75 (fun N6 => ?_)
            refine j_aload_n F dX5_addBend_76 rfl 2 rfl ?_
            refine j_getr (r := 1) F D ce_17 fl_X5_addBend_9 rfl dX5_addBend_77 ?_
            refine j_getr (r := 4) F D ce_1 fl_X5_addBend_44 rfl dX5_addBend_80 ?_
            refine j_iload F dX5_addBend_83 0 rfl ?_
            refine j_iload_n F dX5_addBend_85 rfl 5 rfl ?_
            refine j_iast F D ce_4 dX5_addBend_86 (fun N7 => ?_)
            refine j_aload_n F dX5_addBend_87 rfl 2 rfl ?_
            refine j_getr (r := 1) F D ce_17 fl_X5_addBend_9 rfl dX5_addBend_88 ?_
            refine j_getr (r := 2) F D ce_1 fl_X5_addBend_29 rfl dX5_addBend_91 ?_
            refine j_iload F dX5_addBend_94 0 rfl ?_
            refine j_iconst (v := (1 : Int32)) F dX5_addBend_96 (by decide) ?_
            refine j_iadd F dX5_addBend_97 ?_
            refine j_iload_n F dX5_addBend_98 rfl 3 rfl ?_
            refine j_iast F D ce_2 dX5_addBend_99 (fun N8 => ?_)
            refine j_aload_n F dX5_addBend_100 rfl 2 rfl ?_
            refine j_getr (r := 1) F D ce_17 fl_X5_addBend_9 rfl dX5_addBend_101 ?_
            refine j_iload F dX5_addBend_104 0 rfl ?_
            refine j_iconst (v := (1 : Int32)) F dX5_addBend_106 (by decide) ?_
            refine j_iadd F dX5_addBend_107 ?_
            refine j_puti F D ce_1 fp_X5_addBend_23 rfl rfl rfl dX5_addBend_108 ?_
            refine j_letM (fun N9 => ?_)
            refine j_aload_n F dX5_addBend_111 rfl 2 rfl ?_
            refine j_getr (r := 10) F D ce_17 fl_X5_addBend_15 rfl dX5_addBend_112 ?_
            refine j_callVv (As := []) F D hX (mX1_forget l G) ce_10 rfl kX1_forget rfl gX5_addBend_X1_forget ⟨rfl, rfl⟩ ⟨Nat.le_of_ble_eq_true rfl, Nat.le_of_ble_eq_true rfl⟩ rfl (Nat.le_of_ble_eq_true rfl) rfl dX5_addBend_115 (fun w10 => ?_)
            refine j_iload F dX5_addBend_118 0 rfl ?_
            exact j_iret F D E rfl dX5_addBend_120
          · refine j_sipush (v := (-1003 : Int32)) F dX5_addBend_61 (by decide) ?_
            exact j_iret F D E rfl dX5_addBend_64
        · refine j_sipush (v := (-1001 : Int32)) F dX5_addBend_41 (by decide) ?_
          exact j_iret F D E rfl dX5_addBend_44
  · refine j_jn (P := fun (K11 : Unit → Option (Int32 × Mm)) => ∀ (_u : Unit), Jg X V z (K11 _u) M 10 [(0, .ref (G.2.1 17)), (1, .int a0), (2, .int a1), (3, .int a2)] []) ?_ (fun K11 hK11 => ?_)
    · intro _u
      refine j_iconst (v := (1 : Int32)) F dX5_addBend_10 (by decide) ?_
      refine j_goto (tgt := 15) F dX5_addBend_11 (by decide) ?_
      exact j_sub [0, 1, 2, 3] rfl (hK2 (1 : Int32))
    · refine j_icmp_eq (tgt := 10) F dX5_addBend_2 (by decide) ?_ ?_
      · exact j_sub [0, 1, 2, 3] rfl (hK11 ())
      · refine j_iload_n F dX5_addBend_5 rfl 2 rfl ?_
        refine j_iconst (v := (-1 : Int32)) F dX5_addBend_6 (by decide) ?_
        refine j_icmp_ne (tgt := 14) F dX5_addBend_7 (by decide) ?_ ?_
        · refine j_iconst (v := (0 : Int32)) F dX5_addBend_14 (by decide) ?_
          exact j_sub [0, 1, 2, 3] rfl (hK2 (0 : Int32))
        · exact j_sub [0, 1, 2, 3] rfl (hK11 ())

/-! FlangeFolder$Worker.setPress -/
def fX5_setPress (a0 : Int32) (a1 : Int32) (M : Mm) : Option (Int32 × Mm) := (fX6_isWithin a0 (0 : Int32) (20 : Int32) M).bind (fun w1 => (if w1.1 = (0 : Int32) then some ((-1001 : Int32), w1.2) else (fX6_isWithin a1 (0 : Int32) (40 : Int32) w1.2).bind (fun w2 => (if w2.1 = (0 : Int32) then some ((-1001 : Int32), w2.2) else lt (((100 : Int32) * (w2.2.1 1 6)) + (w2.2.1 1 7)) (fun x3 => lt (stI w2.2 1 6 a0) (fun N4 => lt (stI N4 1 7 a1) (fun N5 => (fX1_forget N5).bind (fun w6 => some (x3, w6.2)))))))))
def rmX5_setPress : Room := { frames := 2, cells := 0, slots := 0, locals := 43 }
theorem kX5_setPress : Kc yX5_setPress cX5_setPress 4 (some .int) wsX5_setPress 2 := ⟨⟨_, rfl⟩, by decide +kernel, by decide +kernel, by decide +kernel⟩
theorem ic_X5_setPress_X5 : ∀ w ∈ u_ws RX5 TX5 2, w ∈ wsX5_setPress := by decide +kernel
theorem fl_X5_setPress_9 : Fl wsX5_setPress RX5 9 5 0 := ⟨RX5, TX5, 2, rfl, by decide, ic_X5_setPress_X5, by decide +kernel⟩
theorem ic_X5_setPress_X4 : ∀ w ∈ u_ws RX4 TX4 8, w ∈ wsX5_setPress := by decide +kernel
theorem fl_X5_setPress_47 : Fl wsX5_setPress RX5 47 4 6 := ⟨RX4, TX4, 8, rfl, by decide, ic_X5_setPress_X4, by decide +kernel⟩
theorem fl_X5_setPress_50 : Fl wsX5_setPress RX5 50 4 7 := ⟨RX4, TX4, 8, rfl, by decide, ic_X5_setPress_X4, by decide +kernel⟩
theorem fp_X5_setPress_47 : Fp wsX5_setPress RX5 47 4 6 .int := ⟨RX4, TX4, 8, tyX4, rfl, by decide, ic_X5_setPress_X4, by decide +kernel, tyX4_ok, nmX4, rfl, rfl⟩
theorem fp_X5_setPress_50 : Fp wsX5_setPress RX5 50 4 7 .int := ⟨RX4, TX4, 8, tyX4, rfl, by decide, ic_X5_setPress_X4, by decide +kernel, tyX4_ok, nmX4, rfl, rfl⟩
theorem fl_X5_setPress_15 : Fl wsX5_setPress RX5 15 5 1 := ⟨RX5, TX5, 2, rfl, by decide, ic_X5_setPress_X5, by decide +kernel⟩
theorem kv_X5_setPress : Cond.static yX6_isWithin ∈ wsX5_setPress := by decide +kernel
theorem kw_X5_setPress : Cond.initialized RX6 ∈ wsX5_setPress := by decide +kernel
set_option maxHeartbeats 4000000 in
set_option maxRecDepth 100000 in
theorem mX5_setPress (l : Launch) (G : Gg) (a0 : Int32) (a1 : Int32) : Ci l G SC yX5_setPress wsX5_setPress rmX5_setPress [.ref (G.2.1 17), .int a0, .int a1] (fX5_setPress a0 a1) := by
  refine Ci.intro (lv := [(0, .ref (G.2.1 17)), (1, .int a0), (2, .int a1)]) RX5 rfl (by decide) kX5_setPress (Nat.le_of_ble_eq_true rfl) rfl (fun X V M z F D hX hml E => ?_)
  unfold fX5_setPress
  refine j_iload_n F dX5_setPress_0 rfl 1 rfl ?_
  refine j_iconst (v := (0 : Int32)) F dX5_setPress_1 (by decide) ?_
  refine j_bipush (v := (20 : Int32)) F dX5_setPress_2 (by decide) ?_
  refine j_callNi (As := [.int a0, .int (0 : Int32), .int (20 : Int32)]) F D hX (mX6_isWithin l G a0 (0 : Int32) (20 : Int32)) kX6_isWithin gX5_setPress_X6_isWithin_n19 kv_X5_setPress kw_X5_setPress ⟨rfl, rfl⟩ ⟨Nat.le_of_ble_eq_true rfl, Nat.le_of_ble_eq_true rfl⟩ rfl (Nat.le_of_ble_eq_true rfl) rfl dX5_setPress_4 (fun w1 => ?_)
  refine j_if_eq (tgt := 20) F dX5_setPress_7 (by decide) ?_ ?_
  · refine j_sipush (v := (-1001 : Int32)) F dX5_setPress_20 (by decide) ?_
    exact j_iret F D E rfl dX5_setPress_23
  · refine j_iload_n F dX5_setPress_10 rfl 2 rfl ?_
    refine j_iconst (v := (0 : Int32)) F dX5_setPress_11 (by decide) ?_
    refine j_bipush (v := (40 : Int32)) F dX5_setPress_12 (by decide) ?_
    refine j_callNi (As := [.int a1, .int (0 : Int32), .int (40 : Int32)]) F D hX (mX6_isWithin l G a1 (0 : Int32) (40 : Int32)) kX6_isWithin gX5_setPress_X6_isWithin_n19 kv_X5_setPress kw_X5_setPress ⟨rfl, rfl⟩ ⟨Nat.le_of_ble_eq_true rfl, Nat.le_of_ble_eq_true rfl⟩ rfl (Nat.le_of_ble_eq_true rfl) rfl dX5_setPress_14 (fun w2 => ?_)
    refine j_if_ne (tgt := 24) F dX5_setPress_17 (by decide) ?_ ?_
    · refine j_bipush (v := (100 : Int32)) F dX5_setPress_24 (by decide) ?_
      refine j_aload_n F dX5_setPress_26 rfl 0 rfl ?_
      refine j_getr (r := 1) F D ce_17 fl_X5_setPress_9 rfl dX5_setPress_27 ?_
      refine j_geti F D ce_1 fl_X5_setPress_47 rfl dX5_setPress_30 ?_
      refine j_imul F dX5_setPress_33 ?_
      refine j_aload_n F dX5_setPress_34 rfl 0 rfl ?_
      refine j_getr (r := 1) F D ce_17 fl_X5_setPress_9 rfl dX5_setPress_35 ?_
      refine j_geti F D ce_1 fl_X5_setPress_50 rfl dX5_setPress_38 ?_
      refine j_iadd F dX5_setPress_41 ?_
      refine j_let (f := Value.int) (fun x3 => ?_)
      refine j_istore_n (lv' := [(3, .int x3), (0, .ref (G.2.1 17)), (1, .int a0), (2, .int a1)]) F dX5_setPress_42 rfl (by rw [← hml]; decide) rfl ?_
      refine j_aload_n F dX5_setPress_43 rfl 1 rfl ?_
      refine j_getr (r := 1) F D ce_17 fl_X5_setPress_9 rfl dX5_setPress_44 ?_
      refine j_iload_n F dX5_setPress_47 rfl 2 rfl ?_
      refine j_puti F D ce_1 fp_X5_setPress_47 rfl rfl rfl dX5_setPress_48 ?_
      refine j_letM (fun N4 => ?_)
      refine j_aload_n F dX5_setPress_51 rfl 1 rfl ?_
      refine j_getr (r := 1) F D ce_17 fl_X5_setPress_9 rfl dX5_setPress_52 ?_
      refine j_iload_n F dX5_setPress_55 rfl 3 rfl ?_
      refine j_puti F D ce_1 fp_X5_setPress_50 rfl rfl rfl dX5_setPress_56 ?_
      refine j_letM (fun N5 => ?_)
      refine j_aload_n F dX5_setPress_59 rfl 1 rfl ?_
      refine j_getr (r := 10) F D ce_17 fl_X5_setPress_15 rfl dX5_setPress_60 ?_
      refine j_callVv (As := []) F D hX (mX1_forget l G) ce_10 rfl kX1_forget rfl gX5_setPress_X1_forget ⟨rfl, rfl⟩ ⟨Nat.le_of_ble_eq_true rfl, Nat.le_of_ble_eq_true rfl⟩ rfl (Nat.le_of_ble_eq_true rfl) rfl dX5_setPress_63 (fun w6 => ?_)
      refine j_iload_n F dX5_setPress_66 rfl 0 rfl ?_
      exact j_iret F D E rfl dX5_setPress_67
    · refine j_sipush (v := (-1001 : Int32)) F dX5_setPress_20 (by decide) ?_
      exact j_iret F D E rfl dX5_setPress_23

/-! FlangeFolder$Worker.setTaken -/
def fX5_setTaken (a0 : Int32) (a1 : Int32) (M : Mm) : Option (Int32 × Mm) := (fX6_isWithin a0 (0 : Int32) (2 : Int32) M).bind (fun w1 => (if w1.1 = (0 : Int32) then some ((-1001 : Int32), w1.2) else (fX6_isWithin a1 (0 : Int32) (99 : Int32) w1.2).bind (fun w2 => (if w2.1 = (0 : Int32) then some ((-1001 : Int32), w2.2) else (rd w2.2 5 3 a0).bind (fun v3 => (wr w2.2 5 3 a0 a1).bind (fun N4 => some (v3, N4)))))))
def rmX5_setTaken : Room := { frames := 1, cells := 0, slots := 0, locals := 22 }
theorem kX5_setTaken : Kc yX5_setTaken cX5_setTaken 4 (some .int) wsX5_setTaken 2 := ⟨⟨_, rfl⟩, by decide +kernel, by decide +kernel, by decide +kernel⟩
theorem ic_X5_setTaken_X5 : ∀ w ∈ u_ws RX5 TX5 2, w ∈ wsX5_setTaken := by decide +kernel
theorem fl_X5_setTaken_9 : Fl wsX5_setTaken RX5 9 5 0 := ⟨RX5, TX5, 2, rfl, by decide, ic_X5_setTaken_X5, by decide +kernel⟩
theorem ic_X5_setTaken_X4 : ∀ w ∈ u_ws RX4 TX4 8, w ∈ wsX5_setTaken := by decide +kernel
theorem fl_X5_setTaken_53 : Fl wsX5_setTaken RX5 53 4 3 := ⟨RX4, TX4, 8, rfl, by decide, ic_X5_setTaken_X4, by decide +kernel⟩
theorem kv_X5_setTaken : Cond.static yX6_isWithin ∈ wsX5_setTaken := by decide +kernel
theorem kw_X5_setTaken : Cond.initialized RX6 ∈ wsX5_setTaken := by decide +kernel
set_option maxHeartbeats 4000000 in
set_option maxRecDepth 100000 in
theorem mX5_setTaken (l : Launch) (G : Gg) (a0 : Int32) (a1 : Int32) : Ci l G SC yX5_setTaken wsX5_setTaken rmX5_setTaken [.ref (G.2.1 17), .int a0, .int a1] (fX5_setTaken a0 a1) := by
  refine Ci.intro (lv := [(0, .ref (G.2.1 17)), (1, .int a0), (2, .int a1)]) RX5 rfl (by decide) kX5_setTaken (Nat.le_of_ble_eq_true rfl) rfl (fun X V M z F D hX hml E => ?_)
  unfold fX5_setTaken
  refine j_iload_n F dX5_setTaken_0 rfl 1 rfl ?_
  refine j_iconst (v := (0 : Int32)) F dX5_setTaken_1 (by decide) ?_
  refine j_iconst (v := (2 : Int32)) F dX5_setTaken_2 (by decide) ?_
  refine j_callNi (As := [.int a0, .int (0 : Int32), .int (2 : Int32)]) F D hX (mX6_isWithin l G a0 (0 : Int32) (2 : Int32)) kX6_isWithin gX5_setTaken_X6_isWithin_n19 kv_X5_setTaken kw_X5_setTaken ⟨rfl, rfl⟩ ⟨Nat.le_of_ble_eq_true rfl, Nat.le_of_ble_eq_true rfl⟩ rfl (Nat.le_of_ble_eq_true rfl) rfl dX5_setTaken_3 (fun w1 => ?_)
  refine j_if_eq (tgt := 19) F dX5_setTaken_6 (by decide) ?_ ?_
  · refine j_sipush (v := (-1001 : Int32)) F dX5_setTaken_19 (by decide) ?_
    exact j_iret F D E rfl dX5_setTaken_22
  · refine j_iload_n F dX5_setTaken_9 rfl 2 rfl ?_
    refine j_iconst (v := (0 : Int32)) F dX5_setTaken_10 (by decide) ?_
    refine j_bipush (v := (99 : Int32)) F dX5_setTaken_11 (by decide) ?_
    refine j_callNi (As := [.int a1, .int (0 : Int32), .int (99 : Int32)]) F D hX (mX6_isWithin l G a1 (0 : Int32) (99 : Int32)) kX6_isWithin gX5_setTaken_X6_isWithin_n19 kv_X5_setTaken kw_X5_setTaken ⟨rfl, rfl⟩ ⟨Nat.le_of_ble_eq_true rfl, Nat.le_of_ble_eq_true rfl⟩ rfl (Nat.le_of_ble_eq_true rfl) rfl dX5_setTaken_13 (fun w2 => ?_)
    refine j_if_ne (tgt := 23) F dX5_setTaken_16 (by decide) ?_ ?_
    · refine j_aload_n F dX5_setTaken_23 rfl 0 rfl ?_
      refine j_getr (r := 1) F D ce_17 fl_X5_setTaken_9 rfl dX5_setTaken_24 ?_
      refine j_getr (r := 5) F D ce_1 fl_X5_setTaken_53 rfl dX5_setTaken_27 ?_
      refine j_iload_n F dX5_setTaken_30 rfl 1 rfl ?_
      refine j_iald F D ce_5 dX5_setTaken_31 (fun v3 => ?_)
      refine j_istore_n (lv' := [(3, .int v3), (0, .ref (G.2.1 17)), (1, .int a0), (2, .int a1)]) F dX5_setTaken_32 rfl (by rw [← hml]; decide) rfl ?_
      refine j_aload_n F dX5_setTaken_33 rfl 1 rfl ?_
      refine j_getr (r := 1) F D ce_17 fl_X5_setTaken_9 rfl dX5_setTaken_34 ?_
      refine j_getr (r := 5) F D ce_1 fl_X5_setTaken_53 rfl dX5_setTaken_37 ?_
      refine j_iload_n F dX5_setTaken_40 rfl 2 rfl ?_
      refine j_iload_n F dX5_setTaken_41 rfl 3 rfl ?_
      refine j_iast F D ce_5 dX5_setTaken_42 (fun N4 => ?_)
      refine j_iload_n F dX5_setTaken_43 rfl 0 rfl ?_
      exact j_iret F D E rfl dX5_setTaken_44
    · refine j_sipush (v := (-1001 : Int32)) F dX5_setTaken_19 (by decide) ?_
      exact j_iret F D E rfl dX5_setTaken_22

/-! FlangeFolder$Worker.makeBend -/
def fX5_makeBend (a0 : Int32) (M : Mm) : Option (Int32 × Mm) := (fX4_hasBend a0 M).bind (fun w1 => (if w1.1 = (0 : Int32) then some ((-1001 : Int32), w1.2) else (fX4_isMade a0 w1.2).bind (fun w2 => (if w2.1 = (0 : Int32) then (fX1_hitOf (w2.2.1 1 5) a0 w2.2).bind (fun w3 => (if w3.1 = (0 : Int32) then lt (stI w3.2 1 5 ((w3.2.1 1 5) ||| ((1 : Int32) <<< (a0 &&& 31)))) (fun N4 => (fJ6_bitCount_0f7a4 (N4.1 1 5) N4).bind (fun w5 => some (w5.1, w5.2))) else some ((-1002 : Int32), w3.2))) else some ((-1002 : Int32), w2.2)))))
def rmX5_makeBend : Room := { frames := 4, cells := 0, slots := 0, locals := 93 }
theorem kX5_makeBend : Kc yX5_makeBend cX5_makeBend 2 (some .int) wsX5_makeBend 1 := ⟨⟨_, rfl⟩, by decide +kernel, by decide +kernel, by decide +kernel⟩
theorem ic_X5_makeBend_X5 : ∀ w ∈ u_ws RX5 TX5 2, w ∈ wsX5_makeBend := by decide +kernel
theorem fl_X5_makeBend_9 : Fl wsX5_makeBend RX5 9 5 0 := ⟨RX5, TX5, 2, rfl, by decide, ic_X5_makeBend_X5, by decide +kernel⟩
theorem fl_X5_makeBend_15 : Fl wsX5_makeBend RX5 15 5 1 := ⟨RX5, TX5, 2, rfl, by decide, ic_X5_makeBend_X5, by decide +kernel⟩
theorem ic_X5_makeBend_X4 : ∀ w ∈ u_ws RX4 TX4 8, w ∈ wsX5_makeBend := by decide +kernel
theorem fl_X5_makeBend_33 : Fl wsX5_makeBend RX5 33 4 5 := ⟨RX4, TX4, 8, rfl, by decide, ic_X5_makeBend_X4, by decide +kernel⟩
theorem fp_X5_makeBend_33 : Fp wsX5_makeBend RX5 33 4 5 .int := ⟨RX4, TX4, 8, tyX4, rfl, by decide, ic_X5_makeBend_X4, by decide +kernel, tyX4_ok, nmX4, rfl, rfl⟩
set_option maxHeartbeats 4000000 in
set_option maxRecDepth 100000 in
theorem mX5_makeBend (l : Launch) (G : Gg) (a0 : Int32) : Ci l G SC yX5_makeBend wsX5_makeBend rmX5_makeBend [.ref (G.2.1 17), .int a0] (fX5_makeBend a0) := by
  refine Ci.intro (lv := [(0, .ref (G.2.1 17)), (1, .int a0)]) RX5 rfl (by decide) kX5_makeBend (Nat.le_of_ble_eq_true rfl) rfl (fun X V M z F D hX hml E => ?_)
  unfold fX5_makeBend
  refine j_aload_n F dX5_makeBend_0 rfl 0 rfl ?_
  refine j_getr (r := 1) F D ce_17 fl_X5_makeBend_9 rfl dX5_makeBend_1 ?_
  refine j_iload_n F dX5_makeBend_4 rfl 1 rfl ?_
  refine j_callVi (As := [.int a0]) F D hX (mX4_hasBend l G a0) ce_1 rfl kX4_hasBend rfl gX5_makeBend_X4_hasBend ⟨rfl, rfl⟩ ⟨Nat.le_of_ble_eq_true rfl, Nat.le_of_ble_eq_true rfl⟩ rfl (Nat.le_of_ble_eq_true rfl) rfl dX5_makeBend_5 (fun w1 => ?_)
  refine j_if_ne (tgt := 15) F dX5_makeBend_8 (by decide) ?_ ?_
  · refine j_aload_n F dX5_makeBend_15 rfl 0 rfl ?_
    refine j_getr (r := 1) F D ce_17 fl_X5_makeBend_9 rfl dX5_makeBend_16 ?_
    refine j_iload_n F dX5_makeBend_19 rfl 1 rfl ?_
    refine j_callVi (As := [.int a0]) F D hX (mX4_isMade l G a0) ce_1 rfl kX4_isMade rfl gX5_makeBend_X4_isMade ⟨rfl, rfl⟩ ⟨Nat.le_of_ble_eq_true rfl, Nat.le_of_ble_eq_true rfl⟩ rfl (Nat.le_of_ble_eq_true rfl) rfl dX5_makeBend_20 (fun w2 => ?_)
    refine j_if_ne (tgt := 44) F dX5_makeBend_23 (by decide) ?_ ?_
    · refine j_sipush (v := (-1002 : Int32)) F dX5_makeBend_44 (by decide) ?_
      exact j_iret F D E rfl dX5_makeBend_47
    · refine j_aload_n F dX5_makeBend_26 rfl 0 rfl ?_
      refine j_getr (r := 10) F D ce_17 fl_X5_makeBend_15 rfl dX5_makeBend_27 ?_
      refine j_aload_n F dX5_makeBend_30 rfl 0 rfl ?_
      refine j_getr (r := 1) F D ce_17 fl_X5_makeBend_9 rfl dX5_makeBend_31 ?_
      refine j_geti F D ce_1 fl_X5_makeBend_33 rfl dX5_makeBend_34 ?_
      refine j_iload_n F dX5_makeBend_37 rfl 1 rfl ?_
      refine j_callVi (As := [.int (w2.2.1 1 5), .int a0]) F D hX (mX1_hitOf l G (w2.2.1 1 5) a0) ce_10 rfl kX1_hitOf rfl gX5_makeBend_X1_hitOf ⟨rfl, rfl⟩ ⟨Nat.le_of_ble_eq_true rfl, Nat.le_of_ble_eq_true rfl⟩ rfl (Nat.le_of_ble_eq_true rfl) rfl dX5_makeBend_38 (fun w3 => ?_)
      refine j_if_eq (tgt := 48) F dX5_makeBend_41 (by decide) ?_ ?_
      · refine j_aload_n F dX5_makeBend_48 rfl 0 rfl ?_
        refine j_getr (r := 1) F D ce_17 fl_X5_makeBend_9 rfl dX5_makeBend_49 ?_
        refine j_dup F rfl dX5_makeBend_52 ?_
        refine j_geti F D ce_1 fl_X5_makeBend_33 rfl dX5_makeBend_53 ?_
        refine j_iconst (v := (1 : Int32)) F dX5_makeBend_56 (by decide) ?_
        refine j_iload_n F dX5_makeBend_57 rfl 1 rfl ?_
        refine j_ishl F dX5_makeBend_58 ?_
        refine j_ior F dX5_makeBend_59 ?_
        refine j_puti F D ce_1 fp_X5_makeBend_33 rfl rfl rfl dX5_makeBend_60 ?_
        refine j_letM (fun N4 => ?_)
        refine j_aload_n F dX5_makeBend_63 rfl 0 rfl ?_
        refine j_getr (r := 1) F D ce_17 fl_X5_makeBend_9 rfl dX5_makeBend_64 ?_
        refine j_geti F D ce_1 fl_X5_makeBend_33 rfl dX5_makeBend_67 ?_
        refine j_callSi (As := [.int (N4.1 1 5)]) F D hX (mJ6_bitCount_0f7a4 l G (N4.1 1 5)) kJ6_bitCount_0f7a4 gX5_makeBend_J6_bitCount_0f7a4 ⟨rfl, rfl⟩ ⟨Nat.le_of_ble_eq_true rfl, Nat.le_of_ble_eq_true rfl⟩ rfl (Nat.le_of_ble_eq_true rfl) rfl dX5_makeBend_70 (fun w5 => ?_)
        exact j_iret F D E rfl dX5_makeBend_73
      · refine j_sipush (v := (-1002 : Int32)) F dX5_makeBend_44 (by decide) ?_
        exact j_iret F D E rfl dX5_makeBend_47
  · refine j_sipush (v := (-1001 : Int32)) F dX5_makeBend_11 (by decide) ?_
    exact j_iret F D E rfl dX5_makeBend_14

/-! FlangeFolder$Worker.unmakeBend -/
def fX5_unmakeBend (a0 : Int32) (M : Mm) : Option (Int32 × Mm) := (fX4_hasBend a0 M).bind (fun w1 => (if w1.1 = (0 : Int32) then some ((-1001 : Int32), w1.2) else (fX4_isMade a0 w1.2).bind (fun w2 => (if w2.1 = (0 : Int32) then some ((-1002 : Int32), w2.2) else lt (stI w2.2 1 5 ((w2.2.1 1 5) - ((1 : Int32) <<< (a0 &&& 31)))) (fun N3 => (fJ6_bitCount_0f7a4 (N3.1 1 5) N3).bind (fun w4 => some (w4.1, w4.2)))))))
def rmX5_unmakeBend : Room := { frames := 1, cells := 0, slots := 0, locals := 21 }
theorem kX5_unmakeBend : Kc yX5_unmakeBend cX5_unmakeBend 2 (some .int) wsX5_unmakeBend 1 := ⟨⟨_, rfl⟩, by decide +kernel, by decide +kernel, by decide +kernel⟩
theorem ic_X5_unmakeBend_X5 : ∀ w ∈ u_ws RX5 TX5 2, w ∈ wsX5_unmakeBend := by decide +kernel
theorem fl_X5_unmakeBend_9 : Fl wsX5_unmakeBend RX5 9 5 0 := ⟨RX5, TX5, 2, rfl, by decide, ic_X5_unmakeBend_X5, by decide +kernel⟩
theorem ic_X5_unmakeBend_X4 : ∀ w ∈ u_ws RX4 TX4 8, w ∈ wsX5_unmakeBend := by decide +kernel
theorem fl_X5_unmakeBend_33 : Fl wsX5_unmakeBend RX5 33 4 5 := ⟨RX4, TX4, 8, rfl, by decide, ic_X5_unmakeBend_X4, by decide +kernel⟩
theorem fp_X5_unmakeBend_33 : Fp wsX5_unmakeBend RX5 33 4 5 .int := ⟨RX4, TX4, 8, tyX4, rfl, by decide, ic_X5_unmakeBend_X4, by decide +kernel, tyX4_ok, nmX4, rfl, rfl⟩
set_option maxHeartbeats 4000000 in
set_option maxRecDepth 100000 in
theorem mX5_unmakeBend (l : Launch) (G : Gg) (a0 : Int32) : Ci l G SC yX5_unmakeBend wsX5_unmakeBend rmX5_unmakeBend [.ref (G.2.1 17), .int a0] (fX5_unmakeBend a0) := by
  refine Ci.intro (lv := [(0, .ref (G.2.1 17)), (1, .int a0)]) RX5 rfl (by decide) kX5_unmakeBend (Nat.le_of_ble_eq_true rfl) rfl (fun X V M z F D hX hml E => ?_)
  unfold fX5_unmakeBend
  refine j_aload_n F dX5_unmakeBend_0 rfl 0 rfl ?_
  refine j_getr (r := 1) F D ce_17 fl_X5_unmakeBend_9 rfl dX5_unmakeBend_1 ?_
  refine j_iload_n F dX5_unmakeBend_4 rfl 1 rfl ?_
  refine j_callVi (As := [.int a0]) F D hX (mX4_hasBend l G a0) ce_1 rfl kX4_hasBend rfl gX5_unmakeBend_X4_hasBend ⟨rfl, rfl⟩ ⟨Nat.le_of_ble_eq_true rfl, Nat.le_of_ble_eq_true rfl⟩ rfl (Nat.le_of_ble_eq_true rfl) rfl dX5_unmakeBend_5 (fun w1 => ?_)
  refine j_if_ne (tgt := 15) F dX5_unmakeBend_8 (by decide) ?_ ?_
  · refine j_aload_n F dX5_unmakeBend_15 rfl 0 rfl ?_
    refine j_getr (r := 1) F D ce_17 fl_X5_unmakeBend_9 rfl dX5_unmakeBend_16 ?_
    refine j_iload_n F dX5_unmakeBend_19 rfl 1 rfl ?_
    refine j_callVi (As := [.int a0]) F D hX (mX4_isMade l G a0) ce_1 rfl kX4_isMade rfl gX5_unmakeBend_X4_isMade ⟨rfl, rfl⟩ ⟨Nat.le_of_ble_eq_true rfl, Nat.le_of_ble_eq_true rfl⟩ rfl (Nat.le_of_ble_eq_true rfl) rfl dX5_unmakeBend_20 (fun w2 => ?_)
    refine j_if_ne (tgt := 30) F dX5_unmakeBend_23 (by decide) ?_ ?_
    · refine j_aload_n F dX5_unmakeBend_30 rfl 0 rfl ?_
      refine j_getr (r := 1) F D ce_17 fl_X5_unmakeBend_9 rfl dX5_unmakeBend_31 ?_
      refine j_dup F rfl dX5_unmakeBend_34 ?_
      refine j_geti F D ce_1 fl_X5_unmakeBend_33 rfl dX5_unmakeBend_35 ?_
      refine j_iconst (v := (1 : Int32)) F dX5_unmakeBend_38 (by decide) ?_
      refine j_iload_n F dX5_unmakeBend_39 rfl 1 rfl ?_
      refine j_ishl F dX5_unmakeBend_40 ?_
      refine j_isub F dX5_unmakeBend_41 ?_
      refine j_puti F D ce_1 fp_X5_unmakeBend_33 rfl rfl rfl dX5_unmakeBend_42 ?_
      refine j_letM (fun N3 => ?_)
      refine j_aload_n F dX5_unmakeBend_45 rfl 0 rfl ?_
      refine j_getr (r := 1) F D ce_17 fl_X5_unmakeBend_9 rfl dX5_unmakeBend_46 ?_
      refine j_geti F D ce_1 fl_X5_unmakeBend_33 rfl dX5_unmakeBend_49 ?_
      refine j_callSi (As := [.int (N3.1 1 5)]) F D hX (mJ6_bitCount_0f7a4 l G (N3.1 1 5)) kJ6_bitCount_0f7a4 gX5_unmakeBend_J6_bitCount_0f7a4 ⟨rfl, rfl⟩ ⟨Nat.le_of_ble_eq_true rfl, Nat.le_of_ble_eq_true rfl⟩ rfl (Nat.le_of_ble_eq_true rfl) rfl dX5_unmakeBend_52 (fun w4 => ?_)
      exact j_iret F D E rfl dX5_unmakeBend_55
    · refine j_sipush (v := (-1002 : Int32)) F dX5_unmakeBend_26 (by decide) ?_
      exact j_iret F D E rfl dX5_unmakeBend_29
  · refine j_sipush (v := (-1001 : Int32)) F dX5_unmakeBend_11 (by decide) ?_
    exact j_iret F D E rfl dX5_unmakeBend_14

/-! FlangeFolder$Worker.unmakeAll -/
def fX5_unmakeAll (M : Mm) : Option (Int32 × Mm) := (fJ6_bitCount_0f7a4 (M.1 1 5) M).bind (fun w1 => lt (stI w1.2 1 5 (0 : Int32)) (fun N2 => some (w1.1, N2)))
def rmX5_unmakeAll : Room := { frames := 1, cells := 0, slots := 0, locals := 20 }
theorem kX5_unmakeAll : Kc yX5_unmakeAll cX5_unmakeAll 2 (some .int) wsX5_unmakeAll 0 := ⟨⟨_, rfl⟩, by decide +kernel, by decide +kernel, by decide +kernel⟩
theorem ic_X5_unmakeAll_X5 : ∀ w ∈ u_ws RX5 TX5 2, w ∈ wsX5_unmakeAll := by decide +kernel
theorem fl_X5_unmakeAll_9 : Fl wsX5_unmakeAll RX5 9 5 0 := ⟨RX5, TX5, 2, rfl, by decide, ic_X5_unmakeAll_X5, by decide +kernel⟩
theorem ic_X5_unmakeAll_X4 : ∀ w ∈ u_ws RX4 TX4 8, w ∈ wsX5_unmakeAll := by decide +kernel
theorem fl_X5_unmakeAll_33 : Fl wsX5_unmakeAll RX5 33 4 5 := ⟨RX4, TX4, 8, rfl, by decide, ic_X5_unmakeAll_X4, by decide +kernel⟩
theorem fp_X5_unmakeAll_33 : Fp wsX5_unmakeAll RX5 33 4 5 .int := ⟨RX4, TX4, 8, tyX4, rfl, by decide, ic_X5_unmakeAll_X4, by decide +kernel, tyX4_ok, nmX4, rfl, rfl⟩
set_option maxHeartbeats 4000000 in
set_option maxRecDepth 100000 in
theorem mX5_unmakeAll (l : Launch) (G : Gg) : Ci l G SC yX5_unmakeAll wsX5_unmakeAll rmX5_unmakeAll [.ref (G.2.1 17)] fX5_unmakeAll := by
  refine Ci.intro (lv := [(0, .ref (G.2.1 17))]) RX5 rfl (by decide) kX5_unmakeAll (Nat.le_of_ble_eq_true rfl) rfl (fun X V M z F D hX hml E => ?_)
  unfold fX5_unmakeAll
  refine j_aload_n F dX5_unmakeAll_0 rfl 0 rfl ?_
  refine j_getr (r := 1) F D ce_17 fl_X5_unmakeAll_9 rfl dX5_unmakeAll_1 ?_
  refine j_geti F D ce_1 fl_X5_unmakeAll_33 rfl dX5_unmakeAll_4 ?_
  refine j_callSi (As := [.int (M.1 1 5)]) F D hX (mJ6_bitCount_0f7a4 l G (M.1 1 5)) kJ6_bitCount_0f7a4 gX5_unmakeAll_J6_bitCount_0f7a4 ⟨rfl, rfl⟩ ⟨Nat.le_of_ble_eq_true rfl, Nat.le_of_ble_eq_true rfl⟩ rfl (Nat.le_of_ble_eq_true rfl) rfl dX5_unmakeAll_7 (fun w1 => ?_)
  refine j_istore_n (lv' := [(1, .int w1.1), (0, .ref (G.2.1 17))]) F dX5_unmakeAll_10 rfl (by rw [← hml]; decide) rfl ?_
  refine j_aload_n F dX5_unmakeAll_11 rfl 1 rfl ?_
  refine j_getr (r := 1) F D ce_17 fl_X5_unmakeAll_9 rfl dX5_unmakeAll_12 ?_
  refine j_iconst (v := (0 : Int32)) F dX5_unmakeAll_15 (by decide) ?_
  refine j_puti F D ce_1 fp_X5_unmakeAll_33 rfl rfl rfl dX5_unmakeAll_16 ?_
  refine j_letM (fun N2 => ?_)
  refine j_iload_n F dX5_unmakeAll_19 rfl 0 rfl ?_
  exact j_iret F D E rfl dX5_unmakeAll_20

/-! FlangeFolder$Worker.wayOf -/
def fX5_wayOf (a0 : Int32) (M : Mm) : Option (Int32 × Mm) := (if a0 = (0 : Int32) then some ((1 : Int32), M) else (if a0 = (1 : Int32) then some ((-1 : Int32), M) else some ((0 : Int32), M)))
def rmX5_wayOf : Room := { frames := 0, cells := 0, slots := 0, locals := 0 }
theorem kX5_wayOf : Kc yX5_wayOf cX5_wayOf 1 (some .int) wsX5_wayOf 1 := ⟨⟨_, rfl⟩, by decide +kernel, by decide +kernel, by decide +kernel⟩
set_option maxHeartbeats 4000000 in
set_option maxRecDepth 100000 in
theorem mX5_wayOf (l : Launch) (G : Gg) (a0 : Int32) : Ci l G SC yX5_wayOf wsX5_wayOf rmX5_wayOf [.int a0] (fX5_wayOf a0) := by
  refine Ci.intro (lv := [(0, .int a0)]) RX5 rfl (by decide) kX5_wayOf (Nat.le_of_ble_eq_true rfl) rfl (fun X V M z F D hX hml E => ?_)
  unfold fX5_wayOf
  refine j_iload_n F dX5_wayOf_0 rfl 0 rfl ?_
  refine j_if_ne (tgt := 6) F dX5_wayOf_1 (by decide) ?_ ?_
  · refine j_iload_n F dX5_wayOf_6 rfl 0 rfl ?_
    refine j_iconst (v := (1 : Int32)) F dX5_wayOf_7 (by decide) ?_
    refine j_icmp_ne (tgt := 15) F dX5_wayOf_8 (by decide) ?_ ?_
    · refine j_iconst (v := (0 : Int32)) F dX5_wayOf_15 (by decide) ?_
      exact j_iret F D E rfl dX5_wayOf_16
    · refine j_iconst (v := (-1 : Int32)) F dX5_wayOf_11 (by decide) ?_
      refine j_goto (tgt := 16) F dX5_wayOf_12 (by decide) ?_
      exact j_iret F D E rfl dX5_wayOf_16
  · refine j_iconst (v := (1 : Int32)) F dX5_wayOf_4 (by decide) ?_
    exact j_iret F D E rfl dX5_wayOf_5

/-! FlangeFolder$Worker.perform -/
def fX5_perform (a0 : Int32) (M : Mm) : Option (Int32 × Mm) := (fX2_numberOf a0 (0 : Int32) M).bind (fun w1 => (fX2_numberOf a0 (1 : Int32) w1.2).bind (fun w2 => (rd w2.2 52 60 a0).bind (fun v3 => (if v3 = (98 : Int32) then (fX5_wayOf w2.1 w2.2).bind (fun w5 => (fX2_numberOf a0 (2 : Int32) w5.2).bind (fun w6 => (fX5_addBend w1.1 w5.1 w6.1 w6.2).bind (fun w7 => some (w7.1, w7.2)))) else (if v3 = (107 : Int32) then (fX5_setTaken w1.1 w2.1 w2.2).bind (fun w9 => some (w9.1, w9.2)) else (if v3 = (109 : Int32) then (fX5_makeBend w1.1 w2.2).bind (fun w11 => some (w11.1, w11.2)) else (if v3 = (112 : Int32) then (fX5_setPress w1.1 w2.1 w2.2).bind (fun w13 => some (w13.1, w13.2)) else (if v3 = (115 : Int32) then (fX5_newStrip w1.1 w2.2).bind (fun w15 => some (w15.1, w15.2)) else (if v3 = (117 : Int32) then (fX5_unmakeBend w1.1 w2.2).bind (fun w17 => some (w17.1, w17.2)) else (fX5_unmakeAll w2.2).bind (fun w18 => some (w18.1, w18.2)))))))))))
def rmX5_perform : Room := { frames := 5, cells := 0, slots := 0, locals := 114 }
theorem kX5_perform : Kc yX5_perform cX5_perform 5 (some .int) wsX5_perform 2 := ⟨⟨_, rfl⟩, by decide +kernel, by decide +kernel, by decide +kernel⟩
theorem ic_X5_perform_X2 : ∀ w ∈ u_ws RX2 TX2 6, w ∈ wsX5_perform := by decide +kernel
theorem fl_X5_perform_78 : Fl wsX5_perform RX5 78 2 1 := ⟨RX2, TX2, 6, rfl, by decide, ic_X5_perform_X2, by decide +kernel⟩
set_option maxHeartbeats 4000000 in
set_option maxRecDepth 100000 in
theorem mX5_perform (l : Launch) (G : Gg) (a0 : Int32) : Ci l G SC yX5_perform wsX5_perform rmX5_perform [.ref (G.2.1 17), .ref (G.2.1 50), .int a0] (fX5_perform a0) := by
  refine Ci.intro (lv := [(0, .ref (G.2.1 17)), (1, .ref (G.2.1 50)), (2, .int a0)]) RX5 rfl (by decide) kX5_perform (Nat.le_of_ble_eq_true rfl) rfl (fun X V M z F D hX hml E => ?_)
  unfold fX5_perform
  refine j_aload_n F dX5_perform_0 rfl 1 rfl ?_
  refine j_iload_n F dX5_perform_1 rfl 2 rfl ?_
  refine j_iconst (v := (0 : Int32)) F dX5_perform_2 (by decide) ?_
  refine j_callVi (As := [.int a0, .int (0 : Int32)]) F D hX (mX2_numberOf l G a0 (0 : Int32)) ce_50 rfl kX2_numberOf rfl gX5_perform_X2_numberOf ⟨rfl, rfl⟩ ⟨Nat.le_of_ble_eq_true rfl, Nat.le_of_ble_eq_true rfl⟩ rfl (Nat.le_of_ble_eq_true rfl) rfl dX5_perform_3 (fun w1 => ?_)
  refine j_istore_n (lv' := [(3, .int w1.1), (0, .ref (G.2.1 17)), (1, .ref (G.2.1 50)), (2, .int a0)]) F dX5_perform_6 rfl (by rw [← hml]; decide) rfl ?_
  refine j_aload_n F dX5_perform_7 rfl 2 rfl ?_
  refine j_iload_n F dX5_perform_8 rfl 3 rfl ?_
  refine j_iconst (v := (1 : Int32)) F dX5_perform_9 (by decide) ?_
  refine j_callVi (As := [.int a0, .int (1 : Int32)]) F D hX (mX2_numberOf l G a0 (1 : Int32)) ce_50 rfl kX2_numberOf rfl gX5_perform_X2_numberOf ⟨rfl, rfl⟩ ⟨Nat.le_of_ble_eq_true rfl, Nat.le_of_ble_eq_true rfl⟩ rfl (Nat.le_of_ble_eq_true rfl) rfl dX5_perform_10 (fun w2 => ?_)
  refine j_istore (lv' := [(4, .int w2.1), (3, .int w1.1), (0, .ref (G.2.1 17)), (1, .ref (G.2.1 50)), (2, .int a0)]) F dX5_perform_13 (by rw [← hml]; decide) rfl ?_
  refine j_aload_n F dX5_perform_15 rfl 3 rfl ?_
  refine j_getr (r := 52) F D ce_50 fl_X5_perform_78 rfl dX5_perform_16 ?_
  refine j_iload_n F dX5_perform_19 rfl 4 rfl ?_
  refine j_iald F D ce_52 dX5_perform_20 (fun v3 => ?_)
  refine j_ite (fun h4 => ?_) (fun h4 => ?_)
  · refine j_tsw F dX5_perform_21 (by decide) 122 (by rw [h4]; decide) ?_
    refine j_aload_n F dX5_perform_122 rfl 2 rfl ?_
    refine j_iload_n F dX5_perform_123 rfl 1 rfl ?_
    refine j_iload F dX5_perform_124 0 rfl ?_
    refine j_callSi (As := [.int w2.1]) F D hX (mX5_wayOf l G w2.1) kX5_wayOf gX5_perform_X5_wayOf ⟨rfl, rfl⟩ ⟨Nat.le_of_ble_eq_true rfl, Nat.le_of_ble_eq_true rfl⟩ rfl (Nat.le_of_ble_eq_true rfl) rfl dX5_perform_126 (fun w5 => ?_)
    refine j_aload_n F dX5_perform_129 rfl 3 rfl ?_
    refine j_iload_n F dX5_perform_130 rfl 4 rfl ?_
    refine j_iconst (v := (2 : Int32)) F dX5_perform_131 (by decide) ?_
    refine j_callVi (As := [.int a0, .int (2 : Int32)]) F D hX (mX2_numberOf l G a0 (2 : Int32)) ce_50 rfl kX2_numberOf rfl gX5_perform_X2_numberOf ⟨rfl, rfl⟩ ⟨Nat.le_of_ble_eq_true rfl, Nat.le_of_ble_eq_true rfl⟩ rfl (Nat.le_of_ble_eq_true rfl) rfl dX5_perform_132 (fun w6 => ?_)
    refine j_callVi (As := [.int w1.1, .int w5.1, .int w6.1]) F D hX (mX5_addBend l G w1.1 w5.1 w6.1) ce_17 rfl kX5_addBend rfl gX5_perform_X5_addBend ⟨rfl, rfl⟩ ⟨Nat.le_of_ble_eq_true rfl, Nat.le_of_ble_eq_true rfl⟩ rfl (Nat.le_of_ble_eq_true rfl) rfl dX5_perform_135 (fun w7 => ?_)
    exact j_iret F D E rfl dX5_perform_138
  · refine j_ite (fun h8 => ?_) (fun h8 => ?_)
    · refine j_tsw F dX5_perform_21 (by decide) 159 (by rw [h8]; decide) ?_
      refine j_aload_n F dX5_perform_159 rfl 2 rfl ?_
      refine j_iload_n F dX5_perform_160 rfl 1 rfl ?_
      refine j_iload F dX5_perform_161 0 rfl ?_
      refine j_callVi (As := [.int w1.1, .int w2.1]) F D hX (mX5_setTaken l G w1.1 w2.1) ce_17 rfl kX5_setTaken rfl gX5_perform_X5_setTaken ⟨rfl, rfl⟩ ⟨Nat.le_of_ble_eq_true rfl, Nat.le_of_ble_eq_true rfl⟩ rfl (Nat.le_of_ble_eq_true rfl) rfl dX5_perform_163 (fun w9 => ?_)
      exact j_iret F D E rfl dX5_perform_166
    · refine j_ite (fun h10 => ?_) (fun h10 => ?_)
      · refine j_tsw F dX5_perform_21 (by decide) 139 (by rw [h10]; decide) ?_
        refine j_aload_n F dX5_perform_139 rfl 2 rfl ?_
        refine j_iload_n F dX5_perform_140 rfl 1 rfl ?_
        refine j_callVi (As := [.int w1.1]) F D hX (mX5_makeBend l G w1.1) ce_17 rfl kX5_makeBend rfl gX5_perform_X5_makeBend ⟨rfl, rfl⟩ ⟨Nat.le_of_ble_eq_true rfl, Nat.le_of_ble_eq_true rfl⟩ rfl (Nat.le_of_ble_eq_true rfl) rfl dX5_perform_141 (fun w11 => ?_)
        exact j_iret F D E rfl dX5_perform_144
      · refine j_ite (fun h12 => ?_) (fun h12 => ?_)
        · refine j_tsw F dX5_perform_21 (by decide) 151 (by rw [h12]; decide) ?_
          refine j_aload_n F dX5_perform_151 rfl 2 rfl ?_
          refine j_iload_n F dX5_perform_152 rfl 1 rfl ?_
          refine j_iload F dX5_perform_153 0 rfl ?_
          refine j_callVi (As := [.int w1.1, .int w2.1]) F D hX (mX5_setPress l G w1.1 w2.1) ce_17 rfl kX5_setPress rfl gX5_perform_X5_setPress ⟨rfl, rfl⟩ ⟨Nat.le_of_ble_eq_true rfl, Nat.le_of_ble_eq_true rfl⟩ rfl (Nat.le_of_ble_eq_true rfl) rfl dX5_perform_155 (fun w13 => ?_)
          exact j_iret F D E rfl dX5_perform_158
        · refine j_ite (fun h14 => ?_) (fun h14 => ?_)
          · refine j_tsw F dX5_perform_21 (by decide) 116 (by rw [h14]; decide) ?_
            refine j_aload_n F dX5_perform_116 rfl 2 rfl ?_
            refine j_iload_n F dX5_perform_117 rfl 1 rfl ?_
            refine j_callVi (As := [.int w1.1]) F D hX (mX5_newStrip l G w1.1) ce_17 rfl kX5_newStrip rfl gX5_perform_X5_newStrip ⟨rfl, rfl⟩ ⟨Nat.le_of_ble_eq_true rfl, Nat.le_of_ble_eq_true rfl⟩ rfl (Nat.le_of_ble_eq_true rfl) rfl dX5_perform_118 (fun w15 => ?_)
            exact j_iret F D E rfl dX5_perform_121
          · refine j_ite (fun h16 => ?_) (fun h16 => ?_)
            · refine j_tsw F dX5_perform_21 (by decide) 145 (by rw [h16]; decide) ?_
              refine j_aload_n F dX5_perform_145 rfl 2 rfl ?_
              refine j_iload_n F dX5_perform_146 rfl 1 rfl ?_
              refine j_callVi (As := [.int w1.1]) F D hX (mX5_unmakeBend l G w1.1) ce_17 rfl kX5_unmakeBend rfl gX5_perform_X5_unmakeBend ⟨rfl, rfl⟩ ⟨Nat.le_of_ble_eq_true rfl, Nat.le_of_ble_eq_true rfl⟩ rfl (Nat.le_of_ble_eq_true rfl) rfl dX5_perform_147 (fun w17 => ?_)
              exact j_iret F D E rfl dX5_perform_150
            · refine j_tsw F dX5_perform_21 (by decide) 167 (tsw_d [98, 107, 109, 112, 115, 117] (by decide) (by decide) (by simp only [List.mem_cons, List.not_mem_nil, or_false, not_or]; exact ⟨toInt_ne (by decide) h4, toInt_ne (by decide) h8, toInt_ne (by decide) h10, toInt_ne (by decide) h12, toInt_ne (by decide) h14, toInt_ne (by decide) h16⟩)) ?_
              refine j_aload_n F dX5_perform_167 rfl 2 rfl ?_
              refine j_callVi (As := []) F D hX (mX5_unmakeAll l G) ce_17 rfl kX5_unmakeAll rfl gX5_perform_X5_unmakeAll ⟨rfl, rfl⟩ ⟨Nat.le_of_ble_eq_true rfl, Nat.le_of_ble_eq_true rfl⟩ rfl (Nat.le_of_ble_eq_true rfl) rfl dX5_perform_168 (fun w18 => ?_)
              exact j_iret F D E rfl dX5_perform_171
