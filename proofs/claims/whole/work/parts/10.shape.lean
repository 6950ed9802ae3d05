/-! FlangeFolder$Shape.trace -/
def lX3_trace_15 (K6 : Mm → Option (Unit × Mm)) (c2 : Int32) : Nat → Int32 → Int32 → Mm → Option (Unit × Mm)
  | 0, _, _, _ => none
  | n9 + 1, x3, x4, N5 => (if (N5.1 6 3) ≤ x4 then K6 N5 else (wr N5 9 7 x4 x3).bind (fun N10 => (rd N10 7 8 x4).bind (fun v11 => (rd N10 2 7 x4).bind (fun v12 => (rdT sX 4 x3).bind (fun v13 => (wr N10 7 8 (x4 + (1 : Int32)) (v11 + (v12 * v13))).bind (fun N14 => (rd N14 8 8 x4).bind (fun v15 => (rd N14 2 7 x4).bind (fun v16 => (rdT sY 4 x3).bind (fun v17 => (wr N14 8 8 (x4 + (1 : Int32)) (v15 + (v16 * v17))).bind (fun N18 => (if (N18.1 1 4) ≤ x4 then lX3_trace_15 K6 c2 n9 x3 (x4 + (1 : Int32)) N18 else (if ((c2 >>> (x4 &&& 31)) &&& (1 : Int32)) = (1 : Int32) then (rd N18 3 6 x4).bind (fun v19 => lt ((x3 + v19) &&& (3 : Int32)) (fun x20 => lX3_trace_15 K6 c2 n9 x20 (x4 + (1 : Int32)) N18)) else lX3_trace_15 K6 c2 n9 x3 (x4 + (1 : Int32)) N18))))))))))))
def fX3_trace (a0 : Int32) (M : Mm) : Option (Unit × Mm) := lt (stI M 6 3 ((M.1 1 4) + (1 : Int32))) (fun N1 => lX3_trace_15 (fun (N7 : Mm) => some ((), N7)) a0 fu (0 : Int32) (0 : Int32) N1)
def rmX3_trace : Room := { frames := 0, cells := 0, slots := 0, locals := 0 }
theorem kX3_trace : Kc yX3_trace cX3_trace 5 none wsX3_trace 2 := ⟨⟨_, rfl⟩, by decide +kernel, by decide +kernel, by decide +kernel⟩
theorem ic_X3_trace_X4 : ∀ w ∈ u_ws RX4 TX4 8, w ∈ wsX3_trace := by decide +kernel
theorem fl_X3_trace_25 : Fl wsX3_trace RX3 25 4 4 := ⟨RX4, TX4, 8, rfl, by decide, ic_X3_trace_X4, by decide +kernel⟩
theorem ic_X3_trace_X3 : ∀ w ∈ u_ws RX3 TX3 4, w ∈ wsX3_trace := by decide +kernel
theorem fp_X3_trace_21 : Fp wsX3_trace RX3 21 3 3 .int := ⟨RX3, TX3, 4, tyX3, rfl, by decide, ic_X3_trace_X3, by decide +kernel, tyX3_ok, nmX3, rfl, rfl⟩
theorem fl_X3_trace_21 : Fl wsX3_trace RX3 21 3 3 := ⟨RX3, TX3, 4, rfl, by decide, ic_X3_trace_X3, by decide +kernel⟩
theorem fl_X3_trace_18 : Fl wsX3_trace RX3 18 3 2 := ⟨RX3, TX3, 4, rfl, by decide, ic_X3_trace_X3, by decide +kernel⟩
theorem fl_X3_trace_9 : Fl wsX3_trace RX3 9 3 0 := ⟨RX3, TX3, 4, rfl, by decide, ic_X3_trace_X3, by decide +kernel⟩
theorem fl_X3_trace_30 : Fl wsX3_trace RX3 30 4 0 := ⟨RX4, TX4, 8, rfl, by decide, ic_X3_trace_X4, by decide +kernel⟩
theorem ks_X3_trace_33 : Cond.fieldLink RX3 33 RX3 "STEP_X" "[I" ∈ wsX3_trace := by decide +kernel
theorem fl_X3_trace_15 : Fl wsX3_trace RX3 15 3 1 := ⟨RX3, TX3, 4, rfl, by decide, ic_X3_trace_X3, by decide +kernel⟩
theorem ks_X3_trace_36 : Cond.fieldLink RX3 36 RX3 "STEP_Y" "[I" ∈ wsX3_trace := by decide +kernel
theorem fl_X3_trace_39 : Fl wsX3_trace RX3 39 4 1 := ⟨RX4, TX4, 8, rfl, by decide, ic_X3_trace_X4, by decide +kernel⟩
set_option maxHeartbeats 4000000 in
set_option maxRecDepth 100000 in
theorem mX3_trace (l : Launch) (G : Gg) (a0 : Int32) : Cv l G SC yX3_trace wsX3_trace rmX3_trace [.ref (G.2.1 6), .ref (G.2.1 1), .int a0] (fX3_trace a0) := by
  refine Cv.intro (lv := [(0, .ref (G.2.1 6)), (1, .ref (G.2.1 1)), (2, .int a0)]) RX3 rfl (by decide) kX3_trace (Nat.le_of_ble_eq_true rfl) rfl (fun X V M z F D hX hml E => ?_)
  unfold fX3_trace
  refine j_aload_n F dX3_trace_0 rfl 0 rfl ?_
  refine j_aload_n F dX3_trace_1 rfl 1 rfl ?_
  refine j_geti F D ce_1 fl_X3_trace_25 rfl dX3_trace_2 ?_
  refine j_iconst (v := (1 : Int32)) F dX3_trace_5 (by decide) ?_
  refine j_iadd F dX3_trace_6 ?_
  refine j_puti F D ce_6 fp_X3_trace_21 rfl rfl rfl dX3_trace_7 ?_
  refine j_letM (fun N1 => ?_)
  refine j_iconst (v := (0 : Int32)) F dX3_trace_10 (by decide) ?_
  refine j_istore_n (lv' := [(3, .int (0 : Int32)), (0, .ref (G.2.1 6)), (1, .ref (G.2.1 1)), (2, .int a0)]) F dX3_trace_11 rfl (by rw [← hml]; decide) rfl ?_
  refine j_iconst (v := (0 : Int32)) F dX3_trace_12 (by decide) ?_
  refine j_istore (lv' := [(4, .int (0 : Int32)), (3, .int (0 : Int32)), (0, .ref (G.2.1 6)), (1, .ref (G.2.1 1)), (2, .int a0)]) F dX3_trace_13 (by rw [← hml]; decide) rfl ?_
  have hL21 : ∀ (K6 : Mm → Option (Unit × Mm)) (c2 : Int32), (∀ (N7 : Mm), Jg X V z (K6 N7) N7 129 [] []) → ∀ (n9 : Nat) (x3 : Int32) (x4 : Int32) (N5 : Mm), Jg X V z (lX3_trace_15 K6 c2 n9 x3 x4 N5) N5 15 [(0, .ref (G.2.1 6)), (1, .ref (G.2.1 1)), (2, .int c2), (3, .int x3), (4, .int x4)] [] := by
    intro K6 c2 hK6 n9
    induction n9 with
    | zero => intro x3 x4 N5; rw [lX3_trace_15]; exact j_none
    | succ n9 ih8 =>
      intro x3 x4 N5
      rw [lX3_trace_15]
      refine j_iload F dX3_trace_15 4 rfl ?_
      refine j_aload_n F dX3_trace_17 rfl 0 rfl ?_
      refine j_geti F D ce_6 fl_X3_trace_21 rfl dX3_trace_18 ?_
      refine j_icmp_ge (tgt := 129) F dX3_trace_21 (by decide) ?_ ?_
      · exact j_sub [] rfl (hK6 N5)
      · refine j_aload_n F dX3_trace_24 rfl 0 rfl ?_
        refine j_getr (r := 9) F D ce_6 fl_X3_trace_18 rfl dX3_trace_25 ?_
        refine j_iload F dX3_trace_28 4 rfl ?_
        refine j_iload_n F dX3_trace_30 rfl 3 rfl ?_
        refine j_iast F D ce_9 dX3_trace_31 (fun N10 => ?_)
        refine j_aload_n F dX3_trace_32 rfl 0 rfl ?_
        refine j_getr (r := 7) F D ce_6 fl_X3_trace_9 rfl dX3_trace_33 ?_
        refine j_iload F dX3_trace_36 4 rfl ?_
        refine j_iconst (v := (1 : Int32)) F dX3_trace_38 (by decide) ?_
        refine j_iadd F dX3_trace_39 ?_
        refine j_aload_n F dX3_trace_40 rfl 0 rfl ?_
        refine j_getr (r := 7) F D ce_6 fl_X3_trace_9 rfl dX3_trace_41 ?_
        refine j_iload F dX3_trace_44 4 rfl ?_
        refine j_iald F D ce_7 dX3_trace_46 (fun v11 => ?_)
        refine j_aload_n F dX3_trace_47 rfl 1 rfl ?_
        refine j_getr (r := 2) F D ce_1 fl_X3_trace_30 rfl dX3_trace_48 ?_
        refine j_iload F dX3_trace_51 4 rfl ?_
        refine j_iald F D ce_2 dX3_trace_53 (fun v12 => ?_)
        refine j_getX F D ks_X3_trace_33 dX3_trace_54 ?_
        refine j_iload_n F dX3_trace_57 rfl 3 rfl ?_
        refine j_taldX F D dX3_trace_58 (fun v13 => ?_)
        refine j_imul F dX3_trace_59 ?_
        refine j_iadd F dX3_trace_60 ?_
        refine j_iast F D ce_7 dX3_trace_61 (fun N14 => ?_)
        refine j_aload_n F dX3_trace_62 rfl 0 rfl ?_
        refine j_getr (r := 8) F D ce_6 fl_X3_trace_15 rfl dX3_trace_63 ?_
        refine j_iload F dX3_trace_66 4 rfl ?_
        refine j_iconst (v := (1 : Int32)) F dX3_trace_68 (by decide) ?_
        refine j_iadd F dX3_trace_69 ?_
        refine j_aload_n F dX3_trace_70 rfl 0 rfl ?_
        refine j_getr (r := 8) F D ce_6 fl_X3_trace_15 rfl dX3_trace_71 ?_
        refine j_iload F dX3_trace_74 4 rfl ?_
        refine j_iald F D ce_8 dX3_trace_76 (fun v15 => ?_)
        refine j_aload_n F dX3_trace_77 rfl 1 rfl ?_
        refine j_getr (r := 2) F D ce_1 fl_X3_trace_30 rfl dX3_trace_78 ?_
        refine j_iload F dX3_trace_81 4 rfl ?_
        refine j_iald F D ce_2 dX3_trace_83 (fun v16 => ?_)
        refine j_getY F D ks_X3_trace_36 dX3_trace_84 ?_
        refine j_iload_n F dX3_trace_87 rfl 3 rfl ?_
        refine j_taldY F D dX3_trace_88 (fun v17 => ?_)
        refine j_imul F dX3_trace_89 ?_
        refine j_iadd F dX3_trace_90 ?_
        refine j_iast F D ce_8 dX3_trace_91 (fun N18 => ?_)
        refine j_iload F dX3_trace_92 4 rfl ?_
        refine j_aload_n F dX3_trace_94 rfl 1 rfl ?_
        refine j_geti F D ce_1 fl_X3_trace_25 rfl dX3_trace_95 ?_
        refine j_icmp_ge (tgt := 123) F dX3_trace_98 (by decide) ?_ ?_
        · refine j_iinc (v := (x4 + (1 : Int32))) (lv' := [(4, .int (x4 + (1 : Int32))), (0, .ref (G.2.1 6)), (1, .ref (G.2.1 1)), (2, .int c2), (3, .int x3)]) F dX3_trace_123 4 rfl rfl (by rw [← hml]; decide) rfl ?_
          refine j_goto (tgt := 15) F dX3_trace_126 (by decide) ?_
          exact j_sub [1, 2, 3, 4, 0] rfl (ih8 x3 (x4 + (1 : Int32)) N18)
        · refine j_iload_n F dX3_trace_101 rfl 2 rfl ?_
          refine j_iload F dX3_trace_102 4 rfl ?_
          refine j_ishr F dX3_trace_104 ?_
          refine j_iconst (v := (1 : Int32)) F dX3_trace_105 (by decide) ?_
          refine j_iand F dX3_trace_106 ?_
          refine j_iconst (v := (1 : Int32)) F dX3_trace_107 (by decide) ?_
          refine j_icmp_ne (tgt := 123) F dX3_trace_108 (by decide) ?_ ?_
          · refine j_iinc (v := (x4 + (1 : Int32))) (lv' := [(4, .int (x4 + (1 : Int32))), (0, .ref (G.2.1 6)), (1, .ref (G.2.1 1)), (2, .int c2), (3, .int x3)]) F dX3_trace_123 4 rfl rfl (by rw [← hml]; decide) rfl ?_
            refine j_goto (tgt := 15) F dX3_trace_126 (by decide) ?_
            exact j_sub [1, 2, 3, 4, 0] rfl (ih8 x3 (x4 + (1 : Int32)) N18)
          · refine j_iload_n F dX3_trace_111 rfl 3 rfl ?_
            refine j_aload_n F dX3_trace_112 rfl 1 rfl ?_
            refine j_getr (r := 3) F D ce_1 fl_X3_trace_39 rfl dX3_trace_113 ?_
            refine j_iload F dX3_trace_116 4 rfl ?_
            refine j_iald F D ce_3 dX3_trace_118 (fun v19 => ?_)
            refine j_iadd F dX3_trace_119 ?_
            refine j_iconst (v := (3 : Int32)) F dX3_trace_120 (by decide) ?_
            refine j_iand F dX3_trace_121 ?_
            refine j_let (f := Value.int) (fun x20 => ?_)
            refine j_istore_n (lv' := [(3, .int x20), (0, .ref (G.2.1 6)), (1, .ref (G.2.1 1)), (2, .int c2), (4, .int x4)]) F dX3_trace_122 rfl (by rw [← hml]; decide) rfl ?_
            refine j_iinc (v := (x4 + (1 : Int32))) (lv' := [(4, .int (x4 + (1 : Int32))), (3, .int x20), (0, .ref (G.2.1 6)), (1, .ref (G.2.1 1)), (2, .int c2)]) F dX3_trace_123 4 rfl rfl (by rw [← hml]; decide) rfl ?_
            refine j_goto (tgt := 15) F dX3_trace_126 (by decide) ?_
            exact j_sub [2, 3, 4, 1, 0] rfl (ih8 x20 (x4 + (1 : Int32)) N18)
  refine j_sub [2, 3, 4, 1, 0] rfl (hL21 _ a0 ?_ fu (0 : Int32) (0 : Int32) N1)
  intro N7
  exact j_vret F D E dX3_trace_129

/-! FlangeFolder$Shape.least -/
def lX3_least_6 (K5 : Int32 → Option (Int32 × Mm)) (kr : Nat) (N4 : Mm) : Nat → Int32 → Int32 → Option (Int32 × Mm)
  | 0, _, _ => none
  | n8 + 1, x2, x3 => (if (N4.1 6 3) < x3 then K5 x2 else (rd N4 kr 8 x3).bind (fun v9 => lt (mn x2 v9) (fun x10 => lX3_least_6 K5 kr N4 n8 x10 (x3 + (1 : Int32)))))
def fX3_least (kr : Nat) (M : Mm) : Option (Int32 × Mm) := (rd M kr 8 (0 : Int32)).bind (fun v1 => lX3_least_6 (fun (x6 : Int32) => some (x6, M)) kr M fu v1 (1 : Int32))
def rmX3_least : Room := { frames := 1, cells := 0, slots := 0, locals := 13 }
theorem kX3_least : Kc yX3_least cX3_least 4 (some .int) wsX3_least 1 := ⟨⟨_, rfl⟩, by decide +kernel, by decide +kernel, by decide +kernel⟩
theorem ic_X3_least_X3 : ∀ w ∈ u_ws RX3 TX3 4, w ∈ wsX3_least := by decide +kernel
theorem fl_X3_least_21 : Fl wsX3_least RX3 21 3 3 := ⟨RX3, TX3, 4, rfl, by decide, ic_X3_least_X3, by decide +kernel⟩
theorem km_X3_least_42 : Cond.methodLink RX3 42 Lib.Math.min.name ∈ wsX3_least := by decide +kernel
theorem kn_X3_least_min : Cond.static Lib.Math.min.name ∈ wsX3_least := by decide +kernel
theorem ko_X3_least : Cond.initialized "java/lang/Math" ∈ wsX3_least := by decide +kernel
theorem kp_X3_least_min : Cond.code Lib.Math.min.name Lib.Math.min.code 2 (some .int) ∈ wsX3_least := by decide +kernel
set_option maxHeartbeats 4000000 in
set_option maxRecDepth 100000 in
theorem mX3_least (l : Launch) (G : Gg) (kr : Nat) (hc_kr : Ce SC kr (.inl 8)) : Ci l G SC yX3_least wsX3_least rmX3_least [.ref (G.2.1 6), .ref (G.2.1 kr)] (fX3_least kr) := by
  refine Ci.intro (lv := [(0, .ref (G.2.1 6)), (1, .ref (G.2.1 kr))]) RX3 rfl (by decide) kX3_least (Nat.le_of_ble_eq_true rfl) rfl (fun X V M z F D hX hml E => ?_)
  unfold fX3_least
  refine j_aload_n F dX3_least_0 rfl 1 rfl ?_
  refine j_iconst (v := (0 : Int32)) F dX3_least_1 (by decide) ?_
  refine j_iald F D hc_kr dX3_least_2 (fun v1 => ?_)
  refine j_istore_n (lv' := [(2, .int v1), (0, .ref (G.2.1 6)), (1, .ref (G.2.1 kr))]) F dX3_least_3 rfl (by rw [← hml]; decide) rfl ?_
  refine j_iconst (v := (1 : Int32)) F dX3_least_4 (by decide) ?_
  refine j_istore_n (lv' := [(3, .int (1 : Int32)), (2, .int v1), (0, .ref (G.2.1 6)), (1, .ref (G.2.1 kr))]) F dX3_least_5 rfl (by rw [← hml]; decide) rfl ?_
  have hL11 : ∀ (K5 : Int32 → Option (Int32 × Mm)) (N4 : Mm), (∀ (x6 : Int32), Jg X V z (K5 x6) N4 28 [(2, .int x6)] []) → ∀ (n8 : Nat) (x2 : Int32) (x3 : Int32), Jg X V z (lX3_least_6 K5 kr N4 n8 x2 x3) N4 6 [(0, .ref (G.2.1 6)), (1, .ref (G.2.1 kr)), (2, .int x2), (3, .int x3)] [] := by
    intro K5 N4 hK5 n8
    induction n8 with
    | zero => intro x2 x3; rw [lX3_least_6]; exact j_none
    | succ n8 ih7 =>
      intro x2 x3
      rw [lX3_least_6]
      refine j_iload_n F dX3_least_6 rfl 3 rfl ?_
      refine j_aload_n F dX3_least_7 rfl 0 rfl ?_
      refine j_geti F D ce_6 fl_X3_least_21 rfl dX3_least_8 ?_
      refine j_icmp_gt (tgt := 28) F dX3_least_11 (by decide) ?_ ?_
      · exact j_sub [2] rfl (hK5 x2)
      · refine j_iload_n F dX3_least_14 rfl 2 rfl ?_
        refine j_aload_n F dX3_least_15 rfl 1 rfl ?_
        refine j_iload_n F dX3_least_16 rfl 3 rfl ?_
        refine j_iald F D hc_kr dX3_least_17 (fun v9 => ?_)
        refine j_min F km_X3_least_42 kn_X3_least_min ko_X3_least kp_X3_least_min ⟨Nat.le_of_ble_eq_true rfl, Nat.le_of_ble_eq_true rfl⟩ dX3_least_18 ?_
        refine j_let (f := Value.int) (fun x10 => ?_)
        refine j_istore_n (lv' := [(2, .int x10), (0, .ref (G.2.1 6)), (1, .ref (G.2.1 kr)), (3, .int x3)]) F dX3_least_21 rfl (by rw [← hml]; decide) rfl ?_
        refine j_iinc (v := (x3 + (1 : Int32))) (lv' := [(3, .int (x3 + (1 : Int32))), (2, .int x10), (0, .ref (G.2.1 6)), (1, .ref (G.2.1 kr))]) F dX3_least_22 3 rfl rfl (by rw [← hml]; decide) rfl ?_
        refine j_goto (tgt := 6) F dX3_least_25 (by decide) ?_
        exact j_sub [2, 3, 1, 0] rfl (ih7 x10 (x3 + (1 : Int32)))
  refine j_sub [2, 3, 1, 0] rfl (hL11 _ M ?_ fu v1 (1 : Int32))
  intro x6
  refine j_iload_n F dX3_least_28 rfl 0 rfl ?_
  exact j_iret F D E rfl dX3_least_29

/-! FlangeFolder$Shape.greatest -/
def lX3_greatest_6 (K5 : Int32 → Option (Int32 × Mm)) (kr : Nat) (N4 : Mm) : Nat → Int32 → Int32 → Option (Int32 × Mm)
  | 0, _, _ => none
  | n8 + 1, x2, x3 => (if (N4.1 6 3) < x3 then K5 x2 else (rd N4 kr 8 x3).bind (fun v9 => lt (mx x2 v9) (fun x10 => lX3_greatest_6 K5 kr N4 n8 x10 (x3 + (1 : Int32)))))
def fX3_greatest (kr : Nat) (M : Mm) : Option (Int32 × Mm) := (rd M kr 8 (0 : Int32)).bind (fun v1 => lX3_greatest_6 (fun (x6 : Int32) => some (x6, M)) kr M fu v1 (1 : Int32))
def rmX3_greatest : Room := { frames := 1, cells := 0, slots := 0, locals := 13 }
theorem kX3_greatest : Kc yX3_greatest cX3_greatest 4 (some .int) wsX3_greatest 1 := ⟨⟨_, rfl⟩, by decide +kernel, by decide +kernel, by decide +kernel⟩
theorem ic_X3_greatest_X3 : ∀ w ∈ u_ws RX3 TX3 4, w ∈ wsX3_greatest := by decide +kernel
theorem fl_X3_greatest_21 : Fl wsX3_greatest RX3 21 3 3 := ⟨RX3, TX3, 4, rfl, by decide, ic_X3_greatest_X3, by decide +kernel⟩
theorem km_X3_greatest_48 : Cond.methodLink RX3 48 Lib.Math.max.name ∈ wsX3_greatest := by decide +kernel
theorem kn_X3_greatest_max : Cond.static Lib.Math.max.name ∈ wsX3_greatest := by decide +kernel
theorem ko_X3_greatest : Cond.initialized "java/lang/Math" ∈ wsX3_greatest := by decide +kernel
theorem kp_X3_greatest_max : Cond.code Lib.Math.max.name Lib.Math.max.code 2 (some .int) ∈ wsX3_greatest := by decide +kernel
set_option maxHeartbeats 4000000 in
set_option maxRecDepth 100000 in
theorem mX3_greatest (l : Launch) (G : Gg) (kr : Nat) (hc_kr : Ce SC kr (.inl 8)) : Ci l G SC yX3_greatest wsX3_greatest rmX3_greatest [.ref (G.2.1 6), .ref (G.2.1 kr)] (fX3_greatest kr) := by
  refine Ci.intro (lv := [(0, .ref (G.2.1 6)), (1, .ref (G.2.1 kr))]) RX3 rfl (by decide) kX3_greatest (Nat.le_of_ble_eq_true rfl) rfl (fun X V M z F D hX hml E => ?_)
  unfold fX3_greatest
  refine j_aload_n F dX3_greatest_0 rfl 1 rfl ?_
  refine j_iconst (v := (0 : Int32)) F dX3_greatest_1 (by decide) ?_
  refine j_iald F D hc_kr dX3_greatest_2 (fun v1 => ?_)
  refine j_istore_n (lv' := [(2, .int v1), (0, .ref (G.2.1 6)), (1, .ref (G.2.1 kr))]) F dX3_greatest_3 rfl (by rw [← hml]; decide) rfl ?_
  refine j_iconst (v := (1 : Int32)) F dX3_greatest_4 (by decide) ?_
  refine j_istore_n (lv' := [(3, .int (1 : Int32)), (2, .int v1), (0, .ref (G.2.1 6)), (1, .ref (G.2.1 kr))]) F dX3_greatest_5 rfl (by rw [← hml]; decide) rfl ?_
  have hL11 : ∀ (K5 : Int32 → Option (Int32 × Mm)) (N4 : Mm), (∀ (x6 : Int32), Jg X V z (K5 x6) N4 28 [(2, .int x6)] []) → ∀ (n8 : Nat) (x2 : Int32) (x3 : Int32), Jg X V z (lX3_greatest_6 K5 kr N4 n8 x2 x3) N4 6 [(0, .ref (G.2.1 6)), (1, .ref (G.2.1 kr)), (2, .int x2), (3, .int x3)] [] := by
    intro K5 N4 hK5 n8
    induction n8 with
    | zero => intro x2 x3; rw [lX3_greatest_6]; exact j_none
    | succ n8 ih7 =>
      intro x2 x3
      rw [lX3_greatest_6]
      refine j_iload_n F dX3_greatest_6 rfl 3 rfl ?_
      refine j_aload_n F dX3_greatest_7 rfl 0 rfl ?_
      refine j_geti F D ce_6 fl_X3_greatest_21 rfl dX3_greatest_8 ?_
      refine j_icmp_gt (tgt := 28) F dX3_greatest_11 (by decide) ?_ ?_
      · exact j_sub [2] rfl (hK5 x2)
      · refine j_iload_n F dX3_greatest_14 rfl 2 rfl ?_
        refine j_aload_n F dX3_greatest_15 rfl 1 rfl ?_
        refine j_iload_n F dX3_greatest_16 rfl 3 rfl ?_
        refine j_iald F D hc_kr dX3_greatest_17 (fun v9 => ?_)
        refine j_max F km_X3_greatest_48 kn_X3_greatest_max ko_X3_greatest kp_X3_greatest_max ⟨Nat.le_of_ble_eq_true rfl, Nat.le_of_ble_eq_true rfl⟩ dX3_greatest_18 ?_
        refine j_let (f := Value.int) (fun x10 => ?_)
        refine j_istore_n (lv' := [(2, .int x10), (0, .ref (G.2.1 6)), (1, .ref (G.2.1 kr)), (3, .int x3)]) F dX3_greatest_21 rfl (by rw [← hml]; decide) rfl ?_
        refine j_iinc (v := (x3 + (1 : Int32))) (lv' := [(3, .int (x3 + (1 : Int32))), (2, .int x10), (0, .ref (G.2.1 6)), (1, .ref (G.2.1 kr))]) F dX3_greatest_22 3 rfl rfl (by rw [← hml]; decide) rfl ?_
        refine j_goto (tgt := 6) F dX3_greatest_25 (by decide) ?_
        exact j_sub [2, 3, 1, 0] rfl (ih7 x10 (x3 + (1 : Int32)))
  refine j_sub [2, 3, 1, 0] rfl (hL11 _ M ?_ fu v1 (1 : Int32))
  intro x6
  refine j_iload_n F dX3_greatest_28 rfl 0 rfl ?_
  exact j_iret F D E rfl dX3_greatest_29

/-! FlangeFolder$Shape.reaches -/
def fX3_reaches (a0 : Int32) (a1 : Int32) (a2 : Int32) (a3 : Int32) (M : Mm) : Option (Int32 × Mm) := jn (fun (_u : Unit) => (if a2 ≤ a0 then some ((1 : Int32), M) else (if a1 < a2 then some ((0 : Int32), M) else some ((1 : Int32), M)))) (fun K1 => (if a0 ≤ a3 then K1 () else (if a3 < a1 then some ((0 : Int32), M) else K1 ())))
def rmX3_reaches : Room := { frames := 0, cells := 0, slots := 0, locals := 0 }
theorem kX3_reaches : Kc yX3_reaches cX3_reaches 4 (some .boolean) wsX3_reaches 4 := ⟨⟨_, rfl⟩, by decide +kernel, by decide +kernel, by decide +kernel⟩
set_option maxHeartbeats 4000000 in
set_option maxRecDepth 100000 in
theorem mX3_reaches (l : Launch) (G : Gg) (a0 : Int32) (a1 : Int32) (a2 : Int32) (a3 : Int32) : Ci l G SC yX3_reaches wsX3_reaches rmX3_reaches [.int a0, .int a1, .int a2, .int a3] (fX3_reaches a0 a1 a2 a3) := by
  refine Ci.intro (lv := [(0, .int a0), (1, .int a1), (2, .int a2), (3, .int a3)]) RX3 rfl (by decide) kX3_reaches (Nat.le_of_ble_eq_true rfl) rfl (fun X V M z F D hX hml E => ?_)
  unfold fX3_reaches
  refine j_iload_n F dX3_reaches_0 rfl 0 rfl ?_
  refine j_iload_n F dX3_reaches_1 rfl 3 rfl ?_
  refine j_jn (P := fun (K1 : Unit → Option (Int32 × Mm)) => ∀ (_u : Unit), Jg X V z (K1 _u) M 10 [(0, .int a0), (1, .int a1), (2, .int a2)] []) ?_ (fun K1 hK1 => ?_)
  · intro _u
    refine j_iload_n F dX3_reaches_10 rfl 0 rfl ?_
    refine j_iload_n F dX3_reaches_11 rfl 2 rfl ?_
    refine j_icmp_ge (tgt := 20) F dX3_reaches_12 (by decide) ?_ ?_
    · refine j_iconst (v := (1 : Int32)) F dX3_reaches_20 (by decide) ?_
      refine j_goto (tgt := 25) F dX3_reaches_21 (by decide) ?_
      exact j_iret F D E rfl dX3_reaches_25
    · refine j_iload_n F dX3_reaches_15 rfl 1 rfl ?_
      refine j_iload_n F dX3_reaches_16 rfl 2 rfl ?_
      refine j_icmp_lt (tgt := 24) F dX3_reaches_17 (by decide) ?_ ?_
      · refine j_iconst (v := (0 : Int32)) F dX3_reaches_24 (by decide) ?_
        exact j_iret F D E rfl dX3_reaches_25
      · refine j_iconst (v := (1 : Int32)) F dX3_reaches_20 (by decide) ?_
        refine j_goto (tgt := 25) F dX3_reaches_21 (by decide) ?_
        exact j_iret F D E rfl dX3_reaches_25
  · refine j_icmp_le (tgt := 10) F dX3_reaches_2 (by decide) ?_ ?_
    · exact j_sub [0, 1, 2] rfl (hK1 ())
    · refine j_iload_n F dX3_reaches_5 rfl 1 rfl ?_
      refine j_iload_n F dX3_reaches_6 rfl 3 rfl ?_
      refine j_icmp_gt (tgt := 24) F dX3_reaches_7 (by decide) ?_ ?_
      · refine j_iconst (v := (0 : Int32)) F dX3_reaches_24 (by decide) ?_
        exact j_iret F D E rfl dX3_reaches_25
      · exact j_sub [0, 1, 2] rfl (hK1 ())

/-! FlangeFolder$Shape.crossesItself -/
def lX3_crossesItself_89 (K27 : Mm → Option (Int32 × Mm)) (c20 : Int32) (c21 : Int32) (c22 : Int32) (c23 : Int32) (c24 : Int32) : Nat → Int32 → Mm → Option (Int32 × Mm)
  | 0, _, _ => none
  | n30 + 1, x25, N26 => (if (N26.1 6 3) ≤ x25 then K27 N26 else (rd N26 7 8 x25).bind (fun v31 => (rd N26 7 8 (x25 + (1 : Int32))).bind (fun v32 => (fX3_reaches v31 v32 c21 c22 N26).bind (fun w33 => (if w33.1 = (0 : Int32) then lX3_crossesItself_89 K27 c20 c21 c22 c23 c24 n30 (x25 + (1 : Int32)) w33.2 else (rd w33.2 8 8 x25).bind (fun v34 => (rd w33.2 8 8 (x25 + (1 : Int32))).bind (fun v35 => (fX3_reaches v34 v35 c23 c24 w33.2).bind (fun w36 => (if w36.1 = (0 : Int32) then lX3_crossesItself_89 K27 c20 c21 c22 c23 c24 n30 (x25 + (1 : Int32)) w36.2 else some ((1 : Int32), w36.2))))))))))
def lX3_crossesItself_2 (K3 : Mm → Option (Int32 × Mm))  : Nat → Int32 → Mm → Option (Int32 × Mm)
  | 0, _, _ => none
  | n6 + 1, x1, N2 => (if (N2.1 6 3) ≤ x1 then K3 N2 else (rd N2 7 8 x1).bind (fun v7 => (rd N2 7 8 (x1 + (1 : Int32))).bind (fun v8 => lt (mn v7 v8) (fun x9 => (rd N2 7 8 x1).bind (fun v10 => (rd N2 7 8 (x1 + (1 : Int32))).bind (fun v11 => lt (mx v10 v11) (fun x12 => (rd N2 8 8 x1).bind (fun v13 => (rd N2 8 8 (x1 + (1 : Int32))).bind (fun v14 => lt (mn v13 v14) (fun x15 => (rd N2 8 8 x1).bind (fun v16 => (rd N2 8 8 (x1 + (1 : Int32))).bind (fun v17 => lt (mx v16 v17) (fun x18 => lt (x1 + (3 : Int32)) (fun x19 => lX3_crossesItself_89 (fun (N28 : Mm) => lX3_crossesItself_2 K3 n6 (x1 + (1 : Int32)) N28) x1 x9 x12 x15 x18 fu x19 N2))))))))))))))
def fX3_crossesItself (M : Mm) : Option (Int32 × Mm) := lX3_crossesItself_2 (fun (N4 : Mm) => some ((0 : Int32), N4))  fu (0 : Int32) M
def rmX3_crossesItself : Room := { frames := 1, cells := 0, slots := 0, locals := 23 }
theorem kX3_crossesItself : Kc yX3_crossesItself cX3_crossesItself 7 (some .boolean) wsX3_crossesItself 0 := ⟨⟨_, rfl⟩, by decide +kernel, by decide +kernel, by decide +kernel⟩
theorem ic_X3_crossesItself_X3 : ∀ w ∈ u_ws RX3 TX3 4, w ∈ wsX3_crossesItself := by decide +kernel
theorem fl_X3_crossesItself_21 : Fl wsX3_crossesItself RX3 21 3 3 := ⟨RX3, TX3, 4, rfl, by decide, ic_X3_crossesItself_X3, by decide +kernel⟩
theorem fl_X3_crossesItself_9 : Fl wsX3_crossesItself RX3 9 3 0 := ⟨RX3, TX3, 4, rfl, by decide, ic_X3_crossesItself_X3, by decide +kernel⟩
theorem km_X3_crossesItself_42 : Cond.methodLink RX3 42 Lib.Math.min.name ∈ wsX3_crossesItself := by decide +kernel
theorem kn_X3_crossesItself_min : Cond.static Lib.Math.min.name ∈ wsX3_crossesItself := by decide +kernel
theorem ko_X3_crossesItself : Cond.initialized "java/lang/Math" ∈ wsX3_crossesItself := by decide +kernel
theorem kp_X3_crossesItself_min : Cond.code Lib.Math.min.name Lib.Math.min.code 2 (some .int) ∈ wsX3_crossesItself := by decide +kernel
theorem km_X3_crossesItself_48 : Cond.methodLink RX3 48 Lib.Math.max.name ∈ wsX3_crossesItself := by decide +kernel
theorem kn_X3_crossesItself_max : Cond.static Lib.Math.max.name ∈ wsX3_crossesItself := by decide +kernel
theorem kp_X3_crossesItself_max : Cond.code Lib.Math.max.name Lib.Math.max.code 2 (some .int) ∈ wsX3_crossesItself := by decide +kernel
theorem fl_X3_crossesItself_15 : Fl wsX3_crossesItself RX3 15 3 1 := ⟨RX3, TX3, 4, rfl, by decide, ic_X3_crossesItself_X3, by decide +kernel⟩
set_option maxHeartbeats 4000000 in
set_option maxRecDepth 100000 in
theorem mX3_crossesItself (l : Launch) (G : Gg) : Ci l G SC yX3_crossesItself wsX3_crossesItself rmX3_crossesItself [.ref (G.2.1 6)] fX3_crossesItself := by
  refine Ci.intro (lv := [(0, .ref (G.2.1 6))]) RX3 rfl (by decide) kX3_crossesItself (Nat.le_of_ble_eq_true rfl) rfl (fun X V M z F D hX hml E => ?_)
  unfold fX3_crossesItself
  refine j_iconst (v := (0 : Int32)) F dX3_crossesItself_0 (by decide) ?_
  refine j_istore_n (lv' := [(1, .int (0 : Int32)), (0, .ref (G.2.1 6))]) F dX3_crossesItself_1 rfl (by rw [← hml]; decide) rfl ?_
  have hL38 : ∀ (K3 : Mm → Option (Int32 × Mm)) , (∀ (N4 : Mm), Jg X V z (K3 N4) N4 162 [] []) → ∀ (n6 : Nat) (x1 : Int32) (N2 : Mm), Jg X V z (lX3_crossesItself_2 K3 n6 x1 N2) N2 2 [(0, .ref (G.2.1 6)), (1, .int x1)] [] := by
    intro K3  hK3 n6
    induction n6 with
    | zero => intro x1 N2; rw [lX3_crossesItself_2]; exact j_none
    | succ n6 ih5 =>
      intro x1 N2
      rw [lX3_crossesItself_2]
      refine j_iload_n F dX3_crossesItself_2 rfl 1 rfl ?_
      refine j_aload_n F dX3_crossesItself_3 rfl 0 rfl ?_
      refine j_geti F D ce_6 fl_X3_crossesItself_21 rfl dX3_crossesItself_4 ?_
      refine j_icmp_ge (tgt := 162) F dX3_crossesItself_7 (by decide) ?_ ?_
      · exact j_sub [] rfl (hK3 N2)
      · refine j_aload_n F dX3_crossesItself_10 rfl 0 rfl ?_
        refine j_getr (r := 7) F D ce_6 fl_X3_crossesItself_9 rfl dX3_crossesItself_11 ?_
        refine j_iload_n F dX3_crossesItself_14 rfl 1 rfl ?_
        refine j_iald F D ce_7 dX3_crossesItself_15 (fun v7 => ?_)
        refine j_aload_n F dX3_crossesItself_16 rfl 0 rfl ?_
        refine j_getr (r := 7) F D ce_6 fl_X3_crossesItself_9 rfl dX3_crossesItself_17 ?_
        refine j_iload_n F dX3_crossesItself_20 rfl 1 rfl ?_
        refine j_iconst (v := (1 : Int32)) F dX3_crossesItself_21 (by decide) ?_
        refine j_iadd F dX3_crossesItself_22 ?_
        refine j_iald F D ce_7 dX3_crossesItself_23 (fun v8 => ?_)
        refine j_min F km_X3_crossesItself_42 kn_X3_crossesItself_min ko_X3_crossesItself kp_X3_crossesItself_min ⟨Nat.le_of_ble_eq_true rfl, Nat.le_of_ble_eq_true rfl⟩ dX3_crossesItself_24 ?_
        refine j_let (f := Value.int) (fun x9 => ?_)
        refine j_istore_n (lv' := [(2, .int x9), (0, .ref (G.2.1 6)), (1, .int x1)]) F dX3_crossesItself_27 rfl (by rw [← hml]; decide) rfl ?_
        refine j_aload_n F dX3_crossesItself_28 rfl 1 rfl ?_
        refine j_getr (r := 7) F D ce_6 fl_X3_crossesItself_9 rfl dX3_crossesItself_29 ?_
        refine j_iload_n F dX3_crossesItself_32 rfl 2 rfl ?_
        refine j_iald F D ce_7 dX3_crossesItself_33 (fun v10 => ?_)
        refine j_aload_n F dX3_crossesItself_34 rfl 1 rfl ?_
        refine j_getr (r := 7) F D ce_6 fl_X3_crossesItself_9 rfl dX3_crossesItself_35 ?_
        refine j_iload_n F dX3_crossesItself_38 rfl 2 rfl ?_
        refine j_iconst (v := (1 : Int32)) F dX3_crossesItself_39 (by decide) ?_
        refine j_iadd F dX3_crossesItself_40 ?_
        refine j_iald F D ce_7 dX3_crossesItself_41 (fun v11 => ?_)
        refine j_max F km_X3_crossesItself_48 kn_X3_crossesItself_max ko_X3_crossesItself kp_X3_crossesItself_max ⟨Nat.le_of_ble_eq_true rfl, Nat.le_of_ble_eq_true rfl⟩ dX3_crossesItself_42 ?_
        refine j_let (f := Value.int) (fun x12 => ?_)
        refine j_istore_n (lv' := [(3, .int x12), (2, .int x9), (0, .ref (G.2.1 6)), (1, .int x1)]) F dX3_crossesItself_45 rfl (by rw [← hml]; decide) rfl ?_
        refine j_aload_n F dX3_crossesItself_46 rfl 2 rfl ?_
        refine j_getr (r := 8) F D ce_6 fl_X3_crossesItself_15 rfl dX3_crossesItself_47 ?_
        refine j_iload_n F dX3_crossesItself_50 rfl 3 rfl ?_
        refine j_iald F D ce_8 dX3_crossesItself_51 (fun v13 => ?_)
        refine j_aload_n F dX3_crossesItself_52 rfl 2 rfl ?_
        refine j_getr (r := 8) F D ce_6 fl_X3_crossesItself_15 rfl dX3_crossesItself_53 ?_
        refine j_iload_n F dX3_crossesItself_56 rfl 3 rfl ?_
        refine j_iconst (v := (1 : Int32)) F dX3_crossesItself_57 (by decide) ?_
        refine j_iadd F dX3_crossesItself_58 ?_
        refine j_iald F D ce_8 dX3_crossesItself_59 (fun v14 => ?_)
        refine j_min F km_X3_crossesItself_42 kn_X3_crossesItself_min ko_X3_crossesItself kp_X3_crossesItself_min ⟨Nat.le_of_ble_eq_true rfl, Nat.le_of_ble_eq_true rfl⟩ dX3_crossesItself_60 ?_
        refine j_let (f := Value.int) (fun x15 => ?_)
        refine j_istore (lv' := [(4, .int x15), (3, .int x12), (2, .int x9), (0, .ref (G.2.1 6)), (1, .int x1)]) F dX3_crossesItself_63 (by rw [← hml]; decide) rfl ?_
        refine j_aload_n F dX3_crossesItself_65 rfl 3 rfl ?_
        refine j_getr (r := 8) F D ce_6 fl_X3_crossesItself_15 rfl dX3_crossesItself_66 ?_
        refine j_iload_n F dX3_crossesItself_69 rfl 4 rfl ?_
        refine j_iald F D ce_8 dX3_crossesItself_70 (fun v16 => ?_)
        refine j_aload_n F dX3_crossesItself_71 rfl 3 rfl ?_
        refine j_getr (r := 8) F D ce_6 fl_X3_crossesItself_15 rfl dX3_crossesItself_72 ?_
        refine j_iload_n F dX3_crossesItself_75 rfl 4 rfl ?_
        refine j_iconst (v := (1 : Int32)) F dX3_crossesItself_76 (by decide) ?_
        refine j_iadd F dX3_crossesItself_77 ?_
        refine j_iald F D ce_8 dX3_crossesItself_78 (fun v17 => ?_)
        refine j_max F km_X3_crossesItself_48 kn_X3_crossesItself_max ko_X3_crossesItself kp_X3_crossesItself_max ⟨Nat.le_of_ble_eq_true rfl, Nat.le_of_ble_eq_true rfl⟩ dX3_crossesItself_79 ?_
        refine j_let (f := Value.int) (fun x18 => ?_)
        refine j_istore (lv' := [(5, .int x18), (4, .int x15), (3, .int x12), (2, .int x9), (0, .ref (G.2.1 6)), (1, .int x1)]) F dX3_crossesItself_82 (by rw [← hml]; decide) rfl ?_
        refine j_iload_n F dX3_crossesItself_84 rfl 5 rfl ?_
        refine j_iconst (v := (3 : Int32)) F dX3_crossesItself_85 (by decide) ?_
        refine j_iadd F dX3_crossesItself_86 ?_
        refine j_let (f := Value.int) (fun x19 => ?_)
        refine j_istore (lv' := [(6, .int x19), (5, .int x18), (4, .int x15), (3, .int x12), (2, .int x9), (0, .ref (G.2.1 6)), (1, .int x1)]) F dX3_crossesItself_87 (by rw [← hml]; decide) rfl ?_
        have hL37 : ∀ (K27 : Mm → Option (Int32 × Mm)) (c20 : Int32) (c21 : Int32) (c22 : Int32) (c23 : Int32) (c24 : Int32), (∀ (N28 : Mm), Jg X V z (K27 N28) N28 156 [(0, .ref (G.2.1 6)), (1, .int c20)] []) → ∀ (n30 : Nat) (x25 : Int32) (N26 : Mm), Jg X V z (lX3_crossesItself_89 K27 c20 c21 c22 c23 c24 n30 x25 N26) N26 89 [(0, .ref (G.2.1 6)), (1, .int c20), (2, .int c21), (3, .int c22), (4, .int c23), (5, .int c24), (6, .int x25)] [] := by
          intro K27 c20 c21 c22 c23 c24 hK27 n30
          induction n30 with
          | zero => intro x25 N26; rw [lX3_crossesItself_89]; exact j_none
          | succ n30 ih29 =>
            intro x25 N26
            rw [lX3_crossesItself_89]
            refine j_iload F dX3_crossesItself_89 6 rfl ?_
            refine j_aload_n F dX3_crossesItself_91 rfl 0 rfl ?_
            refine j_geti F D ce_6 fl_X3_crossesItself_21 rfl dX3_crossesItself_92 ?_
            refine j_icmp_ge (tgt := 156) F dX3_crossesItself_95 (by decide) ?_ ?_
            · exact j_sub [0, 1] rfl (hK27 N26)
            · refine j_aload_n F dX3_crossesItself_98 rfl 0 rfl ?_
              refine j_getr (r := 7) F D ce_6 fl_X3_crossesItself_9 rfl dX3_crossesItself_99 ?_
              refine j_iload F dX3_crossesItself_102 6 rfl ?_
              refine j_iald F D ce_7 dX3_crossesItself_104 (fun v31 => ?_)
              refine j_aload_n F dX3_crossesItself_105 rfl 0 rfl ?_
              refine j_getr (r := 7) F D ce_6 fl_X3_crossesItself_9 rfl dX3_crossesItself_106 ?_
              refine j_iload F dX3_crossesItself_109 6 rfl ?_
              refine j_iconst (v := (1 : Int32)) F dX3_crossesItself_111 (by decide) ?_
              refine j_iadd F dX3_crossesItself_112 ?_
              refine j_iald F D ce_7 dX3_crossesItself_113 (fun v32 => ?_)
              refine j_iload_n F dX3_crossesItself_114 rfl 2 rfl ?_
              refine j_iload_n F dX3_crossesItself_115 rfl 3 rfl ?_
              refine j_callSi (As := [.int v31, .int v32, .int c21, .int c22]) F D hX (mX3_reaches l G v31 v32 c21 c22) kX3_reaches gX3_crossesItself_X3_reaches ⟨rfl, rfl⟩ ⟨Nat.le_of_ble_eq_true rfl, Nat.le_of_ble_eq_true rfl⟩ rfl (Nat.le_of_ble_eq_true rfl) rfl dX3_crossesItself_116 (fun w33 => ?_)
              refine j_if_eq (tgt := 150) F dX3_crossesItself_119 (by decide) ?_ ?_
              · refine j_iinc (v := (x25 + (1 : Int32))) (lv' := [(6, .int (x25 + (1 : Int32))), (0, .ref (G.2.1 6)), (1, .int c20), (2, .int c21), (3, .int c22), (4, .int c23), (5, .int c24)]) F dX3_crossesItself_150 6 rfl rfl (by rw [← hml]; decide) rfl ?_
                refine j_goto (tgt := 89) F dX3_crossesItself_153 (by decide) ?_
                exact j_sub [1, 2, 3, 4, 5, 6, 0] rfl (ih29 (x25 + (1 : Int32)) w33.2)
              · refine j_aload_n F dX3_crossesItself_122 rfl 0 rfl ?_
                refine j_getr (r := 8) F D ce_6 fl_X3_crossesItself_15 rfl dX3_crossesItself_123 ?_
                refine j_iload F dX3_crossesItself_126 6 rfl ?_
                refine j_iald F D ce_8 dX3_crossesItself_128 (fun v34 => ?_)
                refine j_aload_n F dX3_crossesItself_129 rfl 0 rfl ?_
                refine j_getr (r := 8) F D ce_6 fl_X3_crossesItself_15 rfl dX3_crossesItself_130 ?_
                refine j_iload F dX3_crossesItself_133 6 rfl ?_
                refine j_iconst (v := (1 : Int32)) F dX3_crossesItself_135 (by decide) ?_
                refine j_iadd F dX3_crossesItself_136 ?_
                refine j_iald F D ce_8 dX3_crossesItself_137 (fun v35 => ?_)
                refine j_iload F dX3_crossesItself_138 4 rfl ?_
                refine j_iload F dX3_crossesItself_140 5 rfl ?_
                refine j_callSi (As := [.int v34, .int v35, .int c23, .int c24]) F D hX (mX3_reaches l G v34 v35 c23 c24) kX3_reaches gX3_crossesItself_X3_reaches ⟨rfl, rfl⟩ ⟨Nat.le_of_ble_eq_true rfl, Nat.le_of_ble_eq_true rfl⟩ rfl (Nat.le_of_ble_eq_true rfl) rfl dX3_crossesItself_142 (fun w36 => ?_)
                refine j_if_eq (tgt := 150) F dX3_crossesItself_145 (by decide) ?_ ?_
                · refine j_iinc (v := (x25 + (1 : Int32))) (lv' := [(6, .int (x25 + (1 : Int32))), (0, .ref (G.2.1 6)), (1, .int c20), (2, .int c21), (3, .int c22), (4, .int c23), (5, .int c24)]) F dX3_crossesItself_150 6 rfl rfl (by rw [← hml]; decide) rfl ?_
                  refine j_goto (tgt := 89) F dX3_crossesItself_153 (by decide) ?_
                  exact j_sub [1, 2, 3, 4, 5, 6, 0] rfl (ih29 (x25 + (1 : Int32)) w36.2)
                · refine j_iconst (v := (1 : Int32)) F dX3_crossesItself_148 (by decide) ?_
                  exact j_iret F D E rfl dX3_crossesItself_149
        refine j_sub [5, 6, 4, 3, 2, 1, 0] rfl (hL37 _ x1 x9 x12 x15 x18 ?_ fu x19 N2)
        intro N28
        refine j_iinc (v := (x1 + (1 : Int32))) (lv' := [(1, .int (x1 + (1 : Int32))), (0, .ref (G.2.1 6))]) F dX3_crossesItself_156 1 rfl rfl (by rw [← hml]; decide) rfl ?_
        refine j_goto (tgt := 2) F dX3_crossesItself_159 (by decide) ?_
        exact j_sub [1, 0] rfl (ih5 (x1 + (1 : Int32)) N28)
  refine j_sub [1, 0] rfl (hL38 _  ?_ fu (0 : Int32) M)
  intro N4
  refine j_iconst (v := (0 : Int32)) F dX3_crossesItself_162 (by decide) ?_
  exact j_iret F D E rfl dX3_crossesItself_163

/-! FlangeFolder$Shape.pressHit -/
def lX3_pressHit_47 (K15 : Int32 → Mm → Option (Int32 × Mm)) (c6 : Int32) (c7 : Int32) (c8 : Int32) (c9 : Int32) : Nat → Int32 → Int32 → Int32 → Int32 → Mm → Option (Int32 × Mm)
  | 0, _, _, _, _, _ => none
  | n19 + 1, x10, x11, x12, x13, N14 => (if (N14.1 6 3) < x13 then K15 x10 N14 else (rd N14 7 8 x13).bind (fun v20 => (rd N14 7 8 (c6 + (1 : Int32))).bind (fun v21 => lt (v20 - v21) (fun x22 => (rd N14 8 8 x13).bind (fun v23 => (rd N14 8 8 (c6 + (1 : Int32))).bind (fun v24 => lt (v23 - v24) (fun x25 => lt ((x22 * c8) + (x25 * c9)) (fun x26 => lt (c7 * ((x25 * c8) - (x22 * c9))) (fun x27 => jn (fun (N28 : Mm) => (if x13 ≤ (0 : Int32) then lX3_pressHit_47 K15 c6 c7 c8 c9 n19 x10 x26 x27 (x13 + (1 : Int32)) N28 else (if (N28.1 1 7) ≤ (0 : Int32) then lX3_pressHit_47 K15 c6 c7 c8 c9 n19 x10 x26 x27 (x13 + (1 : Int32)) N28 else (fX3_reaches x11 x26 (0 : Int32) (0 : Int32) N28).bind (fun w30 => (if w30.1 = (0 : Int32) then lX3_pressHit_47 K15 c6 c7 c8 c9 n19 x10 x26 x27 (x13 + (1 : Int32)) w30.2 else (fX3_reaches x12 x27 (1 : Int32) (w30.2.1 1 7) w30.2).bind (fun w31 => (if w31.1 = (0 : Int32) then lX3_pressHit_47 K15 c6 c7 c8 c9 n19 x10 x26 x27 (x13 + (1 : Int32)) w31.2 else lX3_pressHit_47 K15 c6 c7 c8 c9 n19 (1 : Int32) x26 x27 (x13 + (1 : Int32)) w31.2))))))) (fun K29 => (if x13 ≤ (0 : Int32) then K29 N14 else (if (0 : Int32) ≤ (mn x12 x27) then K29 N14 else (fX3_reaches x11 x26 (-(N14.1 1 6)) (N14.1 1 6) N14).bind (fun w32 => (if w32.1 = (0 : Int32) then K29 w32.2 else some ((1 : Int32), w32.2)))))))))))))))
def fX3_pressHit (a0 : Int32) (M : Mm) : Option (Int32 × Mm) := (rd M 3 6 a0).bind (fun v1 => (rd M 9 7 (a0 + (1 : Int32))).bind (fun v2 => (rdT sX 4 v2).bind (fun v3 => (rd M 9 7 (a0 + (1 : Int32))).bind (fun v4 => (rdT sY 4 v4).bind (fun v5 => lX3_pressHit_47 (fun (x16 : Int32) (N17 : Mm) => (if x16 = (0 : Int32) then some ((0 : Int32), N17) else some ((2 : Int32), N17))) a0 v1 v3 v5 fu (0 : Int32) (0 : Int32) (0 : Int32) (0 : Int32) M)))))
def rmX3_pressHit : Room := { frames := 1, cells := 0, slots := 0, locals := 23 }
theorem kX3_pressHit : Kc yX3_pressHit cX3_pressHit 14 (some .int) wsX3_pressHit 2 := ⟨⟨_, rfl⟩, by decide +kernel, by decide +kernel, by decide +kernel⟩
theorem ic_X3_pressHit_X4 : ∀ w ∈ u_ws RX4 TX4 8, w ∈ wsX3_pressHit := by decide +kernel
theorem fl_X3_pressHit_39 : Fl wsX3_pressHit RX3 39 4 1 := ⟨RX4, TX4, 8, rfl, by decide, ic_X3_pressHit_X4, by decide +kernel⟩
theorem ks_X3_pressHit_33 : Cond.fieldLink RX3 33 RX3 "STEP_X" "[I" ∈ wsX3_pressHit := by decide +kernel
theorem ic_X3_pressHit_X3 : ∀ w ∈ u_ws RX3 TX3 4, w ∈ wsX3_pressHit := by decide +kernel
theorem fl_X3_pressHit_18 : Fl wsX3_pressHit RX3 18 3 2 := ⟨RX3, TX3, 4, rfl, by decide, ic_X3_pressHit_X3, by decide +kernel⟩
theorem ks_X3_pressHit_36 : Cond.fieldLink RX3 36 RX3 "STEP_Y" "[I" ∈ wsX3_pressHit := by decide +kernel
theorem fl_X3_pressHit_21 : Fl wsX3_pressHit RX3 21 3 3 := ⟨RX3, TX3, 4, rfl, by decide, ic_X3_pressHit_X3, by decide +kernel⟩
theorem fl_X3_pressHit_9 : Fl wsX3_pressHit RX3 9 3 0 := ⟨RX3, TX3, 4, rfl, by decide, ic_X3_pressHit_X3, by decide +kernel⟩
theorem fl_X3_pressHit_15 : Fl wsX3_pressHit RX3 15 3 1 := ⟨RX3, TX3, 4, rfl, by decide, ic_X3_pressHit_X3, by decide +kernel⟩
theorem fl_X3_pressHit_58 : Fl wsX3_pressHit RX3 58 4 7 := ⟨RX4, TX4, 8, rfl, by decide, ic_X3_pressHit_X4, by decide +kernel⟩
theorem km_X3_pressHit_42 : Cond.methodLink RX3 42 Lib.Math.min.name ∈ wsX3_pressHit := by decide +kernel
theorem kn_X3_pressHit_min : Cond.static Lib.Math.min.name ∈ wsX3_pressHit := by decide +kernel
theorem ko_X3_pressHit : Cond.initialized "java/lang/Math" ∈ wsX3_pressHit := by decide +kernel
theorem kp_X3_pressHit_min : Cond.code Lib.Math.min.name Lib.Math.min.code 2 (some .int) ∈ wsX3_pressHit := by decide +kernel
theorem fl_X3_pressHit_55 : Fl wsX3_pressHit RX3 55 4 6 := ⟨RX4, TX4, 8, rfl, by decide, ic_X3_pressHit_X4, by decide +kernel⟩
set_option maxHeartbeats 4000000 in
set_option maxRecDepth 100000 in
theorem mX3_pressHit (l : Launch) (G : Gg) (a0 : Int32) : Ci l G SC yX3_pressHit wsX3_pressHit rmX3_pressHit [.ref (G.2.1 6), .ref (G.2.1 1), .int a0] (fX3_pressHit a0) := by
  refine Ci.intro (lv := [(0, .ref (G.2.1 6)), (1, .ref (G.2.1 1)), (2, .int a0)]) RX3 rfl (by decide) kX3_pressHit (Nat.le_of_ble_eq_true rfl) rfl (fun X V M z F D hX hml E => ?_)
  unfold fX3_pressHit
  refine j_aload_n F dX3_pressHit_0 rfl 1 rfl ?_
  refine j_getr (r := 3) F D ce_1 fl_X3_pressHit_39 rfl dX3_pressHit_1 ?_
  refine j_iload_n F dX3_pressHit_4 rfl 2 rfl ?_
  refine j_iald F D ce_3 dX3_pressHit_5 (fun v1 => ?_)
  refine j_istore_n (lv' := [(3, .int v1), (0, .ref (G.2.1 6)), (1, .ref (G.2.1 1)), (2, .int a0)]) F dX3_pressHit_6 rfl (by rw [← hml]; decide) rfl ?_
  refine j_getX F D ks_X3_pressHit_33 dX3_pressHit_7 ?_
  refine j_aload_n F dX3_pressHit_10 rfl 1 rfl ?_
  refine j_getr (r := 9) F D ce_6 fl_X3_pressHit_18 rfl dX3_pressHit_11 ?_
  refine j_iload_n F dX3_pressHit_14 rfl 3 rfl ?_
  refine j_iconst (v := (1 : Int32)) F dX3_pressHit_15 (by decide) ?_
  refine j_iadd F dX3_pressHit_16 ?_
  refine j_iald F D ce_9 dX3_pressHit_17 (fun v2 => ?_)
  refine j_taldX F D dX3_pressHit_18 (fun v3 => ?_)
  refine j_istore (lv' := [(4, .int v3), (3, .int v1), (0, .ref (G.2.1 6)), (1, .ref (G.2.1 1)), (2, .int a0)]) F dX3_pressHit_19 (by rw [← hml]; decide) rfl ?_
  refine j_getY F D ks_X3_pressHit_36 dX3_pressHit_21 ?_
  refine j_aload_n F dX3_pressHit_24 rfl 2 rfl ?_
  refine j_getr (r := 9) F D ce_6 fl_X3_pressHit_18 rfl dX3_pressHit_25 ?_
  refine j_iload_n F dX3_pressHit_28 rfl 4 rfl ?_
  refine j_iconst (v := (1 : Int32)) F dX3_pressHit_29 (by decide) ?_
  refine j_iadd F dX3_pressHit_30 ?_
  refine j_iald F D ce_9 dX3_pressHit_31 (fun v4 => ?_)
  refine j_taldY F D dX3_pressHit_32 (fun v5 => ?_)
  refine j_istore (lv' := [(5, .int v5), (4, .int v3), (3, .int v1), (0, .ref (G.2.1 6)), (1, .ref (G.2.1 1)), (2, .int a0)]) F dX3_pressHit_33 (by rw [← hml]; decide) rfl ?_
  refine j_iconst (v := (0 : Int32)) F dX3_pressHit_35 (by decide) ?_
  refine j_istore (lv' := [(6, .int (0 : Int32)), (5, .int v5), (4, .int v3), (3, .int v1), (0, .ref (G.2.1 6)), (1, .ref (G.2.1 1)), (2, .int a0)]) F dX3_pressHit_36 (by rw [← hml]; decide) rfl ?_
  refine j_iconst (v := (0 : Int32)) F dX3_pressHit_38 (by decide) ?_
  refine j_istore (lv' := [(7, .int (0 : Int32)), (6, .int (0 : Int32)), (5, .int v5), (4, .int v3), (3, .int v1), (0, .ref (G.2.1 6)), (1, .ref (G.2.1 1)), (2, .int a0)]) F dX3_pressHit_39 (by rw [← hml]; decide) rfl ?_
  refine j_iconst (v := (0 : Int32)) F dX3_pressHit_41 (by decide) ?_
  refine j_istore (lv' := [(8, .int (0 : Int32)), (7, .int (0 : Int32)), (6, .int (0 : Int32)), (5, .int v5), (4, .int v3), (3, .int v1), (0, .ref (G.2.1 6)), (1, .ref (G.2.1 1)), (2, .int a0)]) F dX3_pressHit_42 (by rw [← hml]; decide) rfl ?_
  refine j_iconst (v := (0 : Int32)) F dX3_pressHit_44 (by decide) ?_
  refine j_istore (lv' := [(9, .int (0 : Int32)), (8, .int (0 : Int32)), (7, .int (0 : Int32)), (6, .int (0 : Int32)), (5, .int v5), (4, .int v3), (3, .int v1), (0, .ref (G.2.1 6)), (1, .ref (G.2.1 1)), (2, .int a0)]) F dX3_pressHit_45 (by rw [← hml]; decide) rfl ?_
  have hL33 : ∀ (K15 : Int32 → Mm → Option (Int32 × Mm)) (c6 : Int32) (c7 : Int32) (c8 : Int32) (c9 : Int32), (∀ (x16 : Int32) (N17 : Mm), Jg X V z (K15 x16 N17) N17 212 [(6, .int x16)] []) → ∀ (n19 : Nat) (x10 : Int32) (x11 : Int32) (x12 : Int32) (x13 : Int32) (N14 : Mm), Jg X V z (lX3_pressHit_47 K15 c6 c7 c8 c9 n19 x10 x11 x12 x13 N14) N14 47 [(0, .ref (G.2.1 6)), (1, .ref (G.2.1 1)), (2, .int c6), (3, .int c7), (4, .int c8), (5, .int c9), (6, .int x10), (7, .int x11), (8, .int x12), (9, .int x13)] [] := by
    intro K15 c6 c7 c8 c9 hK15 n19
    induction n19 with
    | zero => intro x10 x11 x12 x13 N14; rw [lX3_pressHit_47]; exact j_none
    | succ n19 ih18 =>
      intro x10 x11 x12 x13 N14
      rw [lX3_pressHit_47]
      refine j_iload F dX3_pressHit_47 9 rfl ?_
      refine j_aload_n F dX3_pressHit_49 rfl 0 rfl ?_
      refine j_geti F D ce_6 fl_X3_pressHit_21 rfl dX3_pressHit_50 ?_
      refine j_icmp_gt (tgt := 212) F dX3_pressHit_53 (by decide) ?_ ?_
      · exact j_sub [6] rfl (hK15 x10 N14)
      · refine j_aload_n F dX3_pressHit_56 rfl 0 rfl ?_
        refine j_getr (r := 7) F D ce_6 fl_X3_pressHit_9 rfl dX3_pressHit_57 ?_
        refine j_iload F dX3_pressHit_60 9 rfl ?_
        refine j_iald F D ce_7 dX3_pressHit_62 (fun v20 => ?_)
        refine j_aload_n F dX3_pressHit_63 rfl 0 rfl ?_
        refine j_getr (r := 7) F D ce_6 fl_X3_pressHit_9 rfl dX3_pressHit_64 ?_
        refine j_iload_n F dX3_pressHit_67 rfl 2 rfl ?_
        refine j_iconst (v := (1 : Int32)) F dX3_pressHit_68 (by decide) ?_
        refine j_iadd F dX3_pressHit_69 ?_
        refine j_iald F D ce_7 dX3_pressHit_70 (fun v21 => ?_)
        refine j_isub F dX3_pressHit_71 ?_
        refine j_let (f := Value.int) (fun x22 => ?_)
        refine j_istore (lv' := [(10, .int x22), (0, .ref (G.2.1 6)), (1, .ref (G.2.1 1)), (2, .int c6), (3, .int c7), (4, .int c8), (5, .int c9), (6, .int x10), (7, .int x11), (8, .int x12), (9, .int x13)]) F dX3_pressHit_72 (by rw [← hml]; decide) rfl ?_
        refine j_aload_n F dX3_pressHit_74 rfl 1 rfl ?_
        refine j_getr (r := 8) F D ce_6 fl_X3_pressHit_15 rfl dX3_pressHit_75 ?_
        refine j_iload F dX3_pressHit_78 10 rfl ?_
        refine j_iald F D ce_8 dX3_pressHit_80 (fun v23 => ?_)
        refine j_aload_n F dX3_pressHit_81 rfl 1 rfl ?_
        refine j_getr (r := 8) F D ce_6 fl_X3_pressHit_15 rfl dX3_pressHit_82 ?_
        refine j_iload_n F dX3_pressHit_85 rfl 3 rfl ?_
        refine j_iconst (v := (1 : Int32)) F dX3_pressHit_86 (by decide) ?_
        refine j_iadd F dX3_pressHit_87 ?_
        refine j_iald F D ce_8 dX3_pressHit_88 (fun v24 => ?_)
        refine j_isub F dX3_pressHit_89 ?_
        refine j_let (f := Value.int) (fun x25 => ?_)
        refine j_istore (lv' := [(11, .int x25), (10, .int x22), (0, .ref (G.2.1 6)), (1, .ref (G.2.1 1)), (2, .int c6), (3, .int c7), (4, .int c8), (5, .int c9), (6, .int x10), (7, .int x11), (8, .int x12), (9, .int x13)]) F dX3_pressHit_90 (by rw [← hml]; decide) rfl ?_
        refine j_iload F dX3_pressHit_92 1 rfl ?_
        refine j_iload F dX3_pressHit_94 6 rfl ?_
        refine j_imul F dX3_pressHit_96 ?_
        refine j_iload F dX3_pressHit_97 0 rfl ?_
        refine j_iload F dX3_pressHit_99 7 rfl ?_
        refine j_imul F dX3_pressHit_101 ?_
        refine j_iadd F dX3_pressHit_102 ?_
        refine j_let (f := Value.int) (fun x26 => ?_)
        refine j_istore (lv' := [(12, .int x26), (11, .int x25), (10, .int x22), (0, .ref (G.2.1 6)), (1, .ref (G.2.1 1)), (2, .int c6), (3, .int c7), (4, .int c8), (5, .int c9), (6, .int x10), (7, .int x11), (8, .int x12), (9, .int x13)]) F dX3_pressHit_103 (by rw [← hml]; decide) rfl ?_
        refine j_iload_n F dX3_pressHit_105 rfl 6 rfl ?_
        refine j_iload F dX3_pressHit_106 1 rfl ?_
        refine j_iload F dX3_pressHit_108 7 rfl ?_
        refine j_imul F dX3_pressHit_110 ?_
        refine j_iload F dX3_pressHit_111 2 rfl ?_
        refine j_iload F dX3_pressHit_113 8 rfl ?_
        refine j_imul F dX3_pressHit_115 ?_
        refine j_isub F dX3_pressHit_116 ?_
        refine j_imul F dX3_pressHit_117 ?_
        refine j_let (f := Value.int) (fun x27 => ?_)
        refine j_istore (lv' := [(13, .int x27), (12, .int x26), (11, .int x25), (10, .int x22), (0, .ref (G.2.1 6)), (1, .ref (G.2.1 1)), (2, .int c6), (3, .int c7), (4, .int c8), (5, .int c9), (6, .int x10), (7, .int x11), (8, .int x12), (9, .int x13)]) F dX3_pressHit_118 (by rw [← hml]; decide) rfl ?_
        refine j_iload F dX3_pressHit_120 13 rfl ?_
        refine j_jn (P := fun (K29 : Mm → Option (Int32 × Mm)) => ∀ (N28 : Mm), Jg X V z (K29 N28) N28 156 [(0, .ref (G.2.1 6)), (1, .ref (G.2.1 1)), (2, .int c6), (3, .int c7), (4, .int c8), (5, .int c9), (6, .int x10), (7, .int x11), (8, .int x12), (9, .int x13), (12, .int x26), (13, .int x27)] []) ?_ (fun K29 hK29 => ?_)
        · intro N28
          refine j_iload F dX3_pressHit_156 9 rfl ?_
          refine j_if_le (tgt := 198) F dX3_pressHit_158 (by decide) ?_ ?_
          · refine j_iload F dX3_pressHit_198 10 rfl ?_
            refine j_istore (lv' := [(7, .int x26), (0, .ref (G.2.1 6)), (1, .ref (G.2.1 1)), (2, .int c6), (3, .int c7), (4, .int c8), (5, .int c9), (6, .int x10), (8, .int x12), (9, .int x13), (12, .int x26), (13, .int x27)]) F dX3_pressHit_200 (by rw [← hml]; decide) rfl ?_
            refine j_iload F dX3_pressHit_202 11 rfl ?_
            refine j_istore (lv' := [(8, .int x27), (7, .int x26), (0, .ref (G.2.1 6)), (1, .ref (G.2.1 1)), (2, .int c6), (3, .int c7), (4, .int c8), (5, .int c9), (6, .int x10), (9, .int x13), (12, .int x26), (13, .int x27)]) F dX3_pressHit_204 (by rw [← hml]; decide) rfl ?_
            refine j_iinc (v := (x13 + (1 : Int32))) (lv' := [(9, .int (x13 + (1 : Int32))), (8, .int x27), (7, .int x26), (0, .ref (G.2.1 6)), (1, .ref (G.2.1 1)), (2, .int c6), (3, .int c7), (4, .int c8), (5, .int c9), (6, .int x10), (12, .int x26), (13, .int x27)]) F dX3_pressHit_206 9 rfl rfl (by rw [← hml]; decide) rfl ?_
            refine j_goto (tgt := 47) F dX3_pressHit_209 (by decide) ?_
            exact j_sub [3, 4, 5, 6, 7, 8, 9, 2, 1, 0] rfl (ih18 x10 x26 x27 (x13 + (1 : Int32)) N28)
          · refine j_aload_n F dX3_pressHit_161 rfl 1 rfl ?_
            refine j_geti F D ce_1 fl_X3_pressHit_58 rfl dX3_pressHit_162 ?_
            refine j_if_le (tgt := 198) F dX3_pressHit_165 (by decide) ?_ ?_
            · refine j_iload F dX3_pressHit_198 10 rfl ?_
              refine j_istore (lv' := [(7, .int x26), (0, .ref (G.2.1 6)), (1, .ref (G.2.1 1)), (2, .int c6), (3, .int c7), (4, .int c8), (5, .int c9), (6, .int x10), (8, .int x12), (9, .int x13), (12, .int x26), (13, .int x27)]) F dX3_pressHit_200 (by rw [← hml]; decide) rfl ?_
              refine j_iload F dX3_pressHit_202 11 rfl ?_
              refine j_istore (lv' := [(8, .int x27), (7, .int x26), (0, .ref (G.2.1 6)), (1, .ref (G.2.1 1)), (2, .int c6), (3, .int c7), (4, .int c8), (5, .int c9), (6, .int x10), (9, .int x13), (12, .int x26), (13, .int x27)]) F dX3_pressHit_204 (by rw [← hml]; decide) rfl ?_
              refine j_iinc (v := (x13 + (1 : Int32))) (lv' := [(9, .int (x13 + (1 : Int32))), (8, .int x27), (7, .int x26), (0, .ref (G.2.1 6)), (1, .ref (G.2.1 1)), (2, .int c6), (3, .int c7), (4, .int c8), (5, .int c9), (6, .int x10), (12, .int x26), (13, .int x27)]) F dX3_pressHit_206 9 rfl rfl (by rw [← hml]; decide) rfl ?_
              refine j_goto (tgt := 47) F dX3_pressHit_209 (by decide) ?_
              exact j_sub [3, 4, 5, 6, 7, 8, 9, 2, 1, 0] rfl (ih18 x10 x26 x27 (x13 + (1 : Int32)) N28)
            · refine j_iload F dX3_pressHit_168 7 rfl ?_
              refine j_iload F dX3_pressHit_170 10 rfl ?_
              refine j_iconst (v := (0 : Int32)) F dX3_pressHit_172 (by decide) ?_
              refine j_iconst (v := (0 : Int32)) F dX3_pressHit_173 (by decide) ?_
              refine j_callSi (As := [.int x11, .int x26, .int (0 : Int32), .int (0 : Int32)]) F D hX (mX3_reaches l G x11 x26 (0 : Int32) (0 : Int32)) kX3_reaches gX3_pressHit_X3_reaches ⟨rfl, rfl⟩ ⟨Nat.le_of_ble_eq_true rfl, Nat.le_of_ble_eq_true rfl⟩ rfl (Nat.le_of_ble_eq_true rfl) rfl dX3_pressHit_174 (fun w30 => ?_)
              refine j_if_eq (tgt := 198) F dX3_pressHit_177 (by decide) ?_ ?_
              · refine j_iload F dX3_pressHit_198 10 rfl ?_
                refine j_istore (lv' := [(7, .int x26), (0, .ref (G.2.1 6)), (1, .ref (G.2.1 1)), (2, .int c6), (3, .int c7), (4, .int c8), (5, .int c9), (6, .int x10), (8, .int x12), (9, .int x13), (12, .int x26), (13, .int x27)]) F dX3_pressHit_200 (by rw [← hml]; decide) rfl ?_
                refine j_iload F dX3_pressHit_202 11 rfl ?_
                refine j_istore (lv' := [(8, .int x27), (7, .int x26), (0, .ref (G.2.1 6)), (1, .ref (G.2.1 1)), (2, .int c6), (3, .int c7), (4, .int c8), (5, .int c9), (6, .int x10), (9, .int x13), (12, .int x26), (13, .int x27)]) F dX3_pressHit_204 (by rw [← hml]; decide) rfl ?_
                refine j_iinc (v := (x13 + (1 : Int32))) (lv' := [(9, .int (x13 + (1 : Int32))), (8, .int x27), (7, .int x26), (0, .ref (G.2.1 6)), (1, .ref (G.2.1 1)), (2, .int c6), (3, .int c7), (4, .int c8), (5, .int c9), (6, .int x10), (12, .int x26), (13, .int x27)]) F dX3_pressHit_206 9 rfl rfl (by rw [← hml]; decide) rfl ?_
                refine j_goto (tgt := 47) F dX3_pressHit_209 (by decide) ?_
                exact j_sub [3, 4, 5, 6, 7, 8, 9, 2, 1, 0] rfl (ih18 x10 x26 x27 (x13 + (1 : Int32)) w30.2)
              · refine j_iload F dX3_pressHit_180 8 rfl ?_
                refine j_iload F dX3_pressHit_182 11 rfl ?_
                refine j_iconst (v := (1 : Int32)) F dX3_pressHit_184 (by decide) ?_
                refine j_aload_n F dX3_pressHit_185 rfl 1 rfl ?_
                refine j_geti F D ce_1 fl_X3_pressHit_58 rfl dX3_pressHit_186 ?_
                refine j_callSi (As := [.int x12, .int x27, .int (1 : Int32), .int (w30.2.1 1 7)]) F D hX (mX3_reaches l G x12 x27 (1 : Int32) (w30.2.1 1 7)) kX3_reaches gX3_pressHit_X3_reaches ⟨rfl, rfl⟩ ⟨Nat.le_of_ble_eq_true rfl, Nat.le_of_ble_eq_true rfl⟩ rfl (Nat.le_of_ble_eq_true rfl) rfl dX3_pressHit_189 (fun w31 => ?_)
                refine j_if_eq (tgt := 198) F dX3_pressHit_192 (by decide) ?_ ?_
                · refine j_iload F dX3_pressHit_198 10 rfl ?_
                  refine j_istore (lv' := [(7, .int x26), (0, .ref (G.2.1 6)), (1, .ref (G.2.1 1)), (2, .int c6), (3, .int c7), (4, .int c8), (5, .int c9), (6, .int x10), (8, .int x12), (9, .int x13), (12, .int x26), (13, .int x27)]) F dX3_pressHit_200 (by rw [← hml]; decide) rfl ?_
                  refine j_iload F dX3_pressHit_202 11 rfl ?_
                  refine j_istore (lv' := [(8, .int x27), (7, .int x26), (0, .ref (G.2.1 6)), (1, .ref (G.2.1 1)), (2, .int c6), (3, .int c7), (4, .int c8), (5, .int c9), (6, .int x10), (9, .int x13), (12, .int x26), (13, .int x27)]) F dX3_pressHit_204 (by rw [← hml]; decide) rfl ?_
                  refine j_iinc (v := (x13 + (1 : Int32))) (lv' := [(9, .int (x13 + (1 : Int32))), (8, .int x27), (7, .int x26), (0, .ref (G.2.1 6)), (1, .ref (G.2.1 1)), (2, .int c6), (3, .int c7), (4, .int c8), (5, .int c9), (6, .int x10), (12, .int x26), (13, .int x27)]) F dX3_pressHit_206 9 rfl rfl (by rw [← hml]; decide) rfl ?_
                  refine j_goto (tgt := 47) F dX3_pressHit_209 (by decide) ?_
                  exact j_sub [3, 4, 5, 6, 7, 8, 9, 2, 1, 0] rfl (ih18 x10 x26 x27 (x13 + (1 : Int32)) w31.2)
                · refine j_iconst (v := (1 : Int32)) F dX3_pressHit_195 (by decide) ?_
                  refine j_istore (lv' := [(6, .int (1 : Int32)), (0, .ref (G.2.1 6)), (1, .ref (G.2.1 1)), (2, .int c6), (3, .int c7), (4, .int c8), (5, .int c9), (7, .int x11), (8, .int x12), (9, .int x13), (12, .int x26), (13, .int x27)]) F dX3_pressHit_196 (by rw [← hml]; decide) rfl ?_
                  refine j_iload F dX3_pressHit_198 10 rfl ?_
                  refine j_istore (lv' := [(7, .int x26), (6, .int (1 : Int32)), (0, .ref (G.2.1 6)), (1, .ref (G.2.1 1)), (2, .int c6), (3, .int c7), (4, .int c8), (5, .int c9), (8, .int x12), (9, .int x13), (12, .int x26), (13, .int x27)]) F dX3_pressHit_200 (by rw [← hml]; decide) rfl ?_
                  refine j_iload F dX3_pressHit_202 11 rfl ?_
                  refine j_istore (lv' := [(8, .int x27), (7, .int x26), (6, .int (1 : Int32)), (0, .ref (G.2.1 6)), (1, .ref (G.2.1 1)), (2, .int c6), (3, .int c7), (4, .int c8), (5, .int c9), (9, .int x13), (12, .int x26), (13, .int x27)]) F dX3_pressHit_204 (by rw [← hml]; decide) rfl ?_
                  refine j_iinc (v := (x13 + (1 : Int32))) (lv' := [(9, .int (x13 + (1 : Int32))), (8, .int x27), (7, .int x26), (6, .int (1 : Int32)), (0, .ref (G.2.1 6)), (1, .ref (G.2.1 1)), (2, .int c6), (3, .int c7), (4, .int c8), (5, .int c9), (12, .int x26), (13, .int x27)]) F dX3_pressHit_206 9 rfl rfl (by rw [← hml]; decide) rfl ?_
                  refine j_goto (tgt := 47) F dX3_pressHit_209 (by decide) ?_
                  exact j_sub [4, 5, 6, 7, 8, 9, 3, 2, 1, 0] rfl (ih18 (1 : Int32) x26 x27 (x13 + (1 : Int32)) w31.2)
        · refine j_if_le (tgt := 156) F dX3_pressHit_122 (by decide) ?_ ?_
          · exact j_sub [4, 5, 6, 7, 8, 9, 10, 11, 12, 13, 1, 0] rfl (hK29 N14)
          · refine j_iload F dX3_pressHit_125 12 rfl ?_
            refine j_iload F dX3_pressHit_127 0 rfl ?_
            refine j_min F km_X3_pressHit_42 kn_X3_pressHit_min ko_X3_pressHit kp_X3_pressHit_min ⟨Nat.le_of_ble_eq_true rfl, Nat.le_of_ble_eq_true rfl⟩ dX3_pressHit_129 ?_
            refine j_if_ge (tgt := 156) F dX3_pressHit_132 (by decide) ?_ ?_
            · exact j_sub [4, 5, 6, 7, 8, 9, 10, 11, 12, 13, 1, 0] rfl (hK29 N14)
            · refine j_iload F dX3_pressHit_135 11 rfl ?_
              refine j_iload F dX3_pressHit_137 1 rfl ?_
              refine j_aload_n F dX3_pressHit_139 rfl 5 rfl ?_
              refine j_geti F D ce_1 fl_X3_pressHit_55 rfl dX3_pressHit_140 ?_
              refine j_ineg F dX3_pressHit_143 ?_
              refine j_aload_n F dX3_pressHit_144 rfl 5 rfl ?_
              refine j_geti F D ce_1 fl_X3_pressHit_55 rfl dX3_pressHit_145 ?_
              refine j_callSi (As := [.int x11, .int x26, .int (-(N14.1 1 6)), .int (N14.1 1 6)]) F D hX (mX3_reaches l G x11 x26 (-(N14.1 1 6)) (N14.1 1 6)) kX3_reaches gX3_pressHit_X3_reaches ⟨rfl, rfl⟩ ⟨Nat.le_of_ble_eq_true rfl, Nat.le_of_ble_eq_true rfl⟩ rfl (Nat.le_of_ble_eq_true rfl) rfl dX3_pressHit_148 (fun w32 => ?_)
              refine j_if_eq (tgt := 156) F dX3_pressHit_151 (by decide) ?_ ?_
              · exact j_sub [4, 5, 6, 7, 8, 9, 10, 11, 12, 13, 1, 0] rfl (hK29 w32.2)
              · refine j_iconst (v := (1 : Int32)) F dX3_pressHit_154 (by decide) ?_
                exact j_iret F D E rfl dX3_pressHit_155
  refine j_sub [7, 8, 9, 6, 5, 4, 3, 2, 1, 0] rfl (hL33 _ a0 v1 v3 v5 ?_ fu (0 : Int32) (0 : Int32) (0 : Int32) (0 : Int32) M)
  intro x16 N17
  refine j_iload F dX3_pressHit_212 0 rfl ?_
  refine j_if_eq (tgt := 221) F dX3_pressHit_214 (by decide) ?_ ?_
  · refine j_iconst (v := (0 : Int32)) F dX3_pressHit_221 (by decide) ?_
    exact j_iret F D E rfl dX3_pressHit_222
  · refine j_iconst (v := (2 : Int32)) F dX3_pressHit_217 (by decide) ?_
    refine j_goto (tgt := 222) F dX3_pressHit_218 (by decide) ?_
    exact j_iret F D E rfl dX3_pressHit_222
