/-! FlangeFolder$History.stage -/
def fX0_stage (M : Mm) : Option (Unit × Mm) := (rdR ringK 6 (M.1 18 1)).bind (fun k2 => (fX4_copyFrom k2 1 M).bind (fun w3 => some ((), w3.2)))
def rmX0_stage : Room := { frames := 2, cells := 0, slots := 0, locals := 81 }
theorem kX0_stage : Kc yX0_stage cX0_stage 2 none wsX0_stage 1 := ⟨⟨_, rfl⟩, by decide +kernel, by decide +kernel, by decide +kernel⟩
theorem ic_X0_stage_X0 : ∀ w ∈ u_ws RX0 TX0 3, w ∈ wsX0_stage := by decide +kernel
theorem fl_X0_stage_13 : Fl wsX0_stage RX0 13 0 0 := ⟨RX0, TX0, 3, rfl, by decide, ic_X0_stage_X0, by decide +kernel⟩
theorem fl_X0_stage_18 : Fl wsX0_stage RX0 18 0 1 := ⟨RX0, TX0, 3, rfl, by decide, ic_X0_stage_X0, by decide +kernel⟩
set_option maxHeartbeats 4000000 in
set_option maxRecDepth 100000 in
theorem mX0_stage (l : Launch) (G : Gg) : Cv l G SC yX0_stage wsX0_stage rmX0_stage [.ref (G.2.1 18), .ref (G.2.1 1)] fX0_stage := by
  refine Cv.intro (lv := [(0, .ref (G.2.1 18)), (1, .ref (G.2.1 1))]) RX0 rfl (by decide) kX0_stage (Nat.le_of_ble_eq_true rfl) rfl (fun X V M z F D hX hml E => ?_)
  unfold fX0_stage
  refine j_aload_n F dX0_stage_0 rfl 0 rfl ?_
  refine j_getr (r := 19) F D ce_18 fl_X0_stage_13 rfl dX0_stage_1 ?_
  refine j_aload_n F dX0_stage_4 rfl 0 rfl ?_
  refine j_geti F D ce_18 fl_X0_stage_18 rfl dX0_stage_5 ?_
  refine j_aald F D ce_19 dX0_stage_8 (fun j1 hj1 => ?_)
  refine j_aload_n F dX0_stage_9 rfl 1 rfl ?_
  refine j_callVv (As := [.ref (G.2.1 1)]) F D hX (mX4_copyFrom l G (ringK j1) 1 (ringK_sh hj1) isSh_one) (isSh_o (ringK_sh hj1)) rfl kX4_copyFrom rfl gX0_stage_X4_copyFrom ⟨rfl, rfl⟩ ⟨Nat.le_of_ble_eq_true rfl, Nat.le_of_ble_eq_true rfl⟩ rfl (Nat.le_of_ble_eq_true rfl) rfl dX0_stage_10 (fun w3 => ?_)
  exact j_vret F D E dX0_stage_13

/-! FlangeFolder$History.keepStaged -/
def fX0_keepStaged (M : Mm) : Option (Unit × Mm) := lt (stI M 18 1 (irm ((M.1 18 1) + (1 : Int32)) (6 : Int32))) (fun N1 => lt (stI N1 18 2 (mn ((N1.1 18 2) + (1 : Int32)) (5 : Int32))) (fun N2 => some ((), N2)))
def rmX0_keepStaged : Room := { frames := 1, cells := 0, slots := 0, locals := 14 }
theorem kX0_keepStaged : Kc yX0_keepStaged cX0_keepStaged 1 none wsX0_keepStaged 0 := ⟨⟨_, rfl⟩, by decide +kernel, by decide +kernel, by decide +kernel⟩
theorem ic_X0_keepStaged_X0 : ∀ w ∈ u_ws RX0 TX0 3, w ∈ wsX0_keepStaged := by decide +kernel
theorem fl_X0_keepStaged_18 : Fl wsX0_keepStaged RX0 18 0 1 := ⟨RX0, TX0, 3, rfl, by decide, ic_X0_keepStaged_X0, by decide +kernel⟩
theorem fp_X0_keepStaged_18 : Fp wsX0_keepStaged RX0 18 0 1 .int := ⟨RX0, TX0, 3, tyX0, rfl, by decide, ic_X0_keepStaged_X0, by decide +kernel, tyX0_ok, nmX0, rfl, rfl⟩
theorem fl_X0_keepStaged_22 : Fl wsX0_keepStaged RX0 22 0 2 := ⟨RX0, TX0, 3, rfl, by decide, ic_X0_keepStaged_X0, by decide +kernel⟩
theorem km_X0_keepStaged_29 : Cond.methodLink RX0 29 Lib.Math.min.name ∈ wsX0_keepStaged := by decide +kernel
theorem kn_X0_keepStaged_min : Cond.static Lib.Math.min.name ∈ wsX0_keepStaged := by decide +kernel
theorem ko_X0_keepStaged : Cond.initialized "java/lang/Math" ∈ wsX0_keepStaged := by decide +kernel
theorem kp_X0_keepStaged_min : Cond.code Lib.Math.min.name Lib.Math.min.code 2 (some .int) ∈ wsX0_keepStaged := by decide +kernel
theorem fp_X0_keepStaged_22 : Fp wsX0_keepStaged RX0 22 0 2 .int := ⟨RX0, TX0, 3, tyX0, rfl, by decide, ic_X0_keepStaged_X0, by decide +kernel, tyX0_ok, nmX0, rfl, rfl⟩
set_option maxHeartbeats 4000000 in
set_option maxRecDepth 100000 in
theorem mX0_keepStaged (l : Launch) (G : Gg) : Cv l G SC yX0_keepStaged wsX0_keepStaged rmX0_keepStaged [.ref (G.2.1 18)] fX0_keepStaged := by
  refine Cv.intro (lv := [(0, .ref (G.2.1 18))]) RX0 rfl (by decide) kX0_keepStaged (Nat.le_of_ble_eq_true rfl) rfl (fun X V M z F D hX hml E => ?_)
  unfold fX0_keepStaged
  refine j_aload_n F dX0_keepStaged_0 rfl 0 rfl ?_
  refine j_aload_n F dX0_keepStaged_1 rfl 0 rfl ?_
  refine j_geti F D ce_18 fl_X0_keepStaged_18 rfl dX0_keepStaged_2 ?_
  refine j_iconst (v := (1 : Int32)) F dX0_keepStaged_5 (by decide) ?_
  refine j_iadd F dX0_keepStaged_6 ?_
  refine j_bipush (v := (6 : Int32)) F dX0_keepStaged_7 (by decide) ?_
  refine j_irm F (by decide) dX0_keepStaged_9 ?_
  refine j_puti F D ce_18 fp_X0_keepStaged_18 rfl rfl rfl dX0_keepStaged_10 ?_
  refine j_letM (fun N1 => ?_)
  refine j_aload_n F dX0_keepStaged_13 rfl 0 rfl ?_
  refine j_aload_n F dX0_keepStaged_14 rfl 0 rfl ?_
  refine j_geti F D ce_18 fl_X0_keepStaged_22 rfl dX0_keepStaged_15 ?_
  refine j_iconst (v := (1 : Int32)) F dX0_keepStaged_18 (by decide) ?_
  refine j_iadd F dX0_keepStaged_19 ?_
  refine j_iconst (v := (5 : Int32)) F dX0_keepStaged_20 (by decide) ?_
  refine j_min F km_X0_keepStaged_29 kn_X0_keepStaged_min ko_X0_keepStaged kp_X0_keepStaged_min ⟨Nat.le_of_ble_eq_true rfl, Nat.le_of_ble_eq_true rfl⟩ dX0_keepStaged_21 ?_
  refine j_puti F D ce_18 fp_X0_keepStaged_22 rfl rfl rfl dX0_keepStaged_24 ?_
  refine j_letM (fun N2 => ?_)
  exact j_vret F D E dX0_keepStaged_27

/-! FlangeFolder$History.restoreStaged -/
def fX0_restoreStaged (M : Mm) : Option (Unit × Mm) := (rdR ringK 6 (M.1 18 1)).bind (fun k2 => (fX4_copyFrom 1 k2 M).bind (fun w3 => some ((), w3.2)))
def rmX0_restoreStaged : Room := { frames := 2, cells := 0, slots := 0, locals := 81 }
theorem kX0_restoreStaged : Kc yX0_restoreStaged cX0_restoreStaged 2 none wsX0_restoreStaged 1 := ⟨⟨_, rfl⟩, by decide +kernel, by decide +kernel, by decide +kernel⟩
theorem ic_X0_restoreStaged_X0 : ∀ w ∈ u_ws RX0 TX0 3, w ∈ wsX0_restoreStaged := by decide +kernel
theorem fl_X0_restoreStaged_13 : Fl wsX0_restoreStaged RX0 13 0 0 := ⟨RX0, TX0, 3, rfl, by decide, ic_X0_restoreStaged_X0, by decide +kernel⟩
theorem fl_X0_restoreStaged_18 : Fl wsX0_restoreStaged RX0 18 0 1 := ⟨RX0, TX0, 3, rfl, by decide, ic_X0_restoreStaged_X0, by decide +kernel⟩
set_option maxHeartbeats 4000000 in
set_option maxRecDepth 100000 in
theorem mX0_restoreStaged (l : Launch) (G : Gg) : Cv l G SC yX0_restoreStaged wsX0_restoreStaged rmX0_restoreStaged [.ref (G.2.1 18), .ref (G.2.1 1)] fX0_restoreStaged := by
  refine Cv.intro (lv := [(0, .ref (G.2.1 18)), (1, .ref (G.2.1 1))]) RX0 rfl (by decide) kX0_restoreStaged (Nat.le_of_ble_eq_true rfl) rfl (fun X V M z F D hX hml E => ?_)
  unfold fX0_restoreStaged
  refine j_aload_n F dX0_restoreStaged_0 rfl 1 rfl ?_
  refine j_aload_n F dX0_restoreStaged_1 rfl 0 rfl ?_
  refine j_getr (r := 19) F D ce_18 fl_X0_restoreStaged_13 rfl dX0_restoreStaged_2 ?_
  refine j_aload_n F dX0_restoreStaged_5 rfl 0 rfl ?_
  refine j_geti F D ce_18 fl_X0_restoreStaged_18 rfl dX0_restoreStaged_6 ?_
  refine j_aald F D ce_19 dX0_restoreStaged_9 (fun j1 hj1 => ?_)
  refine j_callVv (As := [.ref (G.2.1 (ringK j1))]) F D hX (mX4_copyFrom l G 1 (ringK j1) isSh_one (ringK_sh hj1)) ce_1 rfl kX4_copyFrom rfl gX0_restoreStaged_X4_copyFrom ⟨rfl, rfl⟩ ⟨Nat.le_of_ble_eq_true rfl, Nat.le_of_ble_eq_true rfl⟩ rfl (Nat.le_of_ble_eq_true rfl) rfl dX0_restoreStaged_10 (fun w3 => ?_)
  exact j_vret F D E dX0_restoreStaged_13

/-! FlangeFolder$History.restoreLast -/
def fX0_restoreLast (M : Mm) : Option (Unit × Mm) := lt (stI M 18 1 (irm (((M.1 18 1) + (6 : Int32)) - (1 : Int32)) (6 : Int32))) (fun N1 => lt (stI N1 18 2 ((N1.1 18 2) - (1 : Int32))) (fun N2 => (rdR ringK 6 (N2.1 18 1)).bind (fun k4 => (fX4_copyFrom 1 k4 N2).bind (fun w5 => some ((), w5.2)))))
def rmX0_restoreLast : Room := { frames := 2, cells := 0, slots := 0, locals := 81 }
theorem kX0_restoreLast : Kc yX0_restoreLast cX0_restoreLast 2 none wsX0_restoreLast 1 := ⟨⟨_, rfl⟩, by decide +kernel, by decide +kernel, by decide +kernel⟩
theorem ic_X0_restoreLast_X0 : ∀ w ∈ u_ws RX0 TX0 3, w ∈ wsX0_restoreLast := by decide +kernel
theorem fl_X0_restoreLast_18 : Fl wsX0_restoreLast RX0 18 0 1 := ⟨RX0, TX0, 3, rfl, by decide, ic_X0_restoreLast_X0, by decide +kernel⟩
theorem fp_X0_restoreLast_18 : Fp wsX0_restoreLast RX0 18 0 1 .int := ⟨RX0, TX0, 3, tyX0, rfl, by decide, ic_X0_restoreLast_X0, by decide +kernel, tyX0_ok, nmX0, rfl, rfl⟩
theorem fl_X0_restoreLast_22 : Fl wsX0_restoreLast RX0 22 0 2 := ⟨RX0, TX0, 3, rfl, by decide, ic_X0_restoreLast_X0, by decide +kernel⟩
theorem fp_X0_restoreLast_22 : Fp wsX0_restoreLast RX0 22 0 2 .int := ⟨RX0, TX0, 3, tyX0, rfl, by decide, ic_X0_restoreLast_X0, by decide +kernel, tyX0_ok, nmX0, rfl, rfl⟩
theorem fl_X0_restoreLast_13 : Fl wsX0_restoreLast RX0 13 0 0 := ⟨RX0, TX0, 3, rfl, by decide, ic_X0_restoreLast_X0, by decide +kernel⟩
set_option maxHeartbeats 4000000 in
set_option maxRecDepth 100000 in
theorem mX0_restoreLast (l : Launch) (G : Gg) : Cv l G SC yX0_restoreLast wsX0_restoreLast rmX0_restoreLast [.ref (G.2.1 18), .ref (G.2.1 1)] fX0_restoreLast := by
  refine Cv.intro (lv := [(0, .ref (G.2.1 18)), (1, .ref (G.2.1 1))]) RX0 rfl (by decide) kX0_restoreLast (Nat.le_of_ble_eq_true rfl) rfl (fun X V M z F D hX hml E => ?_)
  unfold fX0_restoreLast
  refine j_aload_n F dX0_restoreLast_0 rfl 0 rfl ?_
  refine j_aload_n F dX0_restoreLast_1 rfl 0 rfl ?_
  refine j_geti F D ce_18 fl_X0_restoreLast_18 rfl dX0_restoreLast_2 ?_
  refine j_bipush (v := (6 : Int32)) F dX0_restoreLast_5 (by decide) ?_
  refine j_iadd F dX0_restoreLast_7 ?_
  refine j_iconst (v := (1 : Int32)) F dX0_restoreLast_8 (by decide) ?_
  refine j_isub F dX0_restoreLast_9 ?_
  refine j_bipush (v := (6 : Int32)) F dX0_restoreLast_10 (by decide) ?_
  refine j_irm F (by decide) dX0_restoreLast_12 ?_
  refine j_puti F D ce_18 fp_X0_restoreLast_18 rfl rfl rfl dX0_restoreLast_13 ?_
  refine j_letM (fun N1 => ?_)
  refine j_aload_n F dX0_restoreLast_16 rfl 0 rfl ?_
  refine j_dup F rfl dX0_restoreLast_17 ?_
  refine j_geti F D ce_18 fl_X0_restoreLast_22 rfl dX0_restoreLast_18 ?_
  refine j_iconst (v := (1 : Int32)) F dX0_restoreLast_21 (by decide) ?_
  refine j_isub F dX0_restoreLast_22 ?_
  refine j_puti F D ce_18 fp_X0_restoreLast_22 rfl rfl rfl dX0_restoreLast_23 ?_
  refine j_letM (fun N2 => ?_)
  refine j_aload_n F dX0_restoreLast_26 rfl 1 rfl ?_
  refine j_aload_n F dX0_restoreLast_27 rfl 0 rfl ?_
  refine j_getr (r := 19) F D ce_18 fl_X0_restoreLast_13 rfl dX0_restoreLast_28 ?_
  refine j_aload_n F dX0_restoreLast_31 rfl 0 rfl ?_
  refine j_geti F D ce_18 fl_X0_restoreLast_18 rfl dX0_restoreLast_32 ?_
  refine j_aald F D ce_19 dX0_restoreLast_35 (fun j3 hj3 => ?_)
  refine j_callVv (As := [.ref (G.2.1 (ringK j3))]) F D hX (mX4_copyFrom l G 1 (ringK j3) isSh_one (ringK_sh hj3)) ce_1 rfl kX4_copyFrom rfl gX0_restoreLast_X4_copyFrom ⟨rfl, rfl⟩ ⟨Nat.le_of_ble_eq_true rfl, Nat.le_of_ble_eq_true rfl⟩ rfl (Nat.le_of_ble_eq_true rfl) rfl dX0_restoreLast_36 (fun w5 => ?_)
  exact j_vret F D E dX0_restoreLast_39
