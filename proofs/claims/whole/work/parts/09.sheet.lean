/-! FlangeFolder$Sheet.copyFrom -/
def fX4_copyFrom (kt : Nat) (ko : Nat) (M : Mm) : Option (Unit × Mm) := (cpy M (ko + 1) 7 (kt + 1) 7 (0 : Int32) (0 : Int32) (7 : Int32)).bind (fun N1 => (cpy N1 (ko + 2) 6 (kt + 2) 6 (0 : Int32) (0 : Int32) (6 : Int32)).bind (fun N2 => (cpy N2 (ko + 3) 6 (kt + 3) 6 (0 : Int32) (0 : Int32) (6 : Int32)).bind (fun N3 => (cpy N3 (ko + 4) 3 (kt + 4) 3 (0 : Int32) (0 : Int32) (3 : Int32)).bind (fun N4 => lt (stI N4 kt 4 (N4.1 ko 4)) (fun N5 => lt (stI N5 kt 5 (N5.1 ko 5)) (fun N6 => lt (stI N6 kt 6 (N6.1 ko 6)) (fun N7 => lt (stI N7 kt 7 (N7.1 ko 7)) (fun N8 => some ((), N8)))))))))
def rmX4_copyFrom : Room := { frames := 1, cells := 0, slots := 0, locals := 60 }
theorem kX4_copyFrom : Kc yX4_copyFrom cX4_copyFrom 2 none wsX4_copyFrom 1 := ⟨⟨_, rfl⟩, by decide +kernel, by decide +kernel, by decide +kernel⟩
theorem ic_X4_copyFrom_X4 : ∀ w ∈ u_ws RX4 TX4 8, w ∈ wsX4_copyFrom := by decide +kernel
theorem fl_X4_copyFrom_9 : Fl wsX4_copyFrom RX4 9 4 0 := ⟨RX4, TX4, 8, rfl, by decide, ic_X4_copyFrom_X4, by decide +kernel⟩
theorem kq_X4_copyFrom_37 : Cond.methodLink RX4 37 arraycopyName ∈ wsX4_copyFrom := by decide +kernel
theorem kr_X4_copyFrom : Cond.native arraycopyName ∈ wsX4_copyFrom := by decide +kernel
theorem ks_X4_copyFrom : Cond.static arraycopyName ∈ wsX4_copyFrom := by decide +kernel
theorem kt_X4_copyFrom : Cond.initialized "java/lang/System" ∈ wsX4_copyFrom := by decide +kernel
theorem fl_X4_copyFrom_15 : Fl wsX4_copyFrom RX4 15 4 1 := ⟨RX4, TX4, 8, rfl, by decide, ic_X4_copyFrom_X4, by decide +kernel⟩
theorem fl_X4_copyFrom_18 : Fl wsX4_copyFrom RX4 18 4 2 := ⟨RX4, TX4, 8, rfl, by decide, ic_X4_copyFrom_X4, by decide +kernel⟩
theorem fl_X4_copyFrom_21 : Fl wsX4_copyFrom RX4 21 4 3 := ⟨RX4, TX4, 8, rfl, by decide, ic_X4_copyFrom_X4, by decide +kernel⟩
theorem fl_X4_copyFrom_24 : Fl wsX4_copyFrom RX4 24 4 4 := ⟨RX4, TX4, 8, rfl, by decide, ic_X4_copyFrom_X4, by decide +kernel⟩
theorem fp_X4_copyFrom_24 : Fp wsX4_copyFrom RX4 24 4 4 .int := ⟨RX4, TX4, 8, tyX4, rfl, by decide, ic_X4_copyFrom_X4, by decide +kernel, tyX4_ok, nmX4, rfl, rfl⟩
theorem fl_X4_copyFrom_28 : Fl wsX4_copyFrom RX4 28 4 5 := ⟨RX4, TX4, 8, rfl, by decide, ic_X4_copyFrom_X4, by decide +kernel⟩
theorem fp_X4_copyFrom_28 : Fp wsX4_copyFrom RX4 28 4 5 .int := ⟨RX4, TX4, 8, tyX4, rfl, by decide, ic_X4_copyFrom_X4, by decide +kernel, tyX4_ok, nmX4, rfl, rfl⟩
theorem fl_X4_copyFrom_31 : Fl wsX4_copyFrom RX4 31 4 6 := ⟨RX4, TX4, 8, rfl, by decide, ic_X4_copyFrom_X4, by decide +kernel⟩
theorem fp_X4_copyFrom_31 : Fp wsX4_copyFrom RX4 31 4 6 .int := ⟨RX4, TX4, 8, tyX4, rfl, by decide, ic_X4_copyFrom_X4, by decide +kernel, tyX4_ok, nmX4, rfl, rfl⟩
theorem fl_X4_copyFrom_34 : Fl wsX4_copyFrom RX4 34 4 7 := ⟨RX4, TX4, 8, rfl, by decide, ic_X4_copyFrom_X4, by decide +kernel⟩
theorem fp_X4_copyFrom_34 : Fp wsX4_copyFrom RX4 34 4 7 .int := ⟨RX4, TX4, 8, tyX4, rfl, by decide, ic_X4_copyFrom_X4, by decide +kernel, tyX4_ok, nmX4, rfl, rfl⟩
set_option maxHeartbeats 4000000 in
set_option maxRecDepth 100000 in
theorem mX4_copyFrom (l : Launch) (G : Gg) (kt : Nat) (ko : Nat) (hs_kt : isSh kt) (hs_ko : isSh ko) : Cv l G SC yX4_copyFrom wsX4_copyFrom rmX4_copyFrom [.ref (G.2.1 kt), .ref (G.2.1 ko)] (fX4_copyFrom kt ko) := by
  refine Cv.intro (lv := [(0, .ref (G.2.1 kt)), (1, .ref (G.2.1 ko))]) RX4 rfl (by decide) kX4_copyFrom (Nat.le_of_ble_eq_true rfl) rfl (fun X V M z F D hX hml E => ?_)
  unfold fX4_copyFrom
  refine j_aload_n F dX4_copyFrom_0 rfl 1 rfl ?_
  refine j_getr (r := (ko + 1)) F D (isSh_o hs_ko) fl_X4_copyFrom_9 rfl dX4_copyFrom_1 ?_
  refine j_iconst (v := (0 : Int32)) F dX4_copyFrom_4 (by decide) ?_
  refine j_aload_n F dX4_copyFrom_5 rfl 0 rfl ?_
  refine j_getr (r := (kt + 1)) F D (isSh_o hs_kt) fl_X4_copyFrom_9 rfl dX4_copyFrom_6 ?_
  refine j_iconst (v := (0 : Int32)) F dX4_copyFrom_9 (by decide) ?_
  refine j_bipush (v := (7 : Int32)) F dX4_copyFrom_10 (by decide) ?_
  refine j_copy F D (isSh_1 hs_ko) (isSh_1 hs_kt) kq_X4_copyFrom_37 kr_X4_copyFrom ks_X4_copyFrom kt_X4_copyFrom ⟨Nat.le_of_ble_eq_true rfl, Nat.le_of_ble_eq_true rfl⟩ dX4_copyFrom_12 (fun N1 => ?_)
  refine j_aload_n F dX4_copyFrom_15 rfl 1 rfl ?_
  refine j_getr (r := (ko + 2)) F D (isSh_o hs_ko) fl_X4_copyFrom_15 rfl dX4_copyFrom_16 ?_
  refine j_iconst (v := (0 : Int32)) F dX4_copyFrom_19 (by decide) ?_
  refine j_aload_n F dX4_copyFrom_20 rfl 0 rfl ?_
  refine j_getr (r := (kt + 2)) F D (isSh_o hs_kt) fl_X4_copyFrom_15 rfl dX4_copyFrom_21 ?_
  refine j_iconst (v := (0 : Int32)) F dX4_copyFrom_24 (by decide) ?_
  refine j_bipush (v := (6 : Int32)) F dX4_copyFrom_25 (by decide) ?_
  refine j_copy F D (isSh_2 hs_ko) (isSh_2 hs_kt) kq_X4_copyFrom_37 kr_X4_copyFrom ks_X4_copyFrom kt_X4_copyFrom ⟨Nat.le_of_ble_eq_true rfl, Nat.le_of_ble_eq_true rfl⟩ dX4_copyFrom_27 (fun N2 => ?_)
  refine j_aload_n F dX4_copyFrom_30 rfl 1 rfl ?_
  refine j_getr (r := (ko + 3)) F D (isSh_o hs_ko) fl_X4_copyFrom_18 rfl dX4_copyFrom_31 ?_
  refine j_iconst (v := (0 : Int32)) F dX4_copyFrom_34 (by decide) ?_
  refine j_aload_n F dX4_copyFrom_35 rfl 0 rfl ?_
  refine j_getr (r := (kt + 3)) F D (isSh_o hs_kt) fl_X4_copyFrom_18 rfl dX4_copyFrom_36 ?_
  refine j_iconst (v := (0 : Int32)) F dX4_copyFrom_39 (by decide) ?_
  refine j_bipush (v := (6 : Int32)) F dX4_copyFrom_40 (by decide) ?_
  refine j_copy F D (isSh_3 hs_ko) (isSh_3 hs_kt) kq_X4_copyFrom_37 kr_X4_copyFrom ks_X4_copyFrom kt_X4_copyFrom ⟨Nat.le_of_ble_eq_true rfl, Nat.le_of_ble_eq_true rfl⟩ dX4_copyFrom_42 (fun N3 => ?_)
  refine j_aload_n F dX4_copyFrom_45 rfl 1 rfl ?_
  refine j_getr (r := (ko + 4)) F D (isSh_o hs_ko) fl_X4_copyFrom_21 rfl dX4_copyFrom_46 ?_
  refine j_iconst (v := (0 : Int32)) F dX4_copyFrom_49 (by decide) ?_
  refine j_aload_n F dX4_copyFrom_50 rfl 0 rfl ?_
  refine j_getr (r := (kt + 4)) F D (isSh_o hs_kt) fl_X4_copyFrom_21 rfl dX4_copyFrom_51 ?_
  refine j_iconst (v := (0 : Int32)) F dX4_copyFrom_54 (by decide) ?_
  refine j_iconst (v := (3 : Int32)) F dX4_copyFrom_55 (by decide) ?_
  refine j_copy F D (isSh_4 hs_ko) (isSh_4 hs_kt) kq_X4_copyFrom_37 kr_X4_copyFrom ks_X4_copyFrom kt_X4_copyFrom ⟨Nat.le_of_ble_eq_true rfl, Nat.le_of_ble_eq_true rfl⟩ dX4_copyFrom_56 (fun N4 => ?_)
  refine j_aload_n F dX4_copyFrom_59 rfl 0 rfl ?_
  refine j_aload_n F dX4_copyFrom_60 rfl 1 rfl ?_
  refine j_geti F D (isSh_o hs_ko) fl_X4_copyFrom_24 rfl dX4_copyFrom_61 ?_
  refine j_puti F D (isSh_o hs_kt) fp_X4_copyFrom_24 rfl rfl rfl dX4_copyFrom_64 ?_
  refine j_letM (fun N5 => ?_)
  refine j_aload_n F dX4_copyFrom_67 rfl 0 rfl ?_
  refine j_aload_n F dX4_copyFrom_68 rfl 1 rfl ?_
  refine j_geti F D (isSh_o hs_ko) fl_X4_copyFrom_28 rfl dX4_copyFrom_69 ?_
  refine j_puti F D (isSh_o hs_kt) fp_X4_copyFrom_28 rfl rfl rfl dX4_copyFrom_72 ?_
  refine j_letM (fun N6 => ?_)
  refine j_aload_n F dX4_copyFrom_75 rfl 0 rfl ?_
  refine j_aload_n F dX4_copyFrom_76 rfl 1 rfl ?_
  refine j_geti F D (isSh_o hs_ko) fl_X4_copyFrom_31 rfl dX4_copyFrom_77 ?_
  refine j_puti F D (isSh_o hs_kt) fp_X4_copyFrom_31 rfl rfl rfl dX4_copyFrom_80 ?_
  refine j_letM (fun N7 => ?_)
  refine j_aload_n F dX4_copyFrom_83 rfl 0 rfl ?_
  refine j_aload_n F dX4_copyFrom_84 rfl 1 rfl ?_
  refine j_geti F D (isSh_o hs_ko) fl_X4_copyFrom_34 rfl dX4_copyFrom_85 ?_
  refine j_puti F D (isSh_o hs_kt) fp_X4_copyFrom_34 rfl rfl rfl dX4_copyFrom_88 ?_
  refine j_letM (fun N8 => ?_)
  exact j_vret F D E dX4_copyFrom_91

/-! FlangeFolder$Sheet.hasBend -/
def fX4_hasBend (a0 : Int32) (M : Mm) : Option (Int32 × Mm) := (if a0 < (0 : Int32) then some ((0 : Int32), M) else (if (M.1 1 4) ≤ a0 then some ((0 : Int32), M) else some ((1 : Int32), M)))
def rmX4_hasBend : Room := { frames := 0, cells := 0, slots := 0, locals := 0 }
theorem kX4_hasBend : Kc yX4_hasBend cX4_hasBend 2 (some .boolean) wsX4_hasBend 1 := ⟨⟨_, rfl⟩, by decide +kernel, by decide +kernel, by decide +kernel⟩
theorem ic_X4_hasBend_X4 : ∀ w ∈ u_ws RX4 TX4 8, w ∈ wsX4_hasBend := by decide +kernel
theorem fl_X4_hasBend_24 : Fl wsX4_hasBend RX4 24 4 4 := ⟨RX4, TX4, 8, rfl, by decide, ic_X4_hasBend_X4, by decide +kernel⟩
set_option maxHeartbeats 4000000 in
set_option maxRecDepth 100000 in
theorem mX4_hasBend (l : Launch) (G : Gg) (a0 : Int32) : Ci l G SC yX4_hasBend wsX4_hasBend rmX4_hasBend [.ref (G.2.1 1), .int a0] (fX4_hasBend a0) := by
  refine Ci.intro (lv := [(0, .ref (G.2.1 1)), (1, .int a0)]) RX4 rfl (by decide) kX4_hasBend (Nat.le_of_ble_eq_true rfl) rfl (fun X V M z F D hX hml E => ?_)
  unfold fX4_hasBend
  refine j_iload_n F dX4_hasBend_0 rfl 1 rfl ?_
  refine j_if_lt (tgt := 16) F dX4_hasBend_1 (by decide) ?_ ?_
  · refine j_iconst (v := (0 : Int32)) F dX4_hasBend_16 (by decide) ?_
    exact j_iret F D E rfl dX4_hasBend_17
  · refine j_iload_n F dX4_hasBend_4 rfl 1 rfl ?_
    refine j_aload_n F dX4_hasBend_5 rfl 0 rfl ?_
    refine j_geti F D ce_1 fl_X4_hasBend_24 rfl dX4_hasBend_6 ?_
    refine j_icmp_ge (tgt := 16) F dX4_hasBend_9 (by decide) ?_ ?_
    · refine j_iconst (v := (0 : Int32)) F dX4_hasBend_16 (by decide) ?_
      exact j_iret F D E rfl dX4_hasBend_17
    · refine j_iconst (v := (1 : Int32)) F dX4_hasBend_12 (by decide) ?_
      refine j_goto (tgt := 17) F dX4_hasBend_13 (by decide) ?_
      exact j_iret F D E rfl dX4_hasBend_17

/-! FlangeFolder$Sheet.isMade -/
def fX4_isMade (a0 : Int32) (M : Mm) : Option (Int32 × Mm) := (if (((M.1 1 5) >>> (a0 &&& 31)) &&& (1 : Int32)) = (1 : Int32) then some ((1 : Int32), M) else some ((0 : Int32), M))
def rmX4_isMade : Room := { frames := 0, cells := 0, slots := 0, locals := 0 }
theorem kX4_isMade : Kc yX4_isMade cX4_isMade 2 (some .boolean) wsX4_isMade 1 := ⟨⟨_, rfl⟩, by decide +kernel, by decide +kernel, by decide +kernel⟩
theorem ic_X4_isMade_X4 : ∀ w ∈ u_ws RX4 TX4 8, w ∈ wsX4_isMade := by decide +kernel
theorem fl_X4_isMade_28 : Fl wsX4_isMade RX4 28 4 5 := ⟨RX4, TX4, 8, rfl, by decide, ic_X4_isMade_X4, by decide +kernel⟩
set_option maxHeartbeats 4000000 in
set_option maxRecDepth 100000 in
theorem mX4_isMade (l : Launch) (G : Gg) (a0 : Int32) : Ci l G SC yX4_isMade wsX4_isMade rmX4_isMade [.ref (G.2.1 1), .int a0] (fX4_isMade a0) := by
  refine Ci.intro (lv := [(0, .ref (G.2.1 1)), (1, .int a0)]) RX4 rfl (by decide) kX4_isMade (Nat.le_of_ble_eq_true rfl) rfl (fun X V M z F D hX hml E => ?_)
  unfold fX4_isMade
  refine j_aload_n F dX4_isMade_0 rfl 0 rfl ?_
  refine j_geti F D ce_1 fl_X4_isMade_28 rfl dX4_isMade_1 ?_
  refine j_iload_n F dX4_isMade_4 rfl 1 rfl ?_
  refine j_ishr F dX4_isMade_5 ?_
  refine j_iconst (v := (1 : Int32)) F dX4_isMade_6 (by decide) ?_
  refine j_iand F dX4_isMade_7 ?_
  refine j_iconst (v := (1 : Int32)) F dX4_isMade_8 (by decide) ?_
  refine j_icmp_ne (tgt := 16) F dX4_isMade_9 (by decide) ?_ ?_
  · refine j_iconst (v := (0 : Int32)) F dX4_isMade_16 (by decide) ?_
    exact j_iret F D E rfl dX4_isMade_17
  · refine j_iconst (v := (1 : Int32)) F dX4_isMade_12 (by decide) ?_
    refine j_goto (tgt := 17) F dX4_isMade_13 (by decide) ?_
    exact j_iret F D E rfl dX4_isMade_17

/-! FlangeFolder$Sheet.allBends -/
def fX4_allBends (M : Mm) : Option (Int32 × Mm) := some ((((1 : Int32) <<< ((M.1 1 4) &&& 31)) - (1 : Int32)), M)
def rmX4_allBends : Room := { frames := 0, cells := 0, slots := 0, locals := 0 }
theorem kX4_allBends : Kc yX4_allBends cX4_allBends 1 (some .int) wsX4_allBends 0 := ⟨⟨_, rfl⟩, by decide +kernel, by decide +kernel, by decide +kernel⟩
theorem ic_X4_allBends_X4 : ∀ w ∈ u_ws RX4 TX4 8, w ∈ wsX4_allBends := by decide +kernel
theorem fl_X4_allBends_24 : Fl wsX4_allBends RX4 24 4 4 := ⟨RX4, TX4, 8, rfl, by decide, ic_X4_allBends_X4, by decide +kernel⟩
set_option maxHeartbeats 4000000 in
set_option maxRecDepth 100000 in
theorem mX4_allBends (l : Launch) (G : Gg) : Ci l G SC yX4_allBends wsX4_allBends rmX4_allBends [.ref (G.2.1 1)] fX4_allBends := by
  refine Ci.intro (lv := [(0, .ref (G.2.1 1))]) RX4 rfl (by decide) kX4_allBends (Nat.le_of_ble_eq_true rfl) rfl (fun X V M z F D hX hml E => ?_)
  unfold fX4_allBends
  refine j_iconst (v := (1 : Int32)) F dX4_allBends_0 (by decide) ?_
  refine j_aload_n F dX4_allBends_1 rfl 0 rfl ?_
  refine j_geti F D ce_1 fl_X4_allBends_24 rfl dX4_allBends_2 ?_
  refine j_ishl F dX4_allBends_5 ?_
  refine j_iconst (v := (1 : Int32)) F dX4_allBends_6 (by decide) ?_
  refine j_isub F dX4_allBends_7 ?_
  exact j_iret F D E rfl dX4_allBends_8

/-! FlangeFolder$Sheet.allLengths -/
def lX4_allLengths_4 (K4 : Int32 → Option (Int32 × Mm)) (N3 : Mm) : Nat → Int32 → Int32 → Option (Int32 × Mm)
  | 0, _, _ => none
  | n7 + 1, x1, x2 => (if (N3.1 1 4) < x2 then K4 x1 else (rd N3 2 7 x2).bind (fun v8 => lt (x1 + v8) (fun x9 => lX4_allLengths_4 K4 N3 n7 x9 (x2 + (1 : Int32)))))
def fX4_allLengths (M : Mm) : Option (Int32 × Mm) := lX4_allLengths_4 (fun (x5 : Int32) => some (x5, M)) M fu (0 : Int32) (0 : Int32)
def rmX4_allLengths : Room := { frames := 0, cells := 0, slots := 0, locals := 0 }
theorem kX4_allLengths : Kc yX4_allLengths cX4_allLengths 3 (some .int) wsX4_allLengths 0 := ⟨⟨_, rfl⟩, by decide +kernel, by decide +kernel, by decide +kernel⟩
theorem ic_X4_allLengths_X4 : ∀ w ∈ u_ws RX4 TX4 8, w ∈ wsX4_allLengths := by decide +kernel
theorem fl_X4_allLengths_24 : Fl wsX4_allLengths RX4 24 4 4 := ⟨RX4, TX4, 8, rfl, by decide, ic_X4_allLengths_X4, by decide +kernel⟩
theorem fl_X4_allLengths_9 : Fl wsX4_allLengths RX4 9 4 0 := ⟨RX4, TX4, 8, rfl, by decide, ic_X4_allLengths_X4, by decide +kernel⟩
set_option maxHeartbeats 4000000 in
set_option maxRecDepth 100000 in
theorem mX4_allLengths (l : Launch) (G : Gg) : Ci l G SC yX4_allLengths wsX4_allLengths rmX4_allLengths [.ref (G.2.1 1)] fX4_allLengths := by
  refine Ci.intro (lv := [(0, .ref (G.2.1 1))]) RX4 rfl (by decide) kX4_allLengths (Nat.le_of_ble_eq_true rfl) rfl (fun X V M z F D hX hml E => ?_)
  unfold fX4_allLengths
  refine j_iconst (v := (0 : Int32)) F dX4_allLengths_0 (by decide) ?_
  refine j_istore_n (lv' := [(1, .int (0 : Int32)), (0, .ref (G.2.1 1))]) F dX4_allLengths_1 rfl (by rw [← hml]; decide) rfl ?_
  refine j_iconst (v := (0 : Int32)) F dX4_allLengths_2 (by decide) ?_
  refine j_istore_n (lv' := [(2, .int (0 : Int32)), (1, .int (0 : Int32)), (0, .ref (G.2.1 1))]) F dX4_allLengths_3 rfl (by rw [← hml]; decide) rfl ?_
  have hL10 : ∀ (K4 : Int32 → Option (Int32 × Mm)) (N3 : Mm), (∀ (x5 : Int32), Jg X V z (K4 x5) N3 27 [(1, .int x5)] []) → ∀ (n7 : Nat) (x1 : Int32) (x2 : Int32), Jg X V z (lX4_allLengths_4 K4 N3 n7 x1 x2) N3 4 [(0, .ref (G.2.1 1)), (1, .int x1), (2, .int x2)] [] := by
    intro K4 N3 hK4 n7
    induction n7 with
    | zero => intro x1 x2; rw [lX4_allLengths_4]; exact j_none
    | succ n7 ih6 =>
      intro x1 x2
      rw [lX4_allLengths_4]
      refine j_iload_n F dX4_allLengths_4 rfl 2 rfl ?_
      refine j_aload_n F dX4_allLengths_5 rfl 0 rfl ?_
      refine j_geti F D ce_1 fl_X4_allLengths_24 rfl dX4_allLengths_6 ?_
      refine j_icmp_gt (tgt := 27) F dX4_allLengths_9 (by decide) ?_ ?_
      · exact j_sub [1] rfl (hK4 x1)
      · refine j_iload_n F dX4_allLengths_12 rfl 1 rfl ?_
        refine j_aload_n F dX4_allLengths_13 rfl 0 rfl ?_
        refine j_getr (r := 2) F D ce_1 fl_X4_allLengths_9 rfl dX4_allLengths_14 ?_
        refine j_iload_n F dX4_allLengths_17 rfl 2 rfl ?_
        refine j_iald F D ce_2 dX4_allLengths_18 (fun v8 => ?_)
        refine j_iadd F dX4_allLengths_19 ?_
        refine j_let (f := Value.int) (fun x9 => ?_)
        refine j_istore_n (lv' := [(1, .int x9), (0, .ref (G.2.1 1)), (2, .int x2)]) F dX4_allLengths_20 rfl (by rw [← hml]; decide) rfl ?_
        refine j_iinc (v := (x2 + (1 : Int32))) (lv' := [(2, .int (x2 + (1 : Int32))), (1, .int x9), (0, .ref (G.2.1 1))]) F dX4_allLengths_21 2 rfl rfl (by rw [← hml]; decide) rfl ?_
        refine j_goto (tgt := 4) F dX4_allLengths_24 (by decide) ?_
        exact j_sub [2, 1, 0] rfl (ih6 x9 (x2 + (1 : Int32)))
  refine j_sub [2, 1, 0] rfl (hL10 _ M ?_ fu (0 : Int32) (0 : Int32))
  intro x5
  refine j_iload_n F dX4_allLengths_27 rfl 0 rfl ?_
  exact j_iret F D E rfl dX4_allLengths_28

/-! FlangeFolder$Sheet.lengthLess -/
def lX4_lengthLess_10 (K7 : Int32 → Option (Int32 × Mm)) (c3 : Int32) (N6 : Mm) : Nat → Int32 → Int32 → Option (Int32 × Mm)
  | 0, _, _ => none
  | n10 + 1, x4, x5 => (if (N6.1 1 4) ≤ x5 then K7 x4 else (if ((c3 >>> (x5 &&& 31)) &&& (1 : Int32)) = (1 : Int32) then (rd N6 4 6 x5).bind (fun v11 => (rd N6 5 3 v11).bind (fun v12 => lt (x4 - v12) (fun x13 => lX4_lengthLess_10 K7 c3 N6 n10 x13 (x5 + (1 : Int32))))) else lX4_lengthLess_10 K7 c3 N6 n10 x4 (x5 + (1 : Int32))))
def fX4_lengthLess (a0 : Int32) (M : Mm) : Option (Int32 × Mm) := (fX4_allLengths M).bind (fun w1 => lt ((10 : Int32) * w1.1) (fun x2 => lX4_lengthLess_10 (fun (x8 : Int32) => some (x8, w1.2)) a0 w1.2 fu x2 (0 : Int32)))
def rmX4_lengthLess : Room := { frames := 1, cells := 0, slots := 0, locals := 22 }
theorem kX4_lengthLess : Kc yX4_lengthLess cX4_lengthLess 4 (some .int) wsX4_lengthLess 1 := ⟨⟨_, rfl⟩, by decide +kernel, by decide +kernel, by decide +kernel⟩
theorem ic_X4_lengthLess_X4 : ∀ w ∈ u_ws RX4 TX4 8, w ∈ wsX4_lengthLess := by decide +kernel
theorem fl_X4_lengthLess_24 : Fl wsX4_lengthLess RX4 24 4 4 := ⟨RX4, TX4, 8, rfl, by decide, ic_X4_lengthLess_X4, by decide +kernel⟩
theorem fl_X4_lengthLess_21 : Fl wsX4_lengthLess RX4 21 4 3 := ⟨RX4, TX4, 8, rfl, by decide, ic_X4_lengthLess_X4, by decide +kernel⟩
theorem fl_X4_lengthLess_18 : Fl wsX4_lengthLess RX4 18 4 2 := ⟨RX4, TX4, 8, rfl, by decide, ic_X4_lengthLess_X4, by decide +kernel⟩
set_option maxHeartbeats 4000000 in
set_option maxRecDepth 100000 in
theorem mX4_lengthLess (l : Launch) (G : Gg) (a0 : Int32) : Ci l G SC yX4_lengthLess wsX4_lengthLess rmX4_lengthLess [.ref (G.2.1 1), .int a0] (fX4_lengthLess a0) := by
  refine Ci.intro (lv := [(0, .ref (G.2.1 1)), (1, .int a0)]) RX4 rfl (by decide) kX4_lengthLess (Nat.le_of_ble_eq_true rfl) rfl (fun X V M z F D hX hml E => ?_)
  unfold fX4_lengthLess
  refine j_bipush (v := (10 : Int32)) F dX4_lengthLess_0 (by decide) ?_
  refine j_aload_n F dX4_lengthLess_2 rfl 0 rfl ?_
  refine j_callVi (As := []) F D hX (mX4_allLengths l G) ce_1 rfl kX4_allLengths rfl gX4_lengthLess_X4_allLengths ⟨rfl, rfl⟩ ⟨Nat.le_of_ble_eq_true rfl, Nat.le_of_ble_eq_true rfl⟩ rfl (Nat.le_of_ble_eq_true rfl) rfl dX4_lengthLess_3 (fun w1 => ?_)
  refine j_imul F dX4_lengthLess_6 ?_
  refine j_let (f := Value.int) (fun x2 => ?_)
  refine j_istore_n (lv' := [(2, .int x2), (0, .ref (G.2.1 1)), (1, .int a0)]) F dX4_lengthLess_7 rfl (by rw [← hml]; decide) rfl ?_
  refine j_iconst (v := (0 : Int32)) F dX4_lengthLess_8 (by decide) ?_
  refine j_istore_n (lv' := [(3, .int (0 : Int32)), (2, .int x2), (0, .ref (G.2.1 1)), (1, .int a0)]) F dX4_lengthLess_9 rfl (by rw [← hml]; decide) rfl ?_
  have hL14 : ∀ (K7 : Int32 → Option (Int32 × Mm)) (c3 : Int32) (N6 : Mm), (∀ (x8 : Int32), Jg X V z (K7 x8) N6 47 [(2, .int x8)] []) → ∀ (n10 : Nat) (x4 : Int32) (x5 : Int32), Jg X V z (lX4_lengthLess_10 K7 c3 N6 n10 x4 x5) N6 10 [(0, .ref (G.2.1 1)), (1, .int c3), (2, .int x4), (3, .int x5)] [] := by
    intro K7 c3 N6 hK7 n10
    induction n10 with
    | zero => intro x4 x5; rw [lX4_lengthLess_10]; exact j_none
    | succ n10 ih9 =>
      intro x4 x5
      rw [lX4_lengthLess_10]
      refine j_iload_n F dX4_lengthLess_10 rfl 3 rfl ?_
      refine j_aload_n F dX4_lengthLess_11 rfl 0 rfl ?_
      refine j_geti F D ce_1 fl_X4_lengthLess_24 rfl dX4_lengthLess_12 ?_
      refine j_icmp_ge (tgt := 47) F dX4_lengthLess_15 (by decide) ?_ ?_
      · exact j_sub [2] rfl (hK7 x4)
      · refine j_iload_n F dX4_lengthLess_18 rfl 1 rfl ?_
        refine j_iload_n F dX4_lengthLess_19 rfl 3 rfl ?_
        refine j_ishr F dX4_lengthLess_20 ?_
        refine j_iconst (v := (1 : Int32)) F dX4_lengthLess_21 (by decide) ?_
        refine j_iand F dX4_lengthLess_22 ?_
        refine j_iconst (v := (1 : Int32)) F dX4_lengthLess_23 (by decide) ?_
        refine j_icmp_ne (tgt := 41) F dX4_lengthLess_24 (by decide) ?_ ?_
        · refine j_iinc (v := (x5 + (1 : Int32))) (lv' := [(3, .int (x5 + (1 : Int32))), (0, .ref (G.2.1 1)), (1, .int c3), (2, .int x4)]) F dX4_lengthLess_41 3 rfl rfl (by rw [← hml]; decide) rfl ?_
          refine j_goto (tgt := 10) F dX4_lengthLess_44 (by decide) ?_
          exact j_sub [1, 2, 3, 0] rfl (ih9 x4 (x5 + (1 : Int32)))
        · refine j_iload_n F dX4_lengthLess_27 rfl 2 rfl ?_
          refine j_aload_n F dX4_lengthLess_28 rfl 0 rfl ?_
          refine j_getr (r := 5) F D ce_1 fl_X4_lengthLess_21 rfl dX4_lengthLess_29 ?_
          refine j_aload_n F dX4_lengthLess_32 rfl 0 rfl ?_
          refine j_getr (r := 4) F D ce_1 fl_X4_lengthLess_18 rfl dX4_lengthLess_33 ?_
          refine j_iload_n F dX4_lengthLess_36 rfl 3 rfl ?_
          refine j_iald F D ce_4 dX4_lengthLess_37 (fun v11 => ?_)
          refine j_iald F D ce_5 dX4_lengthLess_38 (fun v12 => ?_)
          refine j_isub F dX4_lengthLess_39 ?_
          refine j_let (f := Value.int) (fun x13 => ?_)
          refine j_istore_n (lv' := [(2, .int x13), (0, .ref (G.2.1 1)), (1, .int c3), (3, .int x5)]) F dX4_lengthLess_40 rfl (by rw [← hml]; decide) rfl ?_
          refine j_iinc (v := (x5 + (1 : Int32))) (lv' := [(3, .int (x5 + (1 : Int32))), (2, .int x13), (0, .ref (G.2.1 1)), (1, .int c3)]) F dX4_lengthLess_41 3 rfl rfl (by rw [← hml]; decide) rfl ?_
          refine j_goto (tgt := 10) F dX4_lengthLess_44 (by decide) ?_
          exact j_sub [2, 3, 1, 0] rfl (ih9 x13 (x5 + (1 : Int32)))
  refine j_sub [2, 3, 1, 0] rfl (hL14 _ a0 w1.2 ?_ fu x2 (0 : Int32))
  intro x8
  refine j_iload_n F dX4_lengthLess_47 rfl 0 rfl ?_
  exact j_iret F D E rfl dX4_lengthLess_48
