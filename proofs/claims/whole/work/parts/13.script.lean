/-! FlangeFolder$Script.append -/
def fX2_append (a0 : Int32) (M : Mm) : Option (Unit × Mm) := (wr M 51 120 (M.1 50 3) a0).bind (fun N1 => lt (stI N1 50 3 ((N1.1 50 3) + (1 : Int32))) (fun N2 => some ((), N2)))
def rmX2_append : Room := { frames := 0, cells := 0, slots := 0, locals := 0 }
theorem kX2_append : Kc yX2_append cX2_append 2 none wsX2_append 1 := ⟨⟨_, rfl⟩, by decide +kernel, by decide +kernel, by decide +kernel⟩
theorem ic_X2_append_X2 : ∀ w ∈ u_ws RX2 TX2 6, w ∈ wsX2_append := by decide +kernel
theorem fl_X2_append_9 : Fl wsX2_append RX2 9 2 0 := ⟨RX2, TX2, 6, rfl, by decide, ic_X2_append_X2, by decide +kernel⟩
theorem fl_X2_append_21 : Fl wsX2_append RX2 21 2 3 := ⟨RX2, TX2, 6, rfl, by decide, ic_X2_append_X2, by decide +kernel⟩
theorem fp_X2_append_21 : Fp wsX2_append RX2 21 2 3 .int := ⟨RX2, TX2, 6, tyX2, rfl, by decide, ic_X2_append_X2, by decide +kernel, tyX2_ok, nmX2, rfl, rfl⟩
set_option maxHeartbeats 4000000 in
set_option maxRecDepth 100000 in
theorem mX2_append (l : Launch) (G : Gg) (a0 : Int32) : Cv l G SC yX2_append wsX2_append rmX2_append [.ref (G.2.1 50), .int a0] (fX2_append a0) := by
  refine Cv.intro (lv := [(0, .ref (G.2.1 50)), (1, .int a0)]) RX2 rfl (by decide) kX2_append (Nat.le_of_ble_eq_true rfl) rfl (fun X V M z F D hX hml E => ?_)
  unfold fX2_append
  refine j_aload_n F dX2_append_0 rfl 0 rfl ?_
  refine j_getr (r := 51) F D ce_50 fl_X2_append_9 rfl dX2_append_1 ?_
  refine j_aload_n F dX2_append_4 rfl 0 rfl ?_
  refine j_geti F D ce_50 fl_X2_append_21 rfl dX2_append_5 ?_
  refine j_iload_n F dX2_append_8 rfl 1 rfl ?_
  refine j_iast F D ce_51 dX2_append_9 (fun N1 => ?_)
  refine j_aload_n F dX2_append_10 rfl 0 rfl ?_
  refine j_dup F rfl dX2_append_11 ?_
  refine j_geti F D ce_50 fl_X2_append_21 rfl dX2_append_12 ?_
  refine j_iconst (v := (1 : Int32)) F dX2_append_15 (by decide) ?_
  refine j_iadd F dX2_append_16 ?_
  refine j_puti F D ce_50 fp_X2_append_21 rfl rfl rfl dX2_append_17 ?_
  refine j_letM (fun N2 => ?_)
  exact j_vret F D E dX2_append_20

/-! FlangeFolder$Script.numberOf -/
def fX2_numberOf (a0 : Int32) (a1 : Int32) (M : Mm) : Option (Int32 × Mm) := (rd M 53 180 ((a0 * (3 : Int32)) + a1)).bind (fun v1 => some (v1, M))
def rmX2_numberOf : Room := { frames := 0, cells := 0, slots := 0, locals := 0 }
theorem kX2_numberOf : Kc yX2_numberOf cX2_numberOf 3 (some .int) wsX2_numberOf 2 := ⟨⟨_, rfl⟩, by decide +kernel, by decide +kernel, by decide +kernel⟩
theorem ic_X2_numberOf_X2 : ∀ w ∈ u_ws RX2 TX2 6, w ∈ wsX2_numberOf := by decide +kernel
theorem fl_X2_numberOf_18 : Fl wsX2_numberOf RX2 18 2 2 := ⟨RX2, TX2, 6, rfl, by decide, ic_X2_numberOf_X2, by decide +kernel⟩
set_option maxHeartbeats 4000000 in
set_option maxRecDepth 100000 in
theorem mX2_numberOf (l : Launch) (G : Gg) (a0 : Int32) (a1 : Int32) : Ci l G SC yX2_numberOf wsX2_numberOf rmX2_numberOf [.ref (G.2.1 50), .int a0, .int a1] (fX2_numberOf a0 a1) := by
  refine Ci.intro (lv := [(0, .ref (G.2.1 50)), (1, .int a0), (2, .int a1)]) RX2 rfl (by decide) kX2_numberOf (Nat.le_of_ble_eq_true rfl) rfl (fun X V M z F D hX hml E => ?_)
  unfold fX2_numberOf
  refine j_aload_n F dX2_numberOf_0 rfl 0 rfl ?_
  refine j_getr (r := 53) F D ce_50 fl_X2_numberOf_18 rfl dX2_numberOf_1 ?_
  refine j_iload_n F dX2_numberOf_4 rfl 1 rfl ?_
  refine j_iconst (v := (3 : Int32)) F dX2_numberOf_5 (by decide) ?_
  refine j_imul F dX2_numberOf_6 ?_
  refine j_iload_n F dX2_numberOf_7 rfl 2 rfl ?_
  refine j_iadd F dX2_numberOf_8 ?_
  refine j_iald F D ce_53 dX2_numberOf_9 (fun v1 => ?_)
  exact j_iret F D E rfl dX2_numberOf_10

/-! FlangeFolder$Script.isFigureAt -/
def fX2_isFigureAt (M : Mm) : Option (Int32 × Mm) := (if (M.1 50 3) ≤ (M.1 50 5) then some ((0 : Int32), M) else (rd M 51 120 (M.1 50 5)).bind (fun v1 => (if v1 < (48 : Int32) then some ((0 : Int32), M) else (rd M 51 120 (M.1 50 5)).bind (fun v2 => (if (57 : Int32) < v2 then some ((0 : Int32), M) else some ((1 : Int32), M))))))
def rmX2_isFigureAt : Room := { frames := 0, cells := 0, slots := 0, locals := 0 }
theorem kX2_isFigureAt : Kc yX2_isFigureAt cX2_isFigureAt 1 (some .boolean) wsX2_isFigureAt 0 := ⟨⟨_, rfl⟩, by decide +kernel, by decide +kernel, by decide +kernel⟩
theorem ic_X2_isFigureAt_X2 : ∀ w ∈ u_ws RX2 TX2 6, w ∈ wsX2_isFigureAt := by decide +kernel
theorem fl_X2_isFigureAt_28 : Fl wsX2_isFigureAt RX2 28 2 5 := ⟨RX2, TX2, 6, rfl, by decide, ic_X2_isFigureAt_X2, by decide +kernel⟩
theorem fl_X2_isFigureAt_21 : Fl wsX2_isFigureAt RX2 21 2 3 := ⟨RX2, TX2, 6, rfl, by decide, ic_X2_isFigureAt_X2, by decide +kernel⟩
theorem fl_X2_isFigureAt_9 : Fl wsX2_isFigureAt RX2 9 2 0 := ⟨RX2, TX2, 6, rfl, by decide, ic_X2_isFigureAt_X2, by decide +kernel⟩
set_option maxHeartbeats 4000000 in
set_option maxRecDepth 100000 in
theorem mX2_isFigureAt (l : Launch) (G : Gg) : Ci l G SC yX2_isFigureAt wsX2_isFigureAt rmX2_isFigureAt [.ref (G.2.1 50)] fX2_isFigureAt := by
  refine Ci.intro (lv := [(0, .ref (G.2.1 50))]) RX2 rfl (by decide) kX2_isFigureAt (Nat.le_of_ble_eq_true rfl) rfl (fun X V M z F D hX hml E => ?_)
  unfold fX2_isFigureAt
  refine j_aload_n F dX2_isFigureAt_0 rfl 0 rfl ?_
  refine j_geti F D ce_50 fl_X2_isFigureAt_28 rfl dX2_isFigureAt_1 ?_
  refine j_aload_n F dX2_isFigureAt_4 rfl 0 rfl ?_
  refine j_geti F D ce_50 fl_X2_isFigureAt_21 rfl dX2_isFigureAt_5 ?_
  refine j_icmp_ge (tgt := 43) F dX2_isFigureAt_8 (by decide) ?_ ?_
  · refine j_iconst (v := (0 : Int32)) F dX2_isFigureAt_43 (by decide) ?_
    exact j_iret F D E rfl dX2_isFigureAt_44
  · refine j_aload_n F dX2_isFigureAt_11 rfl 0 rfl ?_
    refine j_getr (r := 51) F D ce_50 fl_X2_isFigureAt_9 rfl dX2_isFigureAt_12 ?_
    refine j_aload_n F dX2_isFigureAt_15 rfl 0 rfl ?_
    refine j_geti F D ce_50 fl_X2_isFigureAt_28 rfl dX2_isFigureAt_16 ?_
    refine j_iald F D ce_51 dX2_isFigureAt_19 (fun v1 => ?_)
    refine j_bipush (v := (48 : Int32)) F dX2_isFigureAt_20 (by decide) ?_
    refine j_icmp_lt (tgt := 43) F dX2_isFigureAt_22 (by decide) ?_ ?_
    · refine j_iconst (v := (0 : Int32)) F dX2_isFigureAt_43 (by decide) ?_
      exact j_iret F D E rfl dX2_isFigureAt_44
    · refine j_aload_n F dX2_isFigureAt_25 rfl 0 rfl ?_
      refine j_getr (r := 51) F D ce_50 fl_X2_isFigureAt_9 rfl dX2_isFigureAt_26 ?_
      refine j_aload_n F dX2_isFigureAt_29 rfl 0 rfl ?_
      refine j_geti F D ce_50 fl_X2_isFigureAt_28 rfl dX2_isFigureAt_30 ?_
      refine j_iald F D ce_51 dX2_isFigureAt_33 (fun v2 => ?_)
      refine j_bipush (v := (57 : Int32)) F dX2_isFigureAt_34 (by decide) ?_
      refine j_icmp_gt (tgt := 43) F dX2_isFigureAt_36 (by decide) ?_ ?_
      · refine j_iconst (v := (0 : Int32)) F dX2_isFigureAt_43 (by decide) ?_
        exact j_iret F D E rfl dX2_isFigureAt_44
      · refine j_iconst (v := (1 : Int32)) F dX2_isFigureAt_39 (by decide) ?_
        refine j_goto (tgt := 44) F dX2_isFigureAt_40 (by decide) ?_
        exact j_iret F D E rfl dX2_isFigureAt_44

/-! FlangeFolder$Script.skipBlanks -/
def lX2_skipBlanks_0 (K2 : Mm → Option (Unit × Mm))  : Nat → Mm → Option (Unit × Mm)
  | 0, _ => none
  | n5 + 1, N1 => (if (N1.1 50 3) ≤ (N1.1 50 5) then K2 N1 else (rd N1 51 120 (N1.1 50 5)).bind (fun v6 => (if v6 = (32 : Int32) then lt (stI N1 50 5 ((N1.1 50 5) + (1 : Int32))) (fun N7 => lX2_skipBlanks_0 K2 n5 N7) else K2 N1)))
def fX2_skipBlanks (M : Mm) : Option (Unit × Mm) := lX2_skipBlanks_0 (fun (N3 : Mm) => some ((), N3))  fu M
def rmX2_skipBlanks : Room := { frames := 0, cells := 0, slots := 0, locals := 0 }
theorem kX2_skipBlanks : Kc yX2_skipBlanks cX2_skipBlanks 1 none wsX2_skipBlanks 0 := ⟨⟨_, rfl⟩, by decide +kernel, by decide +kernel, by decide +kernel⟩
theorem ic_X2_skipBlanks_X2 : ∀ w ∈ u_ws RX2 TX2 6, w ∈ wsX2_skipBlanks := by decide +kernel
theorem fl_X2_skipBlanks_28 : Fl wsX2_skipBlanks RX2 28 2 5 := ⟨RX2, TX2, 6, rfl, by decide, ic_X2_skipBlanks_X2, by decide +kernel⟩
theorem fl_X2_skipBlanks_21 : Fl wsX2_skipBlanks RX2 21 2 3 := ⟨RX2, TX2, 6, rfl, by decide, ic_X2_skipBlanks_X2, by decide +kernel⟩
theorem fl_X2_skipBlanks_9 : Fl wsX2_skipBlanks RX2 9 2 0 := ⟨RX2, TX2, 6, rfl, by decide, ic_X2_skipBlanks_X2, by decide +kernel⟩
theorem fp_X2_skipBlanks_28 : Fp wsX2_skipBlanks RX2 28 2 5 .int := ⟨RX2, TX2, 6, tyX2, rfl, by decide, ic_X2_skipBlanks_X2, by decide +kernel, tyX2_ok, nmX2, rfl, rfl⟩
set_option maxHeartbeats 4000000 in
set_option maxRecDepth 100000 in
theorem mX2_skipBlanks (l : Launch) (G : Gg) : Cv l G SC yX2_skipBlanks wsX2_skipBlanks rmX2_skipBlanks [.ref (G.2.1 50)] fX2_skipBlanks := by
  refine Cv.intro (lv := [(0, .ref (G.2.1 50))]) RX2 rfl (by decide) kX2_skipBlanks (Nat.le_of_ble_eq_true rfl) rfl (fun X V M z F D hX hml E => ?_)
  unfold fX2_skipBlanks
  have hL8 : ∀ (K2 : Mm → Option (Unit × Mm)) , (∀ (N3 : Mm), Jg X V z (K2 N3) N3 38 [] []) → ∀ (n5 : Nat) (N1 : Mm), Jg X V z (lX2_skipBlanks_0 K2 n5 N1) N1 0 [(0, .ref (G.2.1 50))] [] := by
    intro K2  hK2 n5
    induction n5 with
    | zero => intro N1; rw [lX2_skipBlanks_0]; exact j_none
    | succ n5 ih4 =>
      intro N1
      rw [lX2_skipBlanks_0]
      refine j_aload_n F dX2_skipBlanks_0 rfl 0 rfl ?_
      refine j_geti F D ce_50 fl_X2_skipBlanks_28 rfl dX2_skipBlanks_1 ?_
      refine j_aload_n F dX2_skipBlanks_4 rfl 0 rfl ?_
      refine j_geti F D ce_50 fl_X2_skipBlanks_21 rfl dX2_skipBlanks_5 ?_
      refine j_icmp_ge (tgt := 38) F dX2_skipBlanks_8 (by decide) ?_ ?_
      · exact j_sub [] rfl (hK2 N1)
      · refine j_aload_n F dX2_skipBlanks_11 rfl 0 rfl ?_
        refine j_getr (r := 51) F D ce_50 fl_X2_skipBlanks_9 rfl dX2_skipBlanks_12 ?_
        refine j_aload_n F dX2_skipBlanks_15 rfl 0 rfl ?_
        refine j_geti F D ce_50 fl_X2_skipBlanks_28 rfl dX2_skipBlanks_16 ?_
        refine j_iald F D ce_51 dX2_skipBlanks_19 (fun v6 => ?_)
        refine j_bipush (v := (32 : Int32)) F dX2_skipBlanks_20 (by decide) ?_
        refine j_icmp_ne (tgt := 38) F dX2_skipBlanks_22 (by decide) ?_ ?_
        · exact j_sub [] rfl (hK2 N1)
        · refine j_aload_n F dX2_skipBlanks_25 rfl 0 rfl ?_
          refine j_dup F rfl dX2_skipBlanks_26 ?_
          refine j_geti F D ce_50 fl_X2_skipBlanks_28 rfl dX2_skipBlanks_27 ?_
          refine j_iconst (v := (1 : Int32)) F dX2_skipBlanks_30 (by decide) ?_
          refine j_iadd F dX2_skipBlanks_31 ?_
          refine j_puti F D ce_50 fp_X2_skipBlanks_28 rfl rfl rfl dX2_skipBlanks_32 ?_
          refine j_letM (fun N7 => ?_)
          refine j_goto (tgt := 0) F dX2_skipBlanks_35 (by decide) ?_
          exact j_sub [0] rfl (ih4 N7)
  refine j_sub [0] rfl (hL8 _  ?_ fu M)
  intro N3
  exact j_vret F D E dX2_skipBlanks_38

/-! FlangeFolder$Script.numbersBehind -/
def fX2_numbersBehind (a0 : Int32) (M : Mm) : Option (Int32 × Mm) := (if a0 = (97 : Int32) then some ((0 : Int32), M) else (if a0 = (98 : Int32) then some ((3 : Int32), M) else (if a0 = (107 : Int32) then some ((2 : Int32), M) else (if a0 = (109 : Int32) then some ((1 : Int32), M) else (if a0 = (112 : Int32) then some ((2 : Int32), M) else (if a0 = (115 : Int32) then some ((1 : Int32), M) else (if a0 = (117 : Int32) then some ((1 : Int32), M) else some ((-1 : Int32), M))))))))
def rmX2_numbersBehind : Room := { frames := 0, cells := 0, slots := 0, locals := 0 }
theorem kX2_numbersBehind : Kc yX2_numbersBehind cX2_numbersBehind 1 (some .int) wsX2_numbersBehind 1 := ⟨⟨_, rfl⟩, by decide +kernel, by decide +kernel, by decide +kernel⟩
set_option maxHeartbeats 4000000 in
set_option maxRecDepth 100000 in
theorem mX2_numbersBehind (l : Launch) (G : Gg) (a0 : Int32) : Ci l G SC yX2_numbersBehind wsX2_numbersBehind rmX2_numbersBehind [.int a0] (fX2_numbersBehind a0) := by
  refine Ci.intro (lv := [(0, .int a0)]) RX2 rfl (by decide) kX2_numbersBehind (Nat.le_of_ble_eq_true rfl) rfl (fun X V M z F D hX hml E => ?_)
  unfold fX2_numbersBehind
  refine j_iload_n F dX2_numbersBehind_0 rfl 0 rfl ?_
  refine j_ite (fun h1 => ?_) (fun h1 => ?_)
  · refine j_tsw F dX2_numbersBehind_1 (by decide) 100 (by rw [h1]; decide) ?_
    refine j_iconst (v := (0 : Int32)) F dX2_numbersBehind_100 (by decide) ?_
    exact j_iret F D E rfl dX2_numbersBehind_101
  · refine j_ite (fun h2 => ?_) (fun h2 => ?_)
    · refine j_tsw F dX2_numbersBehind_1 (by decide) 106 (by rw [h2]; decide) ?_
      refine j_iconst (v := (3 : Int32)) F dX2_numbersBehind_106 (by decide) ?_
      exact j_iret F D E rfl dX2_numbersBehind_107
    · refine j_ite (fun h3 => ?_) (fun h3 => ?_)
      · refine j_tsw F dX2_numbersBehind_1 (by decide) 104 (by rw [h3]; decide) ?_
        refine j_iconst (v := (2 : Int32)) F dX2_numbersBehind_104 (by decide) ?_
        exact j_iret F D E rfl dX2_numbersBehind_105
      · refine j_ite (fun h4 => ?_) (fun h4 => ?_)
        · refine j_tsw F dX2_numbersBehind_1 (by decide) 102 (by rw [h4]; decide) ?_
          refine j_iconst (v := (1 : Int32)) F dX2_numbersBehind_102 (by decide) ?_
          exact j_iret F D E rfl dX2_numbersBehind_103
        · refine j_ite (fun h5 => ?_) (fun h5 => ?_)
          · refine j_tsw F dX2_numbersBehind_1 (by decide) 104 (by rw [h5]; decide) ?_
            refine j_iconst (v := (2 : Int32)) F dX2_numbersBehind_104 (by decide) ?_
            exact j_iret F D E rfl dX2_numbersBehind_105
          · refine j_ite (fun h6 => ?_) (fun h6 => ?_)
            · refine j_tsw F dX2_numbersBehind_1 (by decide) 102 (by rw [h6]; decide) ?_
              refine j_iconst (v := (1 : Int32)) F dX2_numbersBehind_102 (by decide) ?_
              exact j_iret F D E rfl dX2_numbersBehind_103
            · refine j_ite (fun h7 => ?_) (fun h7 => ?_)
              · refine j_tsw F dX2_numbersBehind_1 (by decide) 102 (by rw [h7]; decide) ?_
                refine j_iconst (v := (1 : Int32)) F dX2_numbersBehind_102 (by decide) ?_
                exact j_iret F D E rfl dX2_numbersBehind_103
              · refine j_tsw F dX2_numbersBehind_1 (by decide) 108 (tsw_d [97, 98, 107, 109, 112, 115, 117] (by decide) (by decide) (by simp only [List.mem_cons, List.not_mem_nil, or_false, not_or]; exact ⟨toInt_ne (by decide) h1, toInt_ne (by decide) h2, toInt_ne (by decide) h3, toInt_ne (by decide) h4, toInt_ne (by decide) h5, toInt_ne (by decide) h6, toInt_ne (by decide) h7⟩)) ?_
                refine j_iconst (v := (-1 : Int32)) F dX2_numbersBehind_108 (by decide) ?_
                exact j_iret F D E rfl dX2_numbersBehind_109

/-! FlangeFolder$Script.readNumber -/
def fX2_readNumber (a0 : Int32) (M : Mm) : Option (Int32 × Mm) := (fX2_skipBlanks M).bind (fun w1 => (fX2_isFigureAt w1.2).bind (fun w2 => (if w2.1 = (0 : Int32) then some ((0 : Int32), w2.2) else (rd w2.2 51 120 (w2.2.1 50 5)).bind (fun v3 => lt (v3 - (48 : Int32)) (fun x4 => lt (stI w2.2 50 5 ((w2.2.1 50 5) + (1 : Int32))) (fun N5 => (fX2_isFigureAt N5).bind (fun w6 => jn (fun (x7 : Int32) (N8 : Mm) => (wr N8 53 180 (((N8.1 50 4) * (3 : Int32)) + a0) x7).bind (fun N10 => (fX2_isFigureAt N10).bind (fun w11 => (if w11.1 = (0 : Int32) then some ((1 : Int32), w11.2) else some ((0 : Int32), w11.2))))) (fun K9 => (if w6.1 = (0 : Int32) then K9 x4 w6.2 else (rd w6.2 51 120 (w6.2.1 50 5)).bind (fun v12 => lt ((((10 : Int32) * x4) + v12) - (48 : Int32)) (fun x13 => lt (stI w6.2 50 5 ((w6.2.1 50 5) + (1 : Int32))) (fun N14 => K9 x13 N14))))))))))))
def rmX2_readNumber : Room := { frames := 1, cells := 0, slots := 0, locals := 20 }
theorem kX2_readNumber : Kc yX2_readNumber cX2_readNumber 3 (some .boolean) wsX2_readNumber 1 := ⟨⟨_, rfl⟩, by decide +kernel, by decide +kernel, by decide +kernel⟩
theorem ic_X2_readNumber_X2 : ∀ w ∈ u_ws RX2 TX2 6, w ∈ wsX2_readNumber := by decide +kernel
theorem fl_X2_readNumber_9 : Fl wsX2_readNumber RX2 9 2 0 := ⟨RX2, TX2, 6, rfl, by decide, ic_X2_readNumber_X2, by decide +kernel⟩
theorem fl_X2_readNumber_28 : Fl wsX2_readNumber RX2 28 2 5 := ⟨RX2, TX2, 6, rfl, by decide, ic_X2_readNumber_X2, by decide +kernel⟩
theorem fp_X2_readNumber_28 : Fp wsX2_readNumber RX2 28 2 5 .int := ⟨RX2, TX2, 6, tyX2, rfl, by decide, ic_X2_readNumber_X2, by decide +kernel, tyX2_ok, nmX2, rfl, rfl⟩
theorem fl_X2_readNumber_18 : Fl wsX2_readNumber RX2 18 2 2 := ⟨RX2, TX2, 6, rfl, by decide, ic_X2_readNumber_X2, by decide +kernel⟩
theorem fl_X2_readNumber_25 : Fl wsX2_readNumber RX2 25 2 4 := ⟨RX2, TX2, 6, rfl, by decide, ic_X2_readNumber_X2, by decide +kernel⟩
set_option maxHeartbeats 4000000 in
set_option maxRecDepth 100000 in
theorem mX2_readNumber (l : Launch) (G : Gg) (a0 : Int32) : Ci l G SC yX2_readNumber wsX2_readNumber rmX2_readNumber [.ref (G.2.1 50), .int a0] (fX2_readNumber a0) := by
  refine Ci.intro (lv := [(0, .ref (G.2.1 50)), (1, .int a0)]) RX2 rfl (by decide) kX2_readNumber (Nat.le_of_ble_eq_true rfl) rfl (fun X V M z F D hX hml E => ?_)
  unfold fX2_readNumber
  refine j_aload_n F dX2_readNumber_0 rfl 0 rfl ?_
  refine j_callVv (As := []) F D hX (mX2_skipBlanks l G) ce_50 rfl kX2_skipBlanks rfl gX2_readNumber_X2_skipBlanks ⟨rfl, rfl⟩ ⟨Nat.le_of_ble_eq_true rfl, Nat.le_of_ble_eq_true rfl⟩ rfl (Nat.le_of_ble_eq_true rfl) rfl dX2_readNumber_1 (fun w1 => ?_)
  refine j_aload_n F dX2_readNumber_4 rfl 0 rfl ?_
  refine j_callVi (As := []) F D hX (mX2_isFigureAt l G) ce_50 rfl kX2_isFigureAt rfl gX2_readNumber_X2_isFigureAt ⟨rfl, rfl⟩ ⟨Nat.le_of_ble_eq_true rfl, Nat.le_of_ble_eq_true rfl⟩ rfl (Nat.le_of_ble_eq_true rfl) rfl dX2_readNumber_5 (fun w2 => ?_)
  refine j_if_ne (tgt := 13) F dX2_readNumber_8 (by decide) ?_ ?_
  · refine j_aload_n F dX2_readNumber_13 rfl 0 rfl ?_
    refine j_getr (r := 51) F D ce_50 fl_X2_readNumber_9 rfl dX2_readNumber_14 ?_
    refine j_aload_n F dX2_readNumber_17 rfl 0 rfl ?_
    refine j_geti F D ce_50 fl_X2_readNumber_28 rfl dX2_readNumber_18 ?_
    refine j_iald F D ce_51 dX2_readNumber_21 (fun v3 => ?_)
    refine j_bipush (v := (48 : Int32)) F dX2_readNumber_22 (by decide) ?_
    refine j_isub F dX2_readNumber_24 ?_
    refine j_let (f := Value.int) (fun x4 => ?_)
    refine j_istore_n (lv' := [(2, .int x4), (0, .ref (G.2.1 50)), (1, .int a0)]) F dX2_readNumber_25 rfl (by rw [← hml]; decide) rfl ?_
    refine j_aload_n F dX2_readNumber_26 rfl 1 rfl ?_
    refine j_dup F rfl dX2_readNumber_27 ?_
    refine j_geti F D ce_50 fl_X2_readNumber_28 rfl dX2_readNumber_28 ?_
    refine j_iconst (v := (1 : Int32)) F dX2_readNumber_31 (by decide) ?_
    refine j_iadd F dX2_readNumber_32 ?_
    refine j_puti F D ce_50 fp_X2_readNumber_28 rfl rfl rfl dX2_readNumber_33 ?_
    refine j_letM (fun N5 => ?_)
    refine j_aload_n F dX2_readNumber_36 rfl 1 rfl ?_
    refine j_callVi (As := []) F D hX (mX2_isFigureAt l G) ce_50 rfl kX2_isFigureAt rfl gX2_readNumber_X2_isFigureAt ⟨rfl, rfl⟩ ⟨Nat.le_of_ble_eq_true rfl, Nat.le_of_ble_eq_true rfl⟩ rfl (Nat.le_of_ble_eq_true rfl) rfl dX2_readNumber_37 (fun w6 => ?_)
    refine j_jn (P := fun (K9 : Int32 → Mm → Option (Int32 × Mm)) => ∀ (x7 : Int32) (N8 : Mm), Jg X V z (K9 x7 N8) N8 71 [(0, .ref (G.2.1 50)), (1, .int a0), (2, .int x7)] []) ?_ (fun K9 hK9 => ?_)
    · intro x7 N8
      refine j_aload_n F dX2_readNumber_71 rfl 0 rfl ?_
      refine j_getr (r := 53) F D ce_50 fl_X2_readNumber_18 rfl dX2_readNumber_72 ?_
      refine j_aload_n F dX2_readNumber_75 rfl 0 rfl ?_
      refine j_geti F D ce_50 fl_X2_readNumber_25 rfl dX2_readNumber_76 ?_
      refine j_iconst (v := (3 : Int32)) F dX2_readNumber_79 (by decide) ?_
      refine j_imul F dX2_readNumber_80 ?_
      refine j_iload_n F dX2_readNumber_81 rfl 1 rfl ?_
      refine j_iadd F dX2_readNumber_82 ?_
      refine j_iload_n F dX2_readNumber_83 rfl 2 rfl ?_
      refine j_iast F D ce_53 dX2_readNumber_84 (fun N10 => ?_)
      refine j_aload_n F dX2_readNumber_85 rfl 0 rfl ?_
      refine j_callVi (As := []) F D hX (mX2_isFigureAt l G) ce_50 rfl kX2_isFigureAt rfl gX2_readNumber_X2_isFigureAt ⟨rfl, rfl⟩ ⟨Nat.le_of_ble_eq_true rfl, Nat.le_of_ble_eq_true rfl⟩ rfl (Nat.le_of_ble_eq_true rfl) rfl dX2_readNumber_86 (fun w11 => ?_)
      refine j_if_ne (tgt := 96) F dX2_readNumber_89 (by decide) ?_ ?_
      · refine j_iconst (v := (0 : Int32)) F dX2_readNumber_96 (by decide) ?_
        exact j_iret F D E rfl dX2_readNumber_97
      · refine j_iconst (v := (1 : Int32)) F dX2_readNumber_92 (by decide) ?_
        refine j_goto (tgt := 97) F dX2_readNumber_93 (by decide) ?_
        exact j_iret F D E rfl dX2_readNumber_97
    · refine j_if_eq (tgt := 71) F dX2_readNumber_40 (by decide) ?_ ?_
      · exact j_sub [1, 2, 0] rfl (hK9 x4 w6.2)
      · refine j_bipush (v := (10 : Int32)) F dX2_readNumber_43 (by decide) ?_
        refine j_iload_n F dX2_readNumber_45 rfl 0 rfl ?_
        refine j_imul F dX2_readNumber_46 ?_
        refine j_aload_n F dX2_readNumber_47 rfl 1 rfl ?_
        refine j_getr (r := 51) F D ce_50 fl_X2_readNumber_9 rfl dX2_readNumber_48 ?_
        refine j_aload_n F dX2_readNumber_51 rfl 1 rfl ?_
        refine j_geti F D ce_50 fl_X2_readNumber_28 rfl dX2_readNumber_52 ?_
        refine j_iald F D ce_51 dX2_readNumber_55 (fun v12 => ?_)
        refine j_iadd F dX2_readNumber_56 ?_
        refine j_bipush (v := (48 : Int32)) F dX2_readNumber_57 (by decide) ?_
        refine j_isub F dX2_readNumber_59 ?_
        refine j_let (f := Value.int) (fun x13 => ?_)
        refine j_istore_n (lv' := [(2, .int x13), (0, .ref (G.2.1 50)), (1, .int a0)]) F dX2_readNumber_60 rfl (by rw [← hml]; decide) rfl ?_
        refine j_aload_n F dX2_readNumber_61 rfl 1 rfl ?_
        refine j_dup F rfl dX2_readNumber_62 ?_
        refine j_geti F D ce_50 fl_X2_readNumber_28 rfl dX2_readNumber_63 ?_
        refine j_iconst (v := (1 : Int32)) F dX2_readNumber_66 (by decide) ?_
        refine j_iadd F dX2_readNumber_67 ?_
        refine j_puti F D ce_50 fp_X2_readNumber_28 rfl rfl rfl dX2_readNumber_68 ?_
        refine j_letM (fun N14 => ?_)
        exact j_sub [1, 2, 0] rfl (hK9 x13 N14)
  · refine j_iconst (v := (0 : Int32)) F dX2_readNumber_11 (by decide) ?_
    exact j_iret F D E rfl dX2_readNumber_12

/-! FlangeFolder$Script.readOrder -/
def lX2_readOrder_43 (K8 : Mm → Option (Int32 × Mm)) (c5 : Int32) : Nat → Int32 → Mm → Option (Int32 × Mm)
  | 0, _, _ => none
  | n11 + 1, x6, N7 => (if c5 ≤ x6 then K8 N7 else (fX2_readNumber x6 N7).bind (fun w12 => (if w12.1 = (0 : Int32) then some ((0 : Int32), w12.2) else lX2_readOrder_43 K8 c5 n11 (x6 + (1 : Int32)) w12.2)))
def fX2_readOrder (M : Mm) : Option (Int32 × Mm) := (rd M 51 120 (M.1 50 5)).bind (fun v1 => (fX2_numbersBehind v1 M).bind (fun w2 => (if (0 : Int32) ≤ w2.1 then (wr w2.2 52 60 (w2.2.1 50 4) v1).bind (fun N3 => lt (stI N3 50 5 ((N3.1 50 5) + (1 : Int32))) (fun N4 => lX2_readOrder_43 (fun (N9 : Mm) => (fX2_skipBlanks N9).bind (fun w13 => (if (w13.2.1 50 3) ≤ (w13.2.1 50 5) then some ((0 : Int32), w13.2) else (rd w13.2 51 120 (w13.2.1 50 5)).bind (fun v14 => (if v14 = (59 : Int32) then lt (stI w13.2 50 5 ((w13.2.1 50 5) + (1 : Int32))) (fun N15 => some ((1 : Int32), N15)) else some ((0 : Int32), w13.2)))))) w2.1 fu (0 : Int32) N4)) else some ((0 : Int32), w2.2))))
def rmX2_readOrder : Room := { frames := 2, cells := 0, slots := 0, locals := 42 }
theorem kX2_readOrder : Kc yX2_readOrder cX2_readOrder 4 (some .boolean) wsX2_readOrder 0 := ⟨⟨_, rfl⟩, by decide +kernel, by decide +kernel, by decide +kernel⟩
theorem ic_X2_readOrder_X2 : ∀ w ∈ u_ws RX2 TX2 6, w ∈ wsX2_readOrder := by decide +kernel
theorem fl_X2_readOrder_9 : Fl wsX2_readOrder RX2 9 2 0 := ⟨RX2, TX2, 6, rfl, by decide, ic_X2_readOrder_X2, by decide +kernel⟩
theorem fl_X2_readOrder_28 : Fl wsX2_readOrder RX2 28 2 5 := ⟨RX2, TX2, 6, rfl, by decide, ic_X2_readOrder_X2, by decide +kernel⟩
theorem fl_X2_readOrder_15 : Fl wsX2_readOrder RX2 15 2 1 := ⟨RX2, TX2, 6, rfl, by decide, ic_X2_readOrder_X2, by decide +kernel⟩
theorem fl_X2_readOrder_25 : Fl wsX2_readOrder RX2 25 2 4 := ⟨RX2, TX2, 6, rfl, by decide, ic_X2_readOrder_X2, by decide +kernel⟩
theorem fp_X2_readOrder_28 : Fp wsX2_readOrder RX2 28 2 5 .int := ⟨RX2, TX2, 6, tyX2, rfl, by decide, ic_X2_readOrder_X2, by decide +kernel, tyX2_ok, nmX2, rfl, rfl⟩
theorem fl_X2_readOrder_21 : Fl wsX2_readOrder RX2 21 2 3 := ⟨RX2, TX2, 6, rfl, by decide, ic_X2_readOrder_X2, by decide +kernel⟩
set_option maxHeartbeats 4000000 in
set_option maxRecDepth 100000 in
theorem mX2_readOrder (l : Launch) (G : Gg) : Ci l G SC yX2_readOrder wsX2_readOrder rmX2_readOrder [.ref (G.2.1 50)] fX2_readOrder := by
  refine Ci.intro (lv := [(0, .ref (G.2.1 50))]) RX2 rfl (by decide) kX2_readOrder (Nat.le_of_ble_eq_true rfl) rfl (fun X V M z F D hX hml E => ?_)
  unfold fX2_readOrder
  refine j_aload_n F dX2_readOrder_0 rfl 0 rfl ?_
  refine j_getr (r := 51) F D ce_50 fl_X2_readOrder_9 rfl dX2_readOrder_1 ?_
  refine j_aload_n F dX2_readOrder_4 rfl 0 rfl ?_
  refine j_geti F D ce_50 fl_X2_readOrder_28 rfl dX2_readOrder_5 ?_
  refine j_iald F D ce_51 dX2_readOrder_8 (fun v1 => ?_)
  refine j_istore_n (lv' := [(1, .int v1), (0, .ref (G.2.1 50))]) F dX2_readOrder_9 rfl (by rw [← hml]; decide) rfl ?_
  refine j_iload_n F dX2_readOrder_10 rfl 0 rfl ?_
  refine j_callSi (As := [.int v1]) F D hX (mX2_numbersBehind l G v1) kX2_numbersBehind gX2_readOrder_X2_numbersBehind ⟨rfl, rfl⟩ ⟨Nat.le_of_ble_eq_true rfl, Nat.le_of_ble_eq_true rfl⟩ rfl (Nat.le_of_ble_eq_true rfl) rfl dX2_readOrder_11 (fun w2 => ?_)
  refine j_istore_n (lv' := [(2, .int w2.1), (1, .int v1), (0, .ref (G.2.1 50))]) F dX2_readOrder_14 rfl (by rw [← hml]; decide) rfl ?_
  refine j_iload_n F dX2_readOrder_15 rfl 0 rfl ?_
  refine j_if_ge (tgt := 21) F dX2_readOrder_16 (by decide) ?_ ?_
  · refine j_aload_n F dX2_readOrder_21 rfl 2 rfl ?_
    refine j_getr (r := 52) F D ce_50 fl_X2_readOrder_15 rfl dX2_readOrder_22 ?_
    refine j_aload_n F dX2_readOrder_25 rfl 2 rfl ?_
    refine j_geti F D ce_50 fl_X2_readOrder_25 rfl dX2_readOrder_26 ?_
    refine j_iload_n F dX2_readOrder_29 rfl 1 rfl ?_
    refine j_iast F D ce_52 dX2_readOrder_30 (fun N3 => ?_)
    refine j_aload_n F dX2_readOrder_31 rfl 2 rfl ?_
    refine j_dup F rfl dX2_readOrder_32 ?_
    refine j_geti F D ce_50 fl_X2_readOrder_28 rfl dX2_readOrder_33 ?_
    refine j_iconst (v := (1 : Int32)) F dX2_readOrder_36 (by decide) ?_
    refine j_iadd F dX2_readOrder_37 ?_
    refine j_puti F D ce_50 fp_X2_readOrder_28 rfl rfl rfl dX2_readOrder_38 ?_
    refine j_letM (fun N4 => ?_)
    refine j_iconst (v := (0 : Int32)) F dX2_readOrder_41 (by decide) ?_
    refine j_istore_n (lv' := [(3, .int (0 : Int32)), (2, .int w2.1), (1, .int v1), (0, .ref (G.2.1 50))]) F dX2_readOrder_42 rfl (by rw [← hml]; decide) rfl ?_
    have hL16 : ∀ (K8 : Mm → Option (Int32 × Mm)) (c5 : Int32), (∀ (N9 : Mm), Jg X V z (K8 N9) N9 64 [(0, .ref (G.2.1 50))] []) → ∀ (n11 : Nat) (x6 : Int32) (N7 : Mm), Jg X V z (lX2_readOrder_43 K8 c5 n11 x6 N7) N7 43 [(0, .ref (G.2.1 50)), (2, .int c5), (3, .int x6)] [] := by
      intro K8 c5 hK8 n11
      induction n11 with
      | zero => intro x6 N7; rw [lX2_readOrder_43]; exact j_none
      | succ n11 ih10 =>
        intro x6 N7
        rw [lX2_readOrder_43]
        refine j_iload_n F dX2_readOrder_43 rfl 2 rfl ?_
        refine j_iload_n F dX2_readOrder_44 rfl 1 rfl ?_
        refine j_icmp_ge (tgt := 64) F dX2_readOrder_45 (by decide) ?_ ?_
        · exact j_sub [0] rfl (hK8 N7)
        · refine j_aload_n F dX2_readOrder_48 rfl 0 rfl ?_
          refine j_iload_n F dX2_readOrder_49 rfl 2 rfl ?_
          refine j_callVi (As := [.int x6]) F D hX (mX2_readNumber l G x6) ce_50 rfl kX2_readNumber rfl gX2_readOrder_X2_readNumber ⟨rfl, rfl⟩ ⟨Nat.le_of_ble_eq_true rfl, Nat.le_of_ble_eq_true rfl⟩ rfl (Nat.le_of_ble_eq_true rfl) rfl dX2_readOrder_50 (fun w12 => ?_)
          refine j_if_ne (tgt := 58) F dX2_readOrder_53 (by decide) ?_ ?_
          · refine j_iinc (v := (x6 + (1 : Int32))) (lv' := [(3, .int (x6 + (1 : Int32))), (0, .ref (G.2.1 50)), (2, .int c5)]) F dX2_readOrder_58 2 rfl rfl (by rw [← hml]; decide) rfl ?_
            refine j_goto (tgt := 43) F dX2_readOrder_61 (by decide) ?_
            exact j_sub [1, 2, 0] rfl (ih10 (x6 + (1 : Int32)) w12.2)
          · refine j_iconst (v := (0 : Int32)) F dX2_readOrder_56 (by decide) ?_
            exact j_iret F D E rfl dX2_readOrder_57
    refine j_sub [3, 1, 0] rfl (hL16 _ w2.1 ?_ fu (0 : Int32) N4)
    intro N9
    refine j_aload_n F dX2_readOrder_64 rfl 0 rfl ?_
    refine j_callVv (As := []) F D hX (mX2_skipBlanks l G) ce_50 rfl kX2_skipBlanks rfl gX2_readOrder_X2_skipBlanks ⟨rfl, rfl⟩ ⟨Nat.le_of_ble_eq_true rfl, Nat.le_of_ble_eq_true rfl⟩ rfl (Nat.le_of_ble_eq_true rfl) rfl dX2_readOrder_65 (fun w13 => ?_)
    refine j_aload_n F dX2_readOrder_68 rfl 0 rfl ?_
    refine j_geti F D ce_50 fl_X2_readOrder_28 rfl dX2_readOrder_69 ?_
    refine j_aload_n F dX2_readOrder_72 rfl 0 rfl ?_
    refine j_geti F D ce_50 fl_X2_readOrder_21 rfl dX2_readOrder_73 ?_
    refine j_icmp_ge (tgt := 93) F dX2_readOrder_76 (by decide) ?_ ?_
    · refine j_iconst (v := (0 : Int32)) F dX2_readOrder_93 (by decide) ?_
      exact j_iret F D E rfl dX2_readOrder_94
    · refine j_aload_n F dX2_readOrder_79 rfl 0 rfl ?_
      refine j_getr (r := 51) F D ce_50 fl_X2_readOrder_9 rfl dX2_readOrder_80 ?_
      refine j_aload_n F dX2_readOrder_83 rfl 0 rfl ?_
      refine j_geti F D ce_50 fl_X2_readOrder_28 rfl dX2_readOrder_84 ?_
      refine j_iald F D ce_51 dX2_readOrder_87 (fun v14 => ?_)
      refine j_bipush (v := (59 : Int32)) F dX2_readOrder_88 (by decide) ?_
      refine j_icmp_eq (tgt := 95) F dX2_readOrder_90 (by decide) ?_ ?_
      · refine j_aload_n F dX2_readOrder_95 rfl 0 rfl ?_
        refine j_dup F rfl dX2_readOrder_96 ?_
        refine j_geti F D ce_50 fl_X2_readOrder_28 rfl dX2_readOrder_97 ?_
        refine j_iconst (v := (1 : Int32)) F dX2_readOrder_100 (by decide) ?_
        refine j_iadd F dX2_readOrder_101 ?_
        refine j_puti F D ce_50 fp_X2_readOrder_28 rfl rfl rfl dX2_readOrder_102 ?_
        refine j_letM (fun N15 => ?_)
        refine j_iconst (v := (1 : Int32)) F dX2_readOrder_105 (by decide) ?_
        exact j_iret F D E rfl dX2_readOrder_106
      · refine j_iconst (v := (0 : Int32)) F dX2_readOrder_93 (by decide) ?_
        exact j_iret F D E rfl dX2_readOrder_94
  · refine j_iconst (v := (0 : Int32)) F dX2_readOrder_19 (by decide) ?_
    exact j_iret F D E rfl dX2_readOrder_20

/-! FlangeFolder$Script.read -/
def lX2_read_30 (K5 : Mm → Option (Int32 × Mm))  : Nat → Mm → Option (Int32 × Mm)
  | 0, _ => none
  | n8 + 1, N4 => (if (N4.1 50 3) ≤ (N4.1 50 5) then K5 N4 else (if (60 : Int32) ≤ (N4.1 50 4) then K5 N4 else (fX2_readOrder N4).bind (fun w9 => (if w9.1 = (0 : Int32) then some ((w9.2.1 50 5), w9.2) else lt (stI w9.2 50 4 ((w9.2.1 50 4) + (1 : Int32))) (fun N10 => (fX2_skipBlanks N10).bind (fun w11 => lX2_read_30 K5 n8 w11.2))))))
def fX2_read (M : Mm) : Option (Int32 × Mm) := lt (stI M 50 5 (0 : Int32)) (fun N1 => lt (stI N1 50 4 (0 : Int32)) (fun N2 => (fX2_skipBlanks N2).bind (fun w3 => (if (w3.2.1 50 5) < (w3.2.1 50 3) then lX2_read_30 (fun (N6 : Mm) => some ((-1 : Int32), N6))  fu w3.2 else some ((w3.2.1 50 3), w3.2)))))
def rmX2_read : Room := { frames := 3, cells := 0, slots := 0, locals := 65 }
theorem kX2_read : Kc yX2_read cX2_read 1 (some .int) wsX2_read 0 := ⟨⟨_, rfl⟩, by decide +kernel, by decide +kernel, by decide +kernel⟩
theorem ic_X2_read_X2 : ∀ w ∈ u_ws RX2 TX2 6, w ∈ wsX2_read := by decide +kernel
theorem fp_X2_read_28 : Fp wsX2_read RX2 28 2 5 .int := ⟨RX2, TX2, 6, tyX2, rfl, by decide, ic_X2_read_X2, by decide +kernel, tyX2_ok, nmX2, rfl, rfl⟩
theorem fp_X2_read_25 : Fp wsX2_read RX2 25 2 4 .int := ⟨RX2, TX2, 6, tyX2, rfl, by decide, ic_X2_read_X2, by decide +kernel, tyX2_ok, nmX2, rfl, rfl⟩
theorem fl_X2_read_28 : Fl wsX2_read RX2 28 2 5 := ⟨RX2, TX2, 6, rfl, by decide, ic_X2_read_X2, by decide +kernel⟩
theorem fl_X2_read_21 : Fl wsX2_read RX2 21 2 3 := ⟨RX2, TX2, 6, rfl, by decide, ic_X2_read_X2, by decide +kernel⟩
theorem fl_X2_read_25 : Fl wsX2_read RX2 25 2 4 := ⟨RX2, TX2, 6, rfl, by decide, ic_X2_read_X2, by decide +kernel⟩
set_option maxHeartbeats 4000000 in
set_option maxRecDepth 100000 in
theorem mX2_read (l : Launch) (G : Gg) : Ci l G SC yX2_read wsX2_read rmX2_read [.ref (G.2.1 50)] fX2_read := by
  refine Ci.intro (lv := [(0, .ref (G.2.1 50))]) RX2 rfl (by decide) kX2_read (Nat.le_of_ble_eq_true rfl) rfl (fun X V M z F D hX hml E => ?_)
  unfold fX2_read
  refine j_aload_n F dX2_read_0 rfl 0 rfl ?_
  refine j_iconst (v := (0 : Int32)) F dX2_read_1 (by decide) ?_
  refine j_puti F D ce_50 fp_X2_read_28 rfl rfl rfl dX2_read_2 ?_
  refine j_letM (fun N1 => ?_)
  refine j_aload_n F dX2_read_5 rfl 0 rfl ?_
  refine j_iconst (v := (0 : Int32)) F dX2_read_6 (by decide) ?_
  refine j_puti F D ce_50 fp_X2_read_25 rfl rfl rfl dX2_read_7 ?_
  refine j_letM (fun N2 => ?_)
  refine j_aload_n F dX2_read_10 rfl 0 rfl ?_
  refine j_callVv (As := []) F D hX (mX2_skipBlanks l G) ce_50 rfl kX2_skipBlanks rfl gX2_read_X2_skipBlanks ⟨rfl, rfl⟩ ⟨Nat.le_of_ble_eq_true rfl, Nat.le_of_ble_eq_true rfl⟩ rfl (Nat.le_of_ble_eq_true rfl) rfl dX2_read_11 (fun w3 => ?_)
  refine j_aload_n F dX2_read_14 rfl 0 rfl ?_
  refine j_geti F D ce_50 fl_X2_read_28 rfl dX2_read_15 ?_
  refine j_aload_n F dX2_read_18 rfl 0 rfl ?_
  refine j_geti F D ce_50 fl_X2_read_21 rfl dX2_read_19 ?_
  refine j_icmp_lt (tgt := 30) F dX2_read_22 (by decide) ?_ ?_
  · have hL12 : ∀ (K5 : Mm → Option (Int32 × Mm)) , (∀ (N6 : Mm), Jg X V z (K5 N6) N6 79 [] []) → ∀ (n8 : Nat) (N4 : Mm), Jg X V z (lX2_read_30 K5 n8 N4) N4 30 [(0, .ref (G.2.1 50))] [] := by
      intro K5  hK5 n8
      induction n8 with
      | zero => intro N4; rw [lX2_read_30]; exact j_none
      | succ n8 ih7 =>
        intro N4
        rw [lX2_read_30]
        refine j_aload_n F dX2_read_30 rfl 0 rfl ?_
        refine j_geti F D ce_50 fl_X2_read_28 rfl dX2_read_31 ?_
        refine j_aload_n F dX2_read_34 rfl 0 rfl ?_
        refine j_geti F D ce_50 fl_X2_read_21 rfl dX2_read_35 ?_
        refine j_icmp_ge (tgt := 79) F dX2_read_38 (by decide) ?_ ?_
        · exact j_sub [] rfl (hK5 N4)
        · refine j_aload_n F dX2_read_41 rfl 0 rfl ?_
          refine j_geti F D ce_50 fl_X2_read_25 rfl dX2_read_42 ?_
          refine j_bipush (v := (60 : Int32)) F dX2_read_45 (by decide) ?_
          refine j_icmp_ge (tgt := 79) F dX2_read_47 (by decide) ?_ ?_
          · exact j_sub [] rfl (hK5 N4)
          · refine j_aload_n F dX2_read_50 rfl 0 rfl ?_
            refine j_callVi (As := []) F D hX (mX2_readOrder l G) ce_50 rfl kX2_readOrder rfl gX2_read_X2_readOrder ⟨rfl, rfl⟩ ⟨Nat.le_of_ble_eq_true rfl, Nat.le_of_ble_eq_true rfl⟩ rfl (Nat.le_of_ble_eq_true rfl) rfl dX2_read_51 (fun w9 => ?_)
            refine j_if_ne (tgt := 62) F dX2_read_54 (by decide) ?_ ?_
            · refine j_aload_n F dX2_read_62 rfl 0 rfl ?_
              refine j_dup F rfl dX2_read_63 ?_
              refine j_geti F D ce_50 fl_X2_read_25 rfl dX2_read_64 ?_
              refine j_iconst (v := (1 : Int32)) F dX2_read_67 (by decide) ?_
              refine j_iadd F dX2_read_68 ?_
              refine j_puti F D ce_50 fp_X2_read_25 rfl rfl rfl dX2_read_69 ?_
              refine j_letM (fun N10 => ?_)
              refine j_aload_n F dX2_read_72 rfl 0 rfl ?_
              refine j_callVv (As := []) F D hX (mX2_skipBlanks l G) ce_50 rfl kX2_skipBlanks rfl gX2_read_X2_skipBlanks ⟨rfl, rfl⟩ ⟨Nat.le_of_ble_eq_true rfl, Nat.le_of_ble_eq_true rfl⟩ rfl (Nat.le_of_ble_eq_true rfl) rfl dX2_read_73 (fun w11 => ?_)
              refine j_goto (tgt := 30) F dX2_read_76 (by decide) ?_
              exact j_sub [0] rfl (ih7 w11.2)
            · refine j_aload_n F dX2_read_57 rfl 0 rfl ?_
              refine j_geti F D ce_50 fl_X2_read_28 rfl dX2_read_58 ?_
              exact j_iret F D E rfl dX2_read_61
    refine j_sub [0] rfl (hL12 _  ?_ fu w3.2)
    intro N6
    refine j_iconst (v := (-1 : Int32)) F dX2_read_79 (by decide) ?_
    exact j_iret F D E rfl dX2_read_80
  · refine j_aload_n F dX2_read_25 rfl 0 rfl ?_
    refine j_geti F D ce_50 fl_X2_read_21 rfl dX2_read_26 ?_
    exact j_iret F D E rfl dX2_read_29
