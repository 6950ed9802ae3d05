/-! FlangeFolderModel.changesBy -/
def fX7_changesBy (a0 : Int32) (a1 : Int32) (a2 : Int32) (M : Mm) : Option (Int32 × Mm) := (rd M 55 26 ((14 : Int32) + a2)).bind (fun v1 => (rd M 65 256 (((4 : Int32) * (a0 ||| ((1 : Int32) <<< (a2 &&& 31)))) + v1)).bind (fun v2 => (if (3 : Int32) ≤ a1 then some ((v2 + (0 : Int32)), M) else (if a1 = v1 then some ((v2 + (0 : Int32)), M) else some ((v2 + (1 : Int32)), M)))))
def rmX7_changesBy : Room := { frames := 0, cells := 0, slots := 0, locals := 0 }
theorem kX7_changesBy : Kc yX7_changesBy cX7_changesBy 5 (some .int) wsX7_changesBy 3 := ⟨⟨_, rfl⟩, by decide +kernel, by decide +kernel, by decide +kernel⟩
theorem ic_X7_changesBy_X7 : ∀ w ∈ u_ws RX7 TX7 19, w ∈ wsX7_changesBy := by decide +kernel
theorem fl_X7_changesBy_7 : Fl wsX7_changesBy RX7 7 7 0 := ⟨RX7, TX7, 19, rfl, by decide, ic_X7_changesBy_X7, by decide +kernel⟩
theorem fl_X7_changesBy_40 : Fl wsX7_changesBy RX7 40 7 12 := ⟨RX7, TX7, 19, rfl, by decide, ic_X7_changesBy_X7, by decide +kernel⟩
set_option maxHeartbeats 4000000 in
set_option maxRecDepth 100000 in
theorem mX7_changesBy (l : Launch) (G : Gg) (a0 : Int32) (a1 : Int32) (a2 : Int32) : Ci l G SM yX7_changesBy wsX7_changesBy rmX7_changesBy [.ref (G.2.1 54), .int a0, .int a1, .int a2] (fX7_changesBy a0 a1 a2) := by
  refine Ci.intro (lv := [(0, .ref (G.2.1 54)), (1, .int a0), (2, .int a1), (3, .int a2)]) RX7 rfl (by decide) kX7_changesBy (Nat.le_of_ble_eq_true rfl) rfl (fun X V M z F D hX hml E => ?_)
  unfold fX7_changesBy
  refine j_aload_n F dX7_changesBy_0 rfl 0 rfl ?_
  refine j_getr (r := 55) F D ce_54 fl_X7_changesBy_7 rfl dX7_changesBy_1 ?_
  refine j_bipush (v := (14 : Int32)) F dX7_changesBy_4 (by decide) ?_
  refine j_iload_n F dX7_changesBy_6 rfl 3 rfl ?_
  refine j_iadd F dX7_changesBy_7 ?_
  refine j_iald F D ce_55 dX7_changesBy_8 (fun v1 => ?_)
  refine j_istore (lv' := [(4, .int v1), (0, .ref (G.2.1 54)), (1, .int a0), (2, .int a1), (3, .int a2)]) F dX7_changesBy_9 (by rw [← hml]; decide) rfl ?_
  refine j_aload_n F dX7_changesBy_11 rfl 1 rfl ?_
  refine j_getr (r := 65) F D ce_54 fl_X7_changesBy_40 rfl dX7_changesBy_12 ?_
  refine j_iconst (v := (4 : Int32)) F dX7_changesBy_15 (by decide) ?_
  refine j_iload_n F dX7_changesBy_16 rfl 2 rfl ?_
  refine j_iconst (v := (1 : Int32)) F dX7_changesBy_17 (by decide) ?_
  refine j_iload_n F dX7_changesBy_18 rfl 4 rfl ?_
  refine j_ishl F dX7_changesBy_19 ?_
  refine j_ior F dX7_changesBy_20 ?_
  refine j_imul F dX7_changesBy_21 ?_
  refine j_iload F dX7_changesBy_22 0 rfl ?_
  refine j_iadd F dX7_changesBy_24 ?_
  refine j_iald F D ce_65 dX7_changesBy_25 (fun v2 => ?_)
  refine j_iload_n F dX7_changesBy_26 rfl 3 rfl ?_
  refine j_iconst (v := (3 : Int32)) F dX7_changesBy_27 (by decide) ?_
  refine j_icmp_ge (tgt := 41) F dX7_changesBy_28 (by decide) ?_ ?_
  · refine j_iconst (v := (0 : Int32)) F dX7_changesBy_41 (by decide) ?_
    refine j_iadd F dX7_changesBy_42 ?_
    exact j_iret F D E rfl dX7_changesBy_43
  · refine j_iload_n F dX7_changesBy_31 rfl 3 rfl ?_
    refine j_iload F dX7_changesBy_32 0 rfl ?_
    refine j_icmp_eq (tgt := 41) F dX7_changesBy_34 (by decide) ?_ ?_
    · refine j_iconst (v := (0 : Int32)) F dX7_changesBy_41 (by decide) ?_
      refine j_iadd F dX7_changesBy_42 ?_
      exact j_iret F D E rfl dX7_changesBy_43
    · refine j_iconst (v := (1 : Int32)) F dX7_changesBy_37 (by decide) ?_
      refine j_goto (tgt := 42) F dX7_changesBy_38 (by decide) ?_
      refine j_iadd F dX7_changesBy_42 ?_
      exact j_iret F D E rfl dX7_changesBy_43

/-! FlangeFolderModel.laysOrders -/
def lX7_laysOrders_37 (K16 : Mm → Option (Unit × Mm)) (c13 : Int32) : Nat → Int32 → Mm → Option (Unit × Mm)
  | 0, _, _ => none
  | n19 + 1, x14, N15 => (if (4 : Int32) ≤ x14 then K16 N15 else (fX7_allMade N15).bind (fun w20 => (if c13 = w20.1 then (wr w20.2 65 256 (((4 : Int32) * c13) + x14) (0 : Int32)).bind (fun N22 => lX7_laysOrders_37 K16 c13 n19 (x14 + (1 : Int32)) N22) else (wr w20.2 65 256 (((4 : Int32) * c13) + x14) (1000 : Int32)).bind (fun N21 => lX7_laysOrders_37 K16 c13 n19 (x14 + (1 : Int32)) N21))))
def lX7_laysOrders_127 (K41 : Mm → Option (Unit × Mm)) (c37 : Int32) (c38 : Int32) : Nat → Int32 → Mm → Option (Unit × Mm)
  | 0, _, _ => none
  | n44 + 1, x39, N40 => (if (4 : Int32) ≤ x39 then K41 N40 else (rd N40 65 256 (((4 : Int32) * c37) + x39)).bind (fun v45 => (fX7_changesBy c37 x39 c38 N40).bind (fun w46 => (fX7_lesser v45 w46.1 w46.2).bind (fun w47 => (wr w47.2 65 256 (((4 : Int32) * c37) + x39) w47.1).bind (fun N48 => lX7_laysOrders_127 K41 c37 c38 n44 (x39 + (1 : Int32)) N48)))))
def lX7_laysOrders_75 (K26 : Mm → Option (Unit × Mm)) (c23 : Int32) : Nat → Int32 → Mm → Option (Unit × Mm)
  | 0, _, _ => none
  | n29 + 1, x24, N25 => (rd N25 55 26 (0 : Int32)).bind (fun v30 => (if v30 ≤ x24 then K26 N25 else (fX7_isFree x24 c23 N25).bind (fun w31 => (if w31.1 = (0 : Int32) then lX7_laysOrders_75 K26 c23 n29 (x24 + (1 : Int32)) w31.2 else (rd w31.2 63 64 c23).bind (fun v32 => (wr w31.2 63 64 c23 (v32 ||| ((1 : Int32) <<< (x24 &&& 31)))).bind (fun N33 => (rd N33 64 64 c23).bind (fun v34 => (rd N33 64 64 (c23 ||| ((1 : Int32) <<< (x24 &&& 31)))).bind (fun v35 => (wr N33 64 64 c23 (v34 + v35)).bind (fun N36 => lX7_laysOrders_127 (fun (N42 : Mm) => lX7_laysOrders_75 K26 c23 n29 (x24 + (1 : Int32)) N42) c23 x24 fu (0 : Int32) N36)))))))))
def lX7_laysOrders_5 (K4 : Mm → Option (Unit × Mm))  : Nat → Int32 → Mm → Option (Unit × Mm)
  | 0, _, _ => none
  | n7 + 1, x2, N3 => (if x2 < (0 : Int32) then K4 N3 else (wr N3 63 64 x2 (0 : Int32)).bind (fun N8 => (fX7_allMade N8).bind (fun w9 => jn (fun (x10 : Int32) => (wr w9.2 64 64 x2 x10).bind (fun N12 => lX7_laysOrders_37 (fun (N17 : Mm) => lX7_laysOrders_75 (fun (N27 : Mm) => lX7_laysOrders_5 K4 n7 (x2 + (-1 : Int32)) N27) x2 fu (0 : Int32) N17) x2 fu (0 : Int32) N12)) (fun K11 => (if x2 = w9.1 then K11 (1 : Int32) else K11 (0 : Int32))))))
def fX7_laysOrders (M : Mm) : Option (Unit × Mm) := (fX7_allMade M).bind (fun w1 => lX7_laysOrders_5 (fun (N5 : Mm) => some ((), N5))  fu w1.1 w1.2)
def rmX7_laysOrders : Room := { frames := 4, cells := 0, slots := 0, locals := 100 }
theorem kX7_laysOrders : Kc yX7_laysOrders cX7_laysOrders 4 none wsX7_laysOrders 0 := ⟨⟨_, rfl⟩, by decide +kernel, by decide +kernel, by decide +kernel⟩
theorem ic_X7_laysOrders_X7 : ∀ w ∈ u_ws RX7 TX7 19, w ∈ wsX7_laysOrders := by decide +kernel
theorem fl_X7_laysOrders_34 : Fl wsX7_laysOrders RX7 34 7 10 := ⟨RX7, TX7, 19, rfl, by decide, ic_X7_laysOrders_X7, by decide +kernel⟩
theorem fl_X7_laysOrders_37 : Fl wsX7_laysOrders RX7 37 7 11 := ⟨RX7, TX7, 19, rfl, by decide, ic_X7_laysOrders_X7, by decide +kernel⟩
theorem fl_X7_laysOrders_40 : Fl wsX7_laysOrders RX7 40 7 12 := ⟨RX7, TX7, 19, rfl, by decide, ic_X7_laysOrders_X7, by decide +kernel⟩
theorem fl_X7_laysOrders_7 : Fl wsX7_laysOrders RX7 7 7 0 := ⟨RX7, TX7, 19, rfl, by decide, ic_X7_laysOrders_X7, by decide +kernel⟩
set_option maxHeartbeats 4000000 in
set_option maxRecDepth 100000 in
theorem mX7_laysOrders (l : Launch) (G : Gg) : Cv l G SM yX7_laysOrders wsX7_laysOrders rmX7_laysOrders [.ref (G.2.1 54)] fX7_laysOrders := by
  refine Cv.intro (lv := [(0, .ref (G.2.1 54))]) RX7 rfl (by decide) kX7_laysOrders (Nat.le_of_ble_eq_true rfl) rfl (fun X V M z F D hX hml E => ?_)
  unfold fX7_laysOrders
  refine j_aload_n F dX7_laysOrders_0 rfl 0 rfl ?_
  refine j_callVi (As := []) F D hX (mX7_allMade l G) ce_54 rfl kX7_allMade rfl gX7_laysOrders_X7_allMade ⟨rfl, rfl⟩ ⟨Nat.le_of_ble_eq_true rfl, Nat.le_of_ble_eq_true rfl⟩ rfl (Nat.le_of_ble_eq_true rfl) rfl dX7_laysOrders_1 (fun w1 => ?_)
  refine j_istore_n (lv' := [(1, .int w1.1), (0, .ref (G.2.1 54))]) F dX7_laysOrders_4 rfl (by rw [← hml]; decide) rfl ?_
  have hL52 : ∀ (K4 : Mm → Option (Unit × Mm)) , (∀ (N5 : Mm), Jg X V z (K4 N5) N5 180 [] []) → ∀ (n7 : Nat) (x2 : Int32) (N3 : Mm), Jg X V z (lX7_laysOrders_5 K4 n7 x2 N3) N3 5 [(0, .ref (G.2.1 54)), (1, .int x2)] [] := by
    intro K4  hK4 n7
    induction n7 with
    | zero => intro x2 N3; rw [lX7_laysOrders_5]; exact j_none
    | succ n7 ih6 =>
      intro x2 N3
      rw [lX7_laysOrders_5]
      refine j_iload_n F dX7_laysOrders_5 rfl 1 rfl ?_
      refine j_if_lt (tgt := 180) F dX7_laysOrders_6 (by decide) ?_ ?_
      · exact j_sub [] rfl (hK4 N3)
      · refine j_aload_n F dX7_laysOrders_9 rfl 0 rfl ?_
        refine j_getr (r := 63) F D ce_54 fl_X7_laysOrders_34 rfl dX7_laysOrders_10 ?_
        refine j_iload_n F dX7_laysOrders_13 rfl 1 rfl ?_
        refine j_iconst (v := (0 : Int32)) F dX7_laysOrders_14 (by decide) ?_
        refine j_iast F D ce_63 dX7_laysOrders_15 (fun N8 => ?_)
        refine j_aload_n F dX7_laysOrders_16 rfl 0 rfl ?_
        refine j_getr (r := 64) F D ce_54 fl_X7_laysOrders_37 rfl dX7_laysOrders_17 ?_
        refine j_iload_n F dX7_laysOrders_20 rfl 1 rfl ?_
        refine j_iload_n F dX7_laysOrders_21 rfl 1 rfl ?_
        refine j_aload_n F dX7_laysOrders_22 rfl 0 rfl ?_
        refine j_callVi (As := []) F D hX (mX7_allMade l G) ce_54 rfl kX7_allMade rfl gX7_laysOrders_X7_allMade ⟨rfl, rfl⟩ ⟨Nat.le_of_ble_eq_true rfl, Nat.le_of_ble_eq_true rfl⟩ rfl (Nat.le_of_ble_eq_true rfl) rfl dX7_laysOrders_23 (fun w9 => ?_)
        refine j_jn (P := fun (K11 : Int32 → Option (Unit × Mm)) => ∀ (x10 : Int32), Jg X V z (K11 x10) w9.2 34 [(0, .ref (G.2.1 54)), (1, .int x2)] [.int x10, .int x2, .ref (G.2.1 64)]) ?_ (fun K11 hK11 => ?_)
        · intro x10
          refine j_iast F D ce_64 dX7_laysOrders_34 (fun N12 => ?_)
          refine j_iconst (v := (0 : Int32)) F dX7_laysOrders_35 (by decide) ?_
          refine j_istore_n (lv' := [(2, .int (0 : Int32)), (0, .ref (G.2.1 54)), (1, .int x2)]) F dX7_laysOrders_36 rfl (by rw [← hml]; decide) rfl ?_
          have hL51 : ∀ (K16 : Mm → Option (Unit × Mm)) (c13 : Int32), (∀ (N17 : Mm), Jg X V z (K16 N17) N17 73 [(0, .ref (G.2.1 54)), (1, .int c13)] []) → ∀ (n19 : Nat) (x14 : Int32) (N15 : Mm), Jg X V z (lX7_laysOrders_37 K16 c13 n19 x14 N15) N15 37 [(0, .ref (G.2.1 54)), (1, .int c13), (2, .int x14)] [] := by
            intro K16 c13 hK16 n19
            induction n19 with
            | zero => intro x14 N15; rw [lX7_laysOrders_37]; exact j_none
            | succ n19 ih18 =>
              intro x14 N15
              rw [lX7_laysOrders_37]
              refine j_iload_n F dX7_laysOrders_37 rfl 2 rfl ?_
              refine j_iconst (v := (4 : Int32)) F dX7_laysOrders_38 (by decide) ?_
              refine j_icmp_ge (tgt := 73) F dX7_laysOrders_39 (by decide) ?_ ?_
              · exact j_sub [0, 1] rfl (hK16 N15)
              · refine j_aload_n F dX7_laysOrders_42 rfl 0 rfl ?_
                refine j_getr (r := 65) F D ce_54 fl_X7_laysOrders_40 rfl dX7_laysOrders_43 ?_
                refine j_iconst (v := (4 : Int32)) F dX7_laysOrders_46 (by decide) ?_
                refine j_iload_n F dX7_laysOrders_47 rfl 1 rfl ?_
                refine j_imul F dX7_laysOrders_48 ?_
                refine j_iload_n F dX7_laysOrders_49 rfl 2 rfl ?_
                refine j_iadd F dX7_laysOrders_50 ?_
                refine j_iload_n F dX7_laysOrders_51 rfl 1 rfl ?_
                refine j_aload_n F dX7_laysOrders_52 rfl 0 rfl ?_
                refine j_callVi (As := []) F D hX (mX7_allMade l G) ce_54 rfl kX7_allMade rfl gX7_laysOrders_X7_allMade ⟨rfl, rfl⟩ ⟨Nat.le_of_ble_eq_true rfl, Nat.le_of_ble_eq_true rfl⟩ rfl (Nat.le_of_ble_eq_true rfl) rfl dX7_laysOrders_53 (fun w20 => ?_)
                refine j_icmp_ne (tgt := 63) F dX7_laysOrders_56 (by decide) ?_ ?_
                · refine j_sipush (v := (1000 : Int32)) F dX7_laysOrders_63 (by decide) ?_
                  refine j_iast F D ce_65 dX7_laysOrders_66 (fun N21 => ?_)
                  refine j_iinc (v := (x14 + (1 : Int32))) (lv' := [(2, .int (x14 + (1 : Int32))), (0, .ref (G.2.1 54)), (1, .int c13)]) F dX7_laysOrders_67 2 rfl rfl (by rw [← hml]; decide) rfl ?_
                  refine j_goto (tgt := 37) F dX7_laysOrders_70 (by decide) ?_
                  exact j_sub [1, 2, 0] rfl (ih18 (x14 + (1 : Int32)) N21)
                · refine j_iconst (v := (0 : Int32)) F dX7_laysOrders_59 (by decide) ?_
                  refine j_goto (tgt := 66) F dX7_laysOrders_60 (by decide) ?_
                  refine j_iast F D ce_65 dX7_laysOrders_66 (fun N22 => ?_)
                  refine j_iinc (v := (x14 + (1 : Int32))) (lv' := [(2, .int (x14 + (1 : Int32))), (0, .ref (G.2.1 54)), (1, .int c13)]) F dX7_laysOrders_67 2 rfl rfl (by rw [← hml]; decide) rfl ?_
                  refine j_goto (tgt := 37) F dX7_laysOrders_70 (by decide) ?_
                  exact j_sub [1, 2, 0] rfl (ih18 (x14 + (1 : Int32)) N22)
          refine j_sub [1, 2, 0] rfl (hL51 _ x2 ?_ fu (0 : Int32) N12)
          intro N17
          refine j_iconst (v := (0 : Int32)) F dX7_laysOrders_73 (by decide) ?_
          refine j_istore_n (lv' := [(2, .int (0 : Int32)), (0, .ref (G.2.1 54)), (1, .int x2)]) F dX7_laysOrders_74 rfl (by rw [← hml]; decide) rfl ?_
          have hL50 : ∀ (K26 : Mm → Option (Unit × Mm)) (c23 : Int32), (∀ (N27 : Mm), Jg X V z (K26 N27) N27 174 [(0, .ref (G.2.1 54)), (1, .int c23)] []) → ∀ (n29 : Nat) (x24 : Int32) (N25 : Mm), Jg X V z (lX7_laysOrders_75 K26 c23 n29 x24 N25) N25 75 [(0, .ref (G.2.1 54)), (1, .int c23), (2, .int x24)] [] := by
            intro K26 c23 hK26 n29
            induction n29 with
            | zero => intro x24 N25; rw [lX7_laysOrders_75]; exact j_none
            | succ n29 ih28 =>
              intro x24 N25
              rw [lX7_laysOrders_75]
              refine j_iload_n F dX7_laysOrders_75 rfl 2 rfl ?_
              refine j_aload_n F dX7_laysOrders_76 rfl 0 rfl ?_
              refine j_getr (r := 55) F D ce_54 fl_X7_laysOrders_7 rfl dX7_laysOrders_77 ?_
              refine j_iconst (v := (0 : Int32)) F dX7_laysOrders_80 (by decide) ?_
              refine j_iald F D ce_55 dX7_laysOrders_81 (fun v30 => ?_)
              refine j_icmp_ge (tgt := 174) F dX7_laysOrders_82 (by decide) ?_ ?_
              · exact j_sub [0, 1] rfl (hK26 N25)
              · refine j_aload_n F dX7_laysOrders_85 rfl 0 rfl ?_
                refine j_iload_n F dX7_laysOrders_86 rfl 2 rfl ?_
                refine j_iload_n F dX7_laysOrders_87 rfl 1 rfl ?_
                refine j_callVi (As := [.int x24, .int c23]) F D hX (mX7_isFree l G x24 c23) ce_54 rfl kX7_isFree rfl gX7_laysOrders_X7_isFree ⟨rfl, rfl⟩ ⟨Nat.le_of_ble_eq_true rfl, Nat.le_of_ble_eq_true rfl⟩ rfl (Nat.le_of_ble_eq_true rfl) rfl dX7_laysOrders_88 (fun w31 => ?_)
                refine j_if_eq (tgt := 168) F dX7_laysOrders_91 (by decide) ?_ ?_
                · refine j_iinc (v := (x24 + (1 : Int32))) (lv' := [(2, .int (x24 + (1 : Int32))), (0, .ref (G.2.1 54)), (1, .int c23)]) F dX7_laysOrders_168 2 rfl rfl (by rw [← hml]; decide) rfl ?_
                  refine j_goto (tgt := 75) F dX7_laysOrders_171 (by decide) ?_
                  exact j_sub [1, 2, 0] rfl (ih28 (x24 + (1 : Int32)) w31.2)
                · refine j_aload_n F dX7_laysOrders_94 rfl 0 rfl ?_
                  refine j_getr (r := 63) F D ce_54 fl_X7_laysOrders_34 rfl dX7_laysOrders_95 ?_
                  refine j_iload_n F dX7_laysOrders_98 rfl 1 rfl ?_
                  refine j_dup2 F rfl rfl dX7_laysOrders_99 ?_
                  refine j_iald F D ce_63 dX7_laysOrders_100 (fun v32 => ?_)
                  refine j_iconst (v := (1 : Int32)) F dX7_laysOrders_101 (by decide) ?_
                  refine j_iload_n F dX7_laysOrders_102 rfl 2 rfl ?_
                  refine j_ishl F dX7_laysOrders_103 ?_
                  refine j_ior F dX7_laysOrders_104 ?_
                  refine j_iast F D ce_63 dX7_laysOrders_105 (fun N33 => ?_)
                  refine j_aload_n F dX7_laysOrders_106 rfl 0 rfl ?_
                  refine j_getr (r := 64) F D ce_54 fl_X7_laysOrders_37 rfl dX7_laysOrders_107 ?_
                  refine j_iload_n F dX7_laysOrders_110 rfl 1 rfl ?_
                  refine j_dup2 F rfl rfl dX7_laysOrders_111 ?_
                  refine j_iald F D ce_64 dX7_laysOrders_112 (fun v34 => ?_)
                  refine j_aload_n F dX7_laysOrders_113 rfl 0 rfl ?_
                  refine j_getr (r := 64) F D ce_54 fl_X7_laysOrders_37 rfl dX7_laysOrders_114 ?_
                  refine j_iload_n F dX7_laysOrders_117 rfl 1 rfl ?_
                  refine j_iconst (v := (1 : Int32)) F dX7_laysOrders_118 (by decide) ?_
                  refine j_iload_n F dX7_laysOrders_119 rfl 2 rfl ?_
                  refine j_ishl F dX7_laysOrders_120 ?_
                  refine j_ior F dX7_laysOrders_121 ?_
                  refine j_iald F D ce_64 dX7_laysOrders_122 (fun v35 => ?_)
                  refine j_iadd F dX7_laysOrders_123 ?_
                  refine j_iast F D ce_64 dX7_laysOrders_124 (fun N36 => ?_)
                  refine j_iconst (v := (0 : Int32)) F dX7_laysOrders_125 (by decide) ?_
                  refine j_istore_n (lv' := [(3, .int (0 : Int32)), (0, .ref (G.2.1 54)), (1, .int c23), (2, .int x24)]) F dX7_laysOrders_126 rfl (by rw [← hml]; decide) rfl ?_
                  have hL49 : ∀ (K41 : Mm → Option (Unit × Mm)) (c37 : Int32) (c38 : Int32), (∀ (N42 : Mm), Jg X V z (K41 N42) N42 168 [(0, .ref (G.2.1 54)), (1, .int c37), (2, .int c38)] []) → ∀ (n44 : Nat) (x39 : Int32) (N40 : Mm), Jg X V z (lX7_laysOrders_127 K41 c37 c38 n44 x39 N40) N40 127 [(0, .ref (G.2.1 54)), (1, .int c37), (2, .int c38), (3, .int x39)] [] := by
                    intro K41 c37 c38 hK41 n44
                    induction n44 with
                    | zero => intro x39 N40; rw [lX7_laysOrders_127]; exact j_none
                    | succ n44 ih43 =>
                      intro x39 N40
                      rw [lX7_laysOrders_127]
                      refine j_iload_n F dX7_laysOrders_127 rfl 3 rfl ?_
                      refine j_iconst (v := (4 : Int32)) F dX7_laysOrders_128 (by decide) ?_
                      refine j_icmp_ge (tgt := 168) F dX7_laysOrders_129 (by decide) ?_ ?_
                      · exact j_sub [0, 1, 2] rfl (hK41 N40)
                      · refine j_aload_n F dX7_laysOrders_132 rfl 0 rfl ?_
                        refine j_getr (r := 65) F D ce_54 fl_X7_laysOrders_40 rfl dX7_laysOrders_133 ?_
                        refine j_iconst (v := (4 : Int32)) F dX7_laysOrders_136 (by decide) ?_
                        refine j_iload_n F dX7_laysOrders_137 rfl 1 rfl ?_
                        refine j_imul F dX7_laysOrders_138 ?_
                        refine j_iload_n F dX7_laysOrders_139 rfl 3 rfl ?_
                        refine j_iadd F dX7_laysOrders_140 ?_
                        refine j_aload_n F dX7_laysOrders_141 rfl 0 rfl ?_
                        refine j_getr (r := 65) F D ce_54 fl_X7_laysOrders_40 rfl dX7_laysOrders_142 ?_
                        refine j_iconst (v := (4 : Int32)) F dX7_laysOrders_145 (by decide) ?_
                        refine j_iload_n F dX7_laysOrders_146 rfl 1 rfl ?_
                        refine j_imul F dX7_laysOrders_147 ?_
                        refine j_iload_n F dX7_laysOrders_148 rfl 3 rfl ?_
                        refine j_iadd F dX7_laysOrders_149 ?_
                        refine j_iald F D ce_65 dX7_laysOrders_150 (fun v45 => ?_)
                        refine j_aload_n F dX7_laysOrders_151 rfl 0 rfl ?_
                        refine j_iload_n F dX7_laysOrders_152 rfl 1 rfl ?_
                        refine j_iload_n F dX7_laysOrders_153 rfl 3 rfl ?_
                        refine j_iload_n F dX7_laysOrders_154 rfl 2 rfl ?_
                        refine j_callVi (As := [.int c37, .int x39, .int c38]) F D hX (mX7_changesBy l G c37 x39 c38) ce_54 rfl kX7_changesBy rfl gX7_laysOrders_X7_changesBy ⟨rfl, rfl⟩ ⟨Nat.le_of_ble_eq_true rfl, Nat.le_of_ble_eq_true rfl⟩ rfl (Nat.le_of_ble_eq_true rfl) rfl dX7_laysOrders_155 (fun w46 => ?_)
                        refine j_callSi (As := [.int v45, .int w46.1]) F D hX (mX7_lesser l G v45 w46.1) kX7_lesser gX7_laysOrders_X7_lesser ⟨rfl, rfl⟩ ⟨Nat.le_of_ble_eq_true rfl, Nat.le_of_ble_eq_true rfl⟩ rfl (Nat.le_of_ble_eq_true rfl) rfl dX7_laysOrders_158 (fun w47 => ?_)
                        refine j_iast F D ce_65 dX7_laysOrders_161 (fun N48 => ?_)
                        refine j_iinc (v := (x39 + (1 : Int32))) (lv' := [(3, .int (x39 + (1 : Int32))), (0, .ref (G.2.1 54)), (1, .int c37), (2, .int c38)]) F dX7_laysOrders_162 3 rfl rfl (by rw [← hml]; decide) rfl ?_
                        refine j_goto (tgt := 127) F dX7_laysOrders_165 (by decide) ?_
                        exact j_sub [1, 2, 3, 0] rfl (ih43 (x39 + (1 : Int32)) N48)
                  refine j_sub [1, 2, 3, 0] rfl (hL49 _ c23 x24 ?_ fu (0 : Int32) N36)
                  intro N42
                  refine j_iinc (v := (x24 + (1 : Int32))) (lv' := [(2, .int (x24 + (1 : Int32))), (0, .ref (G.2.1 54)), (1, .int c23)]) F dX7_laysOrders_168 2 rfl rfl (by rw [← hml]; decide) rfl ?_
                  refine j_goto (tgt := 75) F dX7_laysOrders_171 (by decide) ?_
                  exact j_sub [1, 2, 0] rfl (ih28 (x24 + (1 : Int32)) N42)
          refine j_sub [1, 2, 0] rfl (hL50 _ x2 ?_ fu (0 : Int32) N17)
          intro N27
          refine j_iinc (v := (x2 + (-1 : Int32))) (lv' := [(1, .int (x2 + (-1 : Int32))), (0, .ref (G.2.1 54))]) F dX7_laysOrders_174 1 rfl rfl (by rw [← hml]; decide) rfl ?_
          refine j_goto (tgt := 5) F dX7_laysOrders_177 (by decide) ?_
          exact j_sub [1, 0] rfl (ih6 (x2 + (-1 : Int32)) N27)
        · refine j_icmp_ne (tgt := 33) F dX7_laysOrders_26 (by decide) ?_ ?_
          · refine j_iconst (v := (0 : Int32)) F dX7_laysOrders_33 (by decide) ?_
            exact j_sub [0, 1] rfl (hK11 (0 : Int32))
          · refine j_iconst (v := (1 : Int32)) F dX7_laysOrders_29 (by decide) ?_
            refine j_goto (tgt := 34) F dX7_laysOrders_30 (by decide) ?_
            exact j_sub [0, 1] rfl (hK11 (1 : Int32))
  refine j_sub [1, 0] rfl (hL52 _  ?_ fu w1.1 w1.2)
  intro N5
  exact j_vret F D E dX7_laysOrders_180

/-! FlangeFolderModel.orders -/
def fX7_orders (M : Mm) : Option (Int32 × Mm) := (fX7_laysOrders M).bind (fun w1 => (rd w1.2 64 64 (0 : Int32)).bind (fun v2 => some (v2, w1.2)))
def rmX7_orders : Room := { frames := 5, cells := 0, slots := 0, locals := 123 }
theorem kX7_orders : Kc yX7_orders cX7_orders 1 (some .int) wsX7_orders 0 := ⟨⟨_, rfl⟩, by decide +kernel, by decide +kernel, by decide +kernel⟩
theorem ic_X7_orders_X7 : ∀ w ∈ u_ws RX7 TX7 19, w ∈ wsX7_orders := by decide +kernel
theorem fl_X7_orders_37 : Fl wsX7_orders RX7 37 7 11 := ⟨RX7, TX7, 19, rfl, by decide, ic_X7_orders_X7, by decide +kernel⟩
set_option maxHeartbeats 4000000 in
set_option maxRecDepth 100000 in
theorem mX7_orders (l : Launch) (G : Gg) : Ci l G SM yX7_orders wsX7_orders rmX7_orders [.ref (G.2.1 54)] fX7_orders := by
  refine Ci.intro (lv := [(0, .ref (G.2.1 54))]) RX7 rfl (by decide) kX7_orders (Nat.le_of_ble_eq_true rfl) rfl (fun X V M z F D hX hml E => ?_)
  unfold fX7_orders
  refine j_aload_n F dX7_orders_0 rfl 0 rfl ?_
  refine j_callVv (As := []) F D hX (mX7_laysOrders l G) ce_54 rfl kX7_laysOrders rfl gX7_orders_X7_laysOrders ⟨rfl, rfl⟩ ⟨Nat.le_of_ble_eq_true rfl, Nat.le_of_ble_eq_true rfl⟩ rfl (Nat.le_of_ble_eq_true rfl) rfl dX7_orders_1 (fun w1 => ?_)
  refine j_aload_n F dX7_orders_4 rfl 0 rfl ?_
  refine j_getr (r := 64) F D ce_54 fl_X7_orders_37 rfl dX7_orders_5 ?_
  refine j_iconst (v := (0 : Int32)) F dX7_orders_8 (by decide) ?_
  refine j_iald F D ce_64 dX7_orders_9 (fun v2 => ?_)
  exact j_iret F D E rfl dX7_orders_10

/-! FlangeFolderModel.laysRow -/
def lX7_laysRow_24 (K20 : Int32 → Mm → Option (Int32 × Mm)) (c13 : Int32) (c14 : Int32) (c15 : Int32) (c16 : Int32) (c17 : Int32) : Nat → Int32 → Mm → Option (Int32 × Mm)
  | 0, _, _ => none
  | n24 + 1, x18, N19 => (rd N19 63 64 c14).bind (fun v25 => (fX7_has v25 x18 N19).bind (fun w26 => (if w26.1 = (0 : Int32) then lX7_laysRow_24 K20 c13 c14 c15 c16 c17 n24 (x18 + (1 : Int32)) w26.2 else (rd w26.2 64 64 (c14 ||| ((1 : Int32) <<< (x18 &&& 31)))).bind (fun v27 => (if v27 = (0 : Int32) then lX7_laysRow_24 K20 c13 c14 c15 c16 c17 n24 (x18 + (1 : Int32)) w26.2 else (if c13 = (1 : Int32) then (fX7_changesBy c14 c15 x18 w26.2).bind (fun w28 => (rd w28.2 65 256 (((4 : Int32) * c14) + c15)).bind (fun v29 => (if w28.1 = v29 then K20 x18 w28.2 else lX7_laysRow_24 K20 c13 c14 c15 c16 c17 n24 (x18 + (1 : Int32)) w28.2))) else K20 x18 w26.2))))))
def lX7_laysRow_10 (K7 : Int32 → Mm → Option (Int32 × Mm)) (c1 : Int32) : Nat → Int32 → Int32 → Int32 → Int32 → Mm → Option (Int32 × Mm)
  | 0, _, _, _, _, _ => none
  | n11 + 1, x2, x3, x4, x5, N6 => (rd N6 55 26 (0 : Int32)).bind (fun v12 => (if v12 ≤ x5 then K7 x4 N6 else lX7_laysRow_24 (fun (x21 : Int32) (N22 : Mm) => jn (fun (x30 : Int32) => lt (x4 + x30) (fun x32 => (wr N22 66 6 x5 x21).bind (fun N33 => lt (x2 ||| ((1 : Int32) <<< (x21 &&& 31))) (fun x34 => (rd N33 55 26 ((14 : Int32) + x21)).bind (fun v35 => lX7_laysRow_10 K7 c1 n11 x34 v35 x32 (x5 + (1 : Int32)) N33))))) (fun K31 => jn (fun (_u : Unit) => K31 (0 : Int32)) (fun K36 => (if (3 : Int32) ≤ x3 then K36 () else (rd N22 55 26 ((14 : Int32) + x21)).bind (fun v37 => (if x3 = v37 then K36 () else K31 (1 : Int32))))))) c1 x2 x3 x4 x5 fu (0 : Int32) N6))
def fX7_laysRow (a0 : Int32) (M : Mm) : Option (Int32 × Mm) := lX7_laysRow_10 (fun (x8 : Int32) (N9 : Mm) => some (x8, N9)) a0 fu (0 : Int32) (3 : Int32) (0 : Int32) (0 : Int32) M
def rmX7_laysRow : Room := { frames := 1, cells := 0, slots := 0, locals := 24 }
theorem kX7_laysRow : Kc yX7_laysRow cX7_laysRow 7 (some .int) wsX7_laysRow 1 := ⟨⟨_, rfl⟩, by decide +kernel, by decide +kernel, by decide +kernel⟩
theorem ic_X7_laysRow_X7 : ∀ w ∈ u_ws RX7 TX7 19, w ∈ wsX7_laysRow := by decide +kernel
theorem fl_X7_laysRow_7 : Fl wsX7_laysRow RX7 7 7 0 := ⟨RX7, TX7, 19, rfl, by decide, ic_X7_laysRow_X7, by decide +kernel⟩
theorem fl_X7_laysRow_34 : Fl wsX7_laysRow RX7 34 7 10 := ⟨RX7, TX7, 19, rfl, by decide, ic_X7_laysRow_X7, by decide +kernel⟩
theorem fl_X7_laysRow_37 : Fl wsX7_laysRow RX7 37 7 11 := ⟨RX7, TX7, 19, rfl, by decide, ic_X7_laysRow_X7, by decide +kernel⟩
theorem fl_X7_laysRow_40 : Fl wsX7_laysRow RX7 40 7 12 := ⟨RX7, TX7, 19, rfl, by decide, ic_X7_laysRow_X7, by decide +kernel⟩
theorem fl_X7_laysRow_43 : Fl wsX7_laysRow RX7 43 7 13 := ⟨RX7, TX7, 19, rfl, by decide, ic_X7_laysRow_X7, by decide +kernel⟩
set_option maxHeartbeats 4000000 in
set_option maxRecDepth 100000 in
theorem mX7_laysRow (l : Launch) (G : Gg) (a0 : Int32) : Ci l G SM yX7_laysRow wsX7_laysRow rmX7_laysRow [.ref (G.2.1 54), .int a0] (fX7_laysRow a0) := by
  refine Ci.intro (lv := [(0, .ref (G.2.1 54)), (1, .int a0)]) RX7 rfl (by decide) kX7_laysRow (Nat.le_of_ble_eq_true rfl) rfl (fun X V M z F D hX hml E => ?_)
  unfold fX7_laysRow
  refine j_iconst (v := (0 : Int32)) F dX7_laysRow_0 (by decide) ?_
  refine j_istore_n (lv' := [(2, .int (0 : Int32)), (0, .ref (G.2.1 54)), (1, .int a0)]) F dX7_laysRow_1 rfl (by rw [← hml]; decide) rfl ?_
  refine j_iconst (v := (3 : Int32)) F dX7_laysRow_2 (by decide) ?_
  refine j_istore_n (lv' := [(3, .int (3 : Int32)), (2, .int (0 : Int32)), (0, .ref (G.2.1 54)), (1, .int a0)]) F dX7_laysRow_3 rfl (by rw [← hml]; decide) rfl ?_
  refine j_iconst (v := (0 : Int32)) F dX7_laysRow_4 (by decide) ?_
  refine j_istore (lv' := [(4, .int (0 : Int32)), (3, .int (3 : Int32)), (2, .int (0 : Int32)), (0, .ref (G.2.1 54)), (1, .int a0)]) F dX7_laysRow_5 (by rw [← hml]; decide) rfl ?_
  refine j_iconst (v := (0 : Int32)) F dX7_laysRow_7 (by decide) ?_
  refine j_istore (lv' := [(5, .int (0 : Int32)), (4, .int (0 : Int32)), (3, .int (3 : Int32)), (2, .int (0 : Int32)), (0, .ref (G.2.1 54)), (1, .int a0)]) F dX7_laysRow_8 (by rw [← hml]; decide) rfl ?_
  have hL39 : ∀ (K7 : Int32 → Mm → Option (Int32 × Mm)) (c1 : Int32), (∀ (x8 : Int32) (N9 : Mm), Jg X V z (K7 x8 N9) N9 146 [(4, .int x8)] []) → ∀ (n11 : Nat) (x2 : Int32) (x3 : Int32) (x4 : Int32) (x5 : Int32) (N6 : Mm), Jg X V z (lX7_laysRow_10 K7 c1 n11 x2 x3 x4 x5 N6) N6 10 [(0, .ref (G.2.1 54)), (1, .int c1), (2, .int x2), (3, .int x3), (4, .int x4), (5, .int x5)] [] := by
    intro K7 c1 hK7 n11
    induction n11 with
    | zero => intro x2 x3 x4 x5 N6; rw [lX7_laysRow_10]; exact j_none
    | succ n11 ih10 =>
      intro x2 x3 x4 x5 N6
      rw [lX7_laysRow_10]
      refine j_iload F dX7_laysRow_10 5 rfl ?_
      refine j_aload_n F dX7_laysRow_12 rfl 0 rfl ?_
      refine j_getr (r := 55) F D ce_54 fl_X7_laysRow_7 rfl dX7_laysRow_13 ?_
      refine j_iconst (v := (0 : Int32)) F dX7_laysRow_16 (by decide) ?_
      refine j_iald F D ce_55 dX7_laysRow_17 (fun v12 => ?_)
      refine j_icmp_ge (tgt := 146) F dX7_laysRow_18 (by decide) ?_ ?_
      · exact j_sub [4] rfl (hK7 x4 N6)
      · refine j_iconst (v := (0 : Int32)) F dX7_laysRow_21 (by decide) ?_
        refine j_istore (lv' := [(6, .int (0 : Int32)), (0, .ref (G.2.1 54)), (1, .int c1), (2, .int x2), (3, .int x3), (4, .int x4), (5, .int x5)]) F dX7_laysRow_22 (by rw [← hml]; decide) rfl ?_
        have hL38 : ∀ (K20 : Int32 → Mm → Option (Int32 × Mm)) (c13 : Int32) (c14 : Int32) (c15 : Int32) (c16 : Int32) (c17 : Int32), (∀ (x21 : Int32) (N22 : Mm), Jg X V z (K20 x21 N22) N22 84 [(0, .ref (G.2.1 54)), (1, .int c13), (2, .int c14), (3, .int c15), (4, .int c16), (5, .int c17), (6, .int x21)] []) → ∀ (n24 : Nat) (x18 : Int32) (N19 : Mm), Jg X V z (lX7_laysRow_24 K20 c13 c14 c15 c16 c17 n24 x18 N19) N19 24 [(0, .ref (G.2.1 54)), (1, .int c13), (2, .int c14), (3, .int c15), (4, .int c16), (5, .int c17), (6, .int x18)] [] := by
          intro K20 c13 c14 c15 c16 c17 hK20 n24
          induction n24 with
          | zero => intro x18 N19; rw [lX7_laysRow_24]; exact j_none
          | succ n24 ih23 =>
            intro x18 N19
            rw [lX7_laysRow_24]
            refine j_aload_n F dX7_laysRow_24 rfl 0 rfl ?_
            refine j_getr (r := 63) F D ce_54 fl_X7_laysRow_34 rfl dX7_laysRow_25 ?_
            refine j_iload_n F dX7_laysRow_28 rfl 2 rfl ?_
            refine j_iald F D ce_63 dX7_laysRow_29 (fun v25 => ?_)
            refine j_iload F dX7_laysRow_30 6 rfl ?_
            refine j_callSi (As := [.int v25, .int x18]) F D hX (mX7_has l G v25 x18) kX7_has gX7_laysRow_X7_has ⟨rfl, rfl⟩ ⟨Nat.le_of_ble_eq_true rfl, Nat.le_of_ble_eq_true rfl⟩ rfl (Nat.le_of_ble_eq_true rfl) rfl dX7_laysRow_32 (fun w26 => ?_)
            refine j_if_eq (tgt := 78) F dX7_laysRow_35 (by decide) ?_ ?_
            · refine j_iinc (v := (x18 + (1 : Int32))) (lv' := [(6, .int (x18 + (1 : Int32))), (0, .ref (G.2.1 54)), (1, .int c13), (2, .int c14), (3, .int c15), (4, .int c16), (5, .int c17)]) F dX7_laysRow_78 6 rfl rfl (by rw [← hml]; decide) rfl ?_
              refine j_goto (tgt := 24) F dX7_laysRow_81 (by decide) ?_
              exact j_sub [1, 2, 3, 4, 5, 6, 0] rfl (ih23 (x18 + (1 : Int32)) w26.2)
            · refine j_aload_n F dX7_laysRow_38 rfl 0 rfl ?_
              refine j_getr (r := 64) F D ce_54 fl_X7_laysRow_37 rfl dX7_laysRow_39 ?_
              refine j_iload_n F dX7_laysRow_42 rfl 2 rfl ?_
              refine j_iconst (v := (1 : Int32)) F dX7_laysRow_43 (by decide) ?_
              refine j_iload F dX7_laysRow_44 6 rfl ?_
              refine j_ishl F dX7_laysRow_46 ?_
              refine j_ior F dX7_laysRow_47 ?_
              refine j_iald F D ce_64 dX7_laysRow_48 (fun v27 => ?_)
              refine j_if_eq (tgt := 78) F dX7_laysRow_49 (by decide) ?_ ?_
              · refine j_iinc (v := (x18 + (1 : Int32))) (lv' := [(6, .int (x18 + (1 : Int32))), (0, .ref (G.2.1 54)), (1, .int c13), (2, .int c14), (3, .int c15), (4, .int c16), (5, .int c17)]) F dX7_laysRow_78 6 rfl rfl (by rw [← hml]; decide) rfl ?_
                refine j_goto (tgt := 24) F dX7_laysRow_81 (by decide) ?_
                exact j_sub [1, 2, 3, 4, 5, 6, 0] rfl (ih23 (x18 + (1 : Int32)) w26.2)
              · refine j_iload_n F dX7_laysRow_52 rfl 1 rfl ?_
                refine j_iconst (v := (1 : Int32)) F dX7_laysRow_53 (by decide) ?_
                refine j_icmp_ne (tgt := 84) F dX7_laysRow_54 (by decide) ?_ ?_
                · exact j_sub [0, 1, 2, 3, 4, 5, 6] rfl (hK20 x18 w26.2)
                · refine j_aload_n F dX7_laysRow_57 rfl 0 rfl ?_
                  refine j_iload_n F dX7_laysRow_58 rfl 2 rfl ?_
                  refine j_iload_n F dX7_laysRow_59 rfl 3 rfl ?_
                  refine j_iload F dX7_laysRow_60 6 rfl ?_
                  refine j_callVi (As := [.int c14, .int c15, .int x18]) F D hX (mX7_changesBy l G c14 c15 x18) ce_54 rfl kX7_changesBy rfl gX7_laysRow_X7_changesBy ⟨rfl, rfl⟩ ⟨Nat.le_of_ble_eq_true rfl, Nat.le_of_ble_eq_true rfl⟩ rfl (Nat.le_of_ble_eq_true rfl) rfl dX7_laysRow_62 (fun w28 => ?_)
                  refine j_aload_n F dX7_laysRow_65 rfl 0 rfl ?_
                  refine j_getr (r := 65) F D ce_54 fl_X7_laysRow_40 rfl dX7_laysRow_66 ?_
                  refine j_iconst (v := (4 : Int32)) F dX7_laysRow_69 (by decide) ?_
                  refine j_iload_n F dX7_laysRow_70 rfl 2 rfl ?_
                  refine j_imul F dX7_laysRow_71 ?_
                  refine j_iload_n F dX7_laysRow_72 rfl 3 rfl ?_
                  refine j_iadd F dX7_laysRow_73 ?_
                  refine j_iald F D ce_65 dX7_laysRow_74 (fun v29 => ?_)
                  refine j_icmp_eq (tgt := 84) F dX7_laysRow_75 (by decide) ?_ ?_
                  · exact j_sub [0, 1, 2, 3, 4, 5, 6] rfl (hK20 x18 w28.2)
                  · refine j_iinc (v := (x18 + (1 : Int32))) (lv' := [(6, .int (x18 + (1 : Int32))), (0, .ref (G.2.1 54)), (1, .int c13), (2, .int c14), (3, .int c15), (4, .int c16), (5, .int c17)]) F dX7_laysRow_78 6 rfl rfl (by rw [← hml]; decide) rfl ?_
                    refine j_goto (tgt := 24) F dX7_laysRow_81 (by decide) ?_
                    exact j_sub [1, 2, 3, 4, 5, 6, 0] rfl (ih23 (x18 + (1 : Int32)) w28.2)
        refine j_sub [1, 2, 3, 4, 5, 6, 0] rfl (hL38 _ c1 x2 x3 x4 x5 ?_ fu (0 : Int32) N6)
        intro x21 N22
        refine j_iload F dX7_laysRow_84 4 rfl ?_
        refine j_iload_n F dX7_laysRow_86 rfl 3 rfl ?_
        refine j_iconst (v := (3 : Int32)) F dX7_laysRow_87 (by decide) ?_
        refine j_jn (P := fun (K31 : Int32 → Option (Int32 × Mm)) => ∀ (x30 : Int32), Jg X V z (K31 x30) N22 110 [(0, .ref (G.2.1 54)), (1, .int c1), (2, .int x2), (5, .int x5), (6, .int x21)] [.int x30, .int x4]) ?_ (fun K31 hK31 => ?_)
        · intro x30
          refine j_iadd F dX7_laysRow_110 ?_
          refine j_let (f := Value.int) (fun x32 => ?_)
          refine j_istore (lv' := [(4, .int x32), (0, .ref (G.2.1 54)), (1, .int c1), (2, .int x2), (5, .int x5), (6, .int x21)]) F dX7_laysRow_111 (by rw [← hml]; decide) rfl ?_
          refine j_aload_n F dX7_laysRow_113 rfl 1 rfl ?_
          refine j_getr (r := 66) F D ce_54 fl_X7_laysRow_43 rfl dX7_laysRow_114 ?_
          refine j_iload F dX7_laysRow_117 4 rfl ?_
          refine j_iload F dX7_laysRow_119 5 rfl ?_
          refine j_iast F D ce_66 dX7_laysRow_121 (fun N33 => ?_)
          refine j_iload_n F dX7_laysRow_122 rfl 3 rfl ?_
          refine j_iconst (v := (1 : Int32)) F dX7_laysRow_123 (by decide) ?_
          refine j_iload F dX7_laysRow_124 5 rfl ?_
          refine j_ishl F dX7_laysRow_126 ?_
          refine j_ior F dX7_laysRow_127 ?_
          refine j_let (f := Value.int) (fun x34 => ?_)
          refine j_istore_n (lv' := [(2, .int x34), (4, .int x32), (0, .ref (G.2.1 54)), (1, .int c1), (5, .int x5), (6, .int x21)]) F dX7_laysRow_128 rfl (by rw [← hml]; decide) rfl ?_
          refine j_aload_n F dX7_laysRow_129 rfl 2 rfl ?_
          refine j_getr (r := 55) F D ce_54 fl_X7_laysRow_7 rfl dX7_laysRow_130 ?_
          refine j_bipush (v := (14 : Int32)) F dX7_laysRow_133 (by decide) ?_
          refine j_iload F dX7_laysRow_135 5 rfl ?_
          refine j_iadd F dX7_laysRow_137 ?_
          refine j_iald F D ce_55 dX7_laysRow_138 (fun v35 => ?_)
          refine j_istore_n (lv' := [(3, .int v35), (2, .int x34), (4, .int x32), (0, .ref (G.2.1 54)), (1, .int c1), (5, .int x5), (6, .int x21)]) F dX7_laysRow_139 rfl (by rw [← hml]; decide) rfl ?_
          refine j_iinc (v := (x5 + (1 : Int32))) (lv' := [(5, .int (x5 + (1 : Int32))), (3, .int v35), (2, .int x34), (4, .int x32), (0, .ref (G.2.1 54)), (1, .int c1), (6, .int x21)]) F dX7_laysRow_140 5 rfl rfl (by rw [← hml]; decide) rfl ?_
          refine j_goto (tgt := 10) F dX7_laysRow_143 (by decide) ?_
          exact j_sub [4, 5, 2, 1, 3, 0] rfl (ih10 x34 v35 x32 (x5 + (1 : Int32)) N33)
        · refine j_jn (P := fun (K36 : Unit → Option (Int32 × Mm)) => ∀ (_u : Unit), Jg X V z (K36 _u) N22 109 [(0, .ref (G.2.1 54)), (1, .int c1), (2, .int x2), (5, .int x5), (6, .int x21)] [.int x4]) ?_ (fun K36 hK36 => ?_)
          · intro _u
            refine j_iconst (v := (0 : Int32)) F dX7_laysRow_109 (by decide) ?_
            exact j_sub [0, 1, 2, 3, 4] rfl (hK31 (0 : Int32))
          · refine j_icmp_ge (tgt := 109) F dX7_laysRow_88 (by decide) ?_ ?_
            · exact j_sub [0, 1, 2, 5, 6] rfl (hK36 ())
            · refine j_iload_n F dX7_laysRow_91 rfl 3 rfl ?_
              refine j_aload_n F dX7_laysRow_92 rfl 0 rfl ?_
              refine j_getr (r := 55) F D ce_54 fl_X7_laysRow_7 rfl dX7_laysRow_93 ?_
              refine j_bipush (v := (14 : Int32)) F dX7_laysRow_96 (by decide) ?_
              refine j_iload F dX7_laysRow_98 6 rfl ?_
              refine j_iadd F dX7_laysRow_100 ?_
              refine j_iald F D ce_55 dX7_laysRow_101 (fun v37 => ?_)
              refine j_icmp_eq (tgt := 109) F dX7_laysRow_102 (by decide) ?_ ?_
              · exact j_sub [0, 1, 2, 5, 6] rfl (hK36 ())
              · refine j_iconst (v := (1 : Int32)) F dX7_laysRow_105 (by decide) ?_
                refine j_goto (tgt := 110) F dX7_laysRow_106 (by decide) ?_
                exact j_sub [0, 1, 2, 5, 6] rfl (hK31 (1 : Int32))
  refine j_sub [4, 5, 3, 2, 1, 0] rfl (hL39 _ a0 ?_ fu (0 : Int32) (3 : Int32) (0 : Int32) (0 : Int32) M)
  intro x8 N9
  refine j_iload F dX7_laysRow_146 0 rfl ?_
  exact j_iret F D E rfl dX7_laysRow_148

/-! FlangeFolderModel.order -/
def fX7_order (a0 : Int32) (a1 : Int32) (M : Mm) : Option (Int32 × Mm) := (fX7_isBend a0 M).bind (fun w1 => (if w1.1 = (0 : Int32) then (fX7_counts (-1001 : Int32) w1.2).bind (fun w2 => some (w2.1, w2.2)) else (fX7_within a1 (0 : Int32) (1 : Int32) w1.2).bind (fun w3 => (if w3.1 = (0 : Int32) then (fX7_counts (-1001 : Int32) w3.2).bind (fun w7 => some (w7.1, w7.2)) else (fX7_orders w3.2).bind (fun w4 => (if w4.1 = (0 : Int32) then some ((-1000 : Int32), w4.2) else (fX7_laysRow a1 w4.2).bind (fun w5 => (rd w5.2 66 6 a0).bind (fun v6 => some (v6, w5.2)))))))))
def rmX7_order : Room := { frames := 6, cells := 0, slots := 0, locals := 143 }
theorem kX7_order : Kc yX7_order cX7_order 3 (some .int) wsX7_order 2 := ⟨⟨_, rfl⟩, by decide +kernel, by decide +kernel, by decide +kernel⟩
theorem ic_X7_order_X7 : ∀ w ∈ u_ws RX7 TX7 19, w ∈ wsX7_order := by decide +kernel
theorem fl_X7_order_43 : Fl wsX7_order RX7 43 7 13 := ⟨RX7, TX7, 19, rfl, by decide, ic_X7_order_X7, by decide +kernel⟩
set_option maxHeartbeats 4000000 in
set_option maxRecDepth 100000 in
theorem mX7_order (l : Launch) (G : Gg) (a0 : Int32) (a1 : Int32) : Ci l G SM yX7_order wsX7_order rmX7_order [.ref (G.2.1 54), .int a0, .int a1] (fX7_order a0 a1) := by
  refine Ci.intro (lv := [(0, .ref (G.2.1 54)), (1, .int a0), (2, .int a1)]) RX7 rfl (by decide) kX7_order (Nat.le_of_ble_eq_true rfl) rfl (fun X V M z F D hX hml E => ?_)
  unfold fX7_order
  refine j_aload_n F dX7_order_0 rfl 0 rfl ?_
  refine j_iload_n F dX7_order_1 rfl 1 rfl ?_
  refine j_callVi (As := [.int a0]) F D hX (mX7_isBend l G a0) ce_54 rfl kX7_isBend rfl gX7_order_X7_isBend ⟨rfl, rfl⟩ ⟨Nat.le_of_ble_eq_true rfl, Nat.le_of_ble_eq_true rfl⟩ rfl (Nat.le_of_ble_eq_true rfl) rfl dX7_order_2 (fun w1 => ?_)
  refine j_if_eq (tgt := 17) F dX7_order_5 (by decide) ?_ ?_
  · refine j_aload_n F dX7_order_17 rfl 0 rfl ?_
    refine j_sipush (v := (-1001 : Int32)) F dX7_order_18 (by decide) ?_
    refine j_callVi (As := [.int (-1001 : Int32)]) F D hX (mX7_counts l G (-1001 : Int32)) ce_54 rfl kX7_counts rfl gX7_order_X7_counts ⟨rfl, rfl⟩ ⟨Nat.le_of_ble_eq_true rfl, Nat.le_of_ble_eq_true rfl⟩ rfl (Nat.le_of_ble_eq_true rfl) rfl dX7_order_21 (fun w2 => ?_)
    exact j_iret F D E rfl dX7_order_24
  · refine j_iload_n F dX7_order_8 rfl 2 rfl ?_
    refine j_iconst (v := (0 : Int32)) F dX7_order_9 (by decide) ?_
    refine j_iconst (v := (1 : Int32)) F dX7_order_10 (by decide) ?_
    refine j_callSi (As := [.int a1, .int (0 : Int32), .int (1 : Int32)]) F D hX (mX7_within l G a1 (0 : Int32) (1 : Int32)) kX7_within gX7_order_X7_within ⟨rfl, rfl⟩ ⟨Nat.le_of_ble_eq_true rfl, Nat.le_of_ble_eq_true rfl⟩ rfl (Nat.le_of_ble_eq_true rfl) rfl dX7_order_11 (fun w3 => ?_)
    refine j_if_ne (tgt := 25) F dX7_order_14 (by decide) ?_ ?_
    · refine j_aload_n F dX7_order_25 rfl 0 rfl ?_
      refine j_callVi (As := []) F D hX (mX7_orders l G) ce_54 rfl kX7_orders rfl gX7_order_X7_orders ⟨rfl, rfl⟩ ⟨Nat.le_of_ble_eq_true rfl, Nat.le_of_ble_eq_true rfl⟩ rfl (Nat.le_of_ble_eq_true rfl) rfl dX7_order_26 (fun w4 => ?_)
      refine j_if_ne (tgt := 36) F dX7_order_29 (by decide) ?_ ?_
      · refine j_aload_n F dX7_order_36 rfl 0 rfl ?_
        refine j_iload_n F dX7_order_37 rfl 2 rfl ?_
        refine j_callVi (As := [.int a1]) F D hX (mX7_laysRow l G a1) ce_54 rfl kX7_laysRow rfl gX7_order_X7_laysRow ⟨rfl, rfl⟩ ⟨Nat.le_of_ble_eq_true rfl, Nat.le_of_ble_eq_true rfl⟩ rfl (Nat.le_of_ble_eq_true rfl) rfl dX7_order_38 (fun w5 => ?_)
        refine j_pop F rfl dX7_order_41 ?_
        refine j_aload_n F dX7_order_42 rfl 0 rfl ?_
        refine j_getr (r := 66) F D ce_54 fl_X7_order_43 rfl dX7_order_43 ?_
        refine j_iload_n F dX7_order_46 rfl 1 rfl ?_
        refine j_iald F D ce_66 dX7_order_47 (fun v6 => ?_)
        exact j_iret F D E rfl dX7_order_48
      · refine j_sipush (v := (-1000 : Int32)) F dX7_order_32 (by decide) ?_
        exact j_iret F D E rfl dX7_order_35
    · refine j_aload_n F dX7_order_17 rfl 0 rfl ?_
      refine j_sipush (v := (-1001 : Int32)) F dX7_order_18 (by decide) ?_
      refine j_callVi (As := [.int (-1001 : Int32)]) F D hX (mX7_counts l G (-1001 : Int32)) ce_54 rfl kX7_counts rfl gX7_order_X7_counts ⟨rfl, rfl⟩ ⟨Nat.le_of_ble_eq_true rfl, Nat.le_of_ble_eq_true rfl⟩ rfl (Nat.le_of_ble_eq_true rfl) rfl dX7_order_21 (fun w7 => ?_)
      exact j_iret F D E rfl dX7_order_24

/-! FlangeFolderModel.changesIs -/
def fX7_changesIs (a0 : Int32) (M : Mm) : Option (Int32 × Mm) := (rd M 64 64 (0 : Int32)).bind (fun v1 => (if v1 = (0 : Int32) then some ((-1000 : Int32), M) else (fX7_laysRow ((1 : Int32) - a0) M).bind (fun w2 => some (w2.1, w2.2))))
def rmX7_changesIs : Room := { frames := 2, cells := 0, slots := 0, locals := 50 }
theorem kX7_changesIs : Kc yX7_changesIs cX7_changesIs 2 (some .int) wsX7_changesIs 1 := ⟨⟨_, rfl⟩, by decide +kernel, by decide +kernel, by decide +kernel⟩
theorem ic_X7_changesIs_X7 : ∀ w ∈ u_ws RX7 TX7 19, w ∈ wsX7_changesIs := by decide +kernel
theorem fl_X7_changesIs_37 : Fl wsX7_changesIs RX7 37 7 11 := ⟨RX7, TX7, 19, rfl, by decide, ic_X7_changesIs_X7, by decide +kernel⟩
set_option maxHeartbeats 4000000 in
set_option maxRecDepth 100000 in
theorem mX7_changesIs (l : Launch) (G : Gg) (a0 : Int32) : Ci l G SM yX7_changesIs wsX7_changesIs rmX7_changesIs [.ref (G.2.1 54), .int a0] (fX7_changesIs a0) := by
  refine Ci.intro (lv := [(0, .ref (G.2.1 54)), (1, .int a0)]) RX7 rfl (by decide) kX7_changesIs (Nat.le_of_ble_eq_true rfl) rfl (fun X V M z F D hX hml E => ?_)
  unfold fX7_changesIs
  refine j_aload_n F dX7_changesIs_0 rfl 0 rfl ?_
  refine j_getr (r := 64) F D ce_54 fl_X7_changesIs_37 rfl dX7_changesIs_1 ?_
  refine j_iconst (v := (0 : Int32)) F dX7_changesIs_4 (by decide) ?_
  refine j_iald F D ce_64 dX7_changesIs_5 (fun v1 => ?_)
  refine j_if_ne (tgt := 15) F dX7_changesIs_6 (by decide) ?_ ?_
  · refine j_aload_n F dX7_changesIs_15 rfl 0 rfl ?_
    refine j_iconst (v := (1 : Int32)) F dX7_changesIs_16 (by decide) ?_
    refine j_iload_n F dX7_changesIs_17 rfl 1 rfl ?_
    refine j_isub F dX7_changesIs_18 ?_
    refine j_callVi (As := [.int ((1 : Int32) - a0)]) F D hX (mX7_laysRow l G ((1 : Int32) - a0)) ce_54 rfl kX7_laysRow rfl gX7_changesIs_X7_laysRow ⟨rfl, rfl⟩ ⟨Nat.le_of_ble_eq_true rfl, Nat.le_of_ble_eq_true rfl⟩ rfl (Nat.le_of_ble_eq_true rfl) rfl dX7_changesIs_19 (fun w2 => ?_)
    exact j_iret F D E rfl dX7_changesIs_22
  · refine j_sipush (v := (-1000 : Int32)) F dX7_changesIs_9 (by decide) ?_
    refine j_goto (tgt := 22) F dX7_changesIs_12 (by decide) ?_
    exact j_iret F D E rfl dX7_changesIs_22

/-! FlangeFolderModel.changes -/
def fX7_changes (a0 : Int32) (M : Mm) : Option (Int32 × Mm) := (fX7_within a0 (0 : Int32) (1 : Int32) M).bind (fun w1 => (if w1.1 = (0 : Int32) then (fX7_counts (-1001 : Int32) w1.2).bind (fun w4 => some (w4.1, w4.2)) else (fX7_laysOrders w1.2).bind (fun w2 => (fX7_changesIs a0 w2.2).bind (fun w3 => some (w3.1, w3.2)))))
def rmX7_changes : Room := { frames := 5, cells := 0, slots := 0, locals := 123 }
theorem kX7_changes : Kc yX7_changes cX7_changes 2 (some .int) wsX7_changes 1 := ⟨⟨_, rfl⟩, by decide +kernel, by decide +kernel, by decide +kernel⟩
set_option maxHeartbeats 4000000 in
set_option maxRecDepth 100000 in
theorem mX7_changes (l : Launch) (G : Gg) (a0 : Int32) : Ci l G SM yX7_changes wsX7_changes rmX7_changes [.ref (G.2.1 54), .int a0] (fX7_changes a0) := by
  refine Ci.intro (lv := [(0, .ref (G.2.1 54)), (1, .int a0)]) RX7 rfl (by decide) kX7_changes (Nat.le_of_ble_eq_true rfl) rfl (fun X V M z F D hX hml E => ?_)
  unfold fX7_changes
  refine j_iload_n F dX7_changes_0 rfl 1 rfl ?_
  refine j_iconst (v := (0 : Int32)) F dX7_changes_1 (by decide) ?_
  refine j_iconst (v := (1 : Int32)) F dX7_changes_2 (by decide) ?_
  refine j_callSi (As := [.int a0, .int (0 : Int32), .int (1 : Int32)]) F D hX (mX7_within l G a0 (0 : Int32) (1 : Int32)) kX7_within gX7_changes_X7_within ⟨rfl, rfl⟩ ⟨Nat.le_of_ble_eq_true rfl, Nat.le_of_ble_eq_true rfl⟩ rfl (Nat.le_of_ble_eq_true rfl) rfl dX7_changes_3 (fun w1 => ?_)
  refine j_if_ne (tgt := 17) F dX7_changes_6 (by decide) ?_ ?_
  · refine j_aload_n F dX7_changes_17 rfl 0 rfl ?_
    refine j_callVv (As := []) F D hX (mX7_laysOrders l G) ce_54 rfl kX7_laysOrders rfl gX7_changes_X7_laysOrders ⟨rfl, rfl⟩ ⟨Nat.le_of_ble_eq_true rfl, Nat.le_of_ble_eq_true rfl⟩ rfl (Nat.le_of_ble_eq_true rfl) rfl dX7_changes_18 (fun w2 => ?_)
    refine j_aload_n F dX7_changes_21 rfl 0 rfl ?_
    refine j_iload_n F dX7_changes_22 rfl 1 rfl ?_
    refine j_callVi (As := [.int a0]) F D hX (mX7_changesIs l G a0) ce_54 rfl kX7_changesIs rfl gX7_changes_X7_changesIs ⟨rfl, rfl⟩ ⟨Nat.le_of_ble_eq_true rfl, Nat.le_of_ble_eq_true rfl⟩ rfl (Nat.le_of_ble_eq_true rfl) rfl dX7_changes_23 (fun w3 => ?_)
    exact j_iret F D E rfl dX7_changes_26
  · refine j_aload_n F dX7_changes_9 rfl 0 rfl ?_
    refine j_sipush (v := (-1001 : Int32)) F dX7_changes_10 (by decide) ?_
    refine j_callVi (As := [.int (-1001 : Int32)]) F D hX (mX7_counts l G (-1001 : Int32)) ce_54 rfl kX7_counts rfl gX7_changes_X7_counts ⟨rfl, rfl⟩ ⟨Nat.le_of_ble_eq_true rfl, Nat.le_of_ble_eq_true rfl⟩ rfl (Nat.le_of_ble_eq_true rfl) rfl dX7_changes_13 (fun w4 => ?_)
    exact j_iret F D E rfl dX7_changes_16

/-! FlangeFolderModel.ways -/
def fX7_ways (M : Mm) : Option (Int32 × Mm) := (fX7_laysOrders M).bind (fun w1 => (rd w1.2 55 26 (20 : Int32)).bind (fun v2 => (rd w1.2 64 64 v2).bind (fun v3 => some (v3, w1.2))))
def rmX7_ways : Room := { frames := 5, cells := 0, slots := 0, locals := 123 }
theorem kX7_ways : Kc yX7_ways cX7_ways 1 (some .int) wsX7_ways 0 := ⟨⟨_, rfl⟩, by decide +kernel, by decide +kernel, by decide +kernel⟩
theorem ic_X7_ways_X7 : ∀ w ∈ u_ws RX7 TX7 19, w ∈ wsX7_ways := by decide +kernel
theorem fl_X7_ways_37 : Fl wsX7_ways RX7 37 7 11 := ⟨RX7, TX7, 19, rfl, by decide, ic_X7_ways_X7, by decide +kernel⟩
theorem fl_X7_ways_7 : Fl wsX7_ways RX7 7 7 0 := ⟨RX7, TX7, 19, rfl, by decide, ic_X7_ways_X7, by decide +kernel⟩
set_option maxHeartbeats 4000000 in
set_option maxRecDepth 100000 in
theorem mX7_ways (l : Launch) (G : Gg) : Ci l G SM yX7_ways wsX7_ways rmX7_ways [.ref (G.2.1 54)] fX7_ways := by
  refine Ci.intro (lv := [(0, .ref (G.2.1 54))]) RX7 rfl (by decide) kX7_ways (Nat.le_of_ble_eq_true rfl) rfl (fun X V M z F D hX hml E => ?_)
  unfold fX7_ways
  refine j_aload_n F dX7_ways_0 rfl 0 rfl ?_
  refine j_callVv (As := []) F D hX (mX7_laysOrders l G) ce_54 rfl kX7_laysOrders rfl gX7_ways_X7_laysOrders ⟨rfl, rfl⟩ ⟨Nat.le_of_ble_eq_true rfl, Nat.le_of_ble_eq_true rfl⟩ rfl (Nat.le_of_ble_eq_true rfl) rfl dX7_ways_1 (fun w1 => ?_)
  refine j_aload_n F dX7_ways_4 rfl 0 rfl ?_
  refine j_getr (r := 64) F D ce_54 fl_X7_ways_37 rfl dX7_ways_5 ?_
  refine j_aload_n F dX7_ways_8 rfl 0 rfl ?_
  refine j_getr (r := 55) F D ce_54 fl_X7_ways_7 rfl dX7_ways_9 ?_
  refine j_bipush (v := (20 : Int32)) F dX7_ways_12 (by decide) ?_
  refine j_iald F D ce_55 dX7_ways_14 (fun v2 => ?_)
  refine j_iald F D ce_64 dX7_ways_15 (fun v3 => ?_)
  exact j_iret F D E rfl dX7_ways_16

/-! FlangeFolderModel.longBy -/
def lX7_longBy_12 (K7 : Int32 → Mm → Option (Int32 × Mm)) (c3 : Int32) : Nat → Int32 → Int32 → Mm → Option (Int32 × Mm)
  | 0, _, _, _ => none
  | n11 + 1, x4, x5, N6 => (rd N6 55 26 (0 : Int32)).bind (fun v12 => (if v12 ≤ x5 then K7 x4 N6 else (rd N6 55 26 (((1 : Int32) + x5) + (1 : Int32))).bind (fun v13 => (fX7_has c3 x5 N6).bind (fun w14 => (if w14.1 = (0 : Int32) then lt (x4 + (((10 : Int32) * v13) - (0 : Int32))) (fun x15 => lX7_longBy_12 K7 c3 n11 x15 (x5 + (1 : Int32)) w14.2) else (rd w14.2 55 26 ((14 : Int32) + x5)).bind (fun v16 => (rd w14.2 55 26 ((23 : Int32) + v16)).bind (fun v17 => lt (x4 + (((10 : Int32) * v13) - v17)) (fun x18 => lX7_longBy_12 K7 c3 n11 x18 (x5 + (1 : Int32)) w14.2))))))))
def fX7_longBy (a0 : Int32) (M : Mm) : Option (Int32 × Mm) := (rd M 55 26 (1 : Int32)).bind (fun v1 => lt ((10 : Int32) * v1) (fun x2 => lX7_longBy_12 (fun (x8 : Int32) (N9 : Mm) => some (x8, N9)) a0 fu x2 (0 : Int32) M))
def rmX7_longBy : Room := { frames := 1, cells := 0, slots := 0, locals := 21 }
theorem kX7_longBy : Kc yX7_longBy cX7_longBy 4 (some .int) wsX7_longBy 1 := ⟨⟨_, rfl⟩, by decide +kernel, by decide +kernel, by decide +kernel⟩
theorem ic_X7_longBy_X7 : ∀ w ∈ u_ws RX7 TX7 19, w ∈ wsX7_longBy := by decide +kernel
theorem fl_X7_longBy_7 : Fl wsX7_longBy RX7 7 7 0 := ⟨RX7, TX7, 19, rfl, by decide, ic_X7_longBy_X7, by decide +kernel⟩
set_option maxHeartbeats 4000000 in
set_option maxRecDepth 100000 in
theorem mX7_longBy (l : Launch) (G : Gg) (a0 : Int32) : Ci l G SM yX7_longBy wsX7_longBy rmX7_longBy [.ref (G.2.1 54), .int a0] (fX7_longBy a0) := by
  refine Ci.intro (lv := [(0, .ref (G.2.1 54)), (1, .int a0)]) RX7 rfl (by decide) kX7_longBy (Nat.le_of_ble_eq_true rfl) rfl (fun X V M z F D hX hml E => ?_)
  unfold fX7_longBy
  refine j_bipush (v := (10 : Int32)) F dX7_longBy_0 (by decide) ?_
  refine j_aload_n F dX7_longBy_2 rfl 0 rfl ?_
  refine j_getr (r := 55) F D ce_54 fl_X7_longBy_7 rfl dX7_longBy_3 ?_
  refine j_iconst (v := (1 : Int32)) F dX7_longBy_6 (by decide) ?_
  refine j_iald F D ce_55 dX7_longBy_7 (fun v1 => ?_)
  refine j_imul F dX7_longBy_8 ?_
  refine j_let (f := Value.int) (fun x2 => ?_)
  refine j_istore_n (lv' := [(2, .int x2), (0, .ref (G.2.1 54)), (1, .int a0)]) F dX7_longBy_9 rfl (by rw [← hml]; decide) rfl ?_
  refine j_iconst (v := (0 : Int32)) F dX7_longBy_10 (by decide) ?_
  refine j_istore_n (lv' := [(3, .int (0 : Int32)), (2, .int x2), (0, .ref (G.2.1 54)), (1, .int a0)]) F dX7_longBy_11 rfl (by rw [← hml]; decide) rfl ?_
  have hL19 : ∀ (K7 : Int32 → Mm → Option (Int32 × Mm)) (c3 : Int32), (∀ (x8 : Int32) (N9 : Mm), Jg X V z (K7 x8 N9) N9 74 [(2, .int x8)] []) → ∀ (n11 : Nat) (x4 : Int32) (x5 : Int32) (N6 : Mm), Jg X V z (lX7_longBy_12 K7 c3 n11 x4 x5 N6) N6 12 [(0, .ref (G.2.1 54)), (1, .int c3), (2, .int x4), (3, .int x5)] [] := by
    intro K7 c3 hK7 n11
    induction n11 with
    | zero => intro x4 x5 N6; rw [lX7_longBy_12]; exact j_none
    | succ n11 ih10 =>
      intro x4 x5 N6
      rw [lX7_longBy_12]
      refine j_iload_n F dX7_longBy_12 rfl 3 rfl ?_
      refine j_aload_n F dX7_longBy_13 rfl 0 rfl ?_
      refine j_getr (r := 55) F D ce_54 fl_X7_longBy_7 rfl dX7_longBy_14 ?_
      refine j_iconst (v := (0 : Int32)) F dX7_longBy_17 (by decide) ?_
      refine j_iald F D ce_55 dX7_longBy_18 (fun v12 => ?_)
      refine j_icmp_ge (tgt := 74) F dX7_longBy_19 (by decide) ?_ ?_
      · exact j_sub [2] rfl (hK7 x4 N6)
      · refine j_iload_n F dX7_longBy_22 rfl 2 rfl ?_
        refine j_bipush (v := (10 : Int32)) F dX7_longBy_23 (by decide) ?_
        refine j_aload_n F dX7_longBy_25 rfl 0 rfl ?_
        refine j_getr (r := 55) F D ce_54 fl_X7_longBy_7 rfl dX7_longBy_26 ?_
        refine j_iconst (v := (1 : Int32)) F dX7_longBy_29 (by decide) ?_
        refine j_iload_n F dX7_longBy_30 rfl 3 rfl ?_
        refine j_iadd F dX7_longBy_31 ?_
        refine j_iconst (v := (1 : Int32)) F dX7_longBy_32 (by decide) ?_
        refine j_iadd F dX7_longBy_33 ?_
        refine j_iald F D ce_55 dX7_longBy_34 (fun v13 => ?_)
        refine j_imul F dX7_longBy_35 ?_
        refine j_iload_n F dX7_longBy_36 rfl 1 rfl ?_
        refine j_iload_n F dX7_longBy_37 rfl 3 rfl ?_
        refine j_callSi (As := [.int c3, .int x5]) F D hX (mX7_has l G c3 x5) kX7_has gX7_longBy_X7_has ⟨rfl, rfl⟩ ⟨Nat.le_of_ble_eq_true rfl, Nat.le_of_ble_eq_true rfl⟩ rfl (Nat.le_of_ble_eq_true rfl) rfl dX7_longBy_38 (fun w14 => ?_)
        refine j_if_eq (tgt := 64) F dX7_longBy_41 (by decide) ?_ ?_
        · refine j_iconst (v := (0 : Int32)) F dX7_longBy_64 (by decide) ?_
          refine j_isub F dX7_longBy_65 ?_
          refine j_iadd F dX7_longBy_66 ?_
          refine j_let (f := Value.int) (fun x15 => ?_)
          refine j_istore_n (lv' := [(2, .int x15), (0, .ref (G.2.1 54)), (1, .int c3), (3, .int x5)]) F dX7_longBy_67 rfl (by rw [← hml]; decide) rfl ?_
          refine j_iinc (v := (x5 + (1 : Int32))) (lv' := [(3, .int (x5 + (1 : Int32))), (2, .int x15), (0, .ref (G.2.1 54)), (1, .int c3)]) F dX7_longBy_68 3 rfl rfl (by rw [← hml]; decide) rfl ?_
          refine j_goto (tgt := 12) F dX7_longBy_71 (by decide) ?_
          exact j_sub [2, 3, 1, 0] rfl (ih10 x15 (x5 + (1 : Int32)) w14.2)
        · refine j_aload_n F dX7_longBy_44 rfl 0 rfl ?_
          refine j_getr (r := 55) F D ce_54 fl_X7_longBy_7 rfl dX7_longBy_45 ?_
          refine j_bipush (v := (23 : Int32)) F dX7_longBy_48 (by decide) ?_
          refine j_aload_n F dX7_longBy_50 rfl 0 rfl ?_
          refine j_getr (r := 55) F D ce_54 fl_X7_longBy_7 rfl dX7_longBy_51 ?_
          refine j_bipush (v := (14 : Int32)) F dX7_longBy_54 (by decide) ?_
          refine j_iload_n F dX7_longBy_56 rfl 3 rfl ?_
          refine j_iadd F dX7_longBy_57 ?_
          refine j_iald F D ce_55 dX7_longBy_58 (fun v16 => ?_)
          refine j_iadd F dX7_longBy_59 ?_
          refine j_iald F D ce_55 dX7_longBy_60 (fun v17 => ?_)
          refine j_goto (tgt := 65) F dX7_longBy_61 (by decide) ?_
          refine j_isub F dX7_longBy_65 ?_
          refine j_iadd F dX7_longBy_66 ?_
          refine j_let (f := Value.int) (fun x18 => ?_)
          refine j_istore_n (lv' := [(2, .int x18), (0, .ref (G.2.1 54)), (1, .int c3), (3, .int x5)]) F dX7_longBy_67 rfl (by rw [← hml]; decide) rfl ?_
          refine j_iinc (v := (x5 + (1 : Int32))) (lv' := [(3, .int (x5 + (1 : Int32))), (2, .int x18), (0, .ref (G.2.1 54)), (1, .int c3)]) F dX7_longBy_68 3 rfl rfl (by rw [← hml]; decide) rfl ?_
          refine j_goto (tgt := 12) F dX7_longBy_71 (by decide) ?_
          exact j_sub [2, 3, 1, 0] rfl (ih10 x18 (x5 + (1 : Int32)) w14.2)
  refine j_sub [2, 3, 1, 0] rfl (hL19 _ a0 ?_ fu x2 (0 : Int32) M)
  intro x8 N9
  refine j_iload_n F dX7_longBy_74 rfl 0 rfl ?_
  exact j_iret F D E rfl dX7_longBy_75

/-! FlangeFolderModel.countIs -/
def fX7_countIs (a0 : Int32) (M : Mm) : Option (Int32 × Mm) := (if a0 = (0 : Int32) then (rd M 55 26 (0 : Int32)).bind (fun v2 => some (v2, M)) else (if a0 = (1 : Int32) then (rd M 55 26 (20 : Int32)).bind (fun v4 => (fX7_ones v4 M).bind (fun w5 => some (w5.1, w5.2))) else (if a0 = (2 : Int32) then (rd M 55 26 (20 : Int32)).bind (fun v7 => some (v7, M)) else (if a0 = (8 : Int32) then (fX7_allMade M).bind (fun w9 => (fX7_longBy w9.1 w9.2).bind (fun w10 => some (w10.1, w10.2))) else (if a0 = (9 : Int32) then (rd M 55 26 (20 : Int32)).bind (fun v12 => (fX7_longBy v12 M).bind (fun w13 => some (w13.1, w13.2))) else (if a0 = (10 : Int32) then (fX7_longBy (0 : Int32) M).bind (fun w15 => some ((w15.1 / (10 : Int32)), w15.2)) else (rd M 55 26 (((21 : Int32) + a0) - (3 : Int32))).bind (fun v16 => some (v16, M))))))))
def rmX7_countIs : Room := { frames := 2, cells := 0, slots := 0, locals := 44 }
theorem kX7_countIs : Kc yX7_countIs cX7_countIs 2 (some .int) wsX7_countIs 1 := ⟨⟨_, rfl⟩, by decide +kernel, by decide +kernel, by decide +kernel⟩
theorem ic_X7_countIs_X7 : ∀ w ∈ u_ws RX7 TX7 19, w ∈ wsX7_countIs := by decide +kernel
theorem fl_X7_countIs_7 : Fl wsX7_countIs RX7 7 7 0 := ⟨RX7, TX7, 19, rfl, by decide, ic_X7_countIs_X7, by decide +kernel⟩
set_option maxHeartbeats 4000000 in
set_option maxRecDepth 100000 in
theorem mX7_countIs (l : Launch) (G : Gg) (a0 : Int32) : Ci l G SM yX7_countIs wsX7_countIs rmX7_countIs [.ref (G.2.1 54), .int a0] (fX7_countIs a0) := by
  refine Ci.intro (lv := [(0, .ref (G.2.1 54)), (1, .int a0)]) RX7 rfl (by decide) kX7_countIs (Nat.le_of_ble_eq_true rfl) rfl (fun X V M z F D hX hml E => ?_)
  unfold fX7_countIs
  refine j_iload_n F dX7_countIs_0 rfl 1 rfl ?_
  refine j_ite (fun h1 => ?_) (fun h1 => ?_)
  · refine j_tsw F dX7_countIs_1 (by decide) 60 (by rw [h1]; decide) ?_
    refine j_aload_n F dX7_countIs_60 rfl 0 rfl ?_
    refine j_getr (r := 55) F D ce_54 fl_X7_countIs_7 rfl dX7_countIs_61 ?_
    refine j_iconst (v := (0 : Int32)) F dX7_countIs_64 (by decide) ?_
    refine j_iald F D ce_55 dX7_countIs_65 (fun v2 => ?_)
    exact j_iret F D E rfl dX7_countIs_66
  · refine j_ite (fun h3 => ?_) (fun h3 => ?_)
    · refine j_tsw F dX7_countIs_1 (by decide) 67 (by rw [h3]; decide) ?_
      refine j_aload_n F dX7_countIs_67 rfl 0 rfl ?_
      refine j_getr (r := 55) F D ce_54 fl_X7_countIs_7 rfl dX7_countIs_68 ?_
      refine j_bipush (v := (20 : Int32)) F dX7_countIs_71 (by decide) ?_
      refine j_iald F D ce_55 dX7_countIs_73 (fun v4 => ?_)
      refine j_callSi (As := [.int v4]) F D hX (mX7_ones l G v4) kX7_ones gX7_countIs_X7_ones ⟨rfl, rfl⟩ ⟨Nat.le_of_ble_eq_true rfl, Nat.le_of_ble_eq_true rfl⟩ rfl (Nat.le_of_ble_eq_true rfl) rfl dX7_countIs_74 (fun w5 => ?_)
      exact j_iret F D E rfl dX7_countIs_77
    · refine j_ite (fun h6 => ?_) (fun h6 => ?_)
      · refine j_tsw F dX7_countIs_1 (by decide) 78 (by rw [h6]; decide) ?_
        refine j_aload_n F dX7_countIs_78 rfl 0 rfl ?_
        refine j_getr (r := 55) F D ce_54 fl_X7_countIs_7 rfl dX7_countIs_79 ?_
        refine j_bipush (v := (20 : Int32)) F dX7_countIs_82 (by decide) ?_
        refine j_iald F D ce_55 dX7_countIs_84 (fun v7 => ?_)
        exact j_iret F D E rfl dX7_countIs_85
      · refine j_ite (fun h8 => ?_) (fun h8 => ?_)
        · refine j_tsw F dX7_countIs_1 (by decide) 86 (by rw [h8]; decide) ?_
          refine j_aload_n F dX7_countIs_86 rfl 0 rfl ?_
          refine j_aload_n F dX7_countIs_87 rfl 0 rfl ?_
          refine j_callVi (As := []) F D hX (mX7_allMade l G) ce_54 rfl kX7_allMade rfl gX7_countIs_X7_allMade ⟨rfl, rfl⟩ ⟨Nat.le_of_ble_eq_true rfl, Nat.le_of_ble_eq_true rfl⟩ rfl (Nat.le_of_ble_eq_true rfl) rfl dX7_countIs_88 (fun w9 => ?_)
          refine j_callVi (As := [.int w9.1]) F D hX (mX7_longBy l G w9.1) ce_54 rfl kX7_longBy rfl gX7_countIs_X7_longBy ⟨rfl, rfl⟩ ⟨Nat.le_of_ble_eq_true rfl, Nat.le_of_ble_eq_true rfl⟩ rfl (Nat.le_of_ble_eq_true rfl) rfl dX7_countIs_91 (fun w10 => ?_)
          exact j_iret F D E rfl dX7_countIs_94
        · refine j_ite (fun h11 => ?_) (fun h11 => ?_)
          · refine j_tsw F dX7_countIs_1 (by decide) 95 (by rw [h11]; decide) ?_
            refine j_aload_n F dX7_countIs_95 rfl 0 rfl ?_
            refine j_aload_n F dX7_countIs_96 rfl 0 rfl ?_
            refine j_getr (r := 55) F D ce_54 fl_X7_countIs_7 rfl dX7_countIs_97 ?_
            refine j_bipush (v := (20 : Int32)) F dX7_countIs_100 (by decide) ?_
            refine j_iald F D ce_55 dX7_countIs_102 (fun v12 => ?_)
            refine j_callVi (As := [.int v12]) F D hX (mX7_longBy l G v12) ce_54 rfl kX7_longBy rfl gX7_countIs_X7_longBy ⟨rfl, rfl⟩ ⟨Nat.le_of_ble_eq_true rfl, Nat.le_of_ble_eq_true rfl⟩ rfl (Nat.le_of_ble_eq_true rfl) rfl dX7_countIs_103 (fun w13 => ?_)
            exact j_iret F D E rfl dX7_countIs_106
          · refine j_ite (fun h14 => ?_) (fun h14 => ?_)
            · refine j_tsw F dX7_countIs_1 (by decide) 107 (by rw [h14]; decide) ?_
              refine j_aload_n F dX7_countIs_107 rfl 0 rfl ?_
              refine j_iconst (v := (0 : Int32)) F dX7_countIs_108 (by decide) ?_
              refine j_callVi (As := [.int (0 : Int32)]) F D hX (mX7_longBy l G (0 : Int32)) ce_54 rfl kX7_longBy rfl gX7_countIs_X7_longBy ⟨rfl, rfl⟩ ⟨Nat.le_of_ble_eq_true rfl, Nat.le_of_ble_eq_true rfl⟩ rfl (Nat.le_of_ble_eq_true rfl) rfl dX7_countIs_109 (fun w15 => ?_)
              refine j_bipush (v := (10 : Int32)) F dX7_countIs_112 (by decide) ?_
              refine j_idiv F (by decide) dX7_countIs_114 ?_
              exact j_iret F D E rfl dX7_countIs_115
            · refine j_tsw F dX7_countIs_1 (by decide) 116 (tsw_d [0, 1, 2, 8, 9, 10] (by decide) (by decide) (by simp only [List.mem_cons, List.not_mem_nil, or_false, not_or]; exact ⟨toInt_ne (by decide) h1, toInt_ne (by decide) h3, toInt_ne (by decide) h6, toInt_ne (by decide) h8, toInt_ne (by decide) h11, toInt_ne (by decide) h14⟩)) ?_
              refine j_aload_n F dX7_countIs_116 rfl 0 rfl ?_
              refine j_getr (r := 55) F D ce_54 fl_X7_countIs_7 rfl dX7_countIs_117 ?_
              refine j_bipush (v := (21 : Int32)) F dX7_countIs_120 (by decide) ?_
              refine j_iload_n F dX7_countIs_122 rfl 1 rfl ?_
              refine j_iadd F dX7_countIs_123 ?_
              refine j_iconst (v := (3 : Int32)) F dX7_countIs_124 (by decide) ?_
              refine j_isub F dX7_countIs_125 ?_
              refine j_iald F D ce_55 dX7_countIs_126 (fun v16 => ?_)
              exact j_iret F D E rfl dX7_countIs_127

/-! FlangeFolderModel.count -/
def fX7_count (a0 : Int32) (M : Mm) : Option (Int32 × Mm) := (fX7_within a0 (0 : Int32) (10 : Int32) M).bind (fun w1 => (if w1.1 = (0 : Int32) then (fX7_counts (-1001 : Int32) w1.2).bind (fun w2 => some (w2.1, w2.2)) else (fX7_countIs a0 w1.2).bind (fun w3 => some (w3.1, w3.2))))
def rmX7_count : Room := { frames := 3, cells := 0, slots := 0, locals := 65 }
theorem kX7_count : Kc yX7_count cX7_count 2 (some .int) wsX7_count 1 := ⟨⟨_, rfl⟩, by decide +kernel, by decide +kernel, by decide +kernel⟩
set_option maxHeartbeats 4000000 in
set_option maxRecDepth 100000 in
theorem mX7_count (l : Launch) (G : Gg) (a0 : Int32) : Ci l G SM yX7_count wsX7_count rmX7_count [.ref (G.2.1 54), .int a0] (fX7_count a0) := by
  refine Ci.intro (lv := [(0, .ref (G.2.1 54)), (1, .int a0)]) RX7 rfl (by decide) kX7_count (Nat.le_of_ble_eq_true rfl) rfl (fun X V M z F D hX hml E => ?_)
  unfold fX7_count
  refine j_iload_n F dX7_count_0 rfl 1 rfl ?_
  refine j_iconst (v := (0 : Int32)) F dX7_count_1 (by decide) ?_
  refine j_bipush (v := (10 : Int32)) F dX7_count_2 (by decide) ?_
  refine j_callSi (As := [.int a0, .int (0 : Int32), .int (10 : Int32)]) F D hX (mX7_within l G a0 (0 : Int32) (10 : Int32)) kX7_within gX7_count_X7_within ⟨rfl, rfl⟩ ⟨Nat.le_of_ble_eq_true rfl, Nat.le_of_ble_eq_true rfl⟩ rfl (Nat.le_of_ble_eq_true rfl) rfl dX7_count_4 (fun w1 => ?_)
  refine j_if_eq (tgt := 18) F dX7_count_7 (by decide) ?_ ?_
  · refine j_aload_n F dX7_count_18 rfl 0 rfl ?_
    refine j_sipush (v := (-1001 : Int32)) F dX7_count_19 (by decide) ?_
    refine j_callVi (As := [.int (-1001 : Int32)]) F D hX (mX7_counts l G (-1001 : Int32)) ce_54 rfl kX7_counts rfl gX7_count_X7_counts ⟨rfl, rfl⟩ ⟨Nat.le_of_ble_eq_true rfl, Nat.le_of_ble_eq_true rfl⟩ rfl (Nat.le_of_ble_eq_true rfl) rfl dX7_count_22 (fun w2 => ?_)
    exact j_iret F D E rfl dX7_count_25
  · refine j_aload_n F dX7_count_10 rfl 0 rfl ?_
    refine j_iload_n F dX7_count_11 rfl 1 rfl ?_
    refine j_callVi (As := [.int a0]) F D hX (mX7_countIs l G a0) ce_54 rfl kX7_countIs rfl gX7_count_X7_countIs ⟨rfl, rfl⟩ ⟨Nat.le_of_ble_eq_true rfl, Nat.le_of_ble_eq_true rfl⟩ rfl (Nat.le_of_ble_eq_true rfl) rfl dX7_count_12 (fun w3 => ?_)
    refine j_goto (tgt := 25) F dX7_count_15 (by decide) ?_
    exact j_iret F D E rfl dX7_count_25

/-! FlangeFolderModel.type -/
def fX7_type (a0 : Int32) (M : Mm) : Option (Int32 × Mm) := (fX7_within a0 (0 : Int32) (127 : Int32) M).bind (fun w1 => (if w1.1 = (0 : Int32) then (fX7_counts (-1001 : Int32) w1.2).bind (fun w5 => some (w5.1, w5.2)) else (if (w1.2.1 54 6) = (120 : Int32) then (fX7_counts (-1003 : Int32) w1.2).bind (fun w4 => some (w4.1, w4.2)) else (wr w1.2 59 120 (w1.2.1 54 6) a0).bind (fun N2 => lt (stI N2 54 6 ((N2.1 54 6) + (1 : Int32))) (fun N3 => some ((N3.1 54 6), N3))))))
def rmX7_type : Room := { frames := 1, cells := 0, slots := 0, locals := 22 }
theorem kX7_type : Kc yX7_type cX7_type 2 (some .int) wsX7_type 1 := ⟨⟨_, rfl⟩, by decide +kernel, by decide +kernel, by decide +kernel⟩
theorem ic_X7_type_X7 : ∀ w ∈ u_ws RX7 TX7 19, w ∈ wsX7_type := by decide +kernel
theorem fl_X7_type_164 : Fl wsX7_type RX7 164 7 6 := ⟨RX7, TX7, 19, rfl, by decide, ic_X7_type_X7, by decide +kernel⟩
theorem fl_X7_type_22 : Fl wsX7_type RX7 22 7 5 := ⟨RX7, TX7, 19, rfl, by decide, ic_X7_type_X7, by decide +kernel⟩
theorem fp_X7_type_164 : Fp wsX7_type RX7 164 7 6 .int := ⟨RX7, TX7, 19, tyX7, rfl, by decide, ic_X7_type_X7, by decide +kernel, tyX7_ok, nmX7, rfl, rfl⟩
set_option maxHeartbeats 4000000 in
set_option maxRecDepth 100000 in
theorem mX7_type (l : Launch) (G : Gg) (a0 : Int32) : Ci l G SM yX7_type wsX7_type rmX7_type [.ref (G.2.1 54), .int a0] (fX7_type a0) := by
  refine Ci.intro (lv := [(0, .ref (G.2.1 54)), (1, .int a0)]) RX7 rfl (by decide) kX7_type (Nat.le_of_ble_eq_true rfl) rfl (fun X V M z F D hX hml E => ?_)
  unfold fX7_type
  refine j_iload_n F dX7_type_0 rfl 1 rfl ?_
  refine j_iconst (v := (0 : Int32)) F dX7_type_1 (by decide) ?_
  refine j_bipush (v := (127 : Int32)) F dX7_type_2 (by decide) ?_
  refine j_callSi (As := [.int a0, .int (0 : Int32), .int (127 : Int32)]) F D hX (mX7_within l G a0 (0 : Int32) (127 : Int32)) kX7_within gX7_type_X7_within ⟨rfl, rfl⟩ ⟨Nat.le_of_ble_eq_true rfl, Nat.le_of_ble_eq_true rfl⟩ rfl (Nat.le_of_ble_eq_true rfl) rfl dX7_type_4 (fun w1 => ?_)
  refine j_if_ne (tgt := 18) F dX7_type_7 (by decide) ?_ ?_
  · refine j_aload_n F dX7_type_18 rfl 0 rfl ?_
    refine j_geti F D ce_54 fl_X7_type_164 rfl dX7_type_19 ?_
    refine j_bipush (v := (120 : Int32)) F dX7_type_22 (by decide) ?_
    refine j_icmp_ne (tgt := 35) F dX7_type_24 (by decide) ?_ ?_
    · refine j_aload_n F dX7_type_35 rfl 0 rfl ?_
      refine j_getr (r := 59) F D ce_54 fl_X7_type_22 rfl dX7_type_36 ?_
      refine j_aload_n F dX7_type_39 rfl 0 rfl ?_
      refine j_geti F D ce_54 fl_X7_type_164 rfl dX7_type_40 ?_
      refine j_iload_n F dX7_type_43 rfl 1 rfl ?_
      refine j_iast F D ce_59 dX7_type_44 (fun N2 => ?_)
      refine j_aload_n F dX7_type_45 rfl 0 rfl ?_
      refine j_dup F rfl dX7_type_46 ?_
      refine j_geti F D ce_54 fl_X7_type_164 rfl dX7_type_47 ?_
      refine j_iconst (v := (1 : Int32)) F dX7_type_50 (by decide) ?_
      refine j_iadd F dX7_type_51 ?_
      refine j_puti F D ce_54 fp_X7_type_164 rfl rfl rfl dX7_type_52 ?_
      refine j_letM (fun N3 => ?_)
      refine j_aload_n F dX7_type_55 rfl 0 rfl ?_
      refine j_geti F D ce_54 fl_X7_type_164 rfl dX7_type_56 ?_
      exact j_iret F D E rfl dX7_type_59
    · refine j_aload_n F dX7_type_27 rfl 0 rfl ?_
      refine j_sipush (v := (-1003 : Int32)) F dX7_type_28 (by decide) ?_
      refine j_callVi (As := [.int (-1003 : Int32)]) F D hX (mX7_counts l G (-1003 : Int32)) ce_54 rfl kX7_counts rfl gX7_type_X7_counts ⟨rfl, rfl⟩ ⟨Nat.le_of_ble_eq_true rfl, Nat.le_of_ble_eq_true rfl⟩ rfl (Nat.le_of_ble_eq_true rfl) rfl dX7_type_31 (fun w4 => ?_)
      exact j_iret F D E rfl dX7_type_34
  · refine j_aload_n F dX7_type_10 rfl 0 rfl ?_
    refine j_sipush (v := (-1001 : Int32)) F dX7_type_11 (by decide) ?_
    refine j_callVi (As := [.int (-1001 : Int32)]) F D hX (mX7_counts l G (-1001 : Int32)) ce_54 rfl kX7_counts rfl gX7_type_X7_counts ⟨rfl, rfl⟩ ⟨Nat.le_of_ble_eq_true rfl, Nat.le_of_ble_eq_true rfl⟩ rfl (Nat.le_of_ble_eq_true rfl) rfl dX7_type_14 (fun w5 => ?_)
    exact j_iret F D E rfl dX7_type_17

/-! FlangeFolderModel.clear -/
def fX7_clear (M : Mm) : Option (Int32 × Mm) := lt (M.1 54 6) (fun x1 => lt (stI M 54 6 (0 : Int32)) (fun N2 => some (x1, N2)))
def rmX7_clear : Room := { frames := 0, cells := 0, slots := 0, locals := 0 }
theorem kX7_clear : Kc yX7_clear cX7_clear 2 (some .int) wsX7_clear 0 := ⟨⟨_, rfl⟩, by decide +kernel, by decide +kernel, by decide +kernel⟩
theorem ic_X7_clear_X7 : ∀ w ∈ u_ws RX7 TX7 19, w ∈ wsX7_clear := by decide +kernel
theorem fl_X7_clear_164 : Fl wsX7_clear RX7 164 7 6 := ⟨RX7, TX7, 19, rfl, by decide, ic_X7_clear_X7, by decide +kernel⟩
theorem fp_X7_clear_164 : Fp wsX7_clear RX7 164 7 6 .int := ⟨RX7, TX7, 19, tyX7, rfl, by decide, ic_X7_clear_X7, by decide +kernel, tyX7_ok, nmX7, rfl, rfl⟩
set_option maxHeartbeats 4000000 in
set_option maxRecDepth 100000 in
theorem mX7_clear (l : Launch) (G : Gg) : Ci l G SM yX7_clear wsX7_clear rmX7_clear [.ref (G.2.1 54)] fX7_clear := by
  refine Ci.intro (lv := [(0, .ref (G.2.1 54))]) RX7 rfl (by decide) kX7_clear (Nat.le_of_ble_eq_true rfl) rfl (fun X V M z F D hX hml E => ?_)
  unfold fX7_clear
  refine j_aload_n F dX7_clear_0 rfl 0 rfl ?_
  refine j_geti F D ce_54 fl_X7_clear_164 rfl dX7_clear_1 ?_
  refine j_let (f := Value.int) (fun x1 => ?_)
  refine j_istore_n (lv' := [(1, .int x1), (0, .ref (G.2.1 54))]) F dX7_clear_4 rfl (by rw [← hml]; decide) rfl ?_
  refine j_aload_n F dX7_clear_5 rfl 1 rfl ?_
  refine j_iconst (v := (0 : Int32)) F dX7_clear_6 (by decide) ?_
  refine j_puti F D ce_54 fp_X7_clear_164 rfl rfl rfl dX7_clear_7 ?_
  refine j_letM (fun N2 => ?_)
  refine j_iload_n F dX7_clear_10 rfl 0 rfl ?_
  exact j_iret F D E rfl dX7_clear_11

/-! FlangeFolderModel.here -/
def fX7_here (M : Mm) : Option (Int32 × Mm) := (if (M.1 54 6) ≤ (M.1 54 14) then some ((-1 : Int32), M) else (rd M 59 120 (M.1 54 14)).bind (fun v1 => some (v1, M)))
def rmX7_here : Room := { frames := 0, cells := 0, slots := 0, locals := 0 }
theorem kX7_here : Kc yX7_here cX7_here 1 (some .int) wsX7_here 0 := ⟨⟨_, rfl⟩, by decide +kernel, by decide +kernel, by decide +kernel⟩
theorem ic_X7_here_X7 : ∀ w ∈ u_ws RX7 TX7 19, w ∈ wsX7_here := by decide +kernel
theorem fl_X7_here_167 : Fl wsX7_here RX7 167 7 14 := ⟨RX7, TX7, 19, rfl, by decide, ic_X7_here_X7, by decide +kernel⟩
theorem fl_X7_here_164 : Fl wsX7_here RX7 164 7 6 := ⟨RX7, TX7, 19, rfl, by decide, ic_X7_here_X7, by decide +kernel⟩
theorem fl_X7_here_22 : Fl wsX7_here RX7 22 7 5 := ⟨RX7, TX7, 19, rfl, by decide, ic_X7_here_X7, by decide +kernel⟩
set_option maxHeartbeats 4000000 in
set_option maxRecDepth 100000 in
theorem mX7_here (l : Launch) (G : Gg) : Ci l G SM yX7_here wsX7_here rmX7_here [.ref (G.2.1 54)] fX7_here := by
  refine Ci.intro (lv := [(0, .ref (G.2.1 54))]) RX7 rfl (by decide) kX7_here (Nat.le_of_ble_eq_true rfl) rfl (fun X V M z F D hX hml E => ?_)
  unfold fX7_here
  refine j_aload_n F dX7_here_0 rfl 0 rfl ?_
  refine j_geti F D ce_54 fl_X7_here_167 rfl dX7_here_1 ?_
  refine j_aload_n F dX7_here_4 rfl 0 rfl ?_
  refine j_geti F D ce_54 fl_X7_here_164 rfl dX7_here_5 ?_
  refine j_icmp_ge (tgt := 23) F dX7_here_8 (by decide) ?_ ?_
  · refine j_iconst (v := (-1 : Int32)) F dX7_here_23 (by decide) ?_
    exact j_iret F D E rfl dX7_here_24
  · refine j_aload_n F dX7_here_11 rfl 0 rfl ?_
    refine j_getr (r := 59) F D ce_54 fl_X7_here_22 rfl dX7_here_12 ?_
    refine j_aload_n F dX7_here_15 rfl 0 rfl ?_
    refine j_geti F D ce_54 fl_X7_here_167 rfl dX7_here_16 ?_
    refine j_iald F D ce_59 dX7_here_19 (fun v1 => ?_)
    refine j_goto (tgt := 24) F dX7_here_20 (by decide) ?_
    exact j_iret F D E rfl dX7_here_24

/-! FlangeFolderModel.blanks -/
def lX7_blanks_0 (K2 : Mm → Option (Unit × Mm))  : Nat → Mm → Option (Unit × Mm)
  | 0, _ => none
  | n5 + 1, N1 => (fX7_here N1).bind (fun w6 => (if w6.1 = (32 : Int32) then lt (stI w6.2 54 14 ((w6.2.1 54 14) + (1 : Int32))) (fun N7 => lX7_blanks_0 K2 n5 N7) else K2 w6.2))
def fX7_blanks (M : Mm) : Option (Unit × Mm) := lX7_blanks_0 (fun (N3 : Mm) => some ((), N3))  fu M
def rmX7_blanks : Room := { frames := 1, cells := 0, slots := 0, locals := 20 }
theorem kX7_blanks : Kc yX7_blanks cX7_blanks 1 none wsX7_blanks 0 := ⟨⟨_, rfl⟩, by decide +kernel, by decide +kernel, by decide +kernel⟩
theorem ic_X7_blanks_X7 : ∀ w ∈ u_ws RX7 TX7 19, w ∈ wsX7_blanks := by decide +kernel
theorem fl_X7_blanks_167 : Fl wsX7_blanks RX7 167 7 14 := ⟨RX7, TX7, 19, rfl, by decide, ic_X7_blanks_X7, by decide +kernel⟩
theorem fp_X7_blanks_167 : Fp wsX7_blanks RX7 167 7 14 .int := ⟨RX7, TX7, 19, tyX7, rfl, by decide, ic_X7_blanks_X7, by decide +kernel, tyX7_ok, nmX7, rfl, rfl⟩
set_option maxHeartbeats 4000000 in
set_option maxRecDepth 100000 in
theorem mX7_blanks (l : Launch) (G : Gg) : Cv l G SM yX7_blanks wsX7_blanks rmX7_blanks [.ref (G.2.1 54)] fX7_blanks := by
  refine Cv.intro (lv := [(0, .ref (G.2.1 54))]) RX7 rfl (by decide) kX7_blanks (Nat.le_of_ble_eq_true rfl) rfl (fun X V M z F D hX hml E => ?_)
  unfold fX7_blanks
  have hL8 : ∀ (K2 : Mm → Option (Unit × Mm)) , (∀ (N3 : Mm), Jg X V z (K2 N3) N3 22 [] []) → ∀ (n5 : Nat) (N1 : Mm), Jg X V z (lX7_blanks_0 K2 n5 N1) N1 0 [(0, .ref (G.2.1 54))] [] := by
    intro K2  hK2 n5
    induction n5 with
    | zero => intro N1; rw [lX7_blanks_0]; exact j_none
    | succ n5 ih4 =>
      intro N1
      rw [lX7_blanks_0]
      refine j_aload_n F dX7_blanks_0 rfl 0 rfl ?_
      refine j_callVi (As := []) F D hX (mX7_here l G) ce_54 rfl kX7_here rfl gX7_blanks_X7_here ⟨rfl, rfl⟩ ⟨Nat.le_of_ble_eq_true rfl, Nat.le_of_ble_eq_true rfl⟩ rfl (Nat.le_of_ble_eq_true rfl) rfl dX7_blanks_1 (fun w6 => ?_)
      refine j_bipush (v := (32 : Int32)) F dX7_blanks_4 (by decide) ?_
      refine j_icmp_ne (tgt := 22) F dX7_blanks_6 (by decide) ?_ ?_
      · exact j_sub [] rfl (hK2 w6.2)
      · refine j_aload_n F dX7_blanks_9 rfl 0 rfl ?_
        refine j_dup F rfl dX7_blanks_10 ?_
        refine j_geti F D ce_54 fl_X7_blanks_167 rfl dX7_blanks_11 ?_
        refine j_iconst (v := (1 : Int32)) F dX7_blanks_14 (by decide) ?_
        refine j_iadd F dX7_blanks_15 ?_
        refine j_puti F D ce_54 fp_X7_blanks_167 rfl rfl rfl dX7_blanks_16 ?_
        refine j_letM (fun N7 => ?_)
        refine j_goto (tgt := 0) F dX7_blanks_19 (by decide) ?_
        exact j_sub [0] rfl (ih4 N7)
  refine j_sub [0] rfl (hL8 _  ?_ fu M)
  intro N3
  exact j_vret F D E dX7_blanks_22

/-! FlangeFolderModel.passesNumber -/
def lX7_passesNumber_8 (K6 : Int32 → Int32 → Mm → Option (Int32 × Mm)) (c2 : Int32) : Nat → Int32 → Int32 → Mm → Option (Int32 × Mm)
  | 0, _, _, _ => none
  | n11 + 1, x3, x4, N5 => (fX7_here N5).bind (fun w12 => (fX7_within w12.1 (48 : Int32) (57 : Int32) w12.2).bind (fun w13 => (if w13.1 = (0 : Int32) then K6 x3 x4 w13.2 else (if (2 : Int32) ≤ x4 then K6 x3 x4 w13.2 else (fX7_here w13.2).bind (fun w14 => lt ((((10 : Int32) * x3) + w14.1) - (48 : Int32)) (fun x15 => lt (stI w14.2 54 14 ((w14.2.1 54 14) + (1 : Int32))) (fun N16 => lX7_passesNumber_8 K6 c2 n11 x15 (x4 + (1 : Int32)) N16)))))))
def fX7_passesNumber (a0 : Int32) (M : Mm) : Option (Int32 × Mm) := (fX7_blanks M).bind (fun w1 => lX7_passesNumber_8 (fun (x7 : Int32) (x8 : Int32) (N9 : Mm) => (wr N9 68 180 a0 x7).bind (fun N17 => (if x8 ≤ (0 : Int32) then some ((0 : Int32), N17) else (fX7_here N17).bind (fun w18 => (fX7_within w18.1 (48 : Int32) (57 : Int32) w18.2).bind (fun w19 => (if w19.1 = (0 : Int32) then some ((1 : Int32), w19.2) else some ((0 : Int32), w19.2))))))) a0 fu (0 : Int32) (0 : Int32) w1.2)
def rmX7_passesNumber : Room := { frames := 2, cells := 0, slots := 0, locals := 40 }
theorem kX7_passesNumber : Kc yX7_passesNumber cX7_passesNumber 4 (some .boolean) wsX7_passesNumber 1 := ⟨⟨_, rfl⟩, by decide +kernel, by decide +kernel, by decide +kernel⟩
theorem ic_X7_passesNumber_X7 : ∀ w ∈ u_ws RX7 TX7 19, w ∈ wsX7_passesNumber := by decide +kernel
theorem fl_X7_passesNumber_167 : Fl wsX7_passesNumber RX7 167 7 14 := ⟨RX7, TX7, 19, rfl, by decide, ic_X7_passesNumber_X7, by decide +kernel⟩
theorem fp_X7_passesNumber_167 : Fp wsX7_passesNumber RX7 167 7 14 .int := ⟨RX7, TX7, 19, tyX7, rfl, by decide, ic_X7_passesNumber_X7, by decide +kernel, tyX7_ok, nmX7, rfl, rfl⟩
theorem fl_X7_passesNumber_49 : Fl wsX7_passesNumber RX7 49 7 17 := ⟨RX7, TX7, 19, rfl, by decide, ic_X7_passesNumber_X7, by decide +kernel⟩
set_option maxHeartbeats 4000000 in
set_option maxRecDepth 100000 in
theorem mX7_passesNumber (l : Launch) (G : Gg) (a0 : Int32) : Ci l G SM yX7_passesNumber wsX7_passesNumber rmX7_passesNumber [.ref (G.2.1 54), .int a0] (fX7_passesNumber a0) := by
  refine Ci.intro (lv := [(0, .ref (G.2.1 54)), (1, .int a0)]) RX7 rfl (by decide) kX7_passesNumber (Nat.le_of_ble_eq_true rfl) rfl (fun X V M z F D hX hml E => ?_)
  unfold fX7_passesNumber
  refine j_aload_n F dX7_passesNumber_0 rfl 0 rfl ?_
  refine j_callVv (As := []) F D hX (mX7_blanks l G) ce_54 rfl kX7_blanks rfl gX7_passesNumber_X7_blanks ⟨rfl, rfl⟩ ⟨Nat.le_of_ble_eq_true rfl, Nat.le_of_ble_eq_true rfl⟩ rfl (Nat.le_of_ble_eq_true rfl) rfl dX7_passesNumber_1 (fun w1 => ?_)
  refine j_iconst (v := (0 : Int32)) F dX7_passesNumber_4 (by decide) ?_
  refine j_istore_n (lv' := [(2, .int (0 : Int32)), (0, .ref (G.2.1 54)), (1, .int a0)]) F dX7_passesNumber_5 rfl (by rw [← hml]; decide) rfl ?_
  refine j_iconst (v := (0 : Int32)) F dX7_passesNumber_6 (by decide) ?_
  refine j_istore_n (lv' := [(3, .int (0 : Int32)), (2, .int (0 : Int32)), (0, .ref (G.2.1 54)), (1, .int a0)]) F dX7_passesNumber_7 rfl (by rw [← hml]; decide) rfl ?_
  have hL20 : ∀ (K6 : Int32 → Int32 → Mm → Option (Int32 × Mm)) (c2 : Int32), (∀ (x7 : Int32) (x8 : Int32) (N9 : Mm), Jg X V z (K6 x7 x8 N9) N9 56 [(0, .ref (G.2.1 54)), (1, .int c2), (2, .int x7), (3, .int x8)] []) → ∀ (n11 : Nat) (x3 : Int32) (x4 : Int32) (N5 : Mm), Jg X V z (lX7_passesNumber_8 K6 c2 n11 x3 x4 N5) N5 8 [(0, .ref (G.2.1 54)), (1, .int c2), (2, .int x3), (3, .int x4)] [] := by
    intro K6 c2 hK6 n11
    induction n11 with
    | zero => intro x3 x4 N5; rw [lX7_passesNumber_8]; exact j_none
    | succ n11 ih10 =>
      intro x3 x4 N5
      rw [lX7_passesNumber_8]
      refine j_aload_n F dX7_passesNumber_8 rfl 0 rfl ?_
      refine j_callVi (As := []) F D hX (mX7_here l G) ce_54 rfl kX7_here rfl gX7_passesNumber_X7_here ⟨rfl, rfl⟩ ⟨Nat.le_of_ble_eq_true rfl, Nat.le_of_ble_eq_true rfl⟩ rfl (Nat.le_of_ble_eq_true rfl) rfl dX7_passesNumber_9 (fun w12 => ?_)
      refine j_bipush (v := (48 : Int32)) F dX7_passesNumber_12 (by decide) ?_
      refine j_bipush (v := (57 : Int32)) F dX7_passesNumber_14 (by decide) ?_
      refine j_callSi (As := [.int w12.1, .int (48 : Int32), .int (57 : Int32)]) F D hX (mX7_within l G w12.1 (48 : Int32) (57 : Int32)) kX7_within gX7_passesNumber_X7_within ⟨rfl, rfl⟩ ⟨Nat.le_of_ble_eq_true rfl, Nat.le_of_ble_eq_true rfl⟩ rfl (Nat.le_of_ble_eq_true rfl) rfl dX7_passesNumber_16 (fun w13 => ?_)
      refine j_if_eq (tgt := 56) F dX7_passesNumber_19 (by decide) ?_ ?_
      · exact j_sub [0, 1, 2, 3] rfl (hK6 x3 x4 w13.2)
      · refine j_iload_n F dX7_passesNumber_22 rfl 3 rfl ?_
        refine j_iconst (v := (2 : Int32)) F dX7_passesNumber_23 (by decide) ?_
        refine j_icmp_ge (tgt := 56) F dX7_passesNumber_24 (by decide) ?_ ?_
        · exact j_sub [0, 1, 2, 3] rfl (hK6 x3 x4 w13.2)
        · refine j_bipush (v := (10 : Int32)) F dX7_passesNumber_27 (by decide) ?_
          refine j_iload_n F dX7_passesNumber_29 rfl 2 rfl ?_
          refine j_imul F dX7_passesNumber_30 ?_
          refine j_aload_n F dX7_passesNumber_31 rfl 0 rfl ?_
          refine j_callVi (As := []) F D hX (mX7_here l G) ce_54 rfl kX7_here rfl gX7_passesNumber_X7_here ⟨rfl, rfl⟩ ⟨Nat.le_of_ble_eq_true rfl, Nat.le_of_ble_eq_true rfl⟩ rfl (Nat.le_of_ble_eq_true rfl) rfl dX7_passesNumber_32 (fun w14 => ?_)
          refine j_iadd F dX7_passesNumber_35 ?_
          refine j_bipush (v := (48 : Int32)) F dX7_passesNumber_36 (by decide) ?_
          refine j_isub F dX7_passesNumber_38 ?_
          refine j_let (f := Value.int) (fun x15 => ?_)
          refine j_istore_n (lv' := [(2, .int x15), (0, .ref (G.2.1 54)), (1, .int c2), (3, .int x4)]) F dX7_passesNumber_39 rfl (by rw [← hml]; decide) rfl ?_
          refine j_aload_n F dX7_passesNumber_40 rfl 1 rfl ?_
          refine j_dup F rfl dX7_passesNumber_41 ?_
          refine j_geti F D ce_54 fl_X7_passesNumber_167 rfl dX7_passesNumber_42 ?_
          refine j_iconst (v := (1 : Int32)) F dX7_passesNumber_45 (by decide) ?_
          refine j_iadd F dX7_passesNumber_46 ?_
          refine j_puti F D ce_54 fp_X7_passesNumber_167 rfl rfl rfl dX7_passesNumber_47 ?_
          refine j_letM (fun N16 => ?_)
          refine j_iinc (v := (x4 + (1 : Int32))) (lv' := [(3, .int (x4 + (1 : Int32))), (2, .int x15), (0, .ref (G.2.1 54)), (1, .int c2)]) F dX7_passesNumber_50 3 rfl rfl (by rw [← hml]; decide) rfl ?_
          refine j_goto (tgt := 8) F dX7_passesNumber_53 (by decide) ?_
          exact j_sub [2, 3, 1, 0] rfl (ih10 x15 (x4 + (1 : Int32)) N16)
  refine j_sub [2, 3, 1, 0] rfl (hL20 _ a0 ?_ fu (0 : Int32) (0 : Int32) w1.2)
  intro x7 x8 N9
  refine j_aload_n F dX7_passesNumber_56 rfl 0 rfl ?_
  refine j_getr (r := 68) F D ce_54 fl_X7_passesNumber_49 rfl dX7_passesNumber_57 ?_
  refine j_iload_n F dX7_passesNumber_60 rfl 1 rfl ?_
  refine j_iload_n F dX7_passesNumber_61 rfl 2 rfl ?_
  refine j_iast F D ce_68 dX7_passesNumber_62 (fun N17 => ?_)
  refine j_iload_n F dX7_passesNumber_63 rfl 3 rfl ?_
  refine j_if_le (tgt := 85) F dX7_passesNumber_64 (by decide) ?_ ?_
  · refine j_iconst (v := (0 : Int32)) F dX7_passesNumber_85 (by decide) ?_
    exact j_iret F D E rfl dX7_passesNumber_86
  · refine j_aload_n F dX7_passesNumber_67 rfl 0 rfl ?_
    refine j_callVi (As := []) F D hX (mX7_here l G) ce_54 rfl kX7_here rfl gX7_passesNumber_X7_here ⟨rfl, rfl⟩ ⟨Nat.le_of_ble_eq_true rfl, Nat.le_of_ble_eq_true rfl⟩ rfl (Nat.le_of_ble_eq_true rfl) rfl dX7_passesNumber_68 (fun w18 => ?_)
    refine j_bipush (v := (48 : Int32)) F dX7_passesNumber_71 (by decide) ?_
    refine j_bipush (v := (57 : Int32)) F dX7_passesNumber_73 (by decide) ?_
    refine j_callSi (As := [.int w18.1, .int (48 : Int32), .int (57 : Int32)]) F D hX (mX7_within l G w18.1 (48 : Int32) (57 : Int32)) kX7_within gX7_passesNumber_X7_within ⟨rfl, rfl⟩ ⟨Nat.le_of_ble_eq_true rfl, Nat.le_of_ble_eq_true rfl⟩ rfl (Nat.le_of_ble_eq_true rfl) rfl dX7_passesNumber_75 (fun w19 => ?_)
    refine j_if_ne (tgt := 85) F dX7_passesNumber_78 (by decide) ?_ ?_
    · refine j_iconst (v := (0 : Int32)) F dX7_passesNumber_85 (by decide) ?_
      exact j_iret F D E rfl dX7_passesNumber_86
    · refine j_iconst (v := (1 : Int32)) F dX7_passesNumber_81 (by decide) ?_
      refine j_goto (tgt := 86) F dX7_passesNumber_82 (by decide) ?_
      exact j_iret F D E rfl dX7_passesNumber_86

/-! FlangeFolderModel.numbersOf -/
def fX7_numbersOf (a0 : Int32) (M : Mm) : Option (Int32 × Mm) := (if a0 = (97 : Int32) then some ((0 : Int32), M) else (if a0 = (98 : Int32) then some ((3 : Int32), M) else (if a0 = (107 : Int32) then some ((2 : Int32), M) else (if a0 = (109 : Int32) then some ((1 : Int32), M) else (if a0 = (112 : Int32) then some ((2 : Int32), M) else (if a0 = (115 : Int32) then some ((1 : Int32), M) else (if a0 = (117 : Int32) then some ((1 : Int32), M) else some ((-1 : Int32), M))))))))
def rmX7_numbersOf : Room := { frames := 0, cells := 0, slots := 0, locals := 0 }
theorem kX7_numbersOf : Kc yX7_numbersOf cX7_numbersOf 1 (some .int) wsX7_numbersOf 1 := ⟨⟨_, rfl⟩, by decide +kernel, by decide +kernel, by decide +kernel⟩
set_option maxHeartbeats 4000000 in
set_option maxRecDepth 100000 in
theorem mX7_numbersOf (l : Launch) (G : Gg) (a0 : Int32) : Ci l G SM yX7_numbersOf wsX7_numbersOf rmX7_numbersOf [.int a0] (fX7_numbersOf a0) := by
  refine Ci.intro (lv := [(0, .int a0)]) RX7 rfl (by decide) kX7_numbersOf (Nat.le_of_ble_eq_true rfl) rfl (fun X V M z F D hX hml E => ?_)
  unfold fX7_numbersOf
  refine j_iload_n F dX7_numbersOf_0 rfl 0 rfl ?_
  refine j_ite (fun h1 => ?_) (fun h1 => ?_)
  · refine j_tsw F dX7_numbersOf_1 (by decide) 100 (by rw [h1]; decide) ?_
    refine j_iconst (v := (0 : Int32)) F dX7_numbersOf_100 (by decide) ?_
    exact j_iret F D E rfl dX7_numbersOf_101
  · refine j_ite (fun h2 => ?_) (fun h2 => ?_)
    · refine j_tsw F dX7_numbersOf_1 (by decide) 106 (by rw [h2]; decide) ?_
      refine j_iconst (v := (3 : Int32)) F dX7_numbersOf_106 (by decide) ?_
      exact j_iret F D E rfl dX7_numbersOf_107
    · refine j_ite (fun h3 => ?_) (fun h3 => ?_)
      · refine j_tsw F dX7_numbersOf_1 (by decide) 104 (by rw [h3]; decide) ?_
        refine j_iconst (v := (2 : Int32)) F dX7_numbersOf_104 (by decide) ?_
        exact j_iret F D E rfl dX7_numbersOf_105
      · refine j_ite (fun h4 => ?_) (fun h4 => ?_)
        · refine j_tsw F dX7_numbersOf_1 (by decide) 102 (by rw [h4]; decide) ?_
          refine j_iconst (v := (1 : Int32)) F dX7_numbersOf_102 (by decide) ?_
          exact j_iret F D E rfl dX7_numbersOf_103
        · refine j_ite (fun h5 => ?_) (fun h5 => ?_)
          · refine j_tsw F dX7_numbersOf_1 (by decide) 104 (by rw [h5]; decide) ?_
            refine j_iconst (v := (2 : Int32)) F dX7_numbersOf_104 (by decide) ?_
            exact j_iret F D E rfl dX7_numbersOf_105
          · refine j_ite (fun h6 => ?_) (fun h6 => ?_)
            · refine j_tsw F dX7_numbersOf_1 (by decide) 102 (by rw [h6]; decide) ?_
              refine j_iconst (v := (1 : Int32)) F dX7_numbersOf_102 (by decide) ?_
              exact j_iret F D E rfl dX7_numbersOf_103
            · refine j_ite (fun h7 => ?_) (fun h7 => ?_)
              · refine j_tsw F dX7_numbersOf_1 (by decide) 102 (by rw [h7]; decide) ?_
                refine j_iconst (v := (1 : Int32)) F dX7_numbersOf_102 (by decide) ?_
                exact j_iret F D E rfl dX7_numbersOf_103
              · refine j_tsw F dX7_numbersOf_1 (by decide) 108 (tsw_d [97, 98, 107, 109, 112, 115, 117] (by decide) (by decide) (by simp only [List.mem_cons, List.not_mem_nil, or_false, not_or]; exact ⟨toInt_ne (by decide) h1, toInt_ne (by decide) h2, toInt_ne (by decide) h3, toInt_ne (by decide) h4, toInt_ne (by decide) h5, toInt_ne (by decide) h6, toInt_ne (by decide) h7⟩)) ?_
                refine j_iconst (v := (-1 : Int32)) F dX7_numbersOf_108 (by decide) ?_
                exact j_iret F D E rfl dX7_numbersOf_109

/-! FlangeFolderModel.passesOne -/
def lX7_passesOne_39 (K9 : Mm → Option (Int32 × Mm)) (c6 : Int32) : Nat → Int32 → Mm → Option (Int32 × Mm)
  | 0, _, _ => none
  | n12 + 1, x7, N8 => (if c6 ≤ x7 then K9 N8 else (fX7_passesNumber (((3 : Int32) * (N8.1 54 15)) + x7) N8).bind (fun w13 => (if w13.1 = (0 : Int32) then some ((0 : Int32), w13.2) else lX7_passesOne_39 K9 c6 n12 (x7 + (1 : Int32)) w13.2)))
def fX7_passesOne (M : Mm) : Option (Int32 × Mm) := (fX7_here M).bind (fun w1 => (fX7_numbersOf w1.1 w1.2).bind (fun w2 => (if (0 : Int32) ≤ w2.1 then (fX7_here w2.2).bind (fun w3 => (wr w3.2 67 60 (w2.2.1 54 15) w3.1).bind (fun N4 => lt (stI N4 54 14 ((N4.1 54 14) + (1 : Int32))) (fun N5 => lX7_passesOne_39 (fun (N10 : Mm) => (fX7_blanks N10).bind (fun w14 => (fX7_here w14.2).bind (fun w15 => (if w15.1 = (59 : Int32) then lt (stI w15.2 54 14 ((w15.2.1 54 14) + (1 : Int32))) (fun N16 => lt (stI N16 54 15 ((N16.1 54 15) + (1 : Int32))) (fun N17 => (fX7_blanks N17).bind (fun w18 => some ((1 : Int32), w18.2)))) else some ((0 : Int32), w15.2))))) w2.1 fu (0 : Int32) N5))) else some ((0 : Int32), w2.2))))
def rmX7_passesOne : Room := { frames := 3, cells := 0, slots := 0, locals := 63 }
theorem kX7_passesOne : Kc yX7_passesOne cX7_passesOne 3 (some .boolean) wsX7_passesOne 0 := ⟨⟨_, rfl⟩, by decide +kernel, by decide +kernel, by decide +kernel⟩
theorem ic_X7_passesOne_X7 : ∀ w ∈ u_ws RX7 TX7 19, w ∈ wsX7_passesOne := by decide +kernel
theorem fl_X7_passesOne_46 : Fl wsX7_passesOne RX7 46 7 16 := ⟨RX7, TX7, 19, rfl, by decide, ic_X7_passesOne_X7, by decide +kernel⟩
theorem fl_X7_passesOne_179 : Fl wsX7_passesOne RX7 179 7 15 := ⟨RX7, TX7, 19, rfl, by decide, ic_X7_passesOne_X7, by decide +kernel⟩
theorem fl_X7_passesOne_167 : Fl wsX7_passesOne RX7 167 7 14 := ⟨RX7, TX7, 19, rfl, by decide, ic_X7_passesOne_X7, by decide +kernel⟩
theorem fp_X7_passesOne_167 : Fp wsX7_passesOne RX7 167 7 14 .int := ⟨RX7, TX7, 19, tyX7, rfl, by decide, ic_X7_passesOne_X7, by decide +kernel, tyX7_ok, nmX7, rfl, rfl⟩
theorem fp_X7_passesOne_179 : Fp wsX7_passesOne RX7 179 7 15 .int := ⟨RX7, TX7, 19, tyX7, rfl, by decide, ic_X7_passesOne_X7, by decide +kernel, tyX7_ok, nmX7, rfl, rfl⟩
set_option maxHeartbeats 4000000 in
set_option maxRecDepth 100000 in
theorem mX7_passesOne (l : Launch) (G : Gg) : Ci l G SM yX7_passesOne wsX7_passesOne rmX7_passesOne [.ref (G.2.1 54)] fX7_passesOne := by
  refine Ci.intro (lv := [(0, .ref (G.2.1 54))]) RX7 rfl (by decide) kX7_passesOne (Nat.le_of_ble_eq_true rfl) rfl (fun X V M z F D hX hml E => ?_)
  unfold fX7_passesOne
  refine j_aload_n F dX7_passesOne_0 rfl 0 rfl ?_
  refine j_callVi (As := []) F D hX (mX7_here l G) ce_54 rfl kX7_here rfl gX7_passesOne_X7_here ⟨rfl, rfl⟩ ⟨Nat.le_of_ble_eq_true rfl, Nat.le_of_ble_eq_true rfl⟩ rfl (Nat.le_of_ble_eq_true rfl) rfl dX7_passesOne_1 (fun w1 => ?_)
  refine j_callSi (As := [.int w1.1]) F D hX (mX7_numbersOf l G w1.1) kX7_numbersOf gX7_passesOne_X7_numbersOf ⟨rfl, rfl⟩ ⟨Nat.le_of_ble_eq_true rfl, Nat.le_of_ble_eq_true rfl⟩ rfl (Nat.le_of_ble_eq_true rfl) rfl dX7_passesOne_4 (fun w2 => ?_)
  refine j_istore_n (lv' := [(1, .int w2.1), (0, .ref (G.2.1 54))]) F dX7_passesOne_7 rfl (by rw [← hml]; decide) rfl ?_
  refine j_iload_n F dX7_passesOne_8 rfl 0 rfl ?_
  refine j_if_ge (tgt := 14) F dX7_passesOne_9 (by decide) ?_ ?_
  · refine j_aload_n F dX7_passesOne_14 rfl 1 rfl ?_
    refine j_getr (r := 67) F D ce_54 fl_X7_passesOne_46 rfl dX7_passesOne_15 ?_
    refine j_aload_n F dX7_passesOne_18 rfl 1 rfl ?_
    refine j_geti F D ce_54 fl_X7_passesOne_179 rfl dX7_passesOne_19 ?_
    refine j_aload_n F dX7_passesOne_22 rfl 1 rfl ?_
    refine j_callVi (As := []) F D hX (mX7_here l G) ce_54 rfl kX7_here rfl gX7_passesOne_X7_here ⟨rfl, rfl⟩ ⟨Nat.le_of_ble_eq_true rfl, Nat.le_of_ble_eq_true rfl⟩ rfl (Nat.le_of_ble_eq_true rfl) rfl dX7_passesOne_23 (fun w3 => ?_)
    refine j_iast F D ce_67 dX7_passesOne_26 (fun N4 => ?_)
    refine j_aload_n F dX7_passesOne_27 rfl 1 rfl ?_
    refine j_dup F rfl dX7_passesOne_28 ?_
    refine j_geti F D ce_54 fl_X7_passesOne_167 rfl dX7_passesOne_29 ?_
    refine j_iconst (v := (1 : Int32)) F dX7_passesOne_32 (by decide) ?_
    refine j_iadd F dX7_passesOne_33 ?_
    refine j_puti F D ce_54 fp_X7_passesOne_167 rfl rfl rfl dX7_passesOne_34 ?_
    refine j_letM (fun N5 => ?_)
    refine j_iconst (v := (0 : Int32)) F dX7_passesOne_37 (by decide) ?_
    refine j_istore_n (lv' := [(2, .int (0 : Int32)), (1, .int w2.1), (0, .ref (G.2.1 54))]) F dX7_passesOne_38 rfl (by rw [← hml]; decide) rfl ?_
    have hL19 : ∀ (K9 : Mm → Option (Int32 × Mm)) (c6 : Int32), (∀ (N10 : Mm), Jg X V z (K9 N10) N10 67 [(0, .ref (G.2.1 54))] []) → ∀ (n12 : Nat) (x7 : Int32) (N8 : Mm), Jg X V z (lX7_passesOne_39 K9 c6 n12 x7 N8) N8 39 [(0, .ref (G.2.1 54)), (1, .int c6), (2, .int x7)] [] := by
      intro K9 c6 hK9 n12
      induction n12 with
      | zero => intro x7 N8; rw [lX7_passesOne_39]; exact j_none
      | succ n12 ih11 =>
        intro x7 N8
        rw [lX7_passesOne_39]
        refine j_iload_n F dX7_passesOne_39 rfl 2 rfl ?_
        refine j_iload_n F dX7_passesOne_40 rfl 1 rfl ?_
        refine j_icmp_ge (tgt := 67) F dX7_passesOne_41 (by decide) ?_ ?_
        · exact j_sub [0] rfl (hK9 N8)
        · refine j_aload_n F dX7_passesOne_44 rfl 0 rfl ?_
          refine j_iconst (v := (3 : Int32)) F dX7_passesOne_45 (by decide) ?_
          refine j_aload_n F dX7_passesOne_46 rfl 0 rfl ?_
          refine j_geti F D ce_54 fl_X7_passesOne_179 rfl dX7_passesOne_47 ?_
          refine j_imul F dX7_passesOne_50 ?_
          refine j_iload_n F dX7_passesOne_51 rfl 2 rfl ?_
          refine j_iadd F dX7_passesOne_52 ?_
          refine j_callVi (As := [.int (((3 : Int32) * (N8.1 54 15)) + x7)]) F D hX (mX7_passesNumber l G (((3 : Int32) * (N8.1 54 15)) + x7)) ce_54 rfl kX7_passesNumber rfl gX7_passesOne_X7_passesNumber ⟨rfl, rfl⟩ ⟨Nat.le_of_ble_eq_true rfl, Nat.le_of_ble_eq_true rfl⟩ rfl (Nat.le_of_ble_eq_true rfl) rfl dX7_passesOne_53 (fun w13 => ?_)
          refine j_if_ne (tgt := 61) F dX7_passesOne_56 (by decide) ?_ ?_
          · refine j_iinc (v := (x7 + (1 : Int32))) (lv' := [(2, .int (x7 + (1 : Int32))), (0, .ref (G.2.1 54)), (1, .int c6)]) F dX7_passesOne_61 2 rfl rfl (by rw [← hml]; decide) rfl ?_
            refine j_goto (tgt := 39) F dX7_passesOne_64 (by decide) ?_
            exact j_sub [1, 2, 0] rfl (ih11 (x7 + (1 : Int32)) w13.2)
          · refine j_iconst (v := (0 : Int32)) F dX7_passesOne_59 (by decide) ?_
            exact j_iret F D E rfl dX7_passesOne_60
    refine j_sub [2, 1, 0] rfl (hL19 _ w2.1 ?_ fu (0 : Int32) N5)
    intro N10
    refine j_aload_n F dX7_passesOne_67 rfl 0 rfl ?_
    refine j_callVv (As := []) F D hX (mX7_blanks l G) ce_54 rfl kX7_blanks rfl gX7_passesOne_X7_blanks ⟨rfl, rfl⟩ ⟨Nat.le_of_ble_eq_true rfl, Nat.le_of_ble_eq_true rfl⟩ rfl (Nat.le_of_ble_eq_true rfl) rfl dX7_passesOne_68 (fun w14 => ?_)
    refine j_aload_n F dX7_passesOne_71 rfl 0 rfl ?_
    refine j_callVi (As := []) F D hX (mX7_here l G) ce_54 rfl kX7_here rfl gX7_passesOne_X7_here ⟨rfl, rfl⟩ ⟨Nat.le_of_ble_eq_true rfl, Nat.le_of_ble_eq_true rfl⟩ rfl (Nat.le_of_ble_eq_true rfl) rfl dX7_passesOne_72 (fun w15 => ?_)
    refine j_bipush (v := (59 : Int32)) F dX7_passesOne_75 (by decide) ?_
    refine j_icmp_eq (tgt := 82) F dX7_passesOne_77 (by decide) ?_ ?_
    · refine j_aload_n F dX7_passesOne_82 rfl 0 rfl ?_
      refine j_dup F rfl dX7_passesOne_83 ?_
      refine j_geti F D ce_54 fl_X7_passesOne_167 rfl dX7_passesOne_84 ?_
      refine j_iconst (v := (1 : Int32)) F dX7_passesOne_87 (by decide) ?_
      refine j_iadd F dX7_passesOne_88 ?_
      refine j_puti F D ce_54 fp_X7_passesOne_167 rfl rfl rfl dX7_passesOne_89 ?_
      refine j_letM (fun N16 => ?_)
      refine j_aload_n F dX7_passesOne_92 rfl 0 rfl ?_
      refine j_dup F rfl dX7_passesOne_93 ?_
      refine j_geti F D ce_54 fl_X7_passesOne_179 rfl dX7_passesOne_94 ?_
      refine j_iconst (v := (1 : Int32)) F dX7_passesOne_97 (by decide) ?_
      refine j_iadd F dX7_passesOne_98 ?_
      refine j_puti F D ce_54 fp_X7_passesOne_179 rfl rfl rfl dX7_passesOne_99 ?_
      refine j_letM (fun N17 => ?_)
      refine j_aload_n F dX7_passesOne_102 rfl 0 rfl ?_
      refine j_callVv (As := []) F D hX (mX7_blanks l G) ce_54 rfl kX7_blanks rfl gX7_passesOne_X7_blanks ⟨rfl, rfl⟩ ⟨Nat.le_of_ble_eq_true rfl, Nat.le_of_ble_eq_true rfl⟩ rfl (Nat.le_of_ble_eq_true rfl) rfl dX7_passesOne_103 (fun w18 => ?_)
      refine j_iconst (v := (1 : Int32)) F dX7_passesOne_106 (by decide) ?_
      exact j_iret F D E rfl dX7_passesOne_107
    · refine j_iconst (v := (0 : Int32)) F dX7_passesOne_80 (by decide) ?_
      exact j_iret F D E rfl dX7_passesOne_81
  · refine j_iconst (v := (0 : Int32)) F dX7_passesOne_12 (by decide) ?_
    exact j_iret F D E rfl dX7_passesOne_13

/-! FlangeFolderModel.isRead -/
def lX7_isRead_19 (K7 : Int32 → Mm → Option (Int32 × Mm))  : Nat → Int32 → Mm → Option (Int32 × Mm)
  | 0, _, _ => none
  | n11 + 1, x5, N6 => (if x5 = (0 : Int32) then K7 x5 N6 else (if (N6.1 54 6) ≤ (N6.1 54 14) then K7 x5 N6 else (fX7_passesOne N6).bind (fun w12 => lX7_isRead_19 K7 n11 w12.1 w12.2)))
def fX7_isRead (M : Mm) : Option (Int32 × Mm) := lt (stI M 54 14 (0 : Int32)) (fun N1 => lt (stI N1 54 15 (0 : Int32)) (fun N2 => (fX7_blanks N2).bind (fun w3 => (fX7_passesOne w3.2).bind (fun w4 => lX7_isRead_19 (fun (x8 : Int32) (N9 : Mm) => (ckZ x8).bind (fun r => some (r, N9)))  fu w4.1 w4.2))))
def rmX7_isRead : Room := { frames := 4, cells := 0, slots := 0, locals := 85 }
theorem kX7_isRead : Kc yX7_isRead cX7_isRead 2 (some .boolean) wsX7_isRead 0 := ⟨⟨_, rfl⟩, by decide +kernel, by decide +kernel, by decide +kernel⟩
theorem ic_X7_isRead_X7 : ∀ w ∈ u_ws RX7 TX7 19, w ∈ wsX7_isRead := by decide +kernel
theorem fp_X7_isRead_167 : Fp wsX7_isRead RX7 167 7 14 .int := ⟨RX7, TX7, 19, tyX7, rfl, by decide, ic_X7_isRead_X7, by decide +kernel, tyX7_ok, nmX7, rfl, rfl⟩
theorem fp_X7_isRead_179 : Fp wsX7_isRead RX7 179 7 15 .int := ⟨RX7, TX7, 19, tyX7, rfl, by decide, ic_X7_isRead_X7, by decide +kernel, tyX7_ok, nmX7, rfl, rfl⟩
theorem fl_X7_isRead_167 : Fl wsX7_isRead RX7 167 7 14 := ⟨RX7, TX7, 19, rfl, by decide, ic_X7_isRead_X7, by decide +kernel⟩
theorem fl_X7_isRead_164 : Fl wsX7_isRead RX7 164 7 6 := ⟨RX7, TX7, 19, rfl, by decide, ic_X7_isRead_X7, by decide +kernel⟩
set_option maxHeartbeats 4000000 in
set_option maxRecDepth 100000 in
theorem mX7_isRead (l : Launch) (G : Gg) : Ci l G SM yX7_isRead wsX7_isRead rmX7_isRead [.ref (G.2.1 54)] fX7_isRead := by
  refine Ci.intro (lv := [(0, .ref (G.2.1 54))]) RX7 rfl (by decide) kX7_isRead (Nat.le_of_ble_eq_true rfl) rfl (fun X V M z F D hX hml E => ?_)
  unfold fX7_isRead
  refine j_aload_n F dX7_isRead_0 rfl 0 rfl ?_
  refine j_iconst (v := (0 : Int32)) F dX7_isRead_1 (by decide) ?_
  refine j_puti F D ce_54 fp_X7_isRead_167 rfl rfl rfl dX7_isRead_2 ?_
  refine j_letM (fun N1 => ?_)
  refine j_aload_n F dX7_isRead_5 rfl 0 rfl ?_
  refine j_iconst (v := (0 : Int32)) F dX7_isRead_6 (by decide) ?_
  refine j_puti F D ce_54 fp_X7_isRead_179 rfl rfl rfl dX7_isRead_7 ?_
  refine j_letM (fun N2 => ?_)
  refine j_aload_n F dX7_isRead_10 rfl 0 rfl ?_
  refine j_callVv (As := []) F D hX (mX7_blanks l G) ce_54 rfl kX7_blanks rfl gX7_isRead_X7_blanks ⟨rfl, rfl⟩ ⟨Nat.le_of_ble_eq_true rfl, Nat.le_of_ble_eq_true rfl⟩ rfl (Nat.le_of_ble_eq_true rfl) rfl dX7_isRead_11 (fun w3 => ?_)
  refine j_aload_n F dX7_isRead_14 rfl 0 rfl ?_
  refine j_callVi (As := []) F D hX (mX7_passesOne l G) ce_54 rfl kX7_passesOne rfl gX7_isRead_X7_passesOne ⟨rfl, rfl⟩ ⟨Nat.le_of_ble_eq_true rfl, Nat.le_of_ble_eq_true rfl⟩ rfl (Nat.le_of_ble_eq_true rfl) rfl dX7_isRead_15 (fun w4 => ?_)
  refine j_istore_n (lv' := [(1, .int w4.1), (0, .ref (G.2.1 54))]) F dX7_isRead_18 rfl (by rw [← hml]; decide) rfl ?_
  have hL13 : ∀ (K7 : Int32 → Mm → Option (Int32 × Mm)) , (∀ (x8 : Int32) (N9 : Mm), Jg X V z (K7 x8 N9) N9 42 [(1, .int x8)] []) → ∀ (n11 : Nat) (x5 : Int32) (N6 : Mm), Jg X V z (lX7_isRead_19 K7 n11 x5 N6) N6 19 [(0, .ref (G.2.1 54)), (1, .int x5)] [] := by
    intro K7  hK7 n11
    induction n11 with
    | zero => intro x5 N6; rw [lX7_isRead_19]; exact j_none
    | succ n11 ih10 =>
      intro x5 N6
      rw [lX7_isRead_19]
      refine j_iload_n F dX7_isRead_19 rfl 1 rfl ?_
      refine j_if_eq (tgt := 42) F dX7_isRead_20 (by decide) ?_ ?_
      · exact j_sub [1] rfl (hK7 x5 N6)
      · refine j_aload_n F dX7_isRead_23 rfl 0 rfl ?_
        refine j_geti F D ce_54 fl_X7_isRead_167 rfl dX7_isRead_24 ?_
        refine j_aload_n F dX7_isRead_27 rfl 0 rfl ?_
        refine j_geti F D ce_54 fl_X7_isRead_164 rfl dX7_isRead_28 ?_
        refine j_icmp_ge (tgt := 42) F dX7_isRead_31 (by decide) ?_ ?_
        · exact j_sub [1] rfl (hK7 x5 N6)
        · refine j_aload_n F dX7_isRead_34 rfl 0 rfl ?_
          refine j_callVi (As := []) F D hX (mX7_passesOne l G) ce_54 rfl kX7_passesOne rfl gX7_isRead_X7_passesOne ⟨rfl, rfl⟩ ⟨Nat.le_of_ble_eq_true rfl, Nat.le_of_ble_eq_true rfl⟩ rfl (Nat.le_of_ble_eq_true rfl) rfl dX7_isRead_35 (fun w12 => ?_)
          refine j_istore_n (lv' := [(1, .int w12.1), (0, .ref (G.2.1 54))]) F dX7_isRead_38 rfl (by rw [← hml]; decide) rfl ?_
          refine j_goto (tgt := 19) F dX7_isRead_39 (by decide) ?_
          exact j_sub [1, 0] rfl (ih10 w12.1 w12.2)
  refine j_sub [1, 0] rfl (hL13 _  ?_ fu w4.1 w4.2)
  intro x8 N9
  refine j_iload_n F dX7_isRead_42 rfl 0 rfl ?_
  exact j_zret F D E dX7_isRead_43

/-! FlangeFolderModel.isDone -/
def fX7_isDone (a0 : Int32) (M : Mm) : Option (Int32 × Mm) := (rd M 68 180 ((3 : Int32) * a0)).bind (fun v1 => (rd M 68 180 (((3 : Int32) * a0) + (1 : Int32))).bind (fun v2 => (rd M 68 180 (((3 : Int32) * a0) + (2 : Int32))).bind (fun v3 => jn (fun (x4 : Int32) => (rd M 67 60 a0).bind (fun v6 => (if v6 = (98 : Int32) then (fX7_mayBend v1 x4 v3 M).bind (fun w8 => jn (fun (x9 : Int32) => (if x9 = (0 : Int32) then (ckZ x9).bind (fun r => some (r, w8.2)) else (fX7_adds v1 x4 v3 w8.2).bind (fun w11 => (ckZ x9).bind (fun r => some (r, w11.2))))) (fun K10 => jn (fun (_u : Unit) => K10 (0 : Int32)) (fun K12 => (if w8.1 = (0 : Int32) then K12 () else (rd w8.2 55 26 (0 : Int32)).bind (fun v13 => (if (6 : Int32) ≤ v13 then K12 () else K10 (1 : Int32))))))) else (if v6 = (107 : Int32) then (fX7_mayTake v1 v2 M).bind (fun w15 => (if w15.1 = (0 : Int32) then (ckZ w15.1).bind (fun r => some (r, w15.2)) else (fX7_takesNow v1 v2 w15.2).bind (fun w16 => (ckZ w15.1).bind (fun r => some (r, w16.2))))) else (if v6 = (109 : Int32) then (fX7_isBend v1 M).bind (fun w18 => jn (fun (x19 : Int32) (N20 : Mm) => (rd N20 55 26 (20 : Int32)).bind (fun v22 => (if x19 = (0 : Int32) then (wr N20 55 26 (20 : Int32) (v22 ||| (0 : Int32))).bind (fun N23 => (ckZ x19).bind (fun r => some (r, N23))) else (wr N20 55 26 (20 : Int32) (v22 ||| ((1 : Int32) <<< (v1 &&& 31)))).bind (fun N24 => (ckZ x19).bind (fun r => some (r, N24)))))) (fun K21 => jn (fun (N25 : Mm) => K21 (0 : Int32) N25) (fun K26 => (if w18.1 = (0 : Int32) then K26 w18.2 else (rd w18.2 55 26 (20 : Int32)).bind (fun v27 => (fX7_isFree v1 v27 w18.2).bind (fun w28 => (if w28.1 = (0 : Int32) then K26 w28.2 else K21 (1 : Int32) w28.2))))))) else (if v6 = (112 : Int32) then (fX7_mayPress v1 v2 M).bind (fun w30 => (if w30.1 = (0 : Int32) then (ckZ w30.1).bind (fun r => some (r, w30.2)) else (fX7_presses v1 v2 w30.2).bind (fun w31 => (ckZ w30.1).bind (fun r => some (r, w31.2))))) else (if v6 = (115 : Int32) then (fX7_within v1 (1 : Int32) (20 : Int32) M).bind (fun w33 => (if w33.1 = (0 : Int32) then (ckZ w33.1).bind (fun r => some (r, w33.2)) else (fX7_strips v1 w33.2).bind (fun w34 => (ckZ w33.1).bind (fun r => some (r, w34.2))))) else (if v6 = (117 : Int32) then (fX7_isBend v1 M).bind (fun w36 => jn (fun (x37 : Int32) (N38 : Mm) => (rd N38 55 26 (20 : Int32)).bind (fun v40 => (if x37 = (0 : Int32) then (wr N38 55 26 (20 : Int32) (v40 &&& (-1 : Int32))).bind (fun N41 => (ckZ x37).bind (fun r => some (r, N41))) else (wr N38 55 26 (20 : Int32) (v40 &&& (((1 : Int32) <<< (v1 &&& 31)) ^^^ (-1 : Int32)))).bind (fun N42 => (ckZ x37).bind (fun r => some (r, N42)))))) (fun K39 => jn (fun (N43 : Mm) => K39 (0 : Int32) N43) (fun K44 => (if w36.1 = (0 : Int32) then K44 w36.2 else (rd w36.2 55 26 (20 : Int32)).bind (fun v45 => (fX7_has v45 v1 w36.2).bind (fun w46 => (if w46.1 = (0 : Int32) then K44 w46.2 else K39 (1 : Int32) w46.2))))))) else (wr M 55 26 (20 : Int32) (0 : Int32)).bind (fun N47 => some ((1 : Int32), N47)))))))))) (fun K5 => (if v2 = (0 : Int32) then K5 (1 : Int32) else (if v2 = (1 : Int32) then K5 (-1 : Int32) else K5 (0 : Int32)))))))
def rmX7_isDone : Room := { frames := 4, cells := 0, slots := 0, locals := 100 }
theorem kX7_isDone : Kc yX7_isDone cX7_isDone 7 (some .boolean) wsX7_isDone 1 := ⟨⟨_, rfl⟩, by decide +kernel, by decide +kernel, by decide +kernel⟩
theorem ic_X7_isDone_X7 : ∀ w ∈ u_ws RX7 TX7 19, w ∈ wsX7_isDone := by decide +kernel
theorem fl_X7_isDone_49 : Fl wsX7_isDone RX7 49 7 17 := ⟨RX7, TX7, 19, rfl, by decide, ic_X7_isDone_X7, by decide +kernel⟩
theorem fl_X7_isDone_46 : Fl wsX7_isDone RX7 46 7 16 := ⟨RX7, TX7, 19, rfl, by decide, ic_X7_isDone_X7, by decide +kernel⟩
theorem fl_X7_isDone_7 : Fl wsX7_isDone RX7 7 7 0 := ⟨RX7, TX7, 19, rfl, by decide, ic_X7_isDone_X7, by decide +kernel⟩
set_option maxHeartbeats 4000000 in
set_option maxRecDepth 100000 in
theorem mX7_isDone (l : Launch) (G : Gg) (a0 : Int32) : Ci l G SM yX7_isDone wsX7_isDone rmX7_isDone [.ref (G.2.1 54), .int a0] (fX7_isDone a0) := by
  refine Ci.intro (lv := [(0, .ref (G.2.1 54)), (1, .int a0)]) RX7 rfl (by decide) kX7_isDone (Nat.le_of_ble_eq_true rfl) rfl (fun X V M z F D hX hml E => ?_)
  unfold fX7_isDone
  refine j_aload_n F dX7_isDone_0 rfl 0 rfl ?_
  refine j_getr (r := 68) F D ce_54 fl_X7_isDone_49 rfl dX7_isDone_1 ?_
  refine j_iconst (v := (3 : Int32)) F dX7_isDone_4 (by decide) ?_
  refine j_iload_n F dX7_isDone_5 rfl 1 rfl ?_
  refine j_imul F dX7_isDone_6 ?_
  refine j_iald F D ce_68 dX7_isDone_7 (fun v1 => ?_)
  refine j_istore_n (lv' := [(2, .int v1), (0, .ref (G.2.1 54)), (1, .int a0)]) F dX7_isDone_8 rfl (by rw [← hml]; decide) rfl ?_
  refine j_aload_n F dX7_isDone_9 rfl 1 rfl ?_
  refine j_getr (r := 68) F D ce_54 fl_X7_isDone_49 rfl dX7_isDone_10 ?_
  refine j_iconst (v := (3 : Int32)) F dX7_isDone_13 (by decide) ?_
  refine j_iload_n F dX7_isDone_14 rfl 2 rfl ?_
  refine j_imul F dX7_isDone_15 ?_
  refine j_iconst (v := (1 : Int32)) F dX7_isDone_16 (by decide) ?_
  refine j_iadd F dX7_isDone_17 ?_
  refine j_iald F D ce_68 dX7_isDone_18 (fun v2 => ?_)
  refine j_istore_n (lv' := [(3, .int v2), (2, .int v1), (0, .ref (G.2.1 54)), (1, .int a0)]) F dX7_isDone_19 rfl (by rw [← hml]; decide) rfl ?_
  refine j_aload_n F dX7_isDone_20 rfl 2 rfl ?_
  refine j_getr (r := 68) F D ce_54 fl_X7_isDone_49 rfl dX7_isDone_21 ?_
  refine j_iconst (v := (3 : Int32)) F dX7_isDone_24 (by decide) ?_
  refine j_iload_n F dX7_isDone_25 rfl 3 rfl ?_
  refine j_imul F dX7_isDone_26 ?_
  refine j_iconst (v := (2 : Int32)) F dX7_isDone_27 (by decide) ?_
  refine j_iadd F dX7_isDone_28 ?_
  refine j_iald F D ce_68 dX7_isDone_29 (fun v3 => ?_)
  refine j_istore (lv' := [(4, .int v3), (3, .int v2), (2, .int v1), (0, .ref (G.2.1 54)), (1, .int a0)]) F dX7_isDone_30 (by rw [← hml]; decide) rfl ?_
  refine j_iload_n F dX7_isDone_32 rfl 1 rfl ?_
  refine j_jn (P := fun (K5 : Int32 → Option (Int32 × Mm)) => ∀ (x4 : Int32), Jg X V z (K5 x4) M 50 [(0, .ref (G.2.1 54)), (1, .int a0), (2, .int v1), (3, .int v2), (4, .int v3)] [.int x4]) ?_ (fun K5 hK5 => ?_)
  · intro x4
    refine j_istore (lv' := [(5, .int x4), (0, .ref (G.2.1 54)), (1, .int a0), (2, .int v1), (3, .int v2), (4, .int v3)]) F dX7_isDone_50 (by rw [← hml]; decide) rfl ?_
    refine j_aload_n F dX7_isDone_52 rfl 1 rfl ?_
    refine j_getr (r := 67) F D ce_54 fl_X7_isDone_46 rfl dX7_isDone_53 ?_
    refine j_iload_n F dX7_isDone_56 rfl 2 rfl ?_
    refine j_iald F D ce_67 dX7_isDone_57 (fun v6 => ?_)
    refine j_ite (fun h7 => ?_) (fun h7 => ?_)
    · refine j_tsw F dX7_isDone_58 (by decide) 175 (by rw [h7]; decide) ?_
      refine j_aload_n F dX7_isDone_175 rfl 1 rfl ?_
      refine j_iload_n F dX7_isDone_176 rfl 3 rfl ?_
      refine j_iload F dX7_isDone_177 0 rfl ?_
      refine j_iload F dX7_isDone_179 5 rfl ?_
      refine j_callVi (As := [.int v1, .int x4, .int v3]) F D hX (mX7_mayBend l G v1 x4 v3) ce_54 rfl kX7_mayBend rfl gX7_isDone_X7_mayBend ⟨rfl, rfl⟩ ⟨Nat.le_of_ble_eq_true rfl, Nat.le_of_ble_eq_true rfl⟩ rfl (Nat.le_of_ble_eq_true rfl) rfl dX7_isDone_181 (fun w8 => ?_)
      refine j_jn (P := fun (K10 : Int32 → Option (Int32 × Mm)) => ∀ (x9 : Int32), Jg X V z (K10 x9) w8.2 203 [(0, .ref (G.2.1 54)), (2, .int v1), (4, .int v3), (5, .int x4)] [.int x9]) ?_ (fun K10 hK10 => ?_)
      · intro x9
        refine j_istore (lv' := [(6, .int x9), (0, .ref (G.2.1 54)), (2, .int v1), (4, .int v3), (5, .int x4)]) F dX7_isDone_203 (by rw [← hml]; decide) rfl ?_
        refine j_iload F dX7_isDone_205 0 rfl ?_
        refine j_if_eq (tgt := 220) F dX7_isDone_207 (by decide) ?_ ?_
        · refine j_iload F dX7_isDone_220 0 rfl ?_
          exact j_zret F D E dX7_isDone_222
        · refine j_aload_n F dX7_isDone_210 rfl 1 rfl ?_
          refine j_iload_n F dX7_isDone_211 rfl 2 rfl ?_
          refine j_iload F dX7_isDone_212 4 rfl ?_
          refine j_iload F dX7_isDone_214 3 rfl ?_
          refine j_callVi (As := [.int v1, .int x4, .int v3]) F D hX (mX7_adds l G v1 x4 v3) ce_54 rfl kX7_adds rfl gX7_isDone_X7_adds ⟨rfl, rfl⟩ ⟨Nat.le_of_ble_eq_true rfl, Nat.le_of_ble_eq_true rfl⟩ rfl (Nat.le_of_ble_eq_true rfl) rfl dX7_isDone_216 (fun w11 => ?_)
          refine j_pop F rfl dX7_isDone_219 ?_
          refine j_iload F dX7_isDone_220 0 rfl ?_
          exact j_zret F D E dX7_isDone_222
      · refine j_jn (P := fun (K12 : Unit → Option (Int32 × Mm)) => ∀ (_u : Unit), Jg X V z (K12 _u) w8.2 202 [(0, .ref (G.2.1 54)), (2, .int v1), (4, .int v3), (5, .int x4)] []) ?_ (fun K12 hK12 => ?_)
        · intro _u
          refine j_iconst (v := (0 : Int32)) F dX7_isDone_202 (by decide) ?_
          exact j_sub [0, 1, 2, 3] rfl (hK10 (0 : Int32))
        · refine j_if_eq (tgt := 202) F dX7_isDone_184 (by decide) ?_ ?_
          · exact j_sub [1, 3, 5, 0] rfl (hK12 ())
          · refine j_aload_n F dX7_isDone_187 rfl 1 rfl ?_
            refine j_getr (r := 55) F D ce_54 fl_X7_isDone_7 rfl dX7_isDone_188 ?_
            refine j_iconst (v := (0 : Int32)) F dX7_isDone_191 (by decide) ?_
            refine j_iald F D ce_55 dX7_isDone_192 (fun v13 => ?_)
            refine j_bipush (v := (6 : Int32)) F dX7_isDone_193 (by decide) ?_
            refine j_icmp_ge (tgt := 202) F dX7_isDone_195 (by decide) ?_ ?_
            · exact j_sub [1, 3, 5, 0] rfl (hK12 ())
            · refine j_iconst (v := (1 : Int32)) F dX7_isDone_198 (by decide) ?_
              refine j_goto (tgt := 203) F dX7_isDone_199 (by decide) ?_
              exact j_sub [1, 3, 5, 0] rfl (hK10 (1 : Int32))
    · refine j_ite (fun h14 => ?_) (fun h14 => ?_)
      · refine j_tsw F dX7_isDone_58 (by decide) 357 (by rw [h14]; decide) ?_
        refine j_aload_n F dX7_isDone_357 rfl 1 rfl ?_
        refine j_iload_n F dX7_isDone_358 rfl 3 rfl ?_
        refine j_iload_n F dX7_isDone_359 rfl 4 rfl ?_
        refine j_callVi (As := [.int v1, .int v2]) F D hX (mX7_mayTake l G v1 v2) ce_54 rfl kX7_mayTake rfl gX7_isDone_X7_mayTake ⟨rfl, rfl⟩ ⟨Nat.le_of_ble_eq_true rfl, Nat.le_of_ble_eq_true rfl⟩ rfl (Nat.le_of_ble_eq_true rfl) rfl dX7_isDone_360 (fun w15 => ?_)
        refine j_istore (lv' := [(6, .int w15.1), (5, .int x4), (0, .ref (G.2.1 54)), (1, .int a0), (2, .int v1), (3, .int v2), (4, .int v3)]) F dX7_isDone_363 (by rw [← hml]; decide) rfl ?_
        refine j_iload F dX7_isDone_365 0 rfl ?_
        refine j_if_eq (tgt := 377) F dX7_isDone_367 (by decide) ?_ ?_
        · refine j_iload F dX7_isDone_377 0 rfl ?_
          exact j_zret F D E dX7_isDone_379
        · refine j_aload_n F dX7_isDone_370 rfl 2 rfl ?_
          refine j_iload_n F dX7_isDone_371 rfl 4 rfl ?_
          refine j_iload_n F dX7_isDone_372 rfl 5 rfl ?_
          refine j_callVi (As := [.int v1, .int v2]) F D hX (mX7_takesNow l G v1 v2) ce_54 rfl kX7_takesNow rfl gX7_isDone_X7_takesNow ⟨rfl, rfl⟩ ⟨Nat.le_of_ble_eq_true rfl, Nat.le_of_ble_eq_true rfl⟩ rfl (Nat.le_of_ble_eq_true rfl) rfl dX7_isDone_373 (fun w16 => ?_)
          refine j_pop F rfl dX7_isDone_376 ?_
          refine j_iload F dX7_isDone_377 0 rfl ?_
          exact j_zret F D E dX7_isDone_379
      · refine j_ite (fun h17 => ?_) (fun h17 => ?_)
        · refine j_tsw F dX7_isDone_58 (by decide) 223 (by rw [h17]; decide) ?_
          refine j_aload_n F dX7_isDone_223 rfl 1 rfl ?_
          refine j_iload_n F dX7_isDone_224 rfl 3 rfl ?_
          refine j_callVi (As := [.int v1]) F D hX (mX7_isBend l G v1) ce_54 rfl kX7_isBend rfl gX7_isDone_X7_isBend ⟨rfl, rfl⟩ ⟨Nat.le_of_ble_eq_true rfl, Nat.le_of_ble_eq_true rfl⟩ rfl (Nat.le_of_ble_eq_true rfl) rfl dX7_isDone_225 (fun w18 => ?_)
          refine j_jn (P := fun (K21 : Int32 → Mm → Option (Int32 × Mm)) => ∀ (x19 : Int32) (N20 : Mm), Jg X V z (K21 x19 N20) N20 251 [(0, .ref (G.2.1 54)), (2, .int v1)] [.int x19]) ?_ (fun K21 hK21 => ?_)
          · intro x19 N20
            refine j_istore (lv' := [(6, .int x19), (0, .ref (G.2.1 54)), (2, .int v1)]) F dX7_isDone_251 (by rw [← hml]; decide) rfl ?_
            refine j_aload_n F dX7_isDone_253 rfl 1 rfl ?_
            refine j_getr (r := 55) F D ce_54 fl_X7_isDone_7 rfl dX7_isDone_254 ?_
            refine j_bipush (v := (20 : Int32)) F dX7_isDone_257 (by decide) ?_
            refine j_dup2 F rfl rfl dX7_isDone_259 ?_
            refine j_iald F D ce_55 dX7_isDone_260 (fun v22 => ?_)
            refine j_iload F dX7_isDone_261 0 rfl ?_
            refine j_if_eq (tgt := 272) F dX7_isDone_263 (by decide) ?_ ?_
            · refine j_iconst (v := (0 : Int32)) F dX7_isDone_272 (by decide) ?_
              refine j_ior F dX7_isDone_273 ?_
              refine j_iast F D ce_55 dX7_isDone_274 (fun N23 => ?_)
              refine j_iload F dX7_isDone_275 0 rfl ?_
              exact j_zret F D E dX7_isDone_277
            · refine j_iconst (v := (1 : Int32)) F dX7_isDone_266 (by decide) ?_
              refine j_iload_n F dX7_isDone_267 rfl 2 rfl ?_
              refine j_ishl F dX7_isDone_268 ?_
              refine j_goto (tgt := 273) F dX7_isDone_269 (by decide) ?_
              refine j_ior F dX7_isDone_273 ?_
              refine j_iast F D ce_55 dX7_isDone_274 (fun N24 => ?_)
              refine j_iload F dX7_isDone_275 0 rfl ?_
              exact j_zret F D E dX7_isDone_277
          · refine j_jn (P := fun (K26 : Mm → Option (Int32 × Mm)) => ∀ (N25 : Mm), Jg X V z (K26 N25) N25 250 [(0, .ref (G.2.1 54)), (2, .int v1)] []) ?_ (fun K26 hK26 => ?_)
            · intro N25
              refine j_iconst (v := (0 : Int32)) F dX7_isDone_250 (by decide) ?_
              exact j_sub [0, 1] rfl (hK21 (0 : Int32) N25)
            · refine j_if_eq (tgt := 250) F dX7_isDone_228 (by decide) ?_ ?_
              · exact j_sub [1, 3] rfl (hK26 w18.2)
              · refine j_aload_n F dX7_isDone_231 rfl 1 rfl ?_
                refine j_iload_n F dX7_isDone_232 rfl 3 rfl ?_
                refine j_aload_n F dX7_isDone_233 rfl 1 rfl ?_
                refine j_getr (r := 55) F D ce_54 fl_X7_isDone_7 rfl dX7_isDone_234 ?_
                refine j_bipush (v := (20 : Int32)) F dX7_isDone_237 (by decide) ?_
                refine j_iald F D ce_55 dX7_isDone_239 (fun v27 => ?_)
                refine j_callVi (As := [.int v1, .int v27]) F D hX (mX7_isFree l G v1 v27) ce_54 rfl kX7_isFree rfl gX7_isDone_X7_isFree ⟨rfl, rfl⟩ ⟨Nat.le_of_ble_eq_true rfl, Nat.le_of_ble_eq_true rfl⟩ rfl (Nat.le_of_ble_eq_true rfl) rfl dX7_isDone_240 (fun w28 => ?_)
                refine j_if_eq (tgt := 250) F dX7_isDone_243 (by decide) ?_ ?_
                · exact j_sub [1, 3] rfl (hK26 w28.2)
                · refine j_iconst (v := (1 : Int32)) F dX7_isDone_246 (by decide) ?_
                  refine j_goto (tgt := 251) F dX7_isDone_247 (by decide) ?_
                  exact j_sub [1, 3] rfl (hK21 (1 : Int32) w28.2)
        · refine j_ite (fun h29 => ?_) (fun h29 => ?_)
          · refine j_tsw F dX7_isDone_58 (by decide) 334 (by rw [h29]; decide) ?_
            refine j_aload_n F dX7_isDone_334 rfl 1 rfl ?_
            refine j_iload_n F dX7_isDone_335 rfl 3 rfl ?_
            refine j_iload_n F dX7_isDone_336 rfl 4 rfl ?_
            refine j_callVi (As := [.int v1, .int v2]) F D hX (mX7_mayPress l G v1 v2) ce_54 rfl kX7_mayPress rfl gX7_isDone_X7_mayPress ⟨rfl, rfl⟩ ⟨Nat.le_of_ble_eq_true rfl, Nat.le_of_ble_eq_true rfl⟩ rfl (Nat.le_of_ble_eq_true rfl) rfl dX7_isDone_337 (fun w30 => ?_)
            refine j_istore (lv' := [(6, .int w30.1), (5, .int x4), (0, .ref (G.2.1 54)), (1, .int a0), (2, .int v1), (3, .int v2), (4, .int v3)]) F dX7_isDone_340 (by rw [← hml]; decide) rfl ?_
            refine j_iload F dX7_isDone_342 0 rfl ?_
            refine j_if_eq (tgt := 354) F dX7_isDone_344 (by decide) ?_ ?_
            · refine j_iload F dX7_isDone_354 0 rfl ?_
              exact j_zret F D E dX7_isDone_356
            · refine j_aload_n F dX7_isDone_347 rfl 2 rfl ?_
              refine j_iload_n F dX7_isDone_348 rfl 4 rfl ?_
              refine j_iload_n F dX7_isDone_349 rfl 5 rfl ?_
              refine j_callVi (As := [.int v1, .int v2]) F D hX (mX7_presses l G v1 v2) ce_54 rfl kX7_presses rfl gX7_isDone_X7_presses ⟨rfl, rfl⟩ ⟨Nat.le_of_ble_eq_true rfl, Nat.le_of_ble_eq_true rfl⟩ rfl (Nat.le_of_ble_eq_true rfl) rfl dX7_isDone_350 (fun w31 => ?_)
              refine j_pop F rfl dX7_isDone_353 ?_
              refine j_iload F dX7_isDone_354 0 rfl ?_
              exact j_zret F D E dX7_isDone_356
          · refine j_ite (fun h32 => ?_) (fun h32 => ?_)
            · refine j_tsw F dX7_isDone_58 (by decide) 152 (by rw [h32]; decide) ?_
              refine j_iload_n F dX7_isDone_152 rfl 3 rfl ?_
              refine j_iconst (v := (1 : Int32)) F dX7_isDone_153 (by decide) ?_
              refine j_bipush (v := (20 : Int32)) F dX7_isDone_154 (by decide) ?_
              refine j_callSi (As := [.int v1, .int (1 : Int32), .int (20 : Int32)]) F D hX (mX7_within l G v1 (1 : Int32) (20 : Int32)) kX7_within gX7_isDone_X7_within ⟨rfl, rfl⟩ ⟨Nat.le_of_ble_eq_true rfl, Nat.le_of_ble_eq_true rfl⟩ rfl (Nat.le_of_ble_eq_true rfl) rfl dX7_isDone_156 (fun w33 => ?_)
              refine j_istore (lv' := [(6, .int w33.1), (5, .int x4), (0, .ref (G.2.1 54)), (1, .int a0), (2, .int v1), (3, .int v2), (4, .int v3)]) F dX7_isDone_159 (by rw [← hml]; decide) rfl ?_
              refine j_iload F dX7_isDone_161 0 rfl ?_
              refine j_if_eq (tgt := 172) F dX7_isDone_163 (by decide) ?_ ?_
              · refine j_iload F dX7_isDone_172 0 rfl ?_
                exact j_zret F D E dX7_isDone_174
              · refine j_aload_n F dX7_isDone_166 rfl 2 rfl ?_
                refine j_iload_n F dX7_isDone_167 rfl 4 rfl ?_
                refine j_callVi (As := [.int v1]) F D hX (mX7_strips l G v1) ce_54 rfl kX7_strips rfl gX7_isDone_X7_strips ⟨rfl, rfl⟩ ⟨Nat.le_of_ble_eq_true rfl, Nat.le_of_ble_eq_true rfl⟩ rfl (Nat.le_of_ble_eq_true rfl) rfl dX7_isDone_168 (fun w34 => ?_)
                refine j_pop F rfl dX7_isDone_171 ?_
                refine j_iload F dX7_isDone_172 0 rfl ?_
                exact j_zret F D E dX7_isDone_174
            · refine j_ite (fun h35 => ?_) (fun h35 => ?_)
              · refine j_tsw F dX7_isDone_58 (by decide) 278 (by rw [h35]; decide) ?_
                refine j_aload_n F dX7_isDone_278 rfl 1 rfl ?_
                refine j_iload_n F dX7_isDone_279 rfl 3 rfl ?_
                refine j_callVi (As := [.int v1]) F D hX (mX7_isBend l G v1) ce_54 rfl kX7_isBend rfl gX7_isDone_X7_isBend ⟨rfl, rfl⟩ ⟨Nat.le_of_ble_eq_true rfl, Nat.le_of_ble_eq_true rfl⟩ rfl (Nat.le_of_ble_eq_true rfl) rfl dX7_isDone_280 (fun w36 => ?_)
                refine j_jn (P := fun (K39 : Int32 → Mm → Option (Int32 × Mm)) => ∀ (x37 : Int32) (N38 : Mm), Jg X V z (K39 x37 N38) N38 305 [(0, .ref (G.2.1 54)), (2, .int v1)] [.int x37]) ?_ (fun K39 hK39 => ?_)
                · intro x37 N38
                  refine j_istore (lv' := [(6, .int x37), (0, .ref (G.2.1 54)), (2, .int v1)]) F dX7_isDone_305 (by rw [← hml]; decide) rfl ?_
                  refine j_aload_n F dX7_isDone_307 rfl 1 rfl ?_
                  refine j_getr (r := 55) F D ce_54 fl_X7_isDone_7 rfl dX7_isDone_308 ?_
                  refine j_bipush (v := (20 : Int32)) F dX7_isDone_311 (by decide) ?_
                  refine j_dup2 F rfl rfl dX7_isDone_313 ?_
                  refine j_iald F D ce_55 dX7_isDone_314 (fun v40 => ?_)
                  refine j_iload F dX7_isDone_315 0 rfl ?_
                  refine j_if_eq (tgt := 328) F dX7_isDone_317 (by decide) ?_ ?_
                  · refine j_iconst (v := (-1 : Int32)) F dX7_isDone_328 (by decide) ?_
                    refine j_iand F dX7_isDone_329 ?_
                    refine j_iast F D ce_55 dX7_isDone_330 (fun N41 => ?_)
                    refine j_iload F dX7_isDone_331 0 rfl ?_
                    exact j_zret F D E dX7_isDone_333
                  · refine j_iconst (v := (1 : Int32)) F dX7_isDone_320 (by decide) ?_
                    refine j_iload_n F dX7_isDone_321 rfl 2 rfl ?_
                    refine j_ishl F dX7_isDone_322 ?_
                    refine j_iconst (v := (-1 : Int32)) F dX7_isDone_323 (by decide) ?_
                    refine j_ixor F dX7_isDone_324 ?_
                    refine j_goto (tgt := 329) F dX7_isDone_325 (by decide) ?_
                    refine j_iand F dX7_isDone_329 ?_
                    refine j_iast F D ce_55 dX7_isDone_330 (fun N42 => ?_)
                    refine j_iload F dX7_isDone_331 0 rfl ?_
                    exact j_zret F D E dX7_isDone_333
                · refine j_jn (P := fun (K44 : Mm → Option (Int32 × Mm)) => ∀ (N43 : Mm), Jg X V z (K44 N43) N43 304 [(0, .ref (G.2.1 54)), (2, .int v1)] []) ?_ (fun K44 hK44 => ?_)
                  · intro N43
                    refine j_iconst (v := (0 : Int32)) F dX7_isDone_304 (by decide) ?_
                    exact j_sub [0, 1] rfl (hK39 (0 : Int32) N43)
                  · refine j_if_eq (tgt := 304) F dX7_isDone_283 (by decide) ?_ ?_
                    · exact j_sub [1, 3] rfl (hK44 w36.2)
                    · refine j_aload_n F dX7_isDone_286 rfl 1 rfl ?_
                      refine j_getr (r := 55) F D ce_54 fl_X7_isDone_7 rfl dX7_isDone_287 ?_
                      refine j_bipush (v := (20 : Int32)) F dX7_isDone_290 (by decide) ?_
                      refine j_iald F D ce_55 dX7_isDone_292 (fun v45 => ?_)
                      refine j_iload_n F dX7_isDone_293 rfl 3 rfl ?_
                      refine j_callSi (As := [.int v45, .int v1]) F D hX (mX7_has l G v45 v1) kX7_has gX7_isDone_X7_has ⟨rfl, rfl⟩ ⟨Nat.le_of_ble_eq_true rfl, Nat.le_of_ble_eq_true rfl⟩ rfl (Nat.le_of_ble_eq_true rfl) rfl dX7_isDone_294 (fun w46 => ?_)
                      refine j_if_eq (tgt := 304) F dX7_isDone_297 (by decide) ?_ ?_
                      · exact j_sub [1, 3] rfl (hK44 w46.2)
                      · refine j_iconst (v := (1 : Int32)) F dX7_isDone_300 (by decide) ?_
                        refine j_goto (tgt := 305) F dX7_isDone_301 (by decide) ?_
                        exact j_sub [1, 3] rfl (hK39 (1 : Int32) w46.2)
              · refine j_tsw F dX7_isDone_58 (by decide) 380 (tsw_d [98, 107, 109, 112, 115, 117] (by decide) (by decide) (by simp only [List.mem_cons, List.not_mem_nil, or_false, not_or]; exact ⟨toInt_ne (by decide) h7, toInt_ne (by decide) h14, toInt_ne (by decide) h17, toInt_ne (by decide) h29, toInt_ne (by decide) h32, toInt_ne (by decide) h35⟩)) ?_
                refine j_aload_n F dX7_isDone_380 rfl 1 rfl ?_
                refine j_getr (r := 55) F D ce_54 fl_X7_isDone_7 rfl dX7_isDone_381 ?_
                refine j_bipush (v := (20 : Int32)) F dX7_isDone_384 (by decide) ?_
                refine j_iconst (v := (0 : Int32)) F dX7_isDone_386 (by decide) ?_
                refine j_iast F D ce_55 dX7_isDone_387 (fun N47 => ?_)
                refine j_iconst (v := (1 : Int32)) F dX7_isDone_388 (by decide) ?_
                exact j_iret F D E rfl dX7_isDone_389
  · refine j_if_ne (tgt := 40) F dX7_isDone_33 (by decide) ?_ ?_
    · refine j_iload_n F dX7_isDone_40 rfl 1 rfl ?_
      refine j_iconst (v := (1 : Int32)) F dX7_isDone_41 (by decide) ?_
      refine j_icmp_ne (tgt := 49) F dX7_isDone_42 (by decide) ?_ ?_
      · refine j_iconst (v := (0 : Int32)) F dX7_isDone_49 (by decide) ?_
        exact j_sub [3, 4, 2, 1, 0] rfl (hK5 (0 : Int32))
      · refine j_iconst (v := (-1 : Int32)) F dX7_isDone_45 (by decide) ?_
        refine j_goto (tgt := 50) F dX7_isDone_46 (by decide) ?_
        exact j_sub [3, 4, 2, 1, 0] rfl (hK5 (-1 : Int32))
    · refine j_iconst (v := (1 : Int32)) F dX7_isDone_36 (by decide) ?_
      refine j_goto (tgt := 50) F dX7_isDone_37 (by decide) ?_
      exact j_sub [3, 4, 2, 1, 0] rfl (hK5 (1 : Int32))

/-! FlangeFolderModel.changesAside -/
def lX7_changesAside_2 (K3 : Mm → Option (Unit × Mm))  : Nat → Int32 → Mm → Option (Unit × Mm)
  | 0, _, _ => none
  | n6 + 1, x1, N2 => (if (26 : Int32) ≤ x1 then K3 N2 else (rd N2 55 26 x1).bind (fun v7 => (rd N2 56 26 x1).bind (fun v8 => (wr N2 55 26 x1 v8).bind (fun N9 => (wr N9 56 26 x1 v7).bind (fun N10 => lX7_changesAside_2 K3 n6 (x1 + (1 : Int32)) N10)))))
def fX7_changesAside (M : Mm) : Option (Unit × Mm) := lX7_changesAside_2 (fun (N4 : Mm) => some ((), N4))  fu (0 : Int32) M
def rmX7_changesAside : Room := { frames := 0, cells := 0, slots := 0, locals := 0 }
theorem kX7_changesAside : Kc yX7_changesAside cX7_changesAside 3 none wsX7_changesAside 0 := ⟨⟨_, rfl⟩, by decide +kernel, by decide +kernel, by decide +kernel⟩
theorem ic_X7_changesAside_X7 : ∀ w ∈ u_ws RX7 TX7 19, w ∈ wsX7_changesAside := by decide +kernel
theorem fl_X7_changesAside_7 : Fl wsX7_changesAside RX7 7 7 0 := ⟨RX7, TX7, 19, rfl, by decide, ic_X7_changesAside_X7, by decide +kernel⟩
theorem fl_X7_changesAside_13 : Fl wsX7_changesAside RX7 13 7 1 := ⟨RX7, TX7, 19, rfl, by decide, ic_X7_changesAside_X7, by decide +kernel⟩
set_option maxHeartbeats 4000000 in
set_option maxRecDepth 100000 in
theorem mX7_changesAside (l : Launch) (G : Gg) : Cv l G SM yX7_changesAside wsX7_changesAside rmX7_changesAside [.ref (G.2.1 54)] fX7_changesAside := by
  refine Cv.intro (lv := [(0, .ref (G.2.1 54))]) RX7 rfl (by decide) kX7_changesAside (Nat.le_of_ble_eq_true rfl) rfl (fun X V M z F D hX hml E => ?_)
  unfold fX7_changesAside
  refine j_iconst (v := (0 : Int32)) F dX7_changesAside_0 (by decide) ?_
  refine j_istore_n (lv' := [(1, .int (0 : Int32)), (0, .ref (G.2.1 54))]) F dX7_changesAside_1 rfl (by rw [← hml]; decide) rfl ?_
  have hL11 : ∀ (K3 : Mm → Option (Unit × Mm)) , (∀ (N4 : Mm), Jg X V z (K3 N4) N4 40 [] []) → ∀ (n6 : Nat) (x1 : Int32) (N2 : Mm), Jg X V z (lX7_changesAside_2 K3 n6 x1 N2) N2 2 [(0, .ref (G.2.1 54)), (1, .int x1)] [] := by
    intro K3  hK3 n6
    induction n6 with
    | zero => intro x1 N2; rw [lX7_changesAside_2]; exact j_none
    | succ n6 ih5 =>
      intro x1 N2
      rw [lX7_changesAside_2]
      refine j_iload_n F dX7_changesAside_2 rfl 1 rfl ?_
      refine j_bipush (v := (26 : Int32)) F dX7_changesAside_3 (by decide) ?_
      refine j_icmp_ge (tgt := 40) F dX7_changesAside_5 (by decide) ?_ ?_
      · exact j_sub [] rfl (hK3 N2)
      · refine j_aload_n F dX7_changesAside_8 rfl 0 rfl ?_
        refine j_getr (r := 55) F D ce_54 fl_X7_changesAside_7 rfl dX7_changesAside_9 ?_
        refine j_iload_n F dX7_changesAside_12 rfl 1 rfl ?_
        refine j_iald F D ce_55 dX7_changesAside_13 (fun v7 => ?_)
        refine j_istore_n (lv' := [(2, .int v7), (0, .ref (G.2.1 54)), (1, .int x1)]) F dX7_changesAside_14 rfl (by rw [← hml]; decide) rfl ?_
        refine j_aload_n F dX7_changesAside_15 rfl 1 rfl ?_
        refine j_getr (r := 55) F D ce_54 fl_X7_changesAside_7 rfl dX7_changesAside_16 ?_
        refine j_iload_n F dX7_changesAside_19 rfl 2 rfl ?_
        refine j_aload_n F dX7_changesAside_20 rfl 1 rfl ?_
        refine j_getr (r := 56) F D ce_54 fl_X7_changesAside_13 rfl dX7_changesAside_21 ?_
        refine j_iload_n F dX7_changesAside_24 rfl 2 rfl ?_
        refine j_iald F D ce_56 dX7_changesAside_25 (fun v8 => ?_)
        refine j_iast F D ce_55 dX7_changesAside_26 (fun N9 => ?_)
        refine j_aload_n F dX7_changesAside_27 rfl 1 rfl ?_
        refine j_getr (r := 56) F D ce_54 fl_X7_changesAside_13 rfl dX7_changesAside_28 ?_
        refine j_iload_n F dX7_changesAside_31 rfl 2 rfl ?_
        refine j_iload_n F dX7_changesAside_32 rfl 0 rfl ?_
        refine j_iast F D ce_56 dX7_changesAside_33 (fun N10 => ?_)
        refine j_iinc (v := (x1 + (1 : Int32))) (lv' := [(1, .int (x1 + (1 : Int32))), (2, .int v7), (0, .ref (G.2.1 54))]) F dX7_changesAside_34 2 rfl rfl (by rw [← hml]; decide) rfl ?_
        refine j_goto (tgt := 2) F dX7_changesAside_37 (by decide) ?_
        exact j_sub [2, 0] rfl (ih5 (x1 + (1 : Int32)) N10)
  refine j_sub [1, 0] rfl (hL11 _  ?_ fu (0 : Int32) M)
  intro N4
  exact j_vret F D E dX7_changesAside_40

/-! FlangeFolderModel.does -/
def lX7_does_17 (K4 : Mm → Option (Int32 × Mm))  : Nat → Int32 → Mm → Option (Int32 × Mm)
  | 0, _, _ => none
  | n7 + 1, x2, N3 => (if (26 : Int32) ≤ x2 then K4 N3 else (rd N3 55 26 x2).bind (fun v8 => (wr N3 56 26 x2 v8).bind (fun N9 => lX7_does_17 K4 n7 (x2 + (1 : Int32)) N9)))
def lX7_does_43 (K12 : Int32 → Mm → Option (Int32 × Mm))  : Nat → Int32 → Mm → Option (Int32 × Mm)
  | 0, _, _ => none
  | n16 + 1, x10, N11 => (if (N11.1 54 15) ≤ x10 then K12 x10 N11 else (fX7_isDone x10 N11).bind (fun w17 => (if w17.1 = (0 : Int32) then K12 x10 w17.2 else lX7_does_43 K12 n16 (x10 + (1 : Int32)) w17.2)))
def fX7_does (M : Mm) : Option (Int32 × Mm) := (fX7_isRead M).bind (fun w1 => (if w1.1 = (0 : Int32) then some (((-10 : Int32) - (w1.2.1 54 14)), w1.2) else lX7_does_17 (fun (N5 : Mm) => lX7_does_43 (fun (x13 : Int32) (N14 : Mm) => (fX7_changesAside N14).bind (fun w18 => (if (w18.2.1 54 15) ≤ x13 then (fX7_leaves w18.2).bind (fun w19 => (fX7_changesAside w19.2).bind (fun w20 => some ((w20.2.1 54 15), w20.2))) else some (((-2000 : Int32) - x13), w18.2))))  fu (0 : Int32) N5)  fu (0 : Int32) w1.2))
def rmX7_does : Room := { frames := 5, cells := 0, slots := 0, locals := 126 }
theorem kX7_does : Kc yX7_does cX7_does 2 (some .int) wsX7_does 0 := ⟨⟨_, rfl⟩, by decide +kernel, by decide +kernel, by decide +kernel⟩
theorem ic_X7_does_X7 : ∀ w ∈ u_ws RX7 TX7 19, w ∈ wsX7_does := by decide +kernel
theorem fl_X7_does_13 : Fl wsX7_does RX7 13 7 1 := ⟨RX7, TX7, 19, rfl, by decide, ic_X7_does_X7, by decide +kernel⟩
theorem fl_X7_does_7 : Fl wsX7_does RX7 7 7 0 := ⟨RX7, TX7, 19, rfl, by decide, ic_X7_does_X7, by decide +kernel⟩
theorem fl_X7_does_179 : Fl wsX7_does RX7 179 7 15 := ⟨RX7, TX7, 19, rfl, by decide, ic_X7_does_X7, by decide +kernel⟩
theorem fl_X7_does_167 : Fl wsX7_does RX7 167 7 14 := ⟨RX7, TX7, 19, rfl, by decide, ic_X7_does_X7, by decide +kernel⟩
set_option maxHeartbeats 4000000 in
set_option maxRecDepth 100000 in
theorem mX7_does (l : Launch) (G : Gg) : Ci l G SM yX7_does wsX7_does rmX7_does [.ref (G.2.1 54)] fX7_does := by
  refine Ci.intro (lv := [(0, .ref (G.2.1 54))]) RX7 rfl (by decide) kX7_does (Nat.le_of_ble_eq_true rfl) rfl (fun X V M z F D hX hml E => ?_)
  unfold fX7_does
  refine j_aload_n F dX7_does_0 rfl 0 rfl ?_
  refine j_callVi (As := []) F D hX (mX7_isRead l G) ce_54 rfl kX7_isRead rfl gX7_does_X7_isRead ⟨rfl, rfl⟩ ⟨Nat.le_of_ble_eq_true rfl, Nat.le_of_ble_eq_true rfl⟩ rfl (Nat.le_of_ble_eq_true rfl) rfl dX7_does_1 (fun w1 => ?_)
  refine j_if_ne (tgt := 15) F dX7_does_4 (by decide) ?_ ?_
  · refine j_iconst (v := (0 : Int32)) F dX7_does_15 (by decide) ?_
    refine j_istore_n (lv' := [(1, .int (0 : Int32)), (0, .ref (G.2.1 54))]) F dX7_does_16 rfl (by rw [← hml]; decide) rfl ?_
    have hL22 : ∀ (K4 : Mm → Option (Int32 × Mm)) , (∀ (N5 : Mm), Jg X V z (K4 N5) N5 41 [(0, .ref (G.2.1 54))] []) → ∀ (n7 : Nat) (x2 : Int32) (N3 : Mm), Jg X V z (lX7_does_17 K4 n7 x2 N3) N3 17 [(0, .ref (G.2.1 54)), (1, .int x2)] [] := by
      intro K4  hK4 n7
      induction n7 with
      | zero => intro x2 N3; rw [lX7_does_17]; exact j_none
      | succ n7 ih6 =>
        intro x2 N3
        rw [lX7_does_17]
        refine j_iload_n F dX7_does_17 rfl 1 rfl ?_
        refine j_bipush (v := (26 : Int32)) F dX7_does_18 (by decide) ?_
        refine j_icmp_ge (tgt := 41) F dX7_does_20 (by decide) ?_ ?_
        · exact j_sub [0] rfl (hK4 N3)
        · refine j_aload_n F dX7_does_23 rfl 0 rfl ?_
          refine j_getr (r := 56) F D ce_54 fl_X7_does_13 rfl dX7_does_24 ?_
          refine j_iload_n F dX7_does_27 rfl 1 rfl ?_
          refine j_aload_n F dX7_does_28 rfl 0 rfl ?_
          refine j_getr (r := 55) F D ce_54 fl_X7_does_7 rfl dX7_does_29 ?_
          refine j_iload_n F dX7_does_32 rfl 1 rfl ?_
          refine j_iald F D ce_55 dX7_does_33 (fun v8 => ?_)
          refine j_iast F D ce_56 dX7_does_34 (fun N9 => ?_)
          refine j_iinc (v := (x2 + (1 : Int32))) (lv' := [(1, .int (x2 + (1 : Int32))), (0, .ref (G.2.1 54))]) F dX7_does_35 1 rfl rfl (by rw [← hml]; decide) rfl ?_
          refine j_goto (tgt := 17) F dX7_does_38 (by decide) ?_
          exact j_sub [1, 0] rfl (ih6 (x2 + (1 : Int32)) N9)
    refine j_sub [1, 0] rfl (hL22 _  ?_ fu (0 : Int32) w1.2)
    intro N5
    refine j_iconst (v := (0 : Int32)) F dX7_does_41 (by decide) ?_
    refine j_istore_n (lv' := [(1, .int (0 : Int32)), (0, .ref (G.2.1 54))]) F dX7_does_42 rfl (by rw [← hml]; decide) rfl ?_
    have hL21 : ∀ (K12 : Int32 → Mm → Option (Int32 × Mm)) , (∀ (x13 : Int32) (N14 : Mm), Jg X V z (K12 x13 N14) N14 65 [(0, .ref (G.2.1 54)), (1, .int x13)] []) → ∀ (n16 : Nat) (x10 : Int32) (N11 : Mm), Jg X V z (lX7_does_43 K12 n16 x10 N11) N11 43 [(0, .ref (G.2.1 54)), (1, .int x10)] [] := by
      intro K12  hK12 n16
      induction n16 with
      | zero => intro x10 N11; rw [lX7_does_43]; exact j_none
      | succ n16 ih15 =>
        intro x10 N11
        rw [lX7_does_43]
        refine j_iload_n F dX7_does_43 rfl 1 rfl ?_
        refine j_aload_n F dX7_does_44 rfl 0 rfl ?_
        refine j_geti F D ce_54 fl_X7_does_179 rfl dX7_does_45 ?_
        refine j_icmp_ge (tgt := 65) F dX7_does_48 (by decide) ?_ ?_
        · exact j_sub [0, 1] rfl (hK12 x10 N11)
        · refine j_aload_n F dX7_does_51 rfl 0 rfl ?_
          refine j_iload_n F dX7_does_52 rfl 1 rfl ?_
          refine j_callVi (As := [.int x10]) F D hX (mX7_isDone l G x10) ce_54 rfl kX7_isDone rfl gX7_does_X7_isDone ⟨rfl, rfl⟩ ⟨Nat.le_of_ble_eq_true rfl, Nat.le_of_ble_eq_true rfl⟩ rfl (Nat.le_of_ble_eq_true rfl) rfl dX7_does_53 (fun w17 => ?_)
          refine j_if_eq (tgt := 65) F dX7_does_56 (by decide) ?_ ?_
          · exact j_sub [0, 1] rfl (hK12 x10 w17.2)
          · refine j_iinc (v := (x10 + (1 : Int32))) (lv' := [(1, .int (x10 + (1 : Int32))), (0, .ref (G.2.1 54))]) F dX7_does_59 1 rfl rfl (by rw [← hml]; decide) rfl ?_
            refine j_goto (tgt := 43) F dX7_does_62 (by decide) ?_
            exact j_sub [1, 0] rfl (ih15 (x10 + (1 : Int32)) w17.2)
    refine j_sub [1, 0] rfl (hL21 _  ?_ fu (0 : Int32) N5)
    intro x13 N14
    refine j_aload_n F dX7_does_65 rfl 0 rfl ?_
    refine j_callVv (As := []) F D hX (mX7_changesAside l G) ce_54 rfl kX7_changesAside rfl gX7_does_X7_changesAside ⟨rfl, rfl⟩ ⟨Nat.le_of_ble_eq_true rfl, Nat.le_of_ble_eq_true rfl⟩ rfl (Nat.le_of_ble_eq_true rfl) rfl dX7_does_66 (fun w18 => ?_)
    refine j_iload_n F dX7_does_69 rfl 1 rfl ?_
    refine j_aload_n F dX7_does_70 rfl 0 rfl ?_
    refine j_geti F D ce_54 fl_X7_does_179 rfl dX7_does_71 ?_
    refine j_icmp_ge (tgt := 83) F dX7_does_74 (by decide) ?_ ?_
    · refine j_aload_n F dX7_does_83 rfl 0 rfl ?_
      refine j_callVv (As := []) F D hX (mX7_leaves l G) ce_54 rfl kX7_leaves rfl gX7_does_X7_leaves ⟨rfl, rfl⟩ ⟨Nat.le_of_ble_eq_true rfl, Nat.le_of_ble_eq_true rfl⟩ rfl (Nat.le_of_ble_eq_true rfl) rfl dX7_does_84 (fun w19 => ?_)
      refine j_aload_n F dX7_does_87 rfl 0 rfl ?_
      refine j_callVv (As := []) F D hX (mX7_changesAside l G) ce_54 rfl kX7_changesAside rfl gX7_does_X7_changesAside ⟨rfl, rfl⟩ ⟨Nat.le_of_ble_eq_true rfl, Nat.le_of_ble_eq_true rfl⟩ rfl (Nat.le_of_ble_eq_true rfl) rfl dX7_does_88 (fun w20 => ?_)
      refine j_aload_n F dX7_does_91 rfl 0 rfl ?_
      refine j_geti F D ce_54 fl_X7_does_179 rfl dX7_does_92 ?_
      exact j_iret F D E rfl dX7_does_95
    · refine j_sipush (v := (-2000 : Int32)) F dX7_does_77 (by decide) ?_
      refine j_iload_n F dX7_does_80 rfl 1 rfl ?_
      refine j_isub F dX7_does_81 ?_
      exact j_iret F D E rfl dX7_does_82
  · refine j_bipush (v := (-10 : Int32)) F dX7_does_7 (by decide) ?_
    refine j_aload_n F dX7_does_9 rfl 0 rfl ?_
    refine j_geti F D ce_54 fl_X7_does_167 rfl dX7_does_10 ?_
    refine j_isub F dX7_does_13 ?_
    exact j_iret F D E rfl dX7_does_14

/-! FlangeFolderModel.toldIs -/
def fX7_toldIs (a0 : Int32) (M : Mm) : Option (Int32 × Mm) := (if (3 : Int32) ≤ a0 then (if a0 = (3 : Int32) then some ((M.1 54 6), M) else some ((M.1 54 3), M)) else (rd M 58 3 a0).bind (fun v1 => some (v1, M)))
def rmX7_toldIs : Room := { frames := 0, cells := 0, slots := 0, locals := 0 }
theorem kX7_toldIs : Kc yX7_toldIs cX7_toldIs 2 (some .int) wsX7_toldIs 1 := ⟨⟨_, rfl⟩, by decide +kernel, by decide +kernel, by decide +kernel⟩
theorem ic_X7_toldIs_X7 : ∀ w ∈ u_ws RX7 TX7 19, w ∈ wsX7_toldIs := by decide +kernel
theorem fl_X7_toldIs_56 : Fl wsX7_toldIs RX7 56 7 3 := ⟨RX7, TX7, 19, rfl, by decide, ic_X7_toldIs_X7, by decide +kernel⟩
theorem fl_X7_toldIs_164 : Fl wsX7_toldIs RX7 164 7 6 := ⟨RX7, TX7, 19, rfl, by decide, ic_X7_toldIs_X7, by decide +kernel⟩
theorem fl_X7_toldIs_19 : Fl wsX7_toldIs RX7 19 7 4 := ⟨RX7, TX7, 19, rfl, by decide, ic_X7_toldIs_X7, by decide +kernel⟩
set_option maxHeartbeats 4000000 in
set_option maxRecDepth 100000 in
theorem mX7_toldIs (l : Launch) (G : Gg) (a0 : Int32) : Ci l G SM yX7_toldIs wsX7_toldIs rmX7_toldIs [.ref (G.2.1 54), .int a0] (fX7_toldIs a0) := by
  refine Ci.intro (lv := [(0, .ref (G.2.1 54)), (1, .int a0)]) RX7 rfl (by decide) kX7_toldIs (Nat.le_of_ble_eq_true rfl) rfl (fun X V M z F D hX hml E => ?_)
  unfold fX7_toldIs
  refine j_iload_n F dX7_toldIs_0 rfl 1 rfl ?_
  refine j_iconst (v := (3 : Int32)) F dX7_toldIs_1 (by decide) ?_
  refine j_icmp_ge (tgt := 14) F dX7_toldIs_2 (by decide) ?_ ?_
  · refine j_iload_n F dX7_toldIs_14 rfl 1 rfl ?_
    refine j_iconst (v := (3 : Int32)) F dX7_toldIs_15 (by decide) ?_
    refine j_icmp_ne (tgt := 26) F dX7_toldIs_16 (by decide) ?_ ?_
    · refine j_aload_n F dX7_toldIs_26 rfl 0 rfl ?_
      refine j_geti F D ce_54 fl_X7_toldIs_56 rfl dX7_toldIs_27 ?_
      exact j_iret F D E rfl dX7_toldIs_30
    · refine j_aload_n F dX7_toldIs_19 rfl 0 rfl ?_
      refine j_geti F D ce_54 fl_X7_toldIs_164 rfl dX7_toldIs_20 ?_
      refine j_goto (tgt := 30) F dX7_toldIs_23 (by decide) ?_
      exact j_iret F D E rfl dX7_toldIs_30
  · refine j_aload_n F dX7_toldIs_5 rfl 0 rfl ?_
    refine j_getr (r := 58) F D ce_54 fl_X7_toldIs_19 rfl dX7_toldIs_6 ?_
    refine j_iload_n F dX7_toldIs_9 rfl 1 rfl ?_
    refine j_iald F D ce_58 dX7_toldIs_10 (fun v1 => ?_)
    refine j_goto (tgt := 30) F dX7_toldIs_11 (by decide) ?_
    exact j_iret F D E rfl dX7_toldIs_30

/-! FlangeFolderModel.told -/
def fX7_told (a0 : Int32) (M : Mm) : Option (Int32 × Mm) := (fX7_within a0 (0 : Int32) (4 : Int32) M).bind (fun w1 => (if w1.1 = (0 : Int32) then (fX7_counts (-1001 : Int32) w1.2).bind (fun w2 => some (w2.1, w2.2)) else (fX7_toldIs a0 w1.2).bind (fun w3 => some (w3.1, w3.2))))
def rmX7_told : Room := { frames := 1, cells := 0, slots := 0, locals := 22 }
theorem kX7_told : Kc yX7_told cX7_told 2 (some .int) wsX7_told 1 := ⟨⟨_, rfl⟩, by decide +kernel, by decide +kernel, by decide +kernel⟩
set_option maxHeartbeats 4000000 in
set_option maxRecDepth 100000 in
theorem mX7_told (l : Launch) (G : Gg) (a0 : Int32) : Ci l G SM yX7_told wsX7_told rmX7_told [.ref (G.2.1 54), .int a0] (fX7_told a0) := by
  refine Ci.intro (lv := [(0, .ref (G.2.1 54)), (1, .int a0)]) RX7 rfl (by decide) kX7_told (Nat.le_of_ble_eq_true rfl) rfl (fun X V M z F D hX hml E => ?_)
  unfold fX7_told
  refine j_iload_n F dX7_told_0 rfl 1 rfl ?_
  refine j_iconst (v := (0 : Int32)) F dX7_told_1 (by decide) ?_
  refine j_iconst (v := (4 : Int32)) F dX7_told_2 (by decide) ?_
  refine j_callSi (As := [.int a0, .int (0 : Int32), .int (4 : Int32)]) F D hX (mX7_within l G a0 (0 : Int32) (4 : Int32)) kX7_within gX7_told_X7_within ⟨rfl, rfl⟩ ⟨Nat.le_of_ble_eq_true rfl, Nat.le_of_ble_eq_true rfl⟩ rfl (Nat.le_of_ble_eq_true rfl) rfl dX7_told_3 (fun w1 => ?_)
  refine j_if_eq (tgt := 17) F dX7_told_6 (by decide) ?_ ?_
  · refine j_aload_n F dX7_told_17 rfl 0 rfl ?_
    refine j_sipush (v := (-1001 : Int32)) F dX7_told_18 (by decide) ?_
    refine j_callVi (As := [.int (-1001 : Int32)]) F D hX (mX7_counts l G (-1001 : Int32)) ce_54 rfl kX7_counts rfl gX7_told_X7_counts ⟨rfl, rfl⟩ ⟨Nat.le_of_ble_eq_true rfl, Nat.le_of_ble_eq_true rfl⟩ rfl (Nat.le_of_ble_eq_true rfl) rfl dX7_told_21 (fun w2 => ?_)
    exact j_iret F D E rfl dX7_told_24
  · refine j_aload_n F dX7_told_9 rfl 0 rfl ?_
    refine j_iload_n F dX7_told_10 rfl 1 rfl ?_
    refine j_callVi (As := [.int a0]) F D hX (mX7_toldIs l G a0) ce_54 rfl kX7_toldIs rfl gX7_told_X7_toldIs ⟨rfl, rfl⟩ ⟨Nat.le_of_ble_eq_true rfl, Nat.le_of_ble_eq_true rfl⟩ rfl (Nat.le_of_ble_eq_true rfl) rfl dX7_told_11 (fun w3 => ?_)
    refine j_goto (tgt := 24) F dX7_told_14 (by decide) ?_
    exact j_iret F D E rfl dX7_told_24

/-! FlangeFolderModel.mix -/
def fX7_mix (a0 : Int32) (M : Mm) : Option (Unit × Mm) := lt (stL M 54 18 (((31 : Int64) * (M.2 54 18)) + (a0).toInt64)) (fun N1 => some ((), N1))
def rmX7_mix : Room := { frames := 0, cells := 0, slots := 0, locals := 0 }
theorem kX7_mix : Kc yX7_mix cX7_mix 2 none wsX7_mix 1 := ⟨⟨_, rfl⟩, by decide +kernel, by decide +kernel, by decide +kernel⟩
theorem kc_X7_mix_201 : Cond.constantLong RX7 201 (31) ∈ wsX7_mix := by decide +kernel
theorem ic_X7_mix_X7 : ∀ w ∈ u_ws RX7 TX7 19, w ∈ wsX7_mix := by decide +kernel
theorem fl_X7_mix_203 : Fl wsX7_mix RX7 203 7 18 := ⟨RX7, TX7, 19, rfl, by decide, ic_X7_mix_X7, by decide +kernel⟩
theorem fp_X7_mix_203 : Fp wsX7_mix RX7 203 7 18 .long := ⟨RX7, TX7, 19, tyX7, rfl, by decide, ic_X7_mix_X7, by decide +kernel, tyX7_ok, nmX7, rfl, rfl⟩
set_option maxHeartbeats 4000000 in
set_option maxRecDepth 100000 in
theorem mX7_mix (l : Launch) (G : Gg) (a0 : Int32) : Cv l G SM yX7_mix wsX7_mix rmX7_mix [.ref (G.2.1 54), .int a0] (fX7_mix a0) := by
  refine Cv.intro (lv := [(0, .ref (G.2.1 54)), (1, .int a0)]) RX7 rfl (by decide) kX7_mix (Nat.le_of_ble_eq_true rfl) rfl (fun X V M z F D hX hml E => ?_)
  unfold fX7_mix
  refine j_aload_n F dX7_mix_0 rfl 0 rfl ?_
  refine j_ldc2 (v := (31 : Int64)) F kc_X7_mix_201 dX7_mix_1 ?_
  refine j_aload_n F dX7_mix_4 rfl 0 rfl ?_
  refine j_getl F D ce_54 fl_X7_mix_203 rfl dX7_mix_5 ?_
  refine j_lmul F dX7_mix_8 ?_
  refine j_iload_n F dX7_mix_9 rfl 1 rfl ?_
  refine j_i2l F dX7_mix_10 ?_
  refine j_ladd F dX7_mix_11 ?_
  refine j_putl F D ce_54 fp_X7_mix_203 rfl dX7_mix_12 ?_
  refine j_letM (fun N1 => ?_)
  exact j_vret F D E dX7_mix_15

/-! FlangeFolderModel.digest -/
def lX7_digest_9 (K4 : Mm → Option (Int64 × Mm))  : Nat → Int32 → Mm → Option (Int64 × Mm)
  | 0, _, _ => none
  | n7 + 1, x2, N3 => (if (5 : Int32) ≤ x2 then K4 N3 else (fX7_toldIs x2 N3).bind (fun w8 => (fX7_mix w8.1 w8.2).bind (fun w9 => lX7_digest_9 K4 n7 (x2 + (1 : Int32)) w9.2)))
def lX7_digest_31 (K12 : Mm → Option (Int64 × Mm))  : Nat → Int32 → Mm → Option (Int64 × Mm)
  | 0, _, _ => none
  | n15 + 1, x10, N11 => (if (11 : Int32) ≤ x10 then K12 N11 else (fX7_countIs x10 N11).bind (fun w16 => (fX7_mix w16.1 w16.2).bind (fun w17 => lX7_digest_31 K12 n15 (x10 + (1 : Int32)) w17.2)))
def lX7_digest_64 (K22 : Mm → Option (Int64 × Mm))  : Nat → Int32 → Mm → Option (Int64 × Mm)
  | 0, _, _ => none
  | n25 + 1, x20, N21 => (rd N21 55 26 (0 : Int32)).bind (fun v26 => (if ((4 : Int32) * v26) ≤ x20 then K22 N21 else (fX7_ofBend (x20 / (4 : Int32)) (irm x20 (4 : Int32)) N21).bind (fun w27 => (fX7_mix w27.1 w27.2).bind (fun w28 => lX7_digest_64 K22 n25 (x20 + (1 : Int32)) w28.2))))
def lX7_digest_109 (K33 : Mm → Option (Int64 × Mm))  : Nat → Int32 → Mm → Option (Int64 × Mm)
  | 0, _, _ => none
  | n36 + 1, x31, N32 => (rd N32 55 26 (0 : Int32)).bind (fun v37 => (if (v37 + (2 : Int32)) ≤ x31 then K33 N32 else (rd N32 60 8 x31).bind (fun v38 => (fX7_mix v38 N32).bind (fun w39 => (rd w39.2 61 8 x31).bind (fun v40 => (fX7_mix v40 w39.2).bind (fun w41 => lX7_digest_109 K33 n36 (x31 + (1 : Int32)) w41.2))))))
def lX7_digest_149 (K44 : Mm → Option (Int64 × Mm))  : Nat → Int32 → Mm → Option (Int64 × Mm)
  | 0, _, _ => none
  | n47 + 1, x42, N43 => (if (4 : Int32) ≤ x42 then K44 N43 else (fX7_boxIs x42 N43).bind (fun w48 => (fX7_mix w48.1 w48.2).bind (fun w49 => lX7_digest_149 K44 n47 (x42 + (1 : Int32)) w49.2)))
def fX7_digest (M : Mm) : Option (Int64 × Mm) := lt (stL M 54 18 (2934 : Int64)) (fun N1 => lX7_digest_9 (fun (N5 : Mm) => lX7_digest_31 (fun (N13 : Mm) => (rd N13 55 26 (1 : Int32)).bind (fun v18 => (fX7_mix v18 N13).bind (fun w19 => lX7_digest_64 (fun (N23 : Mm) => (rd N23 55 26 (20 : Int32)).bind (fun v29 => (fX7_lays v29 N23).bind (fun w30 => lX7_digest_109 (fun (N34 : Mm) => lX7_digest_149 (fun (N45 : Mm) => (fX7_free N45).bind (fun w50 => (fX7_mix w50.1 w50.2).bind (fun w51 => (fX7_laysOrders w51.2).bind (fun w52 => (rd w52.2 64 64 (0 : Int32)).bind (fun v53 => (fX7_mix v53 w52.2).bind (fun w54 => (fX7_changesIs (0 : Int32) w54.2).bind (fun w55 => (fX7_mix w55.1 w55.2).bind (fun w56 => (fX7_changesIs (1 : Int32) w56.2).bind (fun w57 => (fX7_mix w57.1 w57.2).bind (fun w58 => (rd w58.2 55 26 (20 : Int32)).bind (fun v59 => (rd w58.2 64 64 v59).bind (fun v60 => (fX7_mix v60 w58.2).bind (fun w61 => some ((w61.2.2 54 18), w61.2))))))))))))))  fu (0 : Int32) N34)  fu (0 : Int32) w30.2)))  fu (0 : Int32) w19.2)))  fu (0 : Int32) N5)  fu (0 : Int32) N1)
def rmX7_digest : Room := { frames := 5, cells := 0, slots := 0, locals := 123 }
theorem kX7_digest : Kc yX7_digest cX7_digest 2 (some .long) wsX7_digest 0 := ⟨⟨_, rfl⟩, by decide +kernel, by decide +kernel, by decide +kernel⟩
theorem kc_X7_digest_207 : Cond.constantLong RX7 207 (2934) ∈ wsX7_digest := by decide +kernel
theorem ic_X7_digest_X7 : ∀ w ∈ u_ws RX7 TX7 19, w ∈ wsX7_digest := by decide +kernel
theorem fp_X7_digest_203 : Fp wsX7_digest RX7 203 7 18 .long := ⟨RX7, TX7, 19, tyX7, rfl, by decide, ic_X7_digest_X7, by decide +kernel, tyX7_ok, nmX7, rfl, rfl⟩
theorem fl_X7_digest_7 : Fl wsX7_digest RX7 7 7 0 := ⟨RX7, TX7, 19, rfl, by decide, ic_X7_digest_X7, by decide +kernel⟩
theorem fl_X7_digest_25 : Fl wsX7_digest RX7 25 7 7 := ⟨RX7, TX7, 19, rfl, by decide, ic_X7_digest_X7, by decide +kernel⟩
theorem fl_X7_digest_28 : Fl wsX7_digest RX7 28 7 8 := ⟨RX7, TX7, 19, rfl, by decide, ic_X7_digest_X7, by decide +kernel⟩
theorem fl_X7_digest_37 : Fl wsX7_digest RX7 37 7 11 := ⟨RX7, TX7, 19, rfl, by decide, ic_X7_digest_X7, by decide +kernel⟩
theorem fl_X7_digest_203 : Fl wsX7_digest RX7 203 7 18 := ⟨RX7, TX7, 19, rfl, by decide, ic_X7_digest_X7, by decide +kernel⟩
set_option maxHeartbeats 4000000 in
set_option maxRecDepth 100000 in
theorem mX7_digest (l : Launch) (G : Gg) : Cl l G SM yX7_digest wsX7_digest rmX7_digest [.ref (G.2.1 54)] fX7_digest := by
  refine Cl.intro (lv := [(0, .ref (G.2.1 54))]) RX7 rfl (by decide) kX7_digest (Nat.le_of_ble_eq_true rfl) rfl (fun X V M z F D hX hml E => ?_)
  unfold fX7_digest
  refine j_aload_n F dX7_digest_0 rfl 0 rfl ?_
  refine j_ldc2 (v := (2934 : Int64)) F kc_X7_digest_207 dX7_digest_1 ?_
  refine j_putl F D ce_54 fp_X7_digest_203 rfl dX7_digest_4 ?_
  refine j_letM (fun N1 => ?_)
  refine j_iconst (v := (0 : Int32)) F dX7_digest_7 (by decide) ?_
  refine j_istore_n (lv' := [(1, .int (0 : Int32)), (0, .ref (G.2.1 54))]) F dX7_digest_8 rfl (by rw [← hml]; decide) rfl ?_
  have hL66 : ∀ (K4 : Mm → Option (Int64 × Mm)) , (∀ (N5 : Mm), Jg X V z (K4 N5) N5 29 [(0, .ref (G.2.1 54))] []) → ∀ (n7 : Nat) (x2 : Int32) (N3 : Mm), Jg X V z (lX7_digest_9 K4 n7 x2 N3) N3 9 [(0, .ref (G.2.1 54)), (1, .int x2)] [] := by
    intro K4  hK4 n7
    induction n7 with
    | zero => intro x2 N3; rw [lX7_digest_9]; exact j_none
    | succ n7 ih6 =>
      intro x2 N3
      rw [lX7_digest_9]
      refine j_iload_n F dX7_digest_9 rfl 1 rfl ?_
      refine j_iconst (v := (5 : Int32)) F dX7_digest_10 (by decide) ?_
      refine j_icmp_ge (tgt := 29) F dX7_digest_11 (by decide) ?_ ?_
      · exact j_sub [0] rfl (hK4 N3)
      · refine j_aload_n F dX7_digest_14 rfl 0 rfl ?_
        refine j_aload_n F dX7_digest_15 rfl 0 rfl ?_
        refine j_iload_n F dX7_digest_16 rfl 1 rfl ?_
        refine j_callVi (As := [.int x2]) F D hX (mX7_toldIs l G x2) ce_54 rfl kX7_toldIs rfl gX7_digest_X7_toldIs ⟨rfl, rfl⟩ ⟨Nat.le_of_ble_eq_true rfl, Nat.le_of_ble_eq_true rfl⟩ rfl (Nat.le_of_ble_eq_true rfl) rfl dX7_digest_17 (fun w8 => ?_)
        refine j_callVv (As := [.int w8.1]) F D hX (mX7_mix l G w8.1) ce_54 rfl kX7_mix rfl gX7_digest_X7_mix ⟨rfl, rfl⟩ ⟨Nat.le_of_ble_eq_true rfl, Nat.le_of_ble_eq_true rfl⟩ rfl (Nat.le_of_ble_eq_true rfl) rfl dX7_digest_20 (fun w9 => ?_)
        refine j_iinc (v := (x2 + (1 : Int32))) (lv' := [(1, .int (x2 + (1 : Int32))), (0, .ref (G.2.1 54))]) F dX7_digest_23 1 rfl rfl (by rw [← hml]; decide) rfl ?_
        refine j_goto (tgt := 9) F dX7_digest_26 (by decide) ?_
        exact j_sub [1, 0] rfl (ih6 (x2 + (1 : Int32)) w9.2)
  refine j_sub [1, 0] rfl (hL66 _  ?_ fu (0 : Int32) N1)
  intro N5
  refine j_iconst (v := (0 : Int32)) F dX7_digest_29 (by decide) ?_
  refine j_istore_n (lv' := [(1, .int (0 : Int32)), (0, .ref (G.2.1 54))]) F dX7_digest_30 rfl (by rw [← hml]; decide) rfl ?_
  have hL65 : ∀ (K12 : Mm → Option (Int64 × Mm)) , (∀ (N13 : Mm), Jg X V z (K12 N13) N13 52 [(0, .ref (G.2.1 54))] []) → ∀ (n15 : Nat) (x10 : Int32) (N11 : Mm), Jg X V z (lX7_digest_31 K12 n15 x10 N11) N11 31 [(0, .ref (G.2.1 54)), (1, .int x10)] [] := by
    intro K12  hK12 n15
    induction n15 with
    | zero => intro x10 N11; rw [lX7_digest_31]; exact j_none
    | succ n15 ih14 =>
      intro x10 N11
      rw [lX7_digest_31]
      refine j_iload_n F dX7_digest_31 rfl 1 rfl ?_
      refine j_bipush (v := (11 : Int32)) F dX7_digest_32 (by decide) ?_
      refine j_icmp_ge (tgt := 52) F dX7_digest_34 (by decide) ?_ ?_
      · exact j_sub [0] rfl (hK12 N11)
      · refine j_aload_n F dX7_digest_37 rfl 0 rfl ?_
        refine j_aload_n F dX7_digest_38 rfl 0 rfl ?_
        refine j_iload_n F dX7_digest_39 rfl 1 rfl ?_
        refine j_callVi (As := [.int x10]) F D hX (mX7_countIs l G x10) ce_54 rfl kX7_countIs rfl gX7_digest_X7_countIs ⟨rfl, rfl⟩ ⟨Nat.le_of_ble_eq_true rfl, Nat.le_of_ble_eq_true rfl⟩ rfl (Nat.le_of_ble_eq_true rfl) rfl dX7_digest_40 (fun w16 => ?_)
        refine j_callVv (As := [.int w16.1]) F D hX (mX7_mix l G w16.1) ce_54 rfl kX7_mix rfl gX7_digest_X7_mix ⟨rfl, rfl⟩ ⟨Nat.le_of_ble_eq_true rfl, Nat.le_of_ble_eq_true rfl⟩ rfl (Nat.le_of_ble_eq_true rfl) rfl dX7_digest_43 (fun w17 => ?_)
        refine j_iinc (v := (x10 + (1 : Int32))) (lv' := [(1, .int (x10 + (1 : Int32))), (0, .ref (G.2.1 54))]) F dX7_digest_46 1 rfl rfl (by rw [← hml]; decide) rfl ?_
        refine j_goto (tgt := 31) F dX7_digest_49 (by decide) ?_
        exact j_sub [1, 0] rfl (ih14 (x10 + (1 : Int32)) w17.2)
  refine j_sub [1, 0] rfl (hL65 _  ?_ fu (0 : Int32) N5)
  intro N13
  refine j_aload_n F dX7_digest_52 rfl 0 rfl ?_
  refine j_aload_n F dX7_digest_53 rfl 0 rfl ?_
  refine j_getr (r := 55) F D ce_54 fl_X7_digest_7 rfl dX7_digest_54 ?_
  refine j_iconst (v := (1 : Int32)) F dX7_digest_57 (by decide) ?_
  refine j_iald F D ce_55 dX7_digest_58 (fun v18 => ?_)
  refine j_callVv (As := [.int v18]) F D hX (mX7_mix l G v18) ce_54 rfl kX7_mix rfl gX7_digest_X7_mix ⟨rfl, rfl⟩ ⟨Nat.le_of_ble_eq_true rfl, Nat.le_of_ble_eq_true rfl⟩ rfl (Nat.le_of_ble_eq_true rfl) rfl dX7_digest_59 (fun w19 => ?_)
  refine j_iconst (v := (0 : Int32)) F dX7_digest_62 (by decide) ?_
  refine j_istore_n (lv' := [(1, .int (0 : Int32)), (0, .ref (G.2.1 54))]) F dX7_digest_63 rfl (by rw [← hml]; decide) rfl ?_
  have hL64 : ∀ (K22 : Mm → Option (Int64 × Mm)) , (∀ (N23 : Mm), Jg X V z (K22 N23) N23 96 [(0, .ref (G.2.1 54))] []) → ∀ (n25 : Nat) (x20 : Int32) (N21 : Mm), Jg X V z (lX7_digest_64 K22 n25 x20 N21) N21 64 [(0, .ref (G.2.1 54)), (1, .int x20)] [] := by
    intro K22  hK22 n25
    induction n25 with
    | zero => intro x20 N21; rw [lX7_digest_64]; exact j_none
    | succ n25 ih24 =>
      intro x20 N21
      rw [lX7_digest_64]
      refine j_iload_n F dX7_digest_64 rfl 1 rfl ?_
      refine j_iconst (v := (4 : Int32)) F dX7_digest_65 (by decide) ?_
      refine j_aload_n F dX7_digest_66 rfl 0 rfl ?_
      refine j_getr (r := 55) F D ce_54 fl_X7_digest_7 rfl dX7_digest_67 ?_
      refine j_iconst (v := (0 : Int32)) F dX7_digest_70 (by decide) ?_
      refine j_iald F D ce_55 dX7_digest_71 (fun v26 => ?_)
      refine j_imul F dX7_digest_72 ?_
      refine j_icmp_ge (tgt := 96) F dX7_digest_73 (by decide) ?_ ?_
      · exact j_sub [0] rfl (hK22 N21)
      · refine j_aload_n F dX7_digest_76 rfl 0 rfl ?_
        refine j_aload_n F dX7_digest_77 rfl 0 rfl ?_
        refine j_iload_n F dX7_digest_78 rfl 1 rfl ?_
        refine j_iconst (v := (4 : Int32)) F dX7_digest_79 (by decide) ?_
        refine j_idiv F (by decide) dX7_digest_80 ?_
        refine j_iload_n F dX7_digest_81 rfl 1 rfl ?_
        refine j_iconst (v := (4 : Int32)) F dX7_digest_82 (by decide) ?_
        refine j_irm F (by decide) dX7_digest_83 ?_
        refine j_callVi (As := [.int (x20 / (4 : Int32)), .int (irm x20 (4 : Int32))]) F D hX (mX7_ofBend l G (x20 / (4 : Int32)) (irm x20 (4 : Int32))) ce_54 rfl kX7_ofBend rfl gX7_digest_X7_ofBend ⟨rfl, rfl⟩ ⟨Nat.le_of_ble_eq_true rfl, Nat.le_of_ble_eq_true rfl⟩ rfl (Nat.le_of_ble_eq_true rfl) rfl dX7_digest_84 (fun w27 => ?_)
        refine j_callVv (As := [.int w27.1]) F D hX (mX7_mix l G w27.1) ce_54 rfl kX7_mix rfl gX7_digest_X7_mix ⟨rfl, rfl⟩ ⟨Nat.le_of_ble_eq_true rfl, Nat.le_of_ble_eq_true rfl⟩ rfl (Nat.le_of_ble_eq_true rfl) rfl dX7_digest_87 (fun w28 => ?_)
        refine j_iinc (v := (x20 + (1 : Int32))) (lv' := [(1, .int (x20 + (1 : Int32))), (0, .ref (G.2.1 54))]) F dX7_digest_90 1 rfl rfl (by rw [← hml]; decide) rfl ?_
        refine j_goto (tgt := 64) F dX7_digest_93 (by decide) ?_
        exact j_sub [1, 0] rfl (ih24 (x20 + (1 : Int32)) w28.2)
  refine j_sub [1, 0] rfl (hL64 _  ?_ fu (0 : Int32) w19.2)
  intro N23
  refine j_aload_n F dX7_digest_96 rfl 0 rfl ?_
  refine j_aload_n F dX7_digest_97 rfl 0 rfl ?_
  refine j_getr (r := 55) F D ce_54 fl_X7_digest_7 rfl dX7_digest_98 ?_
  refine j_bipush (v := (20 : Int32)) F dX7_digest_101 (by decide) ?_
  refine j_iald F D ce_55 dX7_digest_103 (fun v29 => ?_)
  refine j_callVv (As := [.int v29]) F D hX (mX7_lays l G v29) ce_54 rfl kX7_lays rfl gX7_digest_X7_lays ⟨rfl, rfl⟩ ⟨Nat.le_of_ble_eq_true rfl, Nat.le_of_ble_eq_true rfl⟩ rfl (Nat.le_of_ble_eq_true rfl) rfl dX7_digest_104 (fun w30 => ?_)
  refine j_iconst (v := (0 : Int32)) F dX7_digest_107 (by decide) ?_
  refine j_istore_n (lv' := [(1, .int (0 : Int32)), (0, .ref (G.2.1 54))]) F dX7_digest_108 rfl (by rw [← hml]; decide) rfl ?_
  have hL63 : ∀ (K33 : Mm → Option (Int64 × Mm)) , (∀ (N34 : Mm), Jg X V z (K33 N34) N34 147 [(0, .ref (G.2.1 54))] []) → ∀ (n36 : Nat) (x31 : Int32) (N32 : Mm), Jg X V z (lX7_digest_109 K33 n36 x31 N32) N32 109 [(0, .ref (G.2.1 54)), (1, .int x31)] [] := by
    intro K33  hK33 n36
    induction n36 with
    | zero => intro x31 N32; rw [lX7_digest_109]; exact j_none
    | succ n36 ih35 =>
      intro x31 N32
      rw [lX7_digest_109]
      refine j_iload_n F dX7_digest_109 rfl 1 rfl ?_
      refine j_aload_n F dX7_digest_110 rfl 0 rfl ?_
      refine j_getr (r := 55) F D ce_54 fl_X7_digest_7 rfl dX7_digest_111 ?_
      refine j_iconst (v := (0 : Int32)) F dX7_digest_114 (by decide) ?_
      refine j_iald F D ce_55 dX7_digest_115 (fun v37 => ?_)
      refine j_iconst (v := (2 : Int32)) F dX7_digest_116 (by decide) ?_
      refine j_iadd F dX7_digest_117 ?_
      refine j_icmp_ge (tgt := 147) F dX7_digest_118 (by decide) ?_ ?_
      · exact j_sub [0] rfl (hK33 N32)
      · refine j_aload_n F dX7_digest_121 rfl 0 rfl ?_
        refine j_aload_n F dX7_digest_122 rfl 0 rfl ?_
        refine j_getr (r := 60) F D ce_54 fl_X7_digest_25 rfl dX7_digest_123 ?_
        refine j_iload_n F dX7_digest_126 rfl 1 rfl ?_
        refine j_iald F D ce_60 dX7_digest_127 (fun v38 => ?_)
        refine j_callVv (As := [.int v38]) F D hX (mX7_mix l G v38) ce_54 rfl kX7_mix rfl gX7_digest_X7_mix ⟨rfl, rfl⟩ ⟨Nat.le_of_ble_eq_true rfl, Nat.le_of_ble_eq_true rfl⟩ rfl (Nat.le_of_ble_eq_true rfl) rfl dX7_digest_128 (fun w39 => ?_)
        refine j_aload_n F dX7_digest_131 rfl 0 rfl ?_
        refine j_aload_n F dX7_digest_132 rfl 0 rfl ?_
        refine j_getr (r := 61) F D ce_54 fl_X7_digest_28 rfl dX7_digest_133 ?_
        refine j_iload_n F dX7_digest_136 rfl 1 rfl ?_
        refine j_iald F D ce_61 dX7_digest_137 (fun v40 => ?_)
        refine j_callVv (As := [.int v40]) F D hX (mX7_mix l G v40) ce_54 rfl kX7_mix rfl gX7_digest_X7_mix ⟨rfl, rfl⟩ ⟨Nat.le_of_ble_eq_true rfl, Nat.le_of_ble_eq_true rfl⟩ rfl (Nat.le_of_ble_eq_true rfl) rfl dX7_digest_138 (fun w41 => ?_)
        refine j_iinc (v := (x31 + (1 : Int32))) (lv' := [(1, .int (x31 + (1 : Int32))), (0, .ref (G.2.1 54))]) F dX7_digest_141 1 rfl rfl (by rw [← hml]; decide) rfl ?_
        refine j_goto (tgt := 109) F dX7_digest_144 (by decide) ?_
        exact j_sub [1, 0] rfl (ih35 (x31 + (1 : Int32)) w41.2)
  refine j_sub [1, 0] rfl (hL63 _  ?_ fu (0 : Int32) w30.2)
  intro N34
  refine j_iconst (v := (0 : Int32)) F dX7_digest_147 (by decide) ?_
  refine j_istore_n (lv' := [(1, .int (0 : Int32)), (0, .ref (G.2.1 54))]) F dX7_digest_148 rfl (by rw [← hml]; decide) rfl ?_
  have hL62 : ∀ (K44 : Mm → Option (Int64 × Mm)) , (∀ (N45 : Mm), Jg X V z (K44 N45) N45 169 [(0, .ref (G.2.1 54))] []) → ∀ (n47 : Nat) (x42 : Int32) (N43 : Mm), Jg X V z (lX7_digest_149 K44 n47 x42 N43) N43 149 [(0, .ref (G.2.1 54)), (1, .int x42)] [] := by
    intro K44  hK44 n47
    induction n47 with
    | zero => intro x42 N43; rw [lX7_digest_149]; exact j_none
    | succ n47 ih46 =>
      intro x42 N43
      rw [lX7_digest_149]
      refine j_iload_n F dX7_digest_149 rfl 1 rfl ?_
      refine j_iconst (v := (4 : Int32)) F dX7_digest_150 (by decide) ?_
      refine j_icmp_ge (tgt := 169) F dX7_digest_151 (by decide) ?_ ?_
      · exact j_sub [0] rfl (hK44 N43)
      · refine j_aload_n F dX7_digest_154 rfl 0 rfl ?_
        refine j_aload_n F dX7_digest_155 rfl 0 rfl ?_
        refine j_iload_n F dX7_digest_156 rfl 1 rfl ?_
        refine j_callVi (As := [.int x42]) F D hX (mX7_boxIs l G x42) ce_54 rfl kX7_boxIs rfl gX7_digest_X7_boxIs ⟨rfl, rfl⟩ ⟨Nat.le_of_ble_eq_true rfl, Nat.le_of_ble_eq_true rfl⟩ rfl (Nat.le_of_ble_eq_true rfl) rfl dX7_digest_157 (fun w48 => ?_)
        refine j_callVv (As := [.int w48.1]) F D hX (mX7_mix l G w48.1) ce_54 rfl kX7_mix rfl gX7_digest_X7_mix ⟨rfl, rfl⟩ ⟨Nat.le_of_ble_eq_true rfl, Nat.le_of_ble_eq_true rfl⟩ rfl (Nat.le_of_ble_eq_true rfl) rfl dX7_digest_160 (fun w49 => ?_)
        refine j_iinc (v := (x42 + (1 : Int32))) (lv' := [(1, .int (x42 + (1 : Int32))), (0, .ref (G.2.1 54))]) F dX7_digest_163 1 rfl rfl (by rw [← hml]; decide) rfl ?_
        refine j_goto (tgt := 149) F dX7_digest_166 (by decide) ?_
        exact j_sub [1, 0] rfl (ih46 (x42 + (1 : Int32)) w49.2)
  refine j_sub [1, 0] rfl (hL62 _  ?_ fu (0 : Int32) N34)
  intro N45
  refine j_aload_n F dX7_digest_169 rfl 0 rfl ?_
  refine j_aload_n F dX7_digest_170 rfl 0 rfl ?_
  refine j_callVi (As := []) F D hX (mX7_free l G) ce_54 rfl kX7_free rfl gX7_digest_X7_free ⟨rfl, rfl⟩ ⟨Nat.le_of_ble_eq_true rfl, Nat.le_of_ble_eq_true rfl⟩ rfl (Nat.le_of_ble_eq_true rfl) rfl dX7_digest_171 (fun w50 => ?_)
  refine j_callVv (As := [.int w50.1]) F D hX (mX7_mix l G w50.1) ce_54 rfl kX7_mix rfl gX7_digest_X7_mix ⟨rfl, rfl⟩ ⟨Nat.le_of_ble_eq_true rfl, Nat.le_of_ble_eq_true rfl⟩ rfl (Nat.le_of_ble_eq_true rfl) rfl dX7_digest_174 (fun w51 => ?_)
  refine j_aload_n F dX7_digest_177 rfl 0 rfl ?_
  refine j_callVv (As := []) F D hX (mX7_laysOrders l G) ce_54 rfl kX7_laysOrders rfl gX7_digest_X7_laysOrders ⟨rfl, rfl⟩ ⟨Nat.le_of_ble_eq_true rfl, Nat.le_of_ble_eq_true rfl⟩ rfl (Nat.le_of_ble_eq_true rfl) rfl dX7_digest_178 (fun w52 => ?_)
  refine j_aload_n F dX7_digest_181 rfl 0 rfl ?_
  refine j_aload_n F dX7_digest_182 rfl 0 rfl ?_
  refine j_getr (r := 64) F D ce_54 fl_X7_digest_37 rfl dX7_digest_183 ?_
  refine j_iconst (v := (0 : Int32)) F dX7_digest_186 (by decide) ?_
  refine j_iald F D ce_64 dX7_digest_187 (fun v53 => ?_)
  refine j_callVv (As := [.int v53]) F D hX (mX7_mix l G v53) ce_54 rfl kX7_mix rfl gX7_digest_X7_mix ⟨rfl, rfl⟩ ⟨Nat.le_of_ble_eq_true rfl, Nat.le_of_ble_eq_true rfl⟩ rfl (Nat.le_of_ble_eq_true rfl) rfl dX7_digest_188 (fun w54 => ?_)
  refine j_aload_n F dX7_digest_191 rfl 0 rfl ?_
  refine j_aload_n F dX7_digest_192 rfl 0 rfl ?_
  refine j_iconst (v := (0 : Int32)) F dX7_digest_193 (by decide) ?_
  refine j_callVi (As := [.int (0 : Int32)]) F D hX (mX7_changesIs l G (0 : Int32)) ce_54 rfl kX7_changesIs rfl gX7_digest_X7_changesIs ⟨rfl, rfl⟩ ⟨Nat.le_of_ble_eq_true rfl, Nat.le_of_ble_eq_true rfl⟩ rfl (Nat.le_of_ble_eq_true rfl) rfl dX7_digest_194 (fun w55 => ?_)
  refine j_callVv (As := [.int w55.1]) F D hX (mX7_mix l G w55.1) ce_54 rfl kX7_mix rfl gX7_digest_X7_mix ⟨rfl, rfl⟩ ⟨Nat.le_of_ble_eq_true rfl, Nat.le_of_ble_eq_true rfl⟩ rfl (Nat.le_of_ble_eq_true rfl) rfl dX7_digest_197 (fun w56 => ?_)
  refine j_aload_n F dX7_digest_200 rfl 0 rfl ?_
  refine j_aload_n F dX7_digest_201 rfl 0 rfl ?_
  refine j_iconst (v := (1 : Int32)) F dX7_digest_202 (by decide) ?_
  refine j_callVi (As := [.int (1 : Int32)]) F D hX (mX7_changesIs l G (1 : Int32)) ce_54 rfl kX7_changesIs rfl gX7_digest_X7_changesIs ⟨rfl, rfl⟩ ⟨Nat.le_of_ble_eq_true rfl, Nat.le_of_ble_eq_true rfl⟩ rfl (Nat.le_of_ble_eq_true rfl) rfl dX7_digest_203 (fun w57 => ?_)
  refine j_callVv (As := [.int w57.1]) F D hX (mX7_mix l G w57.1) ce_54 rfl kX7_mix rfl gX7_digest_X7_mix ⟨rfl, rfl⟩ ⟨Nat.le_of_ble_eq_true rfl, Nat.le_of_ble_eq_true rfl⟩ rfl (Nat.le_of_ble_eq_true rfl) rfl dX7_digest_206 (fun w58 => ?_)
  refine j_aload_n F dX7_digest_209 rfl 0 rfl ?_
  refine j_aload_n F dX7_digest_210 rfl 0 rfl ?_
  refine j_getr (r := 64) F D ce_54 fl_X7_digest_37 rfl dX7_digest_211 ?_
  refine j_aload_n F dX7_digest_214 rfl 0 rfl ?_
  refine j_getr (r := 55) F D ce_54 fl_X7_digest_7 rfl dX7_digest_215 ?_
  refine j_bipush (v := (20 : Int32)) F dX7_digest_218 (by decide) ?_
  refine j_iald F D ce_55 dX7_digest_220 (fun v59 => ?_)
  refine j_iald F D ce_64 dX7_digest_221 (fun v60 => ?_)
  refine j_callVv (As := [.int v60]) F D hX (mX7_mix l G v60) ce_54 rfl kX7_mix rfl gX7_digest_X7_mix ⟨rfl, rfl⟩ ⟨Nat.le_of_ble_eq_true rfl, Nat.le_of_ble_eq_true rfl⟩ rfl (Nat.le_of_ble_eq_true rfl) rfl dX7_digest_222 (fun w61 => ?_)
  refine j_aload_n F dX7_digest_225 rfl 0 rfl ?_
  refine j_getl F D ce_54 fl_X7_digest_203 rfl dX7_digest_226 ?_
  exact j_lret F D E dX7_digest_229
