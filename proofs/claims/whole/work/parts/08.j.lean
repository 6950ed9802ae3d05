/-! java/lang/Integer.bitCount -/
def fJ6_bitCount_0f7a4 (a0 : Int32) (M : Mm) : Option (Int32 × Mm) := lt (a0 - ((ush a0 (1 : Int32)) &&& (1431655765 : Int32))) (fun x1 => lt ((x1 &&& (858993459 : Int32)) + ((ush x1 (2 : Int32)) &&& (858993459 : Int32))) (fun x2 => lt ((x2 + (ush x2 (4 : Int32))) &&& (252645135 : Int32)) (fun x3 => lt (x3 + (ush x3 (8 : Int32))) (fun x4 => lt (x4 + (ush x4 (16 : Int32))) (fun x5 => some ((x5 &&& (63 : Int32)), M))))))
def rmJ6_bitCount_0f7a4 : Room := { frames := 0, cells := 0, slots := 0, locals := 0 }
theorem kJ6_bitCount_0f7a4 : Kc yJ6_bitCount_0f7a4 cJ6_bitCount_0f7a4 1 (some .int) wsJ6_bitCount_0f7a4 1 := ⟨⟨_, rfl⟩, by decide +kernel, by decide +kernel, by decide +kernel⟩
theorem kc_J6_bitCount_0f7a4_265 : Cond.constant RJ6 265 (1431655765) ∈ wsJ6_bitCount_0f7a4 := by decide +kernel
theorem kc_J6_bitCount_0f7a4_266 : Cond.constant RJ6 266 (858993459) ∈ wsJ6_bitCount_0f7a4 := by decide +kernel
theorem kc_J6_bitCount_0f7a4_267 : Cond.constant RJ6 267 (252645135) ∈ wsJ6_bitCount_0f7a4 := by decide +kernel
set_option maxHeartbeats 4000000 in
set_option maxRecDepth 100000 in
theorem mJ6_bitCount_0f7a4 (l : Launch) (G : Gg) (a0 : Int32) : Ci l G SC yJ6_bitCount_0f7a4 wsJ6_bitCount_0f7a4 rmJ6_bitCount_0f7a4 [.int a0] (fJ6_bitCount_0f7a4 a0) := by
  refine Ci.intro (lv := [(0, .int a0)]) RJ6 rfl (by decide) kJ6_bitCount_0f7a4 (Nat.le_of_ble_eq_true rfl) rfl (fun X V M z F D hX hml E => ?_)
  unfold fJ6_bitCount_0f7a4
  refine j_iload_n F dJ6_bitCount_0f7a4_0 rfl 0 rfl ?_
  refine j_iload_n F dJ6_bitCount_0f7a4_1 rfl 0 rfl ?_
  refine j_iconst (v := (1 : Int32)) F dJ6_bitCount_0f7a4_2 (by decide) ?_
  refine j_iushr (v := (ush a0 (1 : Int32))) F rfl dJ6_bitCount_0f7a4_3 ?_
  refine j_ldcw (v := (1431655765 : Int32)) F kc_J6_bitCount_0f7a4_265 dJ6_bitCount_0f7a4_4 ?_
  refine j_iand F dJ6_bitCount_0f7a4_7 ?_
  refine j_isub F dJ6_bitCount_0f7a4_8 ?_
  refine j_let (f := Value.int) (fun x1 => ?_)
  refine j_istore_n (lv' := [(0, .int x1)]) F dJ6_bitCount_0f7a4_9 rfl (by rw [← hml]; decide) rfl ?_
  refine j_iload_n F dJ6_bitCount_0f7a4_10 rfl 0 rfl ?_
  refine j_ldcw (v := (858993459 : Int32)) F kc_J6_bitCount_0f7a4_266 dJ6_bitCount_0f7a4_11 ?_
  refine j_iand F dJ6_bitCount_0f7a4_14 ?_
  refine j_iload_n F dJ6_bitCount_0f7a4_15 rfl 0 rfl ?_
  refine j_iconst (v := (2 : Int32)) F dJ6_bitCount_0f7a4_16 (by decide) ?_
  refine j_iushr (v := (ush x1 (2 : Int32))) F rfl dJ6_bitCount_0f7a4_17 ?_
  refine j_ldcw (v := (858993459 : Int32)) F kc_J6_bitCount_0f7a4_266 dJ6_bitCount_0f7a4_18 ?_
  refine j_iand F dJ6_bitCount_0f7a4_21 ?_
  refine j_iadd F dJ6_bitCount_0f7a4_22 ?_
  refine j_let (f := Value.int) (fun x2 => ?_)
  refine j_istore_n (lv' := [(0, .int x2)]) F dJ6_bitCount_0f7a4_23 rfl (by rw [← hml]; decide) rfl ?_
  refine j_iload_n F dJ6_bitCount_0f7a4_24 rfl 0 rfl ?_
  refine j_iload_n F dJ6_bitCount_0f7a4_25 rfl 0 rfl ?_
  refine j_iconst (v := (4 : Int32)) F dJ6_bitCount_0f7a4_26 (by decide) ?_
  refine j_iushr (v := (ush x2 (4 : Int32))) F rfl dJ6_bitCount_0f7a4_27 ?_
  refine j_iadd F dJ6_bitCount_0f7a4_28 ?_
  refine j_ldcw (v := (252645135 : Int32)) F kc_J6_bitCount_0f7a4_267 dJ6_bitCount_0f7a4_29 ?_
  refine j_iand F dJ6_bitCount_0f7a4_32 ?_
  refine j_let (f := Value.int) (fun x3 => ?_)
  refine j_istore_n (lv' := [(0, .int x3)]) F dJ6_bitCount_0f7a4_33 rfl (by rw [← hml]; decide) rfl ?_
  refine j_iload_n F dJ6_bitCount_0f7a4_34 rfl 0 rfl ?_
  refine j_iload_n F dJ6_bitCount_0f7a4_35 rfl 0 rfl ?_
  refine j_bipush (v := (8 : Int32)) F dJ6_bitCount_0f7a4_36 (by decide) ?_
  refine j_iushr (v := (ush x3 (8 : Int32))) F rfl dJ6_bitCount_0f7a4_38 ?_
  refine j_iadd F dJ6_bitCount_0f7a4_39 ?_
  refine j_let (f := Value.int) (fun x4 => ?_)
  refine j_istore_n (lv' := [(0, .int x4)]) F dJ6_bitCount_0f7a4_40 rfl (by rw [← hml]; decide) rfl ?_
  refine j_iload_n F dJ6_bitCount_0f7a4_41 rfl 0 rfl ?_
  refine j_iload_n F dJ6_bitCount_0f7a4_42 rfl 0 rfl ?_
  refine j_bipush (v := (16 : Int32)) F dJ6_bitCount_0f7a4_43 (by decide) ?_
  refine j_iushr (v := (ush x4 (16 : Int32))) F rfl dJ6_bitCount_0f7a4_45 ?_
  refine j_iadd F dJ6_bitCount_0f7a4_46 ?_
  refine j_let (f := Value.int) (fun x5 => ?_)
  refine j_istore_n (lv' := [(0, .int x5)]) F dJ6_bitCount_0f7a4_47 rfl (by rw [← hml]; decide) rfl ?_
  refine j_iload_n F dJ6_bitCount_0f7a4_48 rfl 0 rfl ?_
  refine j_bipush (v := (63 : Int32)) F dJ6_bitCount_0f7a4_49 (by decide) ?_
  refine j_iand F dJ6_bitCount_0f7a4_51 ?_
  exact j_iret F D E rfl dJ6_bitCount_0f7a4_52

/-! java/util/Arrays.fill -/
def lJ7_fill_53178_5 (K6 : Mm → Option (Unit × Mm)) (kr : Nat) (nr : Nat) (c2 : Int32) (c4 : Int32) : Nat → Int32 → Mm → Option (Unit × Mm)
  | 0, _, _ => none
  | n9 + 1, x3, N5 => (if c4 ≤ x3 then K6 N5 else (wr N5 kr nr x3 c2).bind (fun N10 => lJ7_fill_53178_5 K6 kr nr c2 c4 n9 (x3 + (1 : Int32)) N10))
def fJ7_fill_53178 (kr : Nat) (nr : Nat) (a0 : Int32) (M : Mm) : Option (Unit × Mm) := lt (Int32.ofNat nr) (fun x1 => lJ7_fill_53178_5 (fun (N7 : Mm) => some ((), N7)) kr nr a0 x1 fu (0 : Int32) M)
def rmJ7_fill_53178 : Room := { frames := 0, cells := 0, slots := 0, locals := 0 }
theorem kJ7_fill_53178 : Kc yJ7_fill_53178 cJ7_fill_53178 4 none wsJ7_fill_53178 2 := ⟨⟨_, rfl⟩, by decide +kernel, by decide +kernel, by decide +kernel⟩
set_option maxHeartbeats 4000000 in
set_option maxRecDepth 100000 in
theorem mJ7_fill_53178 (l : Launch) (G : Gg) (kr : Nat) (nr : Nat) (a0 : Int32) (hc_kr : Ce SC kr (.inl nr)) : Cv l G SC yJ7_fill_53178 wsJ7_fill_53178 rmJ7_fill_53178 [.ref (G.2.1 kr), .int a0] (fJ7_fill_53178 kr nr a0) := by
  refine Cv.intro (lv := [(0, .ref (G.2.1 kr)), (1, .int a0)]) RJ7 rfl (by decide) kJ7_fill_53178 (Nat.le_of_ble_eq_true rfl) rfl (fun X V M z F D hX hml E => ?_)
  unfold fJ7_fill_53178
  refine j_iconst (v := (0 : Int32)) F dJ7_fill_53178_0 (by decide) ?_
  refine j_istore_n (lv' := [(2, .int (0 : Int32)), (0, .ref (G.2.1 kr)), (1, .int a0)]) F dJ7_fill_53178_1 rfl (by rw [← hml]; decide) rfl ?_
  refine j_aload_n F dJ7_fill_53178_2 rfl 1 rfl ?_
  refine j_alen (v := (Int32.ofNat nr)) F D hc_kr rfl dJ7_fill_53178_3 ?_
  refine j_let (f := Value.int) (fun x1 => ?_)
  refine j_istore_n (lv' := [(3, .int x1), (2, .int (0 : Int32)), (0, .ref (G.2.1 kr)), (1, .int a0)]) F dJ7_fill_53178_4 rfl (by rw [← hml]; decide) rfl ?_
  have hL11 : ∀ (K6 : Mm → Option (Unit × Mm)) (c2 : Int32) (c4 : Int32), (∀ (N7 : Mm), Jg X V z (K6 N7) N7 20 [] []) → ∀ (n9 : Nat) (x3 : Int32) (N5 : Mm), Jg X V z (lJ7_fill_53178_5 K6 kr nr c2 c4 n9 x3 N5) N5 5 [(0, .ref (G.2.1 kr)), (1, .int c2), (2, .int x3), (3, .int c4)] [] := by
    intro K6 c2 c4 hK6 n9
    induction n9 with
    | zero => intro x3 N5; rw [lJ7_fill_53178_5]; exact j_none
    | succ n9 ih8 =>
      intro x3 N5
      rw [lJ7_fill_53178_5]
      refine j_iload_n F dJ7_fill_53178_5 rfl 2 rfl ?_
      refine j_iload_n F dJ7_fill_53178_6 rfl 3 rfl ?_
      refine j_icmp_ge (tgt := 20) F dJ7_fill_53178_7 (by decide) ?_ ?_
      · exact j_sub [] rfl (hK6 N5)
      · refine j_aload_n F dJ7_fill_53178_10 rfl 0 rfl ?_
        refine j_iload_n F dJ7_fill_53178_11 rfl 2 rfl ?_
        refine j_iload_n F dJ7_fill_53178_12 rfl 1 rfl ?_
        refine j_iast F D hc_kr dJ7_fill_53178_13 (fun N10 => ?_)
        refine j_iinc (v := (x3 + (1 : Int32))) (lv' := [(2, .int (x3 + (1 : Int32))), (0, .ref (G.2.1 kr)), (1, .int c2), (3, .int c4)]) F dJ7_fill_53178_14 2 rfl rfl (by rw [← hml]; decide) rfl ?_
        refine j_goto (tgt := 5) F dJ7_fill_53178_17 (by decide) ?_
        exact j_sub [1, 2, 0, 3] rfl (ih8 (x3 + (1 : Int32)) N10)
  refine j_sub [2, 3, 1, 0] rfl (hL11 _ a0 x1 ?_ fu (0 : Int32) M)
  intro N7
  exact j_vret F D E dJ7_fill_53178_20
