/-! the law, from its loop on -/
def lL_law_18 (K3 : Mm × Mm → Option Int32) (L : Nat) (xs : Nat → Int32) : Nat → Int32 → Mm × Mm → Option Int32
  | 0, _, _ => none
  | n6 + 1, x1, N2 => (if ((Int32.ofNat L) - (4 : Int32)) < x1 then K3 N2 else (rdT xs L x1).bind (fun v7 => (if (v7 &&& (31 : Int32)) = (0 : Int32) then (rdT xs L (x1 + (1 : Int32))).bind (fun v9 => (fX6_strip v9 N2.1).bind (fun w10 => (rdT xs L (x1 + (1 : Int32))).bind (fun v11 => (fX7_strip v11 (w10.2, N2.2).2).bind (fun w12 => (if w10.1 = w12.1 then lL_law_18 K3 L xs n6 (x1 + (4 : Int32)) ((w10.2, N2.2).1, w12.2) else some (0 : Int32)))))) else (if (v7 &&& (31 : Int32)) = (1 : Int32) then (rdT xs L (x1 + (1 : Int32))).bind (fun v14 => (rdT xs L (x1 + (2 : Int32))).bind (fun v15 => (rdT xs L (x1 + (3 : Int32))).bind (fun v16 => (fX6_bend v14 v15 v16 N2.1).bind (fun w17 => (rdT xs L (x1 + (1 : Int32))).bind (fun v18 => (rdT xs L (x1 + (2 : Int32))).bind (fun v19 => (rdT xs L (x1 + (3 : Int32))).bind (fun v20 => (fX7_bend v18 v19 v20 (w17.2, N2.2).2).bind (fun w21 => (if w17.1 = w21.1 then lL_law_18 K3 L xs n6 (x1 + (4 : Int32)) ((w17.2, N2.2).1, w21.2) else some (0 : Int32)))))))))) else (if (v7 &&& (31 : Int32)) = (2 : Int32) then (rdT xs L (x1 + (1 : Int32))).bind (fun v23 => (rdT xs L (x1 + (2 : Int32))).bind (fun v24 => (fX6_press v23 v24 N2.1).bind (fun w25 => (rdT xs L (x1 + (1 : Int32))).bind (fun v26 => (rdT xs L (x1 + (2 : Int32))).bind (fun v27 => (fX7_press v26 v27 (w25.2, N2.2).2).bind (fun w28 => (if w25.1 = w28.1 then lL_law_18 K3 L xs n6 (x1 + (4 : Int32)) ((w25.2, N2.2).1, w28.2) else some (0 : Int32)))))))) else (if (v7 &&& (31 : Int32)) = (3 : Int32) then (rdT xs L (x1 + (1 : Int32))).bind (fun v30 => (rdT xs L (x1 + (2 : Int32))).bind (fun v31 => (fX6_takes v30 v31 N2.1).bind (fun w32 => (rdT xs L (x1 + (1 : Int32))).bind (fun v33 => (rdT xs L (x1 + (2 : Int32))).bind (fun v34 => (fX7_takes v33 v34 (w32.2, N2.2).2).bind (fun w35 => (if w32.1 = w35.1 then lL_law_18 K3 L xs n6 (x1 + (4 : Int32)) ((w32.2, N2.2).1, w35.2) else some (0 : Int32)))))))) else (if (v7 &&& (31 : Int32)) = (4 : Int32) then (rdT xs L (x1 + (1 : Int32))).bind (fun v37 => (fX6_makes v37 N2.1).bind (fun w38 => (rdT xs L (x1 + (1 : Int32))).bind (fun v39 => (fX7_makes v39 (w38.2, N2.2).2).bind (fun w40 => (if w38.1 = w40.1 then lL_law_18 K3 L xs n6 (x1 + (4 : Int32)) ((w38.2, N2.2).1, w40.2) else some (0 : Int32)))))) else (if (v7 &&& (31 : Int32)) = (5 : Int32) then (rdT xs L (x1 + (1 : Int32))).bind (fun v42 => (fX6_unmakes v42 N2.1).bind (fun w43 => (rdT xs L (x1 + (1 : Int32))).bind (fun v44 => (fX7_unmakes v44 (w43.2, N2.2).2).bind (fun w45 => (if w43.1 = w45.1 then lL_law_18 K3 L xs n6 (x1 + (4 : Int32)) ((w43.2, N2.2).1, w45.2) else some (0 : Int32)))))) else (if (v7 &&& (31 : Int32)) = (6 : Int32) then (fX6_again N2.1).bind (fun w47 => (fX7_again (w47.2, N2.2).2).bind (fun w48 => (if w47.1 = w48.1 then lL_law_18 K3 L xs n6 (x1 + (4 : Int32)) ((w47.2, N2.2).1, w48.2) else some (0 : Int32)))) else (if (v7 &&& (31 : Int32)) = (7 : Int32) then (rdT xs L (x1 + (1 : Int32))).bind (fun v50 => (rdT xs L (x1 + (2 : Int32))).bind (fun v51 => (fX6_of v50 v51 N2.1).bind (fun w52 => (rdT xs L (x1 + (1 : Int32))).bind (fun v53 => (rdT xs L (x1 + (2 : Int32))).bind (fun v54 => (fX7_of v53 v54 (w52.2, N2.2).2).bind (fun w55 => (if w52.1 = w55.1 then lL_law_18 K3 L xs n6 (x1 + (4 : Int32)) ((w52.2, N2.2).1, w55.2) else some (0 : Int32)))))))) else (if (v7 &&& (31 : Int32)) = (8 : Int32) then (rdT xs L (x1 + (1 : Int32))).bind (fun v57 => (rdT xs L (x1 + (2 : Int32))).bind (fun v58 => (fX6_joint v57 v58 N2.1).bind (fun w59 => (rdT xs L (x1 + (1 : Int32))).bind (fun v60 => (rdT xs L (x1 + (2 : Int32))).bind (fun v61 => (fX7_joint v60 v61 (w59.2, N2.2).2).bind (fun w62 => (if w59.1 = w62.1 then lL_law_18 K3 L xs n6 (x1 + (4 : Int32)) ((w59.2, N2.2).1, w62.2) else some (0 : Int32)))))))) else (if (v7 &&& (31 : Int32)) = (9 : Int32) then (rdT xs L (x1 + (1 : Int32))).bind (fun v64 => (fX6_box v64 N2.1).bind (fun w65 => (rdT xs L (x1 + (1 : Int32))).bind (fun v66 => (fX7_box v66 (w65.2, N2.2).2).bind (fun w67 => (if w65.1 = w67.1 then lL_law_18 K3 L xs n6 (x1 + (4 : Int32)) ((w65.2, N2.2).1, w67.2) else some (0 : Int32)))))) else (if (v7 &&& (31 : Int32)) = (10 : Int32) then (rdT xs L (x1 + (1 : Int32))).bind (fun v69 => (fX6_hits v69 N2.1).bind (fun w70 => (rdT xs L (x1 + (1 : Int32))).bind (fun v71 => (fX7_hits v71 (w70.2, N2.2).2).bind (fun w72 => (if w70.1 = w72.1 then lL_law_18 K3 L xs n6 (x1 + (4 : Int32)) ((w70.2, N2.2).1, w72.2) else some (0 : Int32)))))) else (if (v7 &&& (31 : Int32)) = (11 : Int32) then (fX6_free N2.1).bind (fun w74 => (fX7_free (w74.2, N2.2).2).bind (fun w75 => (if w74.1 = w75.1 then lL_law_18 K3 L xs n6 (x1 + (4 : Int32)) ((w74.2, N2.2).1, w75.2) else some (0 : Int32)))) else (if (v7 &&& (31 : Int32)) = (12 : Int32) then (fX6_orders N2.1).bind (fun w77 => (fX7_orders (w77.2, N2.2).2).bind (fun w78 => (if w77.1 = w78.1 then lL_law_18 K3 L xs n6 (x1 + (4 : Int32)) ((w77.2, N2.2).1, w78.2) else some (0 : Int32)))) else (if (v7 &&& (31 : Int32)) = (13 : Int32) then (rdT xs L (x1 + (1 : Int32))).bind (fun v80 => (rdT xs L (x1 + (2 : Int32))).bind (fun v81 => (fX6_order v80 v81 N2.1).bind (fun w82 => (rdT xs L (x1 + (1 : Int32))).bind (fun v83 => (rdT xs L (x1 + (2 : Int32))).bind (fun v84 => (fX7_order v83 v84 (w82.2, N2.2).2).bind (fun w85 => (if w82.1 = w85.1 then lL_law_18 K3 L xs n6 (x1 + (4 : Int32)) ((w82.2, N2.2).1, w85.2) else some (0 : Int32)))))))) else (if (v7 &&& (31 : Int32)) = (14 : Int32) then (rdT xs L (x1 + (1 : Int32))).bind (fun v87 => (fX6_changes v87 N2.1).bind (fun w88 => (rdT xs L (x1 + (1 : Int32))).bind (fun v89 => (fX7_changes v89 (w88.2, N2.2).2).bind (fun w90 => (if w88.1 = w90.1 then lL_law_18 K3 L xs n6 (x1 + (4 : Int32)) ((w88.2, N2.2).1, w90.2) else some (0 : Int32)))))) else (if (v7 &&& (31 : Int32)) = (15 : Int32) then (fX6_ways N2.1).bind (fun w92 => (fX7_ways (w92.2, N2.2).2).bind (fun w93 => (if w92.1 = w93.1 then lL_law_18 K3 L xs n6 (x1 + (4 : Int32)) ((w92.2, N2.2).1, w93.2) else some (0 : Int32)))) else (if (v7 &&& (31 : Int32)) = (16 : Int32) then (rdT xs L (x1 + (1 : Int32))).bind (fun v95 => (fX6_count v95 N2.1).bind (fun w96 => (rdT xs L (x1 + (1 : Int32))).bind (fun v97 => (fX7_count v97 (w96.2, N2.2).2).bind (fun w98 => (if w96.1 = w98.1 then lL_law_18 K3 L xs n6 (x1 + (4 : Int32)) ((w96.2, N2.2).1, w98.2) else some (0 : Int32)))))) else (if (v7 &&& (31 : Int32)) = (17 : Int32) then (rdT xs L (x1 + (1 : Int32))).bind (fun v100 => (fX6_type v100 N2.1).bind (fun w101 => (rdT xs L (x1 + (1 : Int32))).bind (fun v102 => (fX7_type v102 (w101.2, N2.2).2).bind (fun w103 => (if w101.1 = w103.1 then lL_law_18 K3 L xs n6 (x1 + (4 : Int32)) ((w101.2, N2.2).1, w103.2) else some (0 : Int32)))))) else (if (v7 &&& (31 : Int32)) = (18 : Int32) then (fX6_clear N2.1).bind (fun w105 => (fX7_clear (w105.2, N2.2).2).bind (fun w106 => (if w105.1 = w106.1 then lL_law_18 K3 L xs n6 (x1 + (4 : Int32)) ((w105.2, N2.2).1, w106.2) else some (0 : Int32)))) else (if (v7 &&& (31 : Int32)) = (19 : Int32) then (fX6_does N2.1).bind (fun w108 => (fX7_does (w108.2, N2.2).2).bind (fun w109 => (if w108.1 = w109.1 then lL_law_18 K3 L xs n6 (x1 + (4 : Int32)) ((w108.2, N2.2).1, w109.2) else some (0 : Int32)))) else (if (v7 &&& (31 : Int32)) = (20 : Int32) then (fX6_back N2.1).bind (fun w111 => (fX7_back (w111.2, N2.2).2).bind (fun w112 => (if w111.1 = w112.1 then lL_law_18 K3 L xs n6 (x1 + (4 : Int32)) ((w111.2, N2.2).1, w112.2) else some (0 : Int32)))) else (if (v7 &&& (31 : Int32)) = (21 : Int32) then (rdT xs L (x1 + (1 : Int32))).bind (fun v114 => (fX6_told v114 N2.1).bind (fun w115 => (rdT xs L (x1 + (1 : Int32))).bind (fun v116 => (fX7_told v116 (w115.2, N2.2).2).bind (fun w117 => (if w115.1 = w117.1 then lL_law_18 K3 L xs n6 (x1 + (4 : Int32)) ((w115.2, N2.2).1, w117.2) else some (0 : Int32)))))) else (if (v7 &&& (31 : Int32)) = (22 : Int32) then (fX6_digest N2.1).bind (fun w119 => (fX7_digest (w119.2, N2.2).2).bind (fun w120 => (if (lg_cmp w119.1 w120.1) = (0 : Int32) then lL_law_18 K3 L xs n6 (x1 + (4 : Int32)) ((w119.2, N2.2).1, w120.2) else some (0 : Int32)))) else lL_law_18 K3 L xs n6 (x1 + (4 : Int32)) N2)))))))))))))))))))))))))
def fL_law (L : Nat) (xs : Nat → Int32) (P : Mm × Mm) : Option Int32 := lL_law_18 (fun (N4 : Mm × Mm) => some (1 : Int32)) L xs fu (0 : Int32) P
theorem q_lawret {X : Cx} {V : Vx (Mm × Mm)} {P : Mm × Mm} {pc : Nat} {lv : List (Nat × Value)} {cc : ByteArray} {Ts : List Cond} {own : String} {rt : Option FieldType} {rm : Room} {G : Gg} {b L : Nat} {xs : Nat → Int32} (F : Ok X V cc Ts own rt rm) (D : WdL X V G b L xs) (E : cc = code ∧ rt = ret ∧ X.2.2.2.1 = room_1 ∧ xA X = #[Value.ref b] ∧ V.2.2.2.2 = lw_Z (xB X) #[Value.ref b] (xS X)) (hdg : decode cc pc = .ok (.ireturn, 1)) : JL X V (1 : Int32) (some (1 : Int32)) P pc lv [.int 1] := by
  intro ho H locs ls hP hS hl
  obtain ⟨p, l, e, R, s, m, args, below, meth, c⟩ := X
  obtain ⟨e1, e2, e3, e4, e5⟩ := E
  subst e1; subst e2
  have e3 : R = room_1 := e3
  have e4 : args = #[Value.ref b] := e4
  subst e3; subst e4
  unfold WL
  refine va_forget (fun q hq => ?_) ?_
  · have := hS.2.2 q hq
    rw [D.2.2.1] at this
    exact this
  · show W p l e room_1 s m #[Value.ref b] below meth c H [] 600000 7302250 V.2.2.2.2 (F0 m pc ls [.int 1])
    rw [e5]
    exact lw_ret F.1.1 F.1.2.1 F.2.1 F.2.2.1 hdg
set_option maxHeartbeats 8000000 in
set_option maxRecDepth 100000 in
theorem law_J (l : Launch) (G : Gg) (b L : Nat) (xs : Nat → Int32) (X : Cx) (V : Vx (Mm × Mm)) (P : Mm × Mm) (F : Ok X V cL_law wsL_law RL ret room_1) (D : WdL X V G b L xs) (hX : X.2.1 = l) (hml : 4 = V.2.2.1) (E : cL_law = code ∧ ret = ret ∧ X.2.2.2.1 = room_1 ∧ xA X = #[Value.ref b] ∧ V.2.2.2.2 = lw_Z (xB X) #[Value.ref b] (xS X)) : JL X V (1 : Int32) (fL_law L xs P) P 18 [(0, .ref b), (1, .ref (G.2.1 0)), (2, .ref (G.2.1 54)), (3, .int (0 : Int32))] [] := by
  unfold fL_law
  have hL121 : ∀ (K3 : Mm × Mm → Option Int32) , (∀ (N4 : Mm × Mm), JL X V (1 : Int32) (K3 N4) N4 666 [] []) → ∀ (n6 : Nat) (x1 : Int32) (N2 : Mm × Mm), JL X V (1 : Int32) (lL_law_18 K3 L xs n6 x1 N2) N2 18 [(0, .ref b), (1, .ref (G.2.1 0)), (2, .ref (G.2.1 54)), (3, .int x1)] [] := by
    intro K3  hK3 n6
    induction n6 with
    | zero => intro x1 N2; rw [lL_law_18]; exact q_none
    | succ n6 ih5 =>
      intro x1 N2
      rw [lL_law_18]
      refine q_iload_n F dL_law_18 rfl 3 rfl ?_
      refine q_aload_n F dL_law_19 rfl 0 rfl ?_
      refine q_slen F D dL_law_20 ?_
      refine q_iconst (v := (4 : Int32)) F dL_law_21 (by decide) ?_
      refine q_isub F dL_law_22 ?_
      refine q_icmp_gt (tgt := 666) F dL_law_23 (by decide) ?_ ?_
      · exact q_sub [] rfl (hK3 N2)
      · refine q_aload_n F dL_law_26 rfl 0 rfl ?_
        refine q_iload_n F dL_law_27 rfl 3 rfl ?_
        refine q_sld F D dL_law_28 (fun v7 => ?_)
        refine q_bipush (v := (31 : Int32)) F dL_law_29 (by decide) ?_
        refine q_iand F dL_law_31 ?_
        refine q_ite (fun h8 => ?_) (fun h8 => ?_)
        · refine q_tsw F dL_law_32 (by decide) 140 (by rw [h8]; decide) ?_
          refine q_aload_n F dL_law_140 rfl 1 rfl ?_
          refine q_aload_n F dL_law_141 rfl 0 rfl ?_
          refine q_iload_n F dL_law_142 rfl 3 rfl ?_
          refine q_iconst (v := (1 : Int32)) F dL_law_143 (by decide) ?_
          refine q_iadd F dL_law_144 ?_
          refine q_sld F D dL_law_145 (fun v9 => ?_)
          refine q_callCi (As := [.int v9]) F D hX ⟨rfl, rfl⟩ (mX6_strip l G v9) kX6_strip rfl gL_law_X6_strip ⟨rfl, rfl⟩ ⟨Nat.le_of_ble_eq_true rfl, Nat.le_of_ble_eq_true rfl⟩ rfl (Nat.le_of_ble_eq_true rfl) rfl dL_law_146 (fun w10 => ?_)
          refine q_aload_n F dL_law_149 rfl 2 rfl ?_
          refine q_aload_n F dL_law_150 rfl 0 rfl ?_
          refine q_iload_n F dL_law_151 rfl 3 rfl ?_
          refine q_iconst (v := (1 : Int32)) F dL_law_152 (by decide) ?_
          refine q_iadd F dL_law_153 ?_
          refine q_sld F D dL_law_154 (fun v11 => ?_)
          refine q_callMi (As := [.int v11]) F D hX ⟨rfl, rfl⟩ (mX7_strip l G v11) kX7_strip rfl gL_law_X7_strip ⟨rfl, rfl⟩ ⟨Nat.le_of_ble_eq_true rfl, Nat.le_of_ble_eq_true rfl⟩ rfl (Nat.le_of_ble_eq_true rfl) rfl dL_law_155 (fun w12 => ?_)
          refine q_icmp_eq (tgt := 660) F dL_law_158 (by decide) ?_ ?_
          · refine q_iinc (v := (x1 + (4 : Int32))) (lv' := [(3, .int (x1 + (4 : Int32))), (0, .ref b), (1, .ref (G.2.1 0)), (2, .ref (G.2.1 54))]) F dL_law_660 3 rfl rfl (by rw [← hml]; decide) rfl ?_
            refine q_goto (tgt := 18) F dL_law_663 (by decide) ?_
            exact q_sub [1, 2, 3, 0] rfl (ih5 (x1 + (4 : Int32)) ((w10.2, N2.2).1, w12.2))
          · refine q_iconst (v := (0 : Int32)) F dL_law_161 (by decide) ?_
            exact q_no (by decide)
        · refine q_ite (fun h13 => ?_) (fun h13 => ?_)
          · refine q_tsw F dL_law_32 (by decide) 163 (by rw [h13]; decide) ?_
            refine q_aload_n F dL_law_163 rfl 1 rfl ?_
            refine q_aload_n F dL_law_164 rfl 0 rfl ?_
            refine q_iload_n F dL_law_165 rfl 3 rfl ?_
            refine q_iconst (v := (1 : Int32)) F dL_law_166 (by decide) ?_
            refine q_iadd F dL_law_167 ?_
            refine q_sld F D dL_law_168 (fun v14 => ?_)
            refine q_aload_n F dL_law_169 rfl 0 rfl ?_
            refine q_iload_n F dL_law_170 rfl 3 rfl ?_
            refine q_iconst (v := (2 : Int32)) F dL_law_171 (by decide) ?_
            refine q_iadd F dL_law_172 ?_
            refine q_sld F D dL_law_173 (fun v15 => ?_)
            refine q_aload_n F dL_law_174 rfl 0 rfl ?_
            refine q_iload_n F dL_law_175 rfl 3 rfl ?_
            refine q_iconst (v := (3 : Int32)) F dL_law_176 (by decide) ?_
            refine q_iadd F dL_law_177 ?_
            refine q_sld F D dL_law_178 (fun v16 => ?_)
            refine q_callCi (As := [.int v14, .int v15, .int v16]) F D hX ⟨rfl, rfl⟩ (mX6_bend l G v14 v15 v16) kX6_bend rfl gL_law_X6_bend ⟨rfl, rfl⟩ ⟨Nat.le_of_ble_eq_true rfl, Nat.le_of_ble_eq_true rfl⟩ rfl (Nat.le_of_ble_eq_true rfl) rfl dL_law_179 (fun w17 => ?_)
            refine q_aload_n F dL_law_182 rfl 2 rfl ?_
            refine q_aload_n F dL_law_183 rfl 0 rfl ?_
            refine q_iload_n F dL_law_184 rfl 3 rfl ?_
            refine q_iconst (v := (1 : Int32)) F dL_law_185 (by decide) ?_
            refine q_iadd F dL_law_186 ?_
            refine q_sld F D dL_law_187 (fun v18 => ?_)
            refine q_aload_n F dL_law_188 rfl 0 rfl ?_
            refine q_iload_n F dL_law_189 rfl 3 rfl ?_
            refine q_iconst (v := (2 : Int32)) F dL_law_190 (by decide) ?_
            refine q_iadd F dL_law_191 ?_
            refine q_sld F D dL_law_192 (fun v19 => ?_)
            refine q_aload_n F dL_law_193 rfl 0 rfl ?_
            refine q_iload_n F dL_law_194 rfl 3 rfl ?_
            refine q_iconst (v := (3 : Int32)) F dL_law_195 (by decide) ?_
            refine q_iadd F dL_law_196 ?_
            refine q_sld F D dL_law_197 (fun v20 => ?_)
            refine q_callMi (As := [.int v18, .int v19, .int v20]) F D hX ⟨rfl, rfl⟩ (mX7_bend l G v18 v19 v20) kX7_bend rfl gL_law_X7_bend ⟨rfl, rfl⟩ ⟨Nat.le_of_ble_eq_true rfl, Nat.le_of_ble_eq_true rfl⟩ rfl (Nat.le_of_ble_eq_true rfl) rfl dL_law_198 (fun w21 => ?_)
            refine q_icmp_eq (tgt := 660) F dL_law_201 (by decide) ?_ ?_
            · refine q_iinc (v := (x1 + (4 : Int32))) (lv' := [(3, .int (x1 + (4 : Int32))), (0, .ref b), (1, .ref (G.2.1 0)), (2, .ref (G.2.1 54))]) F dL_law_660 3 rfl rfl (by rw [← hml]; decide) rfl ?_
              refine q_goto (tgt := 18) F dL_law_663 (by decide) ?_
              exact q_sub [1, 2, 3, 0] rfl (ih5 (x1 + (4 : Int32)) ((w17.2, N2.2).1, w21.2))
            · refine q_iconst (v := (0 : Int32)) F dL_law_204 (by decide) ?_
              exact q_no (by decide)
          · refine q_ite (fun h22 => ?_) (fun h22 => ?_)
            · refine q_tsw F dL_law_32 (by decide) 206 (by rw [h22]; decide) ?_
              refine q_aload_n F dL_law_206 rfl 1 rfl ?_
              refine q_aload_n F dL_law_207 rfl 0 rfl ?_
              refine q_iload_n F dL_law_208 rfl 3 rfl ?_
              refine q_iconst (v := (1 : Int32)) F dL_law_209 (by decide) ?_
              refine q_iadd F dL_law_210 ?_
              refine q_sld F D dL_law_211 (fun v23 => ?_)
              refine q_aload_n F dL_law_212 rfl 0 rfl ?_
              refine q_iload_n F dL_law_213 rfl 3 rfl ?_
              refine q_iconst (v := (2 : Int32)) F dL_law_214 (by decide) ?_
              refine q_iadd F dL_law_215 ?_
              refine q_sld F D dL_law_216 (fun v24 => ?_)
              refine q_callCi (As := [.int v23, .int v24]) F D hX ⟨rfl, rfl⟩ (mX6_press l G v23 v24) kX6_press rfl gL_law_X6_press ⟨rfl, rfl⟩ ⟨Nat.le_of_ble_eq_true rfl, Nat.le_of_ble_eq_true rfl⟩ rfl (Nat.le_of_ble_eq_true rfl) rfl dL_law_217 (fun w25 => ?_)
              refine q_aload_n F dL_law_220 rfl 2 rfl ?_
              refine q_aload_n F dL_law_221 rfl 0 rfl ?_
              refine q_iload_n F dL_law_222 rfl 3 rfl ?_
              refine q_iconst (v := (1 : Int32)) F dL_law_223 (by decide) ?_
              refine q_iadd F dL_law_224 ?_
              refine q_sld F D dL_law_225 (fun v26 => ?_)
              refine q_aload_n F dL_law_226 rfl 0 rfl ?_
              refine q_iload_n F dL_law_227 rfl 3 rfl ?_
              refine q_iconst (v := (2 : Int32)) F dL_law_228 (by decide) ?_
              refine q_iadd F dL_law_229 ?_
              refine q_sld F D dL_law_230 (fun v27 => ?_)
              refine q_callMi (As := [.int v26, .int v27]) F D hX ⟨rfl, rfl⟩ (mX7_press l G v26 v27) kX7_press rfl gL_law_X7_press ⟨rfl, rfl⟩ ⟨Nat.le_of_ble_eq_true rfl, Nat.le_of_ble_eq_true rfl⟩ rfl (Nat.le_of_ble_eq_true rfl) rfl dL_law_231 (fun w28 => ?_)
              refine q_icmp_eq (tgt := 660) F dL_law_234 (by decide) ?_ ?_
              · refine q_iinc (v := (x1 + (4 : Int32))) (lv' := [(3, .int (x1 + (4 : Int32))), (0, .ref b), (1, .ref (G.2.1 0)), (2, .ref (G.2.1 54))]) F dL_law_660 3 rfl rfl (by rw [← hml]; decide) rfl ?_
                refine q_goto (tgt := 18) F dL_law_663 (by decide) ?_
                exact q_sub [1, 2, 3, 0] rfl (ih5 (x1 + (4 : Int32)) ((w25.2, N2.2).1, w28.2))
              · refine q_iconst (v := (0 : Int32)) F dL_law_237 (by decide) ?_
                exact q_no (by decide)
            · refine q_ite (fun h29 => ?_) (fun h29 => ?_)
              · refine q_tsw F dL_law_32 (by decide) 239 (by rw [h29]; decide) ?_
                refine q_aload_n F dL_law_239 rfl 1 rfl ?_
                refine q_aload_n F dL_law_240 rfl 0 rfl ?_
                refine q_iload_n F dL_law_241 rfl 3 rfl ?_
                refine q_iconst (v := (1 : Int32)) F dL_law_242 (by decide) ?_
                refine q_iadd F dL_law_243 ?_
                refine q_sld F D dL_law_244 (fun v30 => ?_)
                refine q_aload_n F dL_law_245 rfl 0 rfl ?_
                refine q_iload_n F dL_law_246 rfl 3 rfl ?_
                refine q_iconst (v := (2 : Int32)) F dL_law_247 (by decide) ?_
                refine q_iadd F dL_law_248 ?_
                refine q_sld F D dL_law_249 (fun v31 => ?_)
                refine q_callCi (As := [.int v30, .int v31]) F D hX ⟨rfl, rfl⟩ (mX6_takes l G v30 v31) kX6_takes rfl gL_law_X6_takes ⟨rfl, rfl⟩ ⟨Nat.le_of_ble_eq_true rfl, Nat.le_of_ble_eq_true rfl⟩ rfl (Nat.le_of_ble_eq_true rfl) rfl dL_law_250 (fun w32 => ?_)
                refine q_aload_n F dL_law_253 rfl 2 rfl ?_
                refine q_aload_n F dL_law_254 rfl 0 rfl ?_
                refine q_iload_n F dL_law_255 rfl 3 rfl ?_
                refine q_iconst (v := (1 : Int32)) F dL_law_256 (by decide) ?_
                refine q_iadd F dL_law_257 ?_
                refine q_sld F D dL_law_258 (fun v33 => ?_)
                refine q_aload_n F dL_law_259 rfl 0 rfl ?_
                refine q_iload_n F dL_law_260 rfl 3 rfl ?_
                refine q_iconst (v := (2 : Int32)) F dL_law_261 (by decide) ?_
                refine q_iadd F dL_law_262 ?_
                refine q_sld F D dL_law_263 (fun v34 => ?_)
                refine q_callMi (As := [.int v33, .int v34]) F D hX ⟨rfl, rfl⟩ (mX7_takes l G v33 v34) kX7_takes rfl gL_law_X7_takes ⟨rfl, rfl⟩ ⟨Nat.le_of_ble_eq_true rfl, Nat.le_of_ble_eq_true rfl⟩ rfl (Nat.le_of_ble_eq_true rfl) rfl dL_law_264 (fun w35 => ?_)
                refine q_icmp_eq (tgt := 660) F dL_law_267 (by decide) ?_ ?_
                · refine q_iinc (v := (x1 + (4 : Int32))) (lv' := [(3, .int (x1 + (4 : Int32))), (0, .ref b), (1, .ref (G.2.1 0)), (2, .ref (G.2.1 54))]) F dL_law_660 3 rfl rfl (by rw [← hml]; decide) rfl ?_
                  refine q_goto (tgt := 18) F dL_law_663 (by decide) ?_
                  exact q_sub [1, 2, 3, 0] rfl (ih5 (x1 + (4 : Int32)) ((w32.2, N2.2).1, w35.2))
                · refine q_iconst (v := (0 : Int32)) F dL_law_270 (by decide) ?_
                  exact q_no (by decide)
              · refine q_ite (fun h36 => ?_) (fun h36 => ?_)
                · refine q_tsw F dL_law_32 (by decide) 272 (by rw [h36]; decide) ?_
                  refine q_aload_n F dL_law_272 rfl 1 rfl ?_
                  refine q_aload_n F dL_law_273 rfl 0 rfl ?_
                  refine q_iload_n F dL_law_274 rfl 3 rfl ?_
                  refine q_iconst (v := (1 : Int32)) F dL_law_275 (by decide) ?_
                  refine q_iadd F dL_law_276 ?_
                  refine q_sld F D dL_law_277 (fun v37 => ?_)
                  refine q_callCi (As := [.int v37]) F D hX ⟨rfl, rfl⟩ (mX6_makes l G v37) kX6_makes rfl gL_law_X6_makes ⟨rfl, rfl⟩ ⟨Nat.le_of_ble_eq_true rfl, Nat.le_of_ble_eq_true rfl⟩ rfl (Nat.le_of_ble_eq_true rfl) rfl dL_law_278 (fun w38 => ?_)
                  refine q_aload_n F dL_law_281 rfl 2 rfl ?_
                  refine q_aload_n F dL_law_282 rfl 0 rfl ?_
                  refine q_iload_n F dL_law_283 rfl 3 rfl ?_
                  refine q_iconst (v := (1 : Int32)) F dL_law_284 (by decide) ?_
                  refine q_iadd F dL_law_285 ?_
                  refine q_sld F D dL_law_286 (fun v39 => ?_)
                  refine q_callMi (As := [.int v39]) F D hX ⟨rfl, rfl⟩ (mX7_makes l G v39) kX7_makes rfl gL_law_X7_makes ⟨rfl, rfl⟩ ⟨Nat.le_of_ble_eq_true rfl, Nat.le_of_ble_eq_true rfl⟩ rfl (Nat.le_of_ble_eq_true rfl) rfl dL_law_287 (fun w40 => ?_)
                  refine q_icmp_eq (tgt := 660) F dL_law_290 (by decide) ?_ ?_
                  · refine q_iinc (v := (x1 + (4 : Int32))) (lv' := [(3, .int (x1 + (4 : Int32))), (0, .ref b), (1, .ref (G.2.1 0)), (2, .ref (G.2.1 54))]) F dL_law_660 3 rfl rfl (by rw [← hml]; decide) rfl ?_
                    refine q_goto (tgt := 18) F dL_law_663 (by decide) ?_
                    exact q_sub [1, 2, 3, 0] rfl (ih5 (x1 + (4 : Int32)) ((w38.2, N2.2).1, w40.2))
                  · refine q_iconst (v := (0 : Int32)) F dL_law_293 (by decide) ?_
                    exact q_no (by decide)
                · refine q_ite (fun h41 => ?_) (fun h41 => ?_)
                  · refine q_tsw F dL_law_32 (by decide) 295 (by rw [h41]; decide) ?_
                    refine q_aload_n F dL_law_295 rfl 1 rfl ?_
                    refine q_aload_n F dL_law_296 rfl 0 rfl ?_
                    refine q_iload_n F dL_law_297 rfl 3 rfl ?_
                    refine q_iconst (v := (1 : Int32)) F dL_law_298 (by decide) ?_
                    refine q_iadd F dL_law_299 ?_
                    refine q_sld F D dL_law_300 (fun v42 => ?_)
                    refine q_callCi (As := [.int v42]) F D hX ⟨rfl, rfl⟩ (mX6_unmakes l G v42) kX6_unmakes rfl gL_law_X6_unmakes ⟨rfl, rfl⟩ ⟨Nat.le_of_ble_eq_true rfl, Nat.le_of_ble_eq_true rfl⟩ rfl (Nat.le_of_ble_eq_true rfl) rfl dL_law_301 (fun w43 => ?_)
                    refine q_aload_n F dL_law_304 rfl 2 rfl ?_
                    refine q_aload_n F dL_law_305 rfl 0 rfl ?_
                    refine q_iload_n F dL_law_306 rfl 3 rfl ?_
                    refine q_iconst (v := (1 : Int32)) F dL_law_307 (by decide) ?_
                    refine q_iadd F dL_law_308 ?_
                    refine q_sld F D dL_law_309 (fun v44 => ?_)
                    refine q_callMi (As := [.int v44]) F D hX ⟨rfl, rfl⟩ (mX7_unmakes l G v44) kX7_unmakes rfl gL_law_X7_unmakes ⟨rfl, rfl⟩ ⟨Nat.le_of_ble_eq_true rfl, Nat.le_of_ble_eq_true rfl⟩ rfl (Nat.le_of_ble_eq_true rfl) rfl dL_law_310 (fun w45 => ?_)
                    refine q_icmp_eq (tgt := 660) F dL_law_313 (by decide) ?_ ?_
                    · refine q_iinc (v := (x1 + (4 : Int32))) (lv' := [(3, .int (x1 + (4 : Int32))), (0, .ref b), (1, .ref (G.2.1 0)), (2, .ref (G.2.1 54))]) F dL_law_660 3 rfl rfl (by rw [← hml]; decide) rfl ?_
                      refine q_goto (tgt := 18) F dL_law_663 (by decide) ?_
                      exact q_sub [1, 2, 3, 0] rfl (ih5 (x1 + (4 : Int32)) ((w43.2, N2.2).1, w45.2))
                    · refine q_iconst (v := (0 : Int32)) F dL_law_316 (by decide) ?_
                      exact q_no (by decide)
                  · refine q_ite (fun h46 => ?_) (fun h46 => ?_)
                    · refine q_tsw F dL_law_32 (by decide) 318 (by rw [h46]; decide) ?_
                      refine q_aload_n F dL_law_318 rfl 1 rfl ?_
                      refine q_callCi (As := []) F D hX ⟨rfl, rfl⟩ (mX6_again l G) kX6_again rfl gL_law_X6_again ⟨rfl, rfl⟩ ⟨Nat.le_of_ble_eq_true rfl, Nat.le_of_ble_eq_true rfl⟩ rfl (Nat.le_of_ble_eq_true rfl) rfl dL_law_319 (fun w47 => ?_)
                      refine q_aload_n F dL_law_322 rfl 2 rfl ?_
                      refine q_callMi (As := []) F D hX ⟨rfl, rfl⟩ (mX7_again l G) kX7_again rfl gL_law_X7_again ⟨rfl, rfl⟩ ⟨Nat.le_of_ble_eq_true rfl, Nat.le_of_ble_eq_true rfl⟩ rfl (Nat.le_of_ble_eq_true rfl) rfl dL_law_323 (fun w48 => ?_)
                      refine q_icmp_eq (tgt := 660) F dL_law_326 (by decide) ?_ ?_
                      · refine q_iinc (v := (x1 + (4 : Int32))) (lv' := [(3, .int (x1 + (4 : Int32))), (0, .ref b), (1, .ref (G.2.1 0)), (2, .ref (G.2.1 54))]) F dL_law_660 3 rfl rfl (by rw [← hml]; decide) rfl ?_
                        refine q_goto (tgt := 18) F dL_law_663 (by decide) ?_
                        exact q_sub [1, 2, 3, 0] rfl (ih5 (x1 + (4 : Int32)) ((w47.2, N2.2).1, w48.2))
                      · refine q_iconst (v := (0 : Int32)) F dL_law_329 (by decide) ?_
                        exact q_no (by decide)
                    · refine q_ite (fun h49 => ?_) (fun h49 => ?_)
                      · refine q_tsw F dL_law_32 (by decide) 331 (by rw [h49]; decide) ?_
                        refine q_aload_n F dL_law_331 rfl 1 rfl ?_
                        refine q_aload_n F dL_law_332 rfl 0 rfl ?_
                        refine q_iload_n F dL_law_333 rfl 3 rfl ?_
                        refine q_iconst (v := (1 : Int32)) F dL_law_334 (by decide) ?_
                        refine q_iadd F dL_law_335 ?_
                        refine q_sld F D dL_law_336 (fun v50 => ?_)
                        refine q_aload_n F dL_law_337 rfl 0 rfl ?_
                        refine q_iload_n F dL_law_338 rfl 3 rfl ?_
                        refine q_iconst (v := (2 : Int32)) F dL_law_339 (by decide) ?_
                        refine q_iadd F dL_law_340 ?_
                        refine q_sld F D dL_law_341 (fun v51 => ?_)
                        refine q_callCi (As := [.int v50, .int v51]) F D hX ⟨rfl, rfl⟩ (mX6_of l G v50 v51) kX6_of rfl gL_law_X6_of ⟨rfl, rfl⟩ ⟨Nat.le_of_ble_eq_true rfl, Nat.le_of_ble_eq_true rfl⟩ rfl (Nat.le_of_ble_eq_true rfl) rfl dL_law_342 (fun w52 => ?_)
                        refine q_aload_n F dL_law_345 rfl 2 rfl ?_
                        refine q_aload_n F dL_law_346 rfl 0 rfl ?_
                        refine q_iload_n F dL_law_347 rfl 3 rfl ?_
                        refine q_iconst (v := (1 : Int32)) F dL_law_348 (by decide) ?_
                        refine q_iadd F dL_law_349 ?_
                        refine q_sld F D dL_law_350 (fun v53 => ?_)
                        refine q_aload_n F dL_law_351 rfl 0 rfl ?_
                        refine q_iload_n F dL_law_352 rfl 3 rfl ?_
                        refine q_iconst (v := (2 : Int32)) F dL_law_353 (by decide) ?_
                        refine q_iadd F dL_law_354 ?_
                        refine q_sld F D dL_law_355 (fun v54 => ?_)
                        refine q_callMi (As := [.int v53, .int v54]) F D hX ⟨rfl, rfl⟩ (mX7_of l G v53 v54) kX7_of rfl gL_law_X7_of ⟨rfl, rfl⟩ ⟨Nat.le_of_ble_eq_true rfl, Nat.le_of_ble_eq_true rfl⟩ rfl (Nat.le_of_ble_eq_true rfl) rfl dL_law_356 (fun w55 => ?_)
                        refine q_icmp_eq (tgt := 660) F dL_law_359 (by decide) ?_ ?_
                        · refine q_iinc (v := (x1 + (4 : Int32))) (lv' := [(3, .int (x1 + (4 : Int32))), (0, .ref b), (1, .ref (G.2.1 0)), (2, .ref (G.2.1 54))]) F dL_law_660 3 rfl rfl (by rw [← hml]; decide) rfl ?_
                          refine q_goto (tgt := 18) F dL_law_663 (by decide) ?_
                          exact q_sub [1, 2, 3, 0] rfl (ih5 (x1 + (4 : Int32)) ((w52.2, N2.2).1, w55.2))
                        · refine q_iconst (v := (0 : Int32)) F dL_law_362 (by decide) ?_
                          exact q_no (by decide)
                      · refine q_ite (fun h56 => ?_) (fun h56 => ?_)
                        · refine q_tsw F dL_law_32 (by decide) 364 (by rw [h56]; decide) ?_
                          refine q_aload_n F dL_law_364 rfl 1 rfl ?_
                          refine q_aload_n F dL_law_365 rfl 0 rfl ?_
                          refine q_iload_n F dL_law_366 rfl 3 rfl ?_
                          refine q_iconst (v := (1 : Int32)) F dL_law_367 (by decide) ?_
                          refine q_iadd F dL_law_368 ?_
                          refine q_sld F D dL_law_369 (fun v57 => ?_)
                          refine q_aload_n F dL_law_370 rfl 0 rfl ?_
                          refine q_iload_n F dL_law_371 rfl 3 rfl ?_
                          refine q_iconst (v := (2 : Int32)) F dL_law_372 (by decide) ?_
                          refine q_iadd F dL_law_373 ?_
                          refine q_sld F D dL_law_374 (fun v58 => ?_)
                          refine q_callCi (As := [.int v57, .int v58]) F D hX ⟨rfl, rfl⟩ (mX6_joint l G v57 v58) kX6_joint rfl gL_law_X6_joint ⟨rfl, rfl⟩ ⟨Nat.le_of_ble_eq_true rfl, Nat.le_of_ble_eq_true rfl⟩ rfl (Nat.le_of_ble_eq_true rfl) rfl dL_law_375 (fun w59 => ?_)
                          refine q_aload_n F dL_law_378 rfl 2 rfl ?_
                          refine q_aload_n F dL_law_379 rfl 0 rfl ?_
                          refine q_iload_n F dL_law_380 rfl 3 rfl ?_
                          refine q_iconst (v := (1 : Int32)) F dL_law_381 (by decide) ?_
                          refine q_iadd F dL_law_382 ?_
                          refine q_sld F D dL_law_383 (fun v60 => ?_)
                          refine q_aload_n F dL_law_384 rfl 0 rfl ?_
                          refine q_iload_n F dL_law_385 rfl 3 rfl ?_
                          refine q_iconst (v := (2 : Int32)) F dL_law_386 (by decide) ?_
                          refine q_iadd F dL_law_387 ?_
                          refine q_sld F D dL_law_388 (fun v61 => ?_)
                          refine q_callMi (As := [.int v60, .int v61]) F D hX ⟨rfl, rfl⟩ (mX7_joint l G v60 v61) kX7_joint rfl gL_law_X7_joint ⟨rfl, rfl⟩ ⟨Nat.le_of_ble_eq_true rfl, Nat.le_of_ble_eq_true rfl⟩ rfl (Nat.le_of_ble_eq_true rfl) rfl dL_law_389 (fun w62 => ?_)
                          refine q_icmp_eq (tgt := 660) F dL_law_392 (by decide) ?_ ?_
                          · refine q_iinc (v := (x1 + (4 : Int32))) (lv' := [(3, .int (x1 + (4 : Int32))), (0, .ref b), (1, .ref (G.2.1 0)), (2, .ref (G.2.1 54))]) F dL_law_660 3 rfl rfl (by rw [← hml]; decide) rfl ?_
                            refine q_goto (tgt := 18) F dL_law_663 (by decide) ?_
                            exact q_sub [1, 2, 3, 0] rfl (ih5 (x1 + (4 : Int32)) ((w59.2, N2.2).1, w62.2))
                          · refine q_iconst (v := (0 : Int32)) F dL_law_395 (by decide) ?_
                            exact q_no (by decide)
                        · refine q_ite (fun h63 => ?_) (fun h63 => ?_)
                          · refine q_tsw F dL_law_32 (by decide) 397 (by rw [h63]; decide) ?_
                            refine q_aload_n F dL_law_397 rfl 1 rfl ?_
                            refine q_aload_n F dL_law_398 rfl 0 rfl ?_
                            refine q_iload_n F dL_law_399 rfl 3 rfl ?_
                            refine q_iconst (v := (1 : Int32)) F dL_law_400 (by decide) ?_
                            refine q_iadd F dL_law_401 ?_
                            refine q_sld F D dL_law_402 (fun v64 => ?_)
                            refine q_callCi (As := [.int v64]) F D hX ⟨rfl, rfl⟩ (mX6_box l G v64) kX6_box rfl gL_law_X6_box ⟨rfl, rfl⟩ ⟨Nat.le_of_ble_eq_true rfl, Nat.le_of_ble_eq_true rfl⟩ rfl (Nat.le_of_ble_eq_true rfl) rfl dL_law_403 (fun w65 => ?_)
                            refine q_aload_n F dL_law_406 rfl 2 rfl ?_
                            refine q_aload_n F dL_law_407 rfl 0 rfl ?_
                            refine q_iload_n F dL_law_408 rfl 3 rfl ?_
                            refine q_iconst (v := (1 : Int32)) F dL_law_409 (by decide) ?_
                            refine q_iadd F dL_law_410 ?_
                            refine q_sld F D dL_law_411 (fun v66 => ?_)
                            refine q_callMi (As := [.int v66]) F D hX ⟨rfl, rfl⟩ (mX7_box l G v66) kX7_box rfl gL_law_X7_box ⟨rfl, rfl⟩ ⟨Nat.le_of_ble_eq_true rfl, Nat.le_of_ble_eq_true rfl⟩ rfl (Nat.le_of_ble_eq_true rfl) rfl dL_law_412 (fun w67 => ?_)
                            refine q_icmp_eq (tgt := 660) F dL_law_415 (by decide) ?_ ?_
                            · refine q_iinc (v := (x1 + (4 : Int32))) (lv' := [(3, .int (x1 + (4 : Int32))), (0, .ref b), (1, .ref (G.2.1 0)), (2, .ref (G.2.1 54))]) F dL_law_660 3 rfl rfl (by rw [← hml]; decide) rfl ?_
                              refine q_goto (tgt := 18) F dL_law_663 (by decide) ?_
                              exact q_sub [1, 2, 3, 0] rfl (ih5 (x1 + (4 : Int32)) ((w65.2, N2.2).1, w67.2))
                            · refine q_iconst (v := (0 : Int32)) F dL_law_418 (by decide) ?_
                              exact q_no (by decide)
                          · refine q_ite (fun h68 => ?_) (fun h68 => ?_)
                            · refine q_tsw F dL_law_32 (by decide) 420 (by rw [h68]; decide) ?_
                              refine q_aload_n F dL_law_420 rfl 1 rfl ?_
                              refine q_aload_n F dL_law_421 rfl 0 rfl ?_
                              refine q_iload_n F dL_law_422 rfl 3 rfl ?_
                              refine q_iconst (v := (1 : Int32)) F dL_law_423 (by decide) ?_
                              refine q_iadd F dL_law_424 ?_
                              refine q_sld F D dL_law_425 (fun v69 => ?_)
                              refine q_callCi (As := [.int v69]) F D hX ⟨rfl, rfl⟩ (mX6_hits l G v69) kX6_hits rfl gL_law_X6_hits ⟨rfl, rfl⟩ ⟨Nat.le_of_ble_eq_true rfl, Nat.le_of_ble_eq_true rfl⟩ rfl (Nat.le_of_ble_eq_true rfl) rfl dL_law_426 (fun w70 => ?_)
                              refine q_aload_n F dL_law_429 rfl 2 rfl ?_
                              refine q_aload_n F dL_law_430 rfl 0 rfl ?_
                              refine q_iload_n F dL_law_431 rfl 3 rfl ?_
                              refine q_iconst (v := (1 : Int32)) F dL_law_432 (by decide) ?_
                              refine q_iadd F dL_law_433 ?_
                              refine q_sld F D dL_law_434 (fun v71 => ?_)
                              refine q_callMi (As := [.int v71]) F D hX ⟨rfl, rfl⟩ (mX7_hits l G v71) kX7_hits rfl gL_law_X7_hits ⟨rfl, rfl⟩ ⟨Nat.le_of_ble_eq_true rfl, Nat.le_of_ble_eq_true rfl⟩ rfl (Nat.le_of_ble_eq_true rfl) rfl dL_law_435 (fun w72 => ?_)
                              refine q_icmp_eq (tgt := 660) F dL_law_438 (by decide) ?_ ?_
                              · refine q_iinc (v := (x1 + (4 : Int32))) (lv' := [(3, .int (x1 + (4 : Int32))), (0, .ref b), (1, .ref (G.2.1 0)), (2, .ref (G.2.1 54))]) F dL_law_660 3 rfl rfl (by rw [← hml]; decide) rfl ?_
                                refine q_goto (tgt := 18) F dL_law_663 (by decide) ?_
                                exact q_sub [1, 2, 3, 0] rfl (ih5 (x1 + (4 : Int32)) ((w70.2, N2.2).1, w72.2))
                              · refine q_iconst (v := (0 : Int32)) F dL_law_441 (by decide) ?_
                                exact q_no (by decide)
                            · refine q_ite (fun h73 => ?_) (fun h73 => ?_)
                              · refine q_tsw F dL_law_32 (by decide) 443 (by rw [h73]; decide) ?_
                                refine q_aload_n F dL_law_443 rfl 1 rfl ?_
                                refine q_callCi (As := []) F D hX ⟨rfl, rfl⟩ (mX6_free l G) kX6_free rfl gL_law_X6_free ⟨rfl, rfl⟩ ⟨Nat.le_of_ble_eq_true rfl, Nat.le_of_ble_eq_true rfl⟩ rfl (Nat.le_of_ble_eq_true rfl) rfl dL_law_444 (fun w74 => ?_)
                                refine q_aload_n F dL_law_447 rfl 2 rfl ?_
                                refine q_callMi (As := []) F D hX ⟨rfl, rfl⟩ (mX7_free l G) kX7_free rfl gL_law_X7_free ⟨rfl, rfl⟩ ⟨Nat.le_of_ble_eq_true rfl, Nat.le_of_ble_eq_true rfl⟩ rfl (Nat.le_of_ble_eq_true rfl) rfl dL_law_448 (fun w75 => ?_)
                                refine q_icmp_eq (tgt := 660) F dL_law_451 (by decide) ?_ ?_
                                · refine q_iinc (v := (x1 + (4 : Int32))) (lv' := [(3, .int (x1 + (4 : Int32))), (0, .ref b), (1, .ref (G.2.1 0)), (2, .ref (G.2.1 54))]) F dL_law_660 3 rfl rfl (by rw [← hml]; decide) rfl ?_
                                  refine q_goto (tgt := 18) F dL_law_663 (by decide) ?_
                                  exact q_sub [1, 2, 3, 0] rfl (ih5 (x1 + (4 : Int32)) ((w74.2, N2.2).1, w75.2))
                                · refine q_iconst (v := (0 : Int32)) F dL_law_454 (by decide) ?_
                                  exact q_no (by decide)
                              · refine q_ite (fun h76 => ?_) (fun h76 => ?_)
                                · refine q_tsw F dL_law_32 (by decide) 456 (by rw [h76]; decide) ?_
                                  refine q_aload_n F dL_law_456 rfl 1 rfl ?_
                                  refine q_callCi (As := []) F D hX ⟨rfl, rfl⟩ (mX6_orders l G) kX6_orders rfl gL_law_X6_orders ⟨rfl, rfl⟩ ⟨Nat.le_of_ble_eq_true rfl, Nat.le_of_ble_eq_true rfl⟩ rfl (Nat.le_of_ble_eq_true rfl) rfl dL_law_457 (fun w77 => ?_)
                                  refine q_aload_n F dL_law_460 rfl 2 rfl ?_
                                  refine q_callMi (As := []) F D hX ⟨rfl, rfl⟩ (mX7_orders l G) kX7_orders rfl gL_law_X7_orders ⟨rfl, rfl⟩ ⟨Nat.le_of_ble_eq_true rfl, Nat.le_of_ble_eq_true rfl⟩ rfl (Nat.le_of_ble_eq_true rfl) rfl dL_law_461 (fun w78 => ?_)
                                  refine q_icmp_eq (tgt := 660) F dL_law_464 (by decide) ?_ ?_
                                  · refine q_iinc (v := (x1 + (4 : Int32))) (lv' := [(3, .int (x1 + (4 : Int32))), (0, .ref b), (1, .ref (G.2.1 0)), (2, .ref (G.2.1 54))]) F dL_law_660 3 rfl rfl (by rw [← hml]; decide) rfl ?_
                                    refine q_goto (tgt := 18) F dL_law_663 (by decide) ?_
                                    exact q_sub [1, 2, 3, 0] rfl (ih5 (x1 + (4 : Int32)) ((w77.2, N2.2).1, w78.2))
                                  · refine q_iconst (v := (0 : Int32)) F dL_law_467 (by decide) ?_
                                    exact q_no (by decide)
                                · refine q_ite (fun h79 => ?_) (fun h79 => ?_)
                                  · refine q_tsw F dL_law_32 (by decide) 469 (by rw [h79]; decide) ?_
                                    refine q_aload_n F dL_law_469 rfl 1 rfl ?_
                                    refine q_aload_n F dL_law_470 rfl 0 rfl ?_
                                    refine q_iload_n F dL_law_471 rfl 3 rfl ?_
                                    refine q_iconst (v := (1 : Int32)) F dL_law_472 (by decide) ?_
                                    refine q_iadd F dL_law_473 ?_
                                    refine q_sld F D dL_law_474 (fun v80 => ?_)
                                    refine q_aload_n F dL_law_475 rfl 0 rfl ?_
                                    refine q_iload_n F dL_law_476 rfl 3 rfl ?_
                                    refine q_iconst (v := (2 : Int32)) F dL_law_477 (by decide) ?_
                                    refine q_iadd F dL_law_478 ?_
                                    refine q_sld F D dL_law_479 (fun v81 => ?_)
                                    refine q_callCi (As := [.int v80, .int v81]) F D hX ⟨rfl, rfl⟩ (mX6_order l G v80 v81) kX6_order rfl gL_law_X6_order ⟨rfl, rfl⟩ ⟨Nat.le_of_ble_eq_true rfl, Nat.le_of_ble_eq_true rfl⟩ rfl (Nat.le_of_ble_eq_true rfl) rfl dL_law_480 (fun w82 => ?_)
                                    refine q_aload_n F dL_law_483 rfl 2 rfl ?_
                                    refine q_aload_n F dL_law_484 rfl 0 rfl ?_
                                    refine q_iload_n F dL_law_485 rfl 3 rfl ?_
                                    refine q_iconst (v := (1 : Int32)) F dL_law_486 (by decide) ?_
                                    refine q_iadd F dL_law_487 ?_
                                    refine q_sld F D dL_law_488 (fun v83 => ?_)
                                    refine q_aload_n F dL_law_489 rfl 0 rfl ?_
                                    refine q_iload_n F dL_law_490 rfl 3 rfl ?_
                                    refine q_iconst (v := (2 : Int32)) F dL_law_491 (by decide) ?_
                                    refine q_iadd F dL_law_492 ?_
                                    refine q_sld F D dL_law_493 (fun v84 => ?_)
                                    refine q_callMi (As := [.int v83, .int v84]) F D hX ⟨rfl, rfl⟩ (mX7_order l G v83 v84) kX7_order rfl gL_law_X7_order ⟨rfl, rfl⟩ ⟨Nat.le_of_ble_eq_true rfl, Nat.le_of_ble_eq_true rfl⟩ rfl (Nat.le_of_ble_eq_true rfl) rfl dL_law_494 (fun w85 => ?_)
                                    refine q_icmp_eq (tgt := 660) F dL_law_497 (by decide) ?_ ?_
                                    · refine q_iinc (v := (x1 + (4 : Int32))) (lv' := [(3, .int (x1 + (4 : Int32))), (0, .ref b), (1, .ref (G.2.1 0)), (2, .ref (G.2.1 54))]) F dL_law_660 3 rfl rfl (by rw [← hml]; decide) rfl ?_
                                      refine q_goto (tgt := 18) F dL_law_663 (by decide) ?_
                                      exact q_sub [1, 2, 3, 0] rfl (ih5 (x1 + (4 : Int32)) ((w82.2, N2.2).1, w85.2))
                                    · refine q_iconst (v := (0 : Int32)) F dL_law_500 (by decide) ?_
                                      exact q_no (by decide)
                                  · refine q_ite (fun h86 => ?_) (fun h86 => ?_)
                                    · refine q_tsw F dL_law_32 (by decide) 502 (by rw [h86]; decide) ?_
                                      refine q_aload_n F dL_law_502 rfl 1 rfl ?_
                                      refine q_aload_n F dL_law_503 rfl 0 rfl ?_
                                      refine q_iload_n F dL_law_504 rfl 3 rfl ?_
                                      refine q_iconst (v := (1 : Int32)) F dL_law_505 (by decide) ?_
                                      refine q_iadd F dL_law_506 ?_
                                      refine q_sld F D dL_law_507 (fun v87 => ?_)
                                      refine q_callCi (As := [.int v87]) F D hX ⟨rfl, rfl⟩ (mX6_changes l G v87) kX6_changes rfl gL_law_X6_changes ⟨rfl, rfl⟩ ⟨Nat.le_of_ble_eq_true rfl, Nat.le_of_ble_eq_true rfl⟩ rfl (Nat.le_of_ble_eq_true rfl) rfl dL_law_508 (fun w88 => ?_)
                                      refine q_aload_n F dL_law_511 rfl 2 rfl ?_
                                      refine q_aload_n F dL_law_512 rfl 0 rfl ?_
                                      refine q_iload_n F dL_law_513 rfl 3 rfl ?_
                                      refine q_iconst (v := (1 : Int32)) F dL_law_514 (by decide) ?_
                                      refine q_iadd F dL_law_515 ?_
                                      refine q_sld F D dL_law_516 (fun v89 => ?_)
                                      refine q_callMi (As := [.int v89]) F D hX ⟨rfl, rfl⟩ (mX7_changes l G v89) kX7_changes rfl gL_law_X7_changes ⟨rfl, rfl⟩ ⟨Nat.le_of_ble_eq_true rfl, Nat.le_of_ble_eq_true rfl⟩ rfl (Nat.le_of_ble_eq_true rfl) rfl dL_law_517 (fun w90 => ?_)
                                      refine q_icmp_eq (tgt := 660) F dL_law_520 (by decide) ?_ ?_
                                      · refine q_iinc (v := (x1 + (4 : Int32))) (lv' := [(3, .int (x1 + (4 : Int32))), (0, .ref b), (1, .ref (G.2.1 0)), (2, .ref (G.2.1 54))]) F dL_law_660 3 rfl rfl (by rw [← hml]; decide) rfl ?_
                                        refine q_goto (tgt := 18) F dL_law_663 (by decide) ?_
                                        exact q_sub [1, 2, 3, 0] rfl (ih5 (x1 + (4 : Int32)) ((w88.2, N2.2).1, w90.2))
                                      · refine q_iconst (v := (0 : Int32)) F dL_law_523 (by decide) ?_
                                        exact q_no (by decide)
                                    · refine q_ite (fun h91 => ?_) (fun h91 => ?_)
                                      · refine q_tsw F dL_law_32 (by decide) 525 (by rw [h91]; decide) ?_
                                        refine q_aload_n F dL_law_525 rfl 1 rfl ?_
                                        refine q_callCi (As := []) F D hX ⟨rfl, rfl⟩ (mX6_ways l G) kX6_ways rfl gL_law_X6_ways ⟨rfl, rfl⟩ ⟨Nat.le_of_ble_eq_true rfl, Nat.le_of_ble_eq_true rfl⟩ rfl (Nat.le_of_ble_eq_true rfl) rfl dL_law_526 (fun w92 => ?_)
                                        refine q_aload_n F dL_law_529 rfl 2 rfl ?_
                                        refine q_callMi (As := []) F D hX ⟨rfl, rfl⟩ (mX7_ways l G) kX7_ways rfl gL_law_X7_ways ⟨rfl, rfl⟩ ⟨Nat.le_of_ble_eq_true rfl, Nat.le_of_ble_eq_true rfl⟩ rfl (Nat.le_of_ble_eq_true rfl) rfl dL_law_530 (fun w93 => ?_)
                                        refine q_icmp_eq (tgt := 660) F dL_law_533 (by decide) ?_ ?_
                                        · refine q_iinc (v := (x1 + (4 : Int32))) (lv' := [(3, .int (x1 + (4 : Int32))), (0, .ref b), (1, .ref (G.2.1 0)), (2, .ref (G.2.1 54))]) F dL_law_660 3 rfl rfl (by rw [← hml]; decide) rfl ?_
                                          refine q_goto (tgt := 18) F dL_law_663 (by decide) ?_
                                          exact q_sub [1, 2, 3, 0] rfl (ih5 (x1 + (4 : Int32)) ((w92.2, N2.2).1, w93.2))
                                        · refine q_iconst (v := (0 : Int32)) F dL_law_536 (by decide) ?_
                                          exact q_no (by decide)
                                      · refine q_ite (fun h94 => ?_) (fun h94 => ?_)
                                        · refine q_tsw F dL_law_32 (by decide) 538 (by rw [h94]; decide) ?_
                                          refine q_aload_n F dL_law_538 rfl 1 rfl ?_
                                          refine q_aload_n F dL_law_539 rfl 0 rfl ?_
                                          refine q_iload_n F dL_law_540 rfl 3 rfl ?_
                                          refine q_iconst (v := (1 : Int32)) F dL_law_541 (by decide) ?_
                                          refine q_iadd F dL_law_542 ?_
                                          refine q_sld F D dL_law_543 (fun v95 => ?_)
                                          refine q_callCi (As := [.int v95]) F D hX ⟨rfl, rfl⟩ (mX6_count l G v95) kX6_count rfl gL_law_X6_count ⟨rfl, rfl⟩ ⟨Nat.le_of_ble_eq_true rfl, Nat.le_of_ble_eq_true rfl⟩ rfl (Nat.le_of_ble_eq_true rfl) rfl dL_law_544 (fun w96 => ?_)
                                          refine q_aload_n F dL_law_547 rfl 2 rfl ?_
                                          refine q_aload_n F dL_law_548 rfl 0 rfl ?_
                                          refine q_iload_n F dL_law_549 rfl 3 rfl ?_
                                          refine q_iconst (v := (1 : Int32)) F dL_law_550 (by decide) ?_
                                          refine q_iadd F dL_law_551 ?_
                                          refine q_sld F D dL_law_552 (fun v97 => ?_)
                                          refine q_callMi (As := [.int v97]) F D hX ⟨rfl, rfl⟩ (mX7_count l G v97) kX7_count rfl gL_law_X7_count ⟨rfl, rfl⟩ ⟨Nat.le_of_ble_eq_true rfl, Nat.le_of_ble_eq_true rfl⟩ rfl (Nat.le_of_ble_eq_true rfl) rfl dL_law_553 (fun w98 => ?_)
                                          refine q_icmp_eq (tgt := 660) F dL_law_556 (by decide) ?_ ?_
                                          · refine q_iinc (v := (x1 + (4 : Int32))) (lv' := [(3, .int (x1 + (4 : Int32))), (0, .ref b), (1, .ref (G.2.1 0)), (2, .ref (G.2.1 54))]) F dL_law_660 3 rfl rfl (by rw [← hml]; decide) rfl ?_
                                            refine q_goto (tgt := 18) F dL_law_663 (by decide) ?_
                                            exact q_sub [1, 2, 3, 0] rfl (ih5 (x1 + (4 : Int32)) ((w96.2, N2.2).1, w98.2))
                                          · refine q_iconst (v := (0 : Int32)) F dL_law_559 (by decide) ?_
                                            exact q_no (by decide)
                                        · refine q_ite (fun h99 => ?_) (fun h99 => ?_)
                                          · refine q_tsw F dL_law_32 (by decide) 561 (by rw [h99]; decide) ?_
                                            refine q_aload_n F dL_law_561 rfl 1 rfl ?_
                                            refine q_aload_n F dL_law_562 rfl 0 rfl ?_
                                            refine q_iload_n F dL_law_563 rfl 3 rfl ?_
                                            refine q_iconst (v := (1 : Int32)) F dL_law_564 (by decide) ?_
                                            refine q_iadd F dL_law_565 ?_
                                            refine q_sld F D dL_law_566 (fun v100 => ?_)
                                            refine q_callCi (As := [.int v100]) F D hX ⟨rfl, rfl⟩ (mX6_type l G v100) kX6_type rfl gL_law_X6_type ⟨rfl, rfl⟩ ⟨Nat.le_of_ble_eq_true rfl, Nat.le_of_ble_eq_true rfl⟩ rfl (Nat.le_of_ble_eq_true rfl) rfl dL_law_567 (fun w101 => ?_)
                                            refine q_aload_n F dL_law_570 rfl 2 rfl ?_
                                            refine q_aload_n F dL_law_571 rfl 0 rfl ?_
                                            refine q_iload_n F dL_law_572 rfl 3 rfl ?_
                                            refine q_iconst (v := (1 : Int32)) F dL_law_573 (by decide) ?_
                                            refine q_iadd F dL_law_574 ?_
                                            refine q_sld F D dL_law_575 (fun v102 => ?_)
                                            refine q_callMi (As := [.int v102]) F D hX ⟨rfl, rfl⟩ (mX7_type l G v102) kX7_type rfl gL_law_X7_type ⟨rfl, rfl⟩ ⟨Nat.le_of_ble_eq_true rfl, Nat.le_of_ble_eq_true rfl⟩ rfl (Nat.le_of_ble_eq_true rfl) rfl dL_law_576 (fun w103 => ?_)
                                            refine q_icmp_eq (tgt := 660) F dL_law_579 (by decide) ?_ ?_
                                            · refine q_iinc (v := (x1 + (4 : Int32))) (lv' := [(3, .int (x1 + (4 : Int32))), (0, .ref b), (1, .ref (G.2.1 0)), (2, .ref (G.2.1 54))]) F dL_law_660 3 rfl rfl (by rw [← hml]; decide) rfl ?_
                                              refine q_goto (tgt := 18) F dL_law_663 (by decide) ?_
                                              exact q_sub [1, 2, 3, 0] rfl (ih5 (x1 + (4 : Int32)) ((w101.2, N2.2).1, w103.2))
                                            · refine q_iconst (v := (0 : Int32)) F dL_law_582 (by decide) ?_
                                              exact q_no (by decide)
                                          · refine q_ite (fun h104 => ?_) (fun h104 => ?_)
                                            · refine q_tsw F dL_law_32 (by decide) 584 (by rw [h104]; decide) ?_
                                              refine q_aload_n F dL_law_584 rfl 1 rfl ?_
                                              refine q_callCi (As := []) F D hX ⟨rfl, rfl⟩ (mX6_clear l G) kX6_clear rfl gL_law_X6_clear ⟨rfl, rfl⟩ ⟨Nat.le_of_ble_eq_true rfl, Nat.le_of_ble_eq_true rfl⟩ rfl (Nat.le_of_ble_eq_true rfl) rfl dL_law_585 (fun w105 => ?_)
                                              refine q_aload_n F dL_law_588 rfl 2 rfl ?_
                                              refine q_callMi (As := []) F D hX ⟨rfl, rfl⟩ (mX7_clear l G) kX7_clear rfl gL_law_X7_clear ⟨rfl, rfl⟩ ⟨Nat.le_of_ble_eq_true rfl, Nat.le_of_ble_eq_true rfl⟩ rfl (Nat.le_of_ble_eq_true rfl) rfl dL_law_589 (fun w106 => ?_)
                                              refine q_icmp_eq (tgt := 660) F dL_law_592 (by decide) ?_ ?_
                                              · refine q_iinc (v := (x1 + (4 : Int32))) (lv' := [(3, .int (x1 + (4 : Int32))), (0, .ref b), (1, .ref (G.2.1 0)), (2, .ref (G.2.1 54))]) F dL_law_660 3 rfl rfl (by rw [← hml]; decide) rfl ?_
                                                refine q_goto (tgt := 18) F dL_law_663 (by decide) ?_
                                                exact q_sub [1, 2, 3, 0] rfl (ih5 (x1 + (4 : Int32)) ((w105.2, N2.2).1, w106.2))
                                              · refine q_iconst (v := (0 : Int32)) F dL_law_595 (by decide) ?_
                                                exact q_no (by decide)
                                            · refine q_ite (fun h107 => ?_) (fun h107 => ?_)
                                              · refine q_tsw F dL_law_32 (by decide) 597 (by rw [h107]; decide) ?_
                                                refine q_aload_n F dL_law_597 rfl 1 rfl ?_
                                                refine q_callCi (As := []) F D hX ⟨rfl, rfl⟩ (mX6_does l G) kX6_does rfl gL_law_X6_does ⟨rfl, rfl⟩ ⟨Nat.le_of_ble_eq_true rfl, Nat.le_of_ble_eq_true rfl⟩ rfl (Nat.le_of_ble_eq_true rfl) rfl dL_law_598 (fun w108 => ?_)
                                                refine q_aload_n F dL_law_601 rfl 2 rfl ?_
                                                refine q_callMi (As := []) F D hX ⟨rfl, rfl⟩ (mX7_does l G) kX7_does rfl gL_law_X7_does ⟨rfl, rfl⟩ ⟨Nat.le_of_ble_eq_true rfl, Nat.le_of_ble_eq_true rfl⟩ rfl (Nat.le_of_ble_eq_true rfl) rfl dL_law_602 (fun w109 => ?_)
                                                refine q_icmp_eq (tgt := 660) F dL_law_605 (by decide) ?_ ?_
                                                · refine q_iinc (v := (x1 + (4 : Int32))) (lv' := [(3, .int (x1 + (4 : Int32))), (0, .ref b), (1, .ref (G.2.1 0)), (2, .ref (G.2.1 54))]) F dL_law_660 3 rfl rfl (by rw [← hml]; decide) rfl ?_
                                                  refine q_goto (tgt := 18) F dL_law_663 (by decide) ?_
                                                  exact q_sub [1, 2, 3, 0] rfl (ih5 (x1 + (4 : Int32)) ((w108.2, N2.2).1, w109.2))
                                                · refine q_iconst (v := (0 : Int32)) F dL_law_608 (by decide) ?_
                                                  exact q_no (by decide)
                                              · refine q_ite (fun h110 => ?_) (fun h110 => ?_)
                                                · refine q_tsw F dL_law_32 (by decide) 610 (by rw [h110]; decide) ?_
                                                  refine q_aload_n F dL_law_610 rfl 1 rfl ?_
                                                  refine q_callCi (As := []) F D hX ⟨rfl, rfl⟩ (mX6_back l G) kX6_back rfl gL_law_X6_back ⟨rfl, rfl⟩ ⟨Nat.le_of_ble_eq_true rfl, Nat.le_of_ble_eq_true rfl⟩ rfl (Nat.le_of_ble_eq_true rfl) rfl dL_law_611 (fun w111 => ?_)
                                                  refine q_aload_n F dL_law_614 rfl 2 rfl ?_
                                                  refine q_callMi (As := []) F D hX ⟨rfl, rfl⟩ (mX7_back l G) kX7_back rfl gL_law_X7_back ⟨rfl, rfl⟩ ⟨Nat.le_of_ble_eq_true rfl, Nat.le_of_ble_eq_true rfl⟩ rfl (Nat.le_of_ble_eq_true rfl) rfl dL_law_615 (fun w112 => ?_)
                                                  refine q_icmp_eq (tgt := 660) F dL_law_618 (by decide) ?_ ?_
                                                  · refine q_iinc (v := (x1 + (4 : Int32))) (lv' := [(3, .int (x1 + (4 : Int32))), (0, .ref b), (1, .ref (G.2.1 0)), (2, .ref (G.2.1 54))]) F dL_law_660 3 rfl rfl (by rw [← hml]; decide) rfl ?_
                                                    refine q_goto (tgt := 18) F dL_law_663 (by decide) ?_
                                                    exact q_sub [1, 2, 3, 0] rfl (ih5 (x1 + (4 : Int32)) ((w111.2, N2.2).1, w112.2))
                                                  · refine q_iconst (v := (0 : Int32)) F dL_law_621 (by decide) ?_
                                                    exact q_no (by decide)
                                                · refine q_ite (fun h113 => ?_) (fun h113 => ?_)
                                                  · refine q_tsw F dL_law_32 (by decide) 623 (by rw [h113]; decide) ?_
                                                    refine q_aload_n F dL_law_623 rfl 1 rfl ?_
                                                    refine q_aload_n F dL_law_624 rfl 0 rfl ?_
                                                    refine q_iload_n F dL_law_625 rfl 3 rfl ?_
                                                    refine q_iconst (v := (1 : Int32)) F dL_law_626 (by decide) ?_
                                                    refine q_iadd F dL_law_627 ?_
                                                    refine q_sld F D dL_law_628 (fun v114 => ?_)
                                                    refine q_callCi (As := [.int v114]) F D hX ⟨rfl, rfl⟩ (mX6_told l G v114) kX6_told rfl gL_law_X6_told ⟨rfl, rfl⟩ ⟨Nat.le_of_ble_eq_true rfl, Nat.le_of_ble_eq_true rfl⟩ rfl (Nat.le_of_ble_eq_true rfl) rfl dL_law_629 (fun w115 => ?_)
                                                    refine q_aload_n F dL_law_632 rfl 2 rfl ?_
                                                    refine q_aload_n F dL_law_633 rfl 0 rfl ?_
                                                    refine q_iload_n F dL_law_634 rfl 3 rfl ?_
                                                    refine q_iconst (v := (1 : Int32)) F dL_law_635 (by decide) ?_
                                                    refine q_iadd F dL_law_636 ?_
                                                    refine q_sld F D dL_law_637 (fun v116 => ?_)
                                                    refine q_callMi (As := [.int v116]) F D hX ⟨rfl, rfl⟩ (mX7_told l G v116) kX7_told rfl gL_law_X7_told ⟨rfl, rfl⟩ ⟨Nat.le_of_ble_eq_true rfl, Nat.le_of_ble_eq_true rfl⟩ rfl (Nat.le_of_ble_eq_true rfl) rfl dL_law_638 (fun w117 => ?_)
                                                    refine q_icmp_eq (tgt := 660) F dL_law_641 (by decide) ?_ ?_
                                                    · refine q_iinc (v := (x1 + (4 : Int32))) (lv' := [(3, .int (x1 + (4 : Int32))), (0, .ref b), (1, .ref (G.2.1 0)), (2, .ref (G.2.1 54))]) F dL_law_660 3 rfl rfl (by rw [← hml]; decide) rfl ?_
                                                      refine q_goto (tgt := 18) F dL_law_663 (by decide) ?_
                                                      exact q_sub [1, 2, 3, 0] rfl (ih5 (x1 + (4 : Int32)) ((w115.2, N2.2).1, w117.2))
                                                    · refine q_iconst (v := (0 : Int32)) F dL_law_644 (by decide) ?_
                                                      exact q_no (by decide)
                                                  · refine q_ite (fun h118 => ?_) (fun h118 => ?_)
                                                    · refine q_tsw F dL_law_32 (by decide) 646 (by rw [h118]; decide) ?_
                                                      refine q_aload_n F dL_law_646 rfl 1 rfl ?_
                                                      refine q_callCl (As := []) F D hX ⟨rfl, rfl⟩ (mX6_digest l G) kX6_digest rfl gL_law_X6_digest ⟨rfl, rfl⟩ ⟨Nat.le_of_ble_eq_true rfl, Nat.le_of_ble_eq_true rfl⟩ rfl (Nat.le_of_ble_eq_true rfl) rfl dL_law_647 (fun w119 => ?_)
                                                      refine q_aload_n F dL_law_650 rfl 2 rfl ?_
                                                      refine q_callMl (As := []) F D hX ⟨rfl, rfl⟩ (mX7_digest l G) kX7_digest rfl gL_law_X7_digest ⟨rfl, rfl⟩ ⟨Nat.le_of_ble_eq_true rfl, Nat.le_of_ble_eq_true rfl⟩ rfl (Nat.le_of_ble_eq_true rfl) rfl dL_law_651 (fun w120 => ?_)
                                                      refine q_lcmp F dL_law_654 ?_
                                                      refine q_if_eq (tgt := 660) F dL_law_655 (by decide) ?_ ?_
                                                      · refine q_iinc (v := (x1 + (4 : Int32))) (lv' := [(3, .int (x1 + (4 : Int32))), (0, .ref b), (1, .ref (G.2.1 0)), (2, .ref (G.2.1 54))]) F dL_law_660 3 rfl rfl (by rw [← hml]; decide) rfl ?_
                                                        refine q_goto (tgt := 18) F dL_law_663 (by decide) ?_
                                                        exact q_sub [1, 2, 3, 0] rfl (ih5 (x1 + (4 : Int32)) ((w119.2, N2.2).1, w120.2))
                                                      · refine q_iconst (v := (0 : Int32)) F dL_law_658 (by decide) ?_
                                                        exact q_no (by decide)
                                                    · refine q_tsw F dL_law_32 (by decide) 660 (tsw_d [0, 1, 2, 3, 4, 5, 6, 7, 8, 9, 10, 11, 12, 13, 14, 15, 16, 17, 18, 19, 20, 21, 22] (by decide) (by decide) (by simp only [List.mem_cons, List.not_mem_nil, or_false, not_or]; exact ⟨toInt_ne (by decide) h8, toInt_ne (by decide) h13, toInt_ne (by decide) h22, toInt_ne (by decide) h29, toInt_ne (by decide) h36, toInt_ne (by decide) h41, toInt_ne (by decide) h46, toInt_ne (by decide) h49, toInt_ne (by decide) h56, toInt_ne (by decide) h63, toInt_ne (by decide) h68, toInt_ne (by decide) h73, toInt_ne (by decide) h76, toInt_ne (by decide) h79, toInt_ne (by decide) h86, toInt_ne (by decide) h91, toInt_ne (by decide) h94, toInt_ne (by decide) h99, toInt_ne (by decide) h104, toInt_ne (by decide) h107, toInt_ne (by decide) h110, toInt_ne (by decide) h113, toInt_ne (by decide) h118⟩)) ?_
                                                      refine q_iinc (v := (x1 + (4 : Int32))) (lv' := [(3, .int (x1 + (4 : Int32))), (0, .ref b), (1, .ref (G.2.1 0)), (2, .ref (G.2.1 54))]) F dL_law_660 3 rfl rfl (by rw [← hml]; decide) rfl ?_
                                                      refine q_goto (tgt := 18) F dL_law_663 (by decide) ?_
                                                      exact q_sub [1, 2, 3, 0] rfl (ih5 (x1 + (4 : Int32)) N2)
  refine q_sub [0, 1, 2, 3] rfl (hL121 _  ?_ fu (0 : Int32) P)
  intro N4
  refine q_iconst (v := (1 : Int32)) F dL_law_666 (by decide) ?_
  exact q_lawret F D E dL_law_667
