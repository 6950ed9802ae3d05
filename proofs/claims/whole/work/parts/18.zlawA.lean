/-! The law's own walk: two worlds side by side, the claim's cells and slots from the start on -/
def WL (X : Cx) (H : Heap) (locs : List Loc) (Q : State → Prop) (g : JFrame) : Prop :=
  W X.1 X.2.1 X.2.2.1 X.2.2.2.1 X.2.2.2.2.1 X.2.2.2.2.2.1 X.2.2.2.2.2.2.1 X.2.2.2.2.2.2.2.1 X.2.2.2.2.2.2.2.2.1 X.2.2.2.2.2.2.2.2.2 H locs 600000 7302250 Q g
def JL {ρ μ : Type} (X : Cx) (V : Vx μ) (z : ρ) (o : Option ρ) (M : μ) (pc : Nat) (lv : List (Nat × Value)) (st : List Value) : Prop :=
  o = some z → ∀ (H : Heap) (locs : List Loc) (ls : Array Slot), va_P V.2.1 vwCl (V.1 M) H → va_S V.2.2.2.1 (xS X).heap H locs → lv_has ls V.2.2.1 lv → WL X H locs V.2.2.2.2 (F0 (xM X) pc ls st)
section RowsL
variable {ρ μ : Type} {X : Cx} {V : Vx μ} {z : ρ} {o : Option ρ} {M : μ} {pc : Nat} {lv : List (Nat × Value)} {st : List Value} {cc : ByteArray} {Ts : List Cond} {own : String} {rt : Option FieldType} {rm : Room}
theorem q_none : JL X V z (none : Option ρ) M pc lv st := fun h => by cases h
theorem q_sub (ks : List Nat) {lv' : List (Nat × Value)} (h : lv_pick lv ks = lv') (k : JL X V z o M pc lv' st) : JL X V z o M pc lv st :=
  fun ho H locs ls hP hS hl => k ho H locs ls hP hS (lv_sub hl ks h)
theorem q_let {α : Type} {a : α} {k : α → Option ρ} {f : α → Value} (h : ∀ x : α, JL X V z (k x) M pc lv (f x :: st)) : JL X V z (lt a k) M pc lv (f a :: st) := h a
theorem q_ite {c : Prop} {dc : Decidable c} {o1 o2 : Option ρ} (h1 : c → JL X V z o1 M pc lv st) (h2 : ¬ c → JL X V z o2 M pc lv st) : JL X V z (@ite _ c dc o1 o2) M pc lv st := by
  by_cases h : c
  · rw [if_pos h]; exact h1 h
  · rw [if_neg h]; exact h2 h
theorem q_iconst (F : Ok X V cc Ts own rt rm) {n : Int} {v : Int32} (hdg : decode cc pc = .ok (.iconst n, 1)) (hv : Int32.ofInt n = v) (k : JL X V z o M (pc + 1) lv (.int v :: st)) : JL X V z o M pc lv (st) :=
  fun ho H locs ls hP hS hl => lv_iconst F.1.1 F.1.2.1 hdg hv (k ho H locs ls hP hS hl)
theorem q_bipush (F : Ok X V cc Ts own rt rm) {n : Int} {v : Int32} (hdg : decode cc pc = .ok (.bipush n, 2)) (hv : (Int8.ofInt n).toInt32 = v) (k : JL X V z o M (pc + 2) lv (.int v :: st)) : JL X V z o M pc lv (st) :=
  fun ho H locs ls hP hS hl => lv_bipush F.1.1 F.1.2.1 hdg hv (k ho H locs ls hP hS hl)
theorem q_iload_n (F : Ok X V cc Ts own rt rm) {k : Fin 4} {i : Nat} {x : Int32} (hdg : decode cc pc = .ok (.iload_n k, 1)) (hi : (k : Nat) = i) (n : Nat) (hn : lv[n]? = some (i, .int x)) (kk : JL X V z o M (pc + 1) lv (.int x :: st)) : JL X V z o M pc lv st :=
  fun ho H locs ls hP hS hl => lv_iload_n F.1.1 F.1.2.1 hdg hi (lv_at hl n hn) (kk ho H locs ls hP hS hl)
theorem q_aload_n (F : Ok X V cc Ts own rt rm) {k : Fin 4} {i : Nat} {x : Nat} (hdg : decode cc pc = .ok (.aload_n k, 1)) (hi : (k : Nat) = i) (n : Nat) (hn : lv[n]? = some (i, .ref x)) (kk : JL X V z o M (pc + 1) lv (.ref x :: st)) : JL X V z o M pc lv st :=
  fun ho H locs ls hP hS hl => lv_aload_n F.1.1 F.1.2.1 hdg hi (lv_at hl n hn) (kk ho H locs ls hP hS hl)
theorem q_istore_n (F : Ok X V cc Ts own rt rm) {k : Fin 4} {i : Nat} {x : Int32} {lv' : List (Nat × Value)} (hdg : decode cc pc = .ok (.istore_n k, 1)) (hi : (k : Nat) = i) (hn : i < V.2.2.1) (hl' : (i, Value.int x) :: lv.filter (fun q => !(q.1 == i) && !(q.1 + 1 == i && q.2.category == 2)) = lv') (kk : JL X V z o M (pc + 1) lv' st) : JL X V z o M pc lv (.int x :: st) :=
  fun ho H locs ls hP hS hl => lv_istore_n F.1.1 F.1.2.1 hdg hi hl hn hl' (fun ls hl => kk ho H locs ls hP hS hl)
theorem q_iinc (F : Ok X V cc Ts own rt rm) {i : Nat} {n : Int} {x v : Int32} {lv' : List (Nat × Value)} (hdg : decode cc pc = .ok (.iinc i n, 3)) (k : Nat) (hk : lv[k]? = some (i, .int x)) (hv : x + Int32.ofInt n = v) (hn : i < V.2.2.1) (hl' : (i, Value.int v) :: lv.filter (fun q => !(q.1 == i) && !(q.1 + 1 == i && q.2.category == 2)) = lv') (kk : JL X V z o M (pc + 3) lv' st) : JL X V z o M pc lv st :=
  fun ho H locs ls hP hS hl => lv_iinc F.1.1 F.1.2.1 hdg hl hk hv hn hl' (fun ls hl => kk ho H locs ls hP hS hl)
theorem q_iadd (F : Ok X V cc Ts own rt rm) {x y : Int32} (hdg : decode cc pc = .ok (.iadd, 1)) (k : JL X V z o M (pc + 1) lv (.int (x + y) :: st)) : JL X V z o M pc lv (.int y :: .int x :: st) :=
  fun ho H locs ls hP hS hl => lv_iadd F.1.1 F.1.2.1 hdg (k ho H locs ls hP hS hl)
theorem q_isub (F : Ok X V cc Ts own rt rm) {x y : Int32} (hdg : decode cc pc = .ok (.isub, 1)) (k : JL X V z o M (pc + 1) lv (.int (x - y) :: st)) : JL X V z o M pc lv (.int y :: .int x :: st) :=
  fun ho H locs ls hP hS hl => lv_isub F.1.1 F.1.2.1 hdg (k ho H locs ls hP hS hl)
theorem q_iand (F : Ok X V cc Ts own rt rm) {x y : Int32} (hdg : decode cc pc = .ok (.iand, 1)) (k : JL X V z o M (pc + 1) lv (.int (x &&& y) :: st)) : JL X V z o M pc lv (.int y :: .int x :: st) :=
  fun ho H locs ls hP hS hl => lv_iand F.1.1 F.1.2.1 hdg (k ho H locs ls hP hS hl)
theorem q_lcmp (F : Ok X V cc Ts own rt rm) {x y : Int64} (hdg : decode cc pc = .ok (.lcmp, 1)) (k : JL X V z o M (pc + 1) lv (.int (lg_cmp x y) :: st)) : JL X V z o M pc lv (.long y :: .long x :: st) :=
  fun ho H locs ls hP hS hl => W.lcmp F.1.1 F.1.2.1 hdg (k ho H locs ls hP hS hl)
theorem q_goto (F : Ok X V cc Ts own rt rm) {off : Int} {tgt : Nat} (hdg : decode cc pc = .ok (.goto off, 3)) (ht : (pc : Int) + off = (tgt : Int)) (k : JL X V z o M tgt lv st) : JL X V z o M pc lv st :=
  fun ho H locs ls hP hS hl => lv_goto F.1.1 F.1.2.1 hdg ht (k ho H locs ls hP hS hl)
theorem q_icmp_eq (F : Ok X V cc Ts own rt rm) {x y : Int32} {off : Int} {tgt : Nat} {o1 o2 : Option ρ} {dc : Decidable (x = y)} (hdg : decode cc pc = .ok (.if_icmp .eq off, 3)) (ht : (pc : Int) + off = (tgt : Int)) (kt : JL X V z o1 M tgt lv st) (kf : JL X V z o2 M (pc + 3) lv st) : JL X V z (@ite _ (x = y) dc o1 o2) M pc lv (.int y :: .int x :: st) :=
  fun ho H locs ls hP hS hl => lv_icmp_eq F.1.1 F.1.2.1 hdg ht (fun h => kt (((if_pos h).symm.trans ho)) H locs ls hP hS hl) (fun h => kf (((if_neg h).symm.trans ho)) H locs ls hP hS hl)
theorem q_if_eq (F : Ok X V cc Ts own rt rm) {x : Int32} {off : Int} {tgt : Nat} {o1 o2 : Option ρ} {dc : Decidable (x = 0)} (hdg : decode cc pc = .ok (.ifCond .eq off, 3)) (ht : (pc : Int) + off = (tgt : Int)) (kt : JL X V z o1 M tgt lv st) (kf : JL X V z o2 M (pc + 3) lv st) : JL X V z (@ite _ (x = 0) dc o1 o2) M pc lv (.int x :: st) :=
  fun ho H locs ls hP hS hl => lv_if_eq F.1.1 F.1.2.1 hdg ht (fun h => kt (((if_pos h).symm.trans ho)) H locs ls hP hS hl) (fun h => kf (((if_neg h).symm.trans ho)) H locs ls hP hS hl)
theorem q_icmp_gt (F : Ok X V cc Ts own rt rm) {x y : Int32} {off : Int} {tgt : Nat} {o1 o2 : Option ρ} {dc : Decidable (y < x)} (hdg : decode cc pc = .ok (.if_icmp .gt off, 3)) (ht : (pc : Int) + off = (tgt : Int)) (kt : JL X V z o1 M tgt lv st) (kf : JL X V z o2 M (pc + 3) lv st) : JL X V z (@ite _ (y < x) dc o1 o2) M pc lv (.int y :: .int x :: st) :=
  fun ho H locs ls hP hS hl => lv_icmp_gt F.1.1 F.1.2.1 hdg ht (fun h => kt (((if_pos h).symm.trans ho)) H locs ls hP hS hl) (fun h => kf (((if_neg h).symm.trans ho)) H locs ls hP hS hl)
end RowsL
theorem q_tsw {ρ μ : Type} {X : Cx} {V : Vx μ} {z : ρ} {o : Option ρ} {M : μ} {pc : Nat} {lv : List (Nat × Value)} {st : List Value} {cc : ByteArray} {Ts : List Cond} {own : String} {rt : Option FieldType} {rm : Room} (F : Ok X V cc Ts own rt rm) {dflt lo hi : Int} {offs : Array Int} {len : Nat} {x : Int32} (hdg : decode cc pc = .ok (.tableswitch dflt lo hi offs, len)) (hs : hi - lo + 1 ≤ offs.size) (tgt : Nat) (ht : tsw pc dflt lo hi offs x = tgt) (k : JL X V z o M tgt lv st) : JL X V z o M pc lv (.int x :: st) := by
  intro ho H locs ls hP hS hl
  unfold tsw at ht
  by_cases h : x.toInt < lo ∨ hi < x.toInt
  · rw [if_pos h] at ht
    exact lv_tableOut F.1.1 F.1.2.1 hdg h ht (k ho H locs ls hP hS hl)
  · rw [if_neg h] at ht
    have h1 : ¬ x.toInt < lo := fun q => h (Or.inl q)
    have h2 : ¬ hi < x.toInt := fun q => h (Or.inr q)
    have h3 : (x.toInt - lo).toNat < offs.size := by omega
    refine lv_tableIn F.1.1 F.1.2.1 hdg h1 h2 (off := offs.getD (x.toInt - lo).toNat 0) ?_ ht (k ho H locs ls hP hS hl)
    rw [Array.getD_eq_getD_getElem?, Array.getElem?_eq_getElem h3]
    rfl
theorem q_no {ρ μ : Type} {X : Cx} {V : Vx μ} {z r : ρ} {M : μ} {pc : Nat} {lv : List (Nat × Value)} {st : List Value} (h : r ≠ z) : JL X V z (some r) M pc lv st := fun ho => absurd (Option.some.inj ho) h
theorem P_l {D : va_G} {cl : List vw_C} {a b : va_W} {H : Heap} (h : va_P D cl (a ++ b) H) : va_P D cl a H := fun k q hk => h k q (by rw [List.getElem?_append_left (List.getElem?_eq_some_iff.mp hk).1]; exact hk)
theorem P_r {D : va_G} {cl : List vw_C} {a b : va_W} {H : Heap} (h : va_P D cl (a ++ b) H) : va_P D cl b H := fun k q hk => h (a.length + k) q (by rw [List.getElem?_append_right (by omega), show a.length + k - a.length = k by omega]; exact hk)
/-- the law's worlds: the folder's and the reference's -/
def wf2 (G : Gg) (P : Mm × Mm) : va_W := wo G SC P.1 ++ wo G SM P.2
/-- what stands still while the law is walked: all cells are new, the script lies below -/
def WdL (X : Cx) (V : Vx (Mm × Mm)) (G : Gg) (b L : Nat) (xs : Nat → Int32) : Prop :=
  V.1 = wf2 G ∧ V.2.1 = G.1 ∧ V.2.2.2.1 = (fun q => (xS X).heap.size ≤ q) ∧ va_K G.1 vwCl (tyG G) (xS X) ∧ Inj G ∧ St G (fun q => (xS X).heap.size ≤ q) (xS X) (xS X).heap ∧ (∀ k, k < 69 → (xS X).heap.size ≤ G.2.1 k) ∧ va_X b L xs (xS X) (xS X).heap ∧ b < (xS X).heap.size
theorem AoL {X : Cx} {V : Vx (Mm × Mm)} {G : Gg} {b L : Nat} {xs : Nat → Int32} (D : WdL X V G b L xs) {S : Sg} (hS9 : S.1 + S.2.1 ≤ 69) {H : Heap} {locs : List Loc} (hS : va_S V.2.2.2.1 (xS X).heap H locs) : ∀ q, Ao G S H.size q → (xS X).heap.size ≤ q := by
  intro q h
  rcases h with ⟨k, h1, h2, h3⟩ | h
  · rw [h3]; exact D.2.2.2.2.2.2.1 k (by omega)
  · exact Nat.le_trans hS.1 h
theorem preL {X : Cx} {V : Vx (Mm × Mm)} {G : Gg} {b L : Nat} {xs : Nat → Int32} (D : WdL X V G b L xs) {S : Sg} (hS9 : S.1 + S.2.1 ≤ 69) {M : Mm} {H : Heap} {locs : List Loc} (hP : va_P G.1 vwCl (wo G S M) H) (hS : va_S V.2.2.2.1 (xS X).heap H locs) (av : List Value) : ∀ U : State, U.heap = H → (xS X).WarmedH U.vm → va_Pc av (fun U => U.heap.size = H.size ∧ Pre G S M U) av.toArray U := by
  intro U hU hW
  have hS' := hS
  rw [D.2.2.1] at hS'
  subst hU
  exact ⟨rfl, rfl, hP, va_K.moved hW.alike D.2.2.2.1, ⟨D.2.2.2.2.1, hS9⟩, St.narrow (St.moved hW.alike (va_Nw.warmM hW D.2.2.2.2.2.1.2.2.2.2) (D.2.2.2.2.2.1.kept (fun a h1 h2 => hS'.2.1 a h1 h2))) (AoL D hS9 hS)⟩
theorem keepW {G : Gg} {S S' : Sg} (hi : Inj G) (h9 : S.1 + S.2.1 ≤ 69) (h9' : S'.1 + S'.2.1 ≤ 69) (hd : S.1 + S.2.1 ≤ S'.1 ∨ S'.1 + S'.2.1 ≤ S.1) {N : Mm} {H H1 : Heap} (hP : va_P G.1 vwCl (wo G S' N) H) (hk : ∀ q : Nat, q < H.size → ¬ Ao G S H.size q → H1[q]? = H[q]?) : va_P G.1 vwCl (wo G S' N) H1 := by
  refine hP.kept (fun k x hx => ?_)
  have hlt := (hP k x hx).lt
  obtain ⟨a1, a2⟩ := wo_get G S' N hx
  refine hk x.1 hlt (fun h => ?_)
  rcases h with ⟨j, h1, h2, h3⟩ | h
  · subst a2
    have := hi (S'.1 + k) j (by omega) (by omega) h3
    omega
  · omega
section RowsL2
variable {ρ : Type} {X : Cx} {V : Vx (Mm × Mm)} {z : ρ} {o : Option ρ} {P : Mm × Mm} {pc : Nat} {lv : List (Nat × Value)} {st st0 : List Value} {cc : ByteArray} {Ts : List Cond} {own : String} {rt : Option FieldType} {rm : Room} {G : Gg} {b L : Nat} {xs : Nat → Int32}
theorem q_sld (F : Ok X V cc Ts own rt rm) (D : WdL X V G b L xs) {i : Int32} {kk : Int32 → Option ρ} (hdg : decode cc pc = .ok (.iaload, 1)) (h : ∀ v, JL X V z (kk v) P (pc + 1) lv (.int v :: st)) : JL X V z ((rdT xs L i).bind kk) P pc lv (.int i :: .ref b :: st) := by
  intro ho H locs ls hP hS hl
  unfold rdT at ho
  split at ho
  · cases ho
  · rename_i hin
    exact va_sld F.1.1 F.1.2.1 D.2.2.2.2.2.2.2.1 D.2.2.2.2.2.2.2.2 (A := V.2.2.2.1) (by rw [D.2.2.1]; exact Nat.not_le.mpr D.2.2.2.2.2.2.2.2) hS hin hdg (h _ ho H locs ls hP hS hl)
theorem q_slen (F : Ok X V cc Ts own rt rm) (D : WdL X V G b L xs) (hdg : decode cc pc = .ok (.arraylength, 1)) (h : JL X V z o P (pc + 1) lv (.int (Int32.ofNat L) :: st)) : JL X V z o P pc lv (.ref b :: st) := by
  intro ho H locs ls hP hS hl
  exact va_slen F.1.1 F.1.2.1 D.2.2.2.2.2.2.2.1 D.2.2.2.2.2.2.2.2 (A := V.2.2.2.1) (by rw [D.2.2.1]; exact Nat.not_le.mpr D.2.2.2.2.2.2.2.2) hS hdg (h ho H locs ls hP hS hl)
theorem q_callCi (F : Ok X V cc Ts own rt rm) (D : WdL X V G b L xs) {l : Launch} (hl : X.2.1 = l) (hrm : rm.cells = 600000 ∧ rm.slots = 7302250) {y : MethodName} {ws : List Cond} {rmc : Room} {As : List Value} {g : Mm → Option (Int32 × Mm)} (C : Ci l G SC y ws rmc (.ref (G.2.1 0) :: As) g) {bytes : ByteArray} {maxL n index : Nat} {ret : Option FieldType} (K : Kc y bytes maxL ret ws n) (hy : y.cls = RX6) (hT : GoodIn Ts (wsV own index RX6 y ws)) (hc0 : rmc.cells = 0 ∧ rmc.slots = 0) (hR : rmc.frames + 1 ≤ rm.frames ∧ 8 + (maxL + 11) + rmc.locals ≤ rm.locals) (hn : As.length = n) (hst : (st.map fun v => v.category).sum ≤ 8) (hs : st0 = As.reverse ++ .ref (G.2.1 0) :: st) (hdg : decode cc pc = .ok (.invokevirtual index, 3)) {kk : Int32 × Mm → Option ρ} (h : ∀ w, JL X V z (kk w) (w.2, P.2) (pc + 3) lv (.int w.1 :: st)) : JL X V z ((g P.1).bind kk) P pc lv st0 := by
  intro ho H locs ls hP hS hll
  subst hl
  obtain ⟨w, hg, hk⟩ := bind_some' ho
  obtain ⟨⟨ws', hw⟩, hd⟩ := K
  have hPP : va_P G.1 vwCl (wo G SC P.1 ++ wo G SM P.2) H := by have := hP; rw [D.1, D.2.1] at this; exact this
  have hPc : va_P G.1 vwCl (wo G SC P.1) H := P_l hPP
  have hPo : va_P G.1 vwCl (wo G SM P.2) H := P_r hPP
  have ha := wo_at G SC P.1 ce_0.1 ce_0.2.1
  rw [ce_0.2.2] at ha
  have hA0 := AoL D (S := SC) (by decide) hS
  have hA1 : ∀ q, Ao G SC H.size q → V.2.2.2.1 q := fun q h => by rw [D.2.2.1]; exact hA0 q h
  refine va_calli (va_runV (As := As) (rest := st) F.1 (C P.1 w H.size hg) (cwV (ret := ret) n F.1.2.2.2.2 hT hw hc0.1 hc0.2 ⟨hy, hd⟩ (by rw [show X.2.2.2.1 = rm from F.2.2.2]; exact hR)) ⟨pre_blind G SC P.1 _ _, va_recv D.2.2.2.1 hPc (ci := 6) (show vwCl[6]? = some _ from rfl) ha, preL D (by decide) hPc hS _⟩ rfl hn hll.1 hs (lv_room hst) hdg (by rw [show X.2.2.2.1 = rm from F.2.2.2, hrm.1, hrm.2]; exact ⟨Nat.le_refl _, Nat.le_refl _⟩)) hS (fun q _ h => hA1 q h) hA1 (fun r u t H1 locs1 ht hvm hp hB hz hk1 hS1 => ?_)
  subst hp
  rw [ht] at hB
  have hPo1 := keepW D.2.2.2.2.1 (S := SC) (S' := SM) (by decide) (by decide) (by decide) hPo hk1
  refine h (r, u) hk H1 locs1 ls ?_ hS1 hll
  rw [D.1, D.2.1]
  exact va_P.app hB hPo1
theorem q_callMi (F : Ok X V cc Ts own rt rm) (D : WdL X V G b L xs) {l : Launch} (hl : X.2.1 = l) (hrm : rm.cells = 600000 ∧ rm.slots = 7302250) {y : MethodName} {ws : List Cond} {rmc : Room} {As : List Value} {g : Mm → Option (Int32 × Mm)} (C : Ci l G SM y ws rmc (.ref (G.2.1 54) :: As) g) {bytes : ByteArray} {maxL n index : Nat} {ret : Option FieldType} (K : Kc y bytes maxL ret ws n) (hy : y.cls = RX7) (hT : GoodIn Ts (wsV own index RX7 y ws)) (hc0 : rmc.cells = 0 ∧ rmc.slots = 0) (hR : rmc.frames + 1 ≤ rm.frames ∧ 8 + (maxL + 11) + rmc.locals ≤ rm.locals) (hn : As.length = n) (hst : (st.map fun v => v.category).sum ≤ 8) (hs : st0 = As.reverse ++ .ref (G.2.1 54) :: st) (hdg : decode cc pc = .ok (.invokevirtual index, 3)) {kk : Int32 × Mm → Option ρ} (h : ∀ w, JL X V z (kk w) (P.1, w.2) (pc + 3) lv (.int w.1 :: st)) : JL X V z ((g P.2).bind kk) P pc lv st0 := by
  intro ho H locs ls hP hS hll
  subst hl
  obtain ⟨w, hg, hk⟩ := bind_some' ho
  obtain ⟨⟨ws', hw⟩, hd⟩ := K
  have hPP : va_P G.1 vwCl (wo G SC P.1 ++ wo G SM P.2) H := by have := hP; rw [D.1, D.2.1] at this; exact this
  have hPc : va_P G.1 vwCl (wo G SM P.2) H := P_r hPP
  have hPo : va_P G.1 vwCl (wo G SC P.1) H := P_l hPP
  have ha := wo_at G SM P.2 ce_54.1 ce_54.2.1
  rw [ce_54.2.2] at ha
  have hA0 := AoL D (S := SM) (by decide) hS
  have hA1 : ∀ q, Ao G SM H.size q → V.2.2.2.1 q := fun q h => by rw [D.2.2.1]; exact hA0 q h
  refine va_calli (va_runV (As := As) (rest := st) F.1 (C P.2 w H.size hg) (cwV (ret := ret) n F.1.2.2.2.2 hT hw hc0.1 hc0.2 ⟨hy, hd⟩ (by rw [show X.2.2.2.1 = rm from F.2.2.2]; exact hR)) ⟨pre_blind G SM P.2 _ _, va_recv D.2.2.2.1 hPc (ci := 7) (show vwCl[7]? = some _ from rfl) ha, preL D (by decide) hPc hS _⟩ rfl hn hll.1 hs (lv_room hst) hdg (by rw [show X.2.2.2.1 = rm from F.2.2.2, hrm.1, hrm.2]; exact ⟨Nat.le_refl _, Nat.le_refl _⟩)) hS (fun q _ h => hA1 q h) hA1 (fun r u t H1 locs1 ht hvm hp hB hz hk1 hS1 => ?_)
  subst hp
  rw [ht] at hB
  have hPo1 := keepW D.2.2.2.2.1 (S := SM) (S' := SC) (by decide) (by decide) (by decide) hPo hk1
  refine h (r, u) hk H1 locs1 ls ?_ hS1 hll
  rw [D.1, D.2.1]
  exact va_P.app hPo1 hB
theorem q_callCl (F : Ok X V cc Ts own rt rm) (D : WdL X V G b L xs) {l : Launch} (hl : X.2.1 = l) (hrm : rm.cells = 600000 ∧ rm.slots = 7302250) {y : MethodName} {ws : List Cond} {rmc : Room} {As : List Value} {g : Mm → Option (Int64 × Mm)} (C : Cl l G SC y ws rmc (.ref (G.2.1 0) :: As) g) {bytes : ByteArray} {maxL n index : Nat} {ret : Option FieldType} (K : Kc y bytes maxL ret ws n) (hy : y.cls = RX6) (hT : GoodIn Ts (wsV own index RX6 y ws)) (hc0 : rmc.cells = 0 ∧ rmc.slots = 0) (hR : rmc.frames + 1 ≤ rm.frames ∧ 8 + (maxL + 11) + rmc.locals ≤ rm.locals) (hn : As.length = n) (hst : (st.map fun v => v.category).sum ≤ 8) (hs : st0 = As.reverse ++ .ref (G.2.1 0) :: st) (hdg : decode cc pc = .ok (.invokevirtual index, 3)) {kk : Int64 × Mm → Option ρ} (h : ∀ w, JL X V z (kk w) (w.2, P.2) (pc + 3) lv (.long w.1 :: st)) : JL X V z ((g P.1).bind kk) P pc lv st0 := by
  intro ho H locs ls hP hS hll
  subst hl
  obtain ⟨w, hg, hk⟩ := bind_some' ho
  obtain ⟨⟨ws', hw⟩, hd⟩ := K
  have hPP : va_P G.1 vwCl (wo G SC P.1 ++ wo G SM P.2) H := by have := hP; rw [D.1, D.2.1] at this; exact this
  have hPc : va_P G.1 vwCl (wo G SC P.1) H := P_l hPP
  have hPo : va_P G.1 vwCl (wo G SM P.2) H := P_r hPP
  have ha := wo_at G SC P.1 ce_0.1 ce_0.2.1
  rw [ce_0.2.2] at ha
  have hA0 := AoL D (S := SC) (by decide) hS
  have hA1 : ∀ q, Ao G SC H.size q → V.2.2.2.1 q := fun q h => by rw [D.2.2.1]; exact hA0 q h
  refine va_calll (va_runV (As := As) (rest := st) F.1 (C P.1 w H.size hg) (cwV (ret := ret) n F.1.2.2.2.2 hT hw hc0.1 hc0.2 ⟨hy, hd⟩ (by rw [show X.2.2.2.1 = rm from F.2.2.2]; exact hR)) ⟨pre_blind G SC P.1 _ _, va_recv D.2.2.2.1 hPc (ci := 6) (show vwCl[6]? = some _ from rfl) ha, preL D (by decide) hPc hS _⟩ rfl hn hll.1 hs (lv_room hst) hdg (by rw [show X.2.2.2.1 = rm from F.2.2.2, hrm.1, hrm.2]; exact ⟨Nat.le_refl _, Nat.le_refl _⟩)) hS (fun q _ h => hA1 q h) hA1 (fun r u t H1 locs1 ht hvm hp hB hz hk1 hS1 => ?_)
  subst hp
  rw [ht] at hB
  have hPo1 := keepW D.2.2.2.2.1 (S := SC) (S' := SM) (by decide) (by decide) (by decide) hPo hk1
  refine h (r, u) hk H1 locs1 ls ?_ hS1 hll
  rw [D.1, D.2.1]
  exact va_P.app hB hPo1
theorem q_callMl (F : Ok X V cc Ts own rt rm) (D : WdL X V G b L xs) {l : Launch} (hl : X.2.1 = l) (hrm : rm.cells = 600000 ∧ rm.slots = 7302250) {y : MethodName} {ws : List Cond} {rmc : Room} {As : List Value} {g : Mm → Option (Int64 × Mm)} (C : Cl l G SM y ws rmc (.ref (G.2.1 54) :: As) g) {bytes : ByteArray} {maxL n index : Nat} {ret : Option FieldType} (K : Kc y bytes maxL ret ws n) (hy : y.cls = RX7) (hT : GoodIn Ts (wsV own index RX7 y ws)) (hc0 : rmc.cells = 0 ∧ rmc.slots = 0) (hR : rmc.frames + 1 ≤ rm.frames ∧ 8 + (maxL + 11) + rmc.locals ≤ rm.locals) (hn : As.length = n) (hst : (st.map fun v => v.category).sum ≤ 8) (hs : st0 = As.reverse ++ .ref (G.2.1 54) :: st) (hdg : decode cc pc = .ok (.invokevirtual index, 3)) {kk : Int64 × Mm → Option ρ} (h : ∀ w, JL X V z (kk w) (P.1, w.2) (pc + 3) lv (.long w.1 :: st)) : JL X V z ((g P.2).bind kk) P pc lv st0 := by
  intro ho H locs ls hP hS hll
  subst hl
  obtain ⟨w, hg, hk⟩ := bind_some' ho
  obtain ⟨⟨ws', hw⟩, hd⟩ := K
  have hPP : va_P G.1 vwCl (wo G SC P.1 ++ wo G SM P.2) H := by have := hP; rw [D.1, D.2.1] at this; exact this
  have hPc : va_P G.1 vwCl (wo G SM P.2) H := P_r hPP
  have hPo : va_P G.1 vwCl (wo G SC P.1) H := P_l hPP
  have ha := wo_at G SM P.2 ce_54.1 ce_54.2.1
  rw [ce_54.2.2] at ha
  have hA0 := AoL D (S := SM) (by decide) hS
  have hA1 : ∀ q, Ao G SM H.size q → V.2.2.2.1 q := fun q h => by rw [D.2.2.1]; exact hA0 q h
  refine va_calll (va_runV (As := As) (rest := st) F.1 (C P.2 w H.size hg) (cwV (ret := ret) n F.1.2.2.2.2 hT hw hc0.1 hc0.2 ⟨hy, hd⟩ (by rw [show X.2.2.2.1 = rm from F.2.2.2]; exact hR)) ⟨pre_blind G SM P.2 _ _, va_recv D.2.2.2.1 hPc (ci := 7) (show vwCl[7]? = some _ from rfl) ha, preL D (by decide) hPc hS _⟩ rfl hn hll.1 hs (lv_room hst) hdg (by rw [show X.2.2.2.1 = rm from F.2.2.2, hrm.1, hrm.2]; exact ⟨Nat.le_refl _, Nat.le_refl _⟩)) hS (fun q _ h => hA1 q h) hA1 (fun r u t H1 locs1 ht hvm hp hB hz hk1 hS1 => ?_)
  subst hp
  rw [ht] at hB
  have hPo1 := keepW D.2.2.2.2.1 (S := SM) (S' := SC) (by decide) (by decide) (by decide) hPo hk1
  refine h (r, u) hk H1 locs1 ls ?_ hS1 hll
  rw [D.1, D.2.1]
  exact va_P.app hPo1 hB
end RowsL2
