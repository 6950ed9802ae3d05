/-! Contracts over a world, their start and end, calls -/
def Ci (l : Launch) (G : Gg) (S : Sg) (y : MethodName) (ws : List Cond) (rm : Room) (av : List Value) (o : Mm → Option (Int32 × Mm)) : Prop :=
  ∀ (M : Mm) (z : Int32 × Mm) (sz : Nat), o M = some z → Met l y ws rm (va_Pc av (fun U => U.heap.size = sz ∧ Pre G S M U)) (va_Qi (fun r u => (r, u) = z) (fun u t => va_P G.1 vwCl (wo G S u) t.heap) (Ao G S sz)) 0 0 (Ao G S sz)
def Cv (l : Launch) (G : Gg) (S : Sg) (y : MethodName) (ws : List Cond) (rm : Room) (av : List Value) (o : Mm → Option (Unit × Mm)) : Prop :=
  ∀ (M : Mm) (z : Unit × Mm) (sz : Nat), o M = some z → Met l y ws rm (va_Pc av (fun U => U.heap.size = sz ∧ Pre G S M U)) (va_Qv (fun u => u = z.2) (fun u t => va_P G.1 vwCl (wo G S u) t.heap) (Ao G S sz)) 0 0 (Ao G S sz)
def Cl (l : Launch) (G : Gg) (S : Sg) (y : MethodName) (ws : List Cond) (rm : Room) (av : List Value) (o : Mm → Option (Int64 × Mm)) : Prop :=
  ∀ (M : Mm) (z : Int64 × Mm) (sz : Nat), o M = some z → Met l y ws rm (va_Pc av (fun U => U.heap.size = sz ∧ Pre G S M U)) (va_Ql (fun r u => (r, u) = z) (fun u t => va_P G.1 vwCl (wo G S u) t.heap) (Ao G S sz)) 0 0 (Ao G S sz)
abbrev xB (X : Cx) : List Frame := X.2.2.2.2.2.2.2.1
def Endi (X : Cx) (V : Vx Mm) (G : Gg) (S : Sg) (z : Int32 × Mm) : Prop := V.2.2.2.2 = MQ (xB X) (va_Qi (fun r u => (r, u) = z) (fun u t => va_P G.1 vwCl (wo G S u) t.heap) (Ao G S (xS X).heap.size)) (xA X) (xS X) 0 0 (Ao G S (xS X).heap.size)
def Endv (X : Cx) (V : Vx Mm) (G : Gg) (S : Sg) (z : Unit × Mm) : Prop := V.2.2.2.2 = MQ (xB X) (va_Qv (fun u => u = z.2) (fun u t => va_P G.1 vwCl (wo G S u) t.heap) (Ao G S (xS X).heap.size)) (xA X) (xS X) 0 0 (Ao G S (xS X).heap.size)
def Endl (X : Cx) (V : Vx Mm) (G : Gg) (S : Sg) (z : Int64 × Mm) : Prop := V.2.2.2.2 = MQ (xB X) (va_Ql (fun r u => (r, u) = z) (fun u t => va_P G.1 vwCl (wo G S u) t.heap) (Ao G S (xS X).heap.size)) (xA X) (xS X) 0 0 (Ao G S (xS X).heap.size)
/-- what a callee's words are, and how many arguments it takes -/
def Kc (y : MethodName) (bytes : ByteArray) (maxL : Nat) (ret : Option FieldType) (ws : List Cond) (n : Nat) : Prop := (∃ ws', ws = Cond.code y bytes maxL ret :: ws') ∧ y.cls ≠ "java/lang/invoke/MethodHandle" ∧ y.cls ≠ "java/lang/invoke/VarHandle" ∧ (parseMethodDescriptor y.desc).map (fun d => d.parameters.length) = some n
theorem St.moved {G : Gg} {A : Nat → Prop} {u U : State} {H : Heap} (hvm : u.vm.Alike U.vm) (hn : va_Nw (.methodLinkNest RX5 19 yX6_isWithin RX6) U) (h : St G A u H) : St G A U H := ⟨va_Z.moved hvm h.1, va_Z.moved hvm h.2.1, va_T.moved hvm h.2.2.1, va_T.moved hvm h.2.2.2.1, hn⟩
theorem St.kept {G : Gg} {A : Nat → Prop} {U : State} {H H1 : Heap} (h : St G A U H) (hq : ∀ a : Nat, a < H.size → ¬ A a → H1[a]? = H[a]?) : St G A U H1 := ⟨h.1.kept hq, h.2.1.kept hq, h.2.2.1.kept hq, h.2.2.2.1.kept hq, h.2.2.2.2⟩
theorem St.narrow {G : Gg} {A B : Nat → Prop} {U : State} {H : Heap} (h : St G A U H) (hAB : ∀ q, B q → A q) : St G B U H := ⟨h.1.narrow hAB, h.2.1.narrow hAB, h.2.2.1.narrow hAB, h.2.2.2.1.narrow hAB, h.2.2.2.2⟩
theorem pre_blind (G : Gg) (S : Sg) (M : Mm) (av : List Value) (sz : Nat) : FrameBlind (va_Pc av (fun U => U.heap.size = sz ∧ Pre G S M U)) := by
  intro a U g mk q
  obtain ⟨q0, q1, qP, qK, qI, qS⟩ := q
  exact ⟨q0, q1, qP, va_K.moved (u := U) (U := U.calling g mk a) (Vm.Alike.refl U.vm) qK, qI, St.moved (u := U) (U := U.calling g mk a) (Vm.Alike.refl U.vm) (va_Nw.same (u := U) rfl rfl qS.2.2.2.2) qS⟩
theorem pre_at {X : Cx} {V : Vx Mm} {G : Gg} {S : Sg} (D : Wd X V G S) {M : Mm} {H : Heap} {locs : List Loc} (hP : va_P V.2.1 vwCl (V.1 M) H) (hS : va_S V.2.2.2.1 (xS X).heap H locs) (av : List Value) : ∀ U : State, U.heap = H → (xS X).WarmedH U.vm → va_Pc av (fun U => U.heap.size = H.size ∧ Pre G S M U) av.toArray U := by
  intro U hU hW
  have hS' := hS
  rw [D.2.2.1] at hS'
  subst hU
  refine ⟨rfl, rfl, D.P hP, va_K.moved hW.alike D.2.2.2.1, D.2.2.2.2.1, ?_⟩
  refine St.narrow (St.moved hW.alike (va_Nw.warmM hW D.2.2.2.2.2.2.2.2.2) (D.2.2.2.2.2.kept (fun a h1 h2 => hS'.2.1 a h1 h2))) (fun q h => ?_)
  rcases h with h | h
  · exact Or.inl h
  · exact Or.inr (Nat.le_trans hS'.1 h)
theorem Ao_sub {X : Cx} {V : Vx Mm} {G : Gg} {S : Sg} (D : Wd X V G S) {H : Heap} {locs : List Loc} (hS : va_S V.2.2.2.1 (xS X).heap H locs) : ∀ q, Ao G S H.size q → V.2.2.2.1 q := by
  intro q h
  rw [D.2.2.1] at hS ⊢
  rcases h with h | h
  · exact Or.inl h
  · exact Or.inr (Nat.le_trans hS.1 h)
theorem Ci.intro {l : Launch} {G : Gg} {S : Sg} {y : MethodName} {ws : List Cond} {rm : Room} {av : List Value} {o : Mm → Option (Int32 × Mm)} {cc : ByteArray} {maxL n : Nat} {ty : FieldType} (own : String) (hown : y.cls = own) (hy : plainName y.cls = true) (hk : Kc y cc maxL (some ty) ws n) (hlen : (lg_sl av).length ≤ maxL) {lv : List (Nat × Value)} (hlv : lv_args 0 av = lv)
    (body : ∀ (X : Cx) (V : Vx Mm) (M : Mm) (z : Int32 × Mm), Ok X V cc ws own (some ty) rm → Wd X V G S → X.2.1 = l → maxL = V.2.2.1 → Endi X V G S z → Jg X V z (o M) M 0 lv []) : Ci l G S y ws rm av o := by
  intro M z sz ho
  obtain ⟨⟨ws', hw⟩, -⟩ := hk
  refine Met.ofW (cc := cc) (maxL := maxL) (ret := some ty) hy hw ?_
  intro p e s m args below meth c s₁ B hml hv
  obtain ⟨rfl, hsz, hP, hK, hI, hSt⟩ := hv
  subst hsz
  have hl := lv_entry av (n := maxL) hlen
  rw [lg_entry_eq]
  generalize (lg_sl av ++ List.replicate (maxL - (lg_sl av).length) Slot.unset).toArray = ls at hl ⊢
  rw [hlv] at hl
  exact body (p, l, e, (headSpec ws rm).room, s, m, av.toArray, below, meth, c) (wo G S, G.1, maxL, Ao G S s.heap.size, _) M z ⟨⟨B.exec, B.bytes, hml, by rw [← hown]; exact findClass_of_methodNamed B.named, atoms_spec (ws := ws) B.pre⟩, B.returns, B.notSynchronized, rfl⟩ ⟨rfl, rfl, rfl, hK, hI, hSt⟩ rfl rfl rfl ho s.heap [] ls hP va_S.rf hl
theorem Cv.intro {l : Launch} {G : Gg} {S : Sg} {y : MethodName} {ws : List Cond} {rm : Room} {av : List Value} {o : Mm → Option (Unit × Mm)} {cc : ByteArray} {maxL n : Nat} (own : String) (hown : y.cls = own) (hy : plainName y.cls = true) (hk : Kc y cc maxL none ws n) (hlen : (lg_sl av).length ≤ maxL) {lv : List (Nat × Value)} (hlv : lv_args 0 av = lv)
    (body : ∀ (X : Cx) (V : Vx Mm) (M : Mm) (z : Unit × Mm), Ok X V cc ws own none rm → Wd X V G S → X.2.1 = l → maxL = V.2.2.1 → Endv X V G S z → Jg X V z (o M) M 0 lv []) : Cv l G S y ws rm av o := by
  intro M z sz ho
  obtain ⟨⟨ws', hw⟩, -⟩ := hk
  refine Met.ofW (cc := cc) (maxL := maxL) (ret := none) hy hw ?_
  intro p e s m args below meth c s₁ B hml hv
  obtain ⟨rfl, hsz, hP, hK, hI, hSt⟩ := hv
  subst hsz
  have hl := lv_entry av (n := maxL) hlen
  rw [lg_entry_eq]
  generalize (lg_sl av ++ List.replicate (maxL - (lg_sl av).length) Slot.unset).toArray = ls at hl ⊢
  rw [hlv] at hl
  exact body (p, l, e, (headSpec ws rm).room, s, m, av.toArray, below, meth, c) (wo G S, G.1, maxL, Ao G S s.heap.size, _) M z ⟨⟨B.exec, B.bytes, hml, by rw [← hown]; exact findClass_of_methodNamed B.named, atoms_spec (ws := ws) B.pre⟩, B.returns, B.notSynchronized, rfl⟩ ⟨rfl, rfl, rfl, hK, hI, hSt⟩ rfl rfl rfl ho s.heap [] ls hP va_S.rf hl
theorem Cl.intro {l : Launch} {G : Gg} {S : Sg} {y : MethodName} {ws : List Cond} {rm : Room} {av : List Value} {o : Mm → Option (Int64 × Mm)} {cc : ByteArray} {maxL n : Nat} (own : String) (hown : y.cls = own) (hy : plainName y.cls = true) (hk : Kc y cc maxL (some .long) ws n) (hlen : (lg_sl av).length ≤ maxL) {lv : List (Nat × Value)} (hlv : lv_args 0 av = lv)
    (body : ∀ (X : Cx) (V : Vx Mm) (M : Mm) (z : Int64 × Mm), Ok X V cc ws own (some .long) rm → Wd X V G S → X.2.1 = l → maxL = V.2.2.1 → Endl X V G S z → Jg X V z (o M) M 0 lv []) : Cl l G S y ws rm av o := by
  intro M z sz ho
  obtain ⟨⟨ws', hw⟩, -⟩ := hk
  refine Met.ofW (cc := cc) (maxL := maxL) (ret := some .long) hy hw ?_
  intro p e s m args below meth c s₁ B hml hv
  obtain ⟨rfl, hsz, hP, hK, hI, hSt⟩ := hv
  subst hsz
  have hl := lv_entry av (n := maxL) hlen
  rw [lg_entry_eq]
  generalize (lg_sl av ++ List.replicate (maxL - (lg_sl av).length) Slot.unset).toArray = ls at hl ⊢
  rw [hlv] at hl
  exact body (p, l, e, (headSpec ws rm).room, s, m, av.toArray, below, meth, c) (wo G S, G.1, maxL, Ao G S s.heap.size, _) M z ⟨⟨B.exec, B.bytes, hml, by rw [← hown]; exact findClass_of_methodNamed B.named, atoms_spec (ws := ws) B.pre⟩, B.returns, B.notSynchronized, rfl⟩ ⟨rfl, rfl, rfl, hK, hI, hSt⟩ rfl rfl rfl ho s.heap [] ls hP va_S.rf hl
def mn (x y : Int32) : Int32 := if y < x then y else x
def mx (x y : Int32) : Int32 := if x < y then y else x
def cpy (M : Mm) (k0 n0 k1 n1 : Nat) (sp dp n : Int32) : Option Mm := if sp < 0 ∨ dp < 0 ∨ n < 0 ∨ n0 < sp.toNatClampNeg + n.toNatClampNeg ∨ n1 < dp.toNatClampNeg + n.toNatClampNeg then none else some (stA M k1 (va_cpy (M.1 k0) (M.1 k1) sp.toNatClampNeg dp.toNatClampNeg n.toNatClampNeg))
section RowsC
variable {ρ : Type} {X : Cx} {V : Vx Mm} {z : ρ} {o : Option ρ} {M : Mm} {pc : Nat} {lv : List (Nat × Value)} {st st0 : List Value} {cc : ByteArray} {Ts : List Cond} {own : String} {rt : Option FieldType} {rm : Room} {G : Gg} {S : Sg}
theorem j_iret {z : Int32 × Mm} {ty : FieldType} {r : Int32} (F : Ok X V cc Ts own (some ty) rm) (D : Wd X V G S) (E : Endi X V G S z) (hn : narrow ty (.int r) = .int r) (hdg : decode cc pc = .ok (.ireturn, 1)) : Jg X V z (some (r, M)) M pc lv [.int r] := by
  intro ho H locs ls hP hS hl
  cases ho
  have hS' := hS
  rw [D.2.2.1] at hS'
  unfold Wx
  rw [E]
  exact W.zret F.1.1 F.1.2.1 F.2.1 hn (fun t ht hW => ⟨⟨r, M, rfl, rfl, by show va_P _ _ _ t.heap; rw [ht]; exact D.P hP⟩, hS'.F ht⟩) hS'.2.2 hdg F.2.2.1
theorem j_zret {z : Int32 × Mm} {r : Int32} (F : Ok X V cc Ts own (some .boolean) rm) (D : Wd X V G S) (E : Endi X V G S z) (hdg : decode cc pc = .ok (.ireturn, 1)) : Jg X V z ((ckZ r).bind (fun r => some (r, M))) M pc lv [.int r] := by
  unfold ckZ
  by_cases h : r = 0 ∨ r = 1
  · rw [if_pos h]
    refine j_iret F D E ?_ hdg
    rcases h with h | h <;> subst h <;> rfl
  · rw [if_neg h]; exact j_none
theorem j_vret {z : Unit × Mm} (F : Ok X V cc Ts own none rm) (D : Wd X V G S) (E : Endv X V G S z) (hdg : decode cc pc = .ok (.return_, 1)) : Jg X V z (some ((), M)) M pc lv [] := by
  intro ho H locs ls hP hS hl
  cases ho
  have hS' := hS
  rw [D.2.2.1] at hS'
  unfold Wx
  rw [E]
  exact W.vret F.1.1 F.1.2.1 F.2.1 (fun t ht hW => ⟨⟨M, rfl, rfl, by show va_P _ _ _ t.heap; rw [ht]; exact D.P hP⟩, hS'.F ht⟩) hS'.2.2 hdg F.2.2.1
theorem j_lret {z : Int64 × Mm} {r : Int64} (F : Ok X V cc Ts own (some .long) rm) (D : Wd X V G S) (E : Endl X V G S z) (hdg : decode cc pc = .ok (.lreturn, 1)) : Jg X V z (some (r, M)) M pc lv [.long r] := by
  intro ho H locs ls hP hS hl
  cases ho
  have hS' := hS
  rw [D.2.2.1] at hS'
  unfold Wx
  rw [E]
  exact W.lret F.1.1 F.1.2.1 F.2.1 (fun t ht hW => ⟨⟨r, M, rfl, rfl, by show va_P _ _ _ t.heap; rw [ht]; exact D.P hP⟩, hS'.F ht⟩) hS'.2.2 hdg F.2.2.1
theorem bind_some' {α β : Type} {a : Option α} {f : α → Option β} {b : β} (h : a.bind f = some b) : ∃ x, a = some x ∧ f x = some b := by
  cases a with
  | none => cases h
  | some x => exact ⟨x, rfl, h⟩
theorem j_callVi (F : Ok X V cc Ts own rt rm) (D : Wd X V G S) {l : Launch} (hl : X.2.1 = l) {y : MethodName} {ws : List Cond} {rmc : Room} {k ci : Nat} {fs : List Fk} {As : List Value} {g : Mm → Option (Int32 × Mm)} (C : Ci l G S y ws rmc (.ref (G.2.1 k) :: As) g) (c : Ce S k (.inr (.inl (ci, fs)))) {Cn : String} {T : u_T} {N : Nat} (hcl : vwCl[ci]? = some (Cn, T, N)) {bytes : ByteArray} {maxL n index : Nat} {ret : Option FieldType} (K : Kc y bytes maxL ret ws n) (hy : y.cls = Cn) (hT : GoodIn Ts (wsV own index Cn y ws)) (hc0 : rmc.cells = 0 ∧ rmc.slots = 0) (hR : rmc.frames + 1 ≤ rm.frames ∧ 8 + (maxL + 11) + rmc.locals ≤ rm.locals) (hn : As.length = n) (hst : (st.map fun v => v.category).sum ≤ 8) (hs : st0 = As.reverse ++ .ref (G.2.1 k) :: st) (hdg : decode cc pc = .ok (.invokevirtual index, 3)) {kk : Int32 × Mm → Option ρ} (h : ∀ w, Jg X V z (kk w) w.2 (pc + 3) lv (.int w.1 :: st)) : Jg X V z ((g M).bind kk) M pc lv st0 := by
  intro ho H locs ls hP hS hll
  subst hl
  obtain ⟨w, hg, hk⟩ := bind_some' ho
  obtain ⟨⟨ws', hw⟩, hd⟩ := K
  have ha := wo_at G S M c.1 c.2.1
  rw [c.2.2] at ha
  have hPP := D.P hP
  refine va_calli (va_runV (As := As) (rest := st) F.1 (C M w H.size hg) (cwV (ret := ret) n F.1.2.2.2.2 hT hw hc0.1 hc0.2 ⟨hy, hd⟩ (by rw [show X.2.2.2.1 = rm from F.2.2.2]; exact hR)) ⟨pre_blind G S M _ _, va_recv D.2.2.2.1 hPP hcl ha, pre_at D hP hS _⟩ rfl hn hll.1 hs (lv_room hst) hdg ⟨Nat.zero_le _, Nat.zero_le _⟩) hS (fun q _ h => Ao_sub D hS q h) (Ao_sub D hS) (fun r u t H1 locs1 ht hvm hp hB hz hk1 hS1 => ?_)
  subst hp
  rw [ht] at hB
  exact h (r, u) hk H1 locs1 ls (D.P' hB) hS1 hll
theorem j_callVv (F : Ok X V cc Ts own rt rm) (D : Wd X V G S) {l : Launch} (hl : X.2.1 = l) {y : MethodName} {ws : List Cond} {rmc : Room} {k ci : Nat} {fs : List Fk} {As : List Value} {g : Mm → Option (Unit × Mm)} (C : Cv l G S y ws rmc (.ref (G.2.1 k) :: As) g) (c : Ce S k (.inr (.inl (ci, fs)))) {Cn : String} {T : u_T} {N : Nat} (hcl : vwCl[ci]? = some (Cn, T, N)) {bytes : ByteArray} {maxL n index : Nat} {ret : Option FieldType} (K : Kc y bytes maxL ret ws n) (hy : y.cls = Cn) (hT : GoodIn Ts (wsV own index Cn y ws)) (hc0 : rmc.cells = 0 ∧ rmc.slots = 0) (hR : rmc.frames + 1 ≤ rm.frames ∧ 8 + (maxL + 11) + rmc.locals ≤ rm.locals) (hn : As.length = n) (hst : (st.map fun v => v.category).sum ≤ 8) (hs : st0 = As.reverse ++ .ref (G.2.1 k) :: st) (hdg : decode cc pc = .ok (.invokevirtual index, 3)) {kk : Unit × Mm → Option ρ} (h : ∀ w, Jg X V z (kk w) w.2 (pc + 3) lv st) : Jg X V z ((g M).bind kk) M pc lv st0 := by
  intro ho H locs ls hP hS hll
  subst hl
  obtain ⟨w, hg, hk⟩ := bind_some' ho
  obtain ⟨⟨ws', hw⟩, hd⟩ := K
  have ha := wo_at G S M c.1 c.2.1
  rw [c.2.2] at ha
  have hPP := D.P hP
  refine va_callv (va_runV (As := As) (rest := st) F.1 (C M w H.size hg) (cwV (ret := ret) n F.1.2.2.2.2 hT hw hc0.1 hc0.2 ⟨hy, hd⟩ (by rw [show X.2.2.2.1 = rm from F.2.2.2]; exact hR)) ⟨pre_blind G S M _ _, va_recv D.2.2.2.1 hPP hcl ha, pre_at D hP hS _⟩ rfl hn hll.1 hs (lv_room hst) hdg ⟨Nat.zero_le _, Nat.zero_le _⟩) hS (fun q _ h => Ao_sub D hS q h) (Ao_sub D hS) (fun u t H1 locs1 ht hvm hp hB hz hk1 hS1 => ?_)
  subst hp
  rw [ht] at hB
  exact h w hk H1 locs1 ls (D.P' hB) hS1 hll
theorem j_callSi (F : Ok X V cc Ts own rt rm) (D : Wd X V G S) {l : Launch} (hl : X.2.1 = l) {y : MethodName} {ws : List Cond} {rmc : Room} {As : List Value} {g : Mm → Option (Int32 × Mm)} (C : Ci l G S y ws rmc As g) {bytes : ByteArray} {maxL n index : Nat} {ret : Option FieldType} (K : Kc y bytes maxL ret ws n) (hT : GoodIn Ts (va_wsS own index y ws)) (hc0 : rmc.cells = 0 ∧ rmc.slots = 0) (hR : rmc.frames + 1 ≤ rm.frames ∧ 8 + (maxL + 11) + rmc.locals ≤ rm.locals) (hn : As.length = n) (hst : (st.map fun v => v.category).sum ≤ 8) (hs : st0 = As.reverse ++ st) (hdg : decode cc pc = .ok (.invokestatic index, 3)) {kk : Int32 × Mm → Option ρ} (h : ∀ w, Jg X V z (kk w) w.2 (pc + 3) lv (.int w.1 :: st)) : Jg X V z ((g M).bind kk) M pc lv st0 := by
  intro ho H locs ls hP hS hll
  subst hl
  obtain ⟨w, hg, hk⟩ := bind_some' ho
  obtain ⟨⟨ws', hw⟩, hd⟩ := K
  refine va_calli (va_runS (As := As) (rest := st) F.1 (C M w H.size hg) (va_cwS (ret := ret) n F.1.2.2.2.2 hT hw hc0.1 hc0.2 hd (by rw [show X.2.2.2.1 = rm from F.2.2.2]; exact hR)) ⟨pre_blind G S M _ _, pre_at D hP hS _⟩ rfl hn hll.1 hs (lv_room hst) hdg ⟨Nat.zero_le _, Nat.zero_le _⟩) hS (fun q _ h => Ao_sub D hS q h) (Ao_sub D hS) (fun r u t H1 locs1 ht hvm hp hB hz hk1 hS1 => ?_)
  subst hp
  rw [ht] at hB
  exact h (r, u) hk H1 locs1 ls (D.P' hB) hS1 hll
theorem j_callSv (F : Ok X V cc Ts own rt rm) (D : Wd X V G S) {l : Launch} (hl : X.2.1 = l) {y : MethodName} {ws : List Cond} {rmc : Room} {As : List Value} {g : Mm → Option (Unit × Mm)} (C : Cv l G S y ws rmc As g) {bytes : ByteArray} {maxL n index : Nat} {ret : Option FieldType} (K : Kc y bytes maxL ret ws n) (hT : GoodIn Ts (va_wsS own index y ws)) (hc0 : rmc.cells = 0 ∧ rmc.slots = 0) (hR : rmc.frames + 1 ≤ rm.frames ∧ 8 + (maxL + 11) + rmc.locals ≤ rm.locals) (hn : As.length = n) (hst : (st.map fun v => v.category).sum ≤ 8) (hs : st0 = As.reverse ++ st) (hdg : decode cc pc = .ok (.invokestatic index, 3)) {kk : Unit × Mm → Option ρ} (h : ∀ w, Jg X V z (kk w) w.2 (pc + 3) lv st) : Jg X V z ((g M).bind kk) M pc lv st0 := by
  intro ho H locs ls hP hS hll
  subst hl
  obtain ⟨w, hg, hk⟩ := bind_some' ho
  obtain ⟨⟨ws', hw⟩, hd⟩ := K
  refine va_callv (va_runS (As := As) (rest := st) F.1 (C M w H.size hg) (va_cwS (ret := ret) n F.1.2.2.2.2 hT hw hc0.1 hc0.2 hd (by rw [show X.2.2.2.1 = rm from F.2.2.2]; exact hR)) ⟨pre_blind G S M _ _, pre_at D hP hS _⟩ rfl hn hll.1 hs (lv_room hst) hdg ⟨Nat.zero_le _, Nat.zero_le _⟩) hS (fun q _ h => Ao_sub D hS q h) (Ao_sub D hS) (fun u t H1 locs1 ht hvm hp hB hz hk1 hS1 => ?_)
  subst hp
  rw [ht] at hB
  exact h w hk H1 locs1 ls (D.P' hB) hS1 hll
/-- the one call of a nest mate's static method: Worker to isWithin -/
theorem j_callNi (F : Ok X V cc Ts RX5 rt rm) (D : Wd X V G S) {l : Launch} (hl : X.2.1 = l) {ws : List Cond} {rmc : Room} {As : List Value} {g : Mm → Option (Int32 × Mm)} (C : Ci l G S yX6_isWithin ws rmc As g) {bytes : ByteArray} {maxL n : Nat} {ret : Option FieldType} (K : Kc yX6_isWithin bytes maxL ret ws n) (hT : GoodIn Ts ws) (hm1 : Cond.static yX6_isWithin ∈ Ts) (hm2 : Cond.initialized RX6 ∈ Ts) (hc0 : rmc.cells = 0 ∧ rmc.slots = 0) (hR : rmc.frames + 1 ≤ rm.frames ∧ 8 + (maxL + 11) + rmc.locals ≤ rm.locals) (hn : As.length = n) (hst : (st.map fun v => v.category).sum ≤ 8) (hs : st0 = As.reverse ++ st) (hdg : decode cc pc = .ok (.invokestatic 19, 3)) {kk : Int32 × Mm → Option ρ} (h : ∀ w, Jg X V z (kk w) w.2 (pc + 3) lv (.int w.1 :: st)) : Jg X V z ((g M).bind kk) M pc lv st0 := by
  intro ho H locs ls hP hS hll
  subst hl
  obtain ⟨w, hg, hk⟩ := bind_some' ho
  obtain ⟨⟨ws', hw⟩, hd⟩ := K
  refine va_calli (va_runSN (As := As) (rest := st) F.1 (C M w H.size hg) ⟨va_cnB (ret := ret) (host := RX6) n F.1.2.2.2.2 hT hw hc0.1 hc0.2 D.2.2.2.2.2.2.2.2.2 (F.1.2.2.2.2 _ hm2) hd (by rw [show X.2.2.2.1 = rm from F.2.2.2]; exact hR), F.1.2.2.2.2 _ hm1, trivial⟩ ⟨pre_blind G S M _ _, pre_at D hP hS _⟩ rfl hn hll.1 hs (lv_room hst) hdg ⟨Nat.zero_le _, Nat.zero_le _⟩) hS (fun q _ h => Ao_sub D hS q h) (Ao_sub D hS) (fun r u t H1 locs1 ht hvm hp hB hz hk1 hS1 => ?_)
  subst hp
  rw [ht] at hB
  exact h (r, u) hk H1 locs1 ls (D.P' hB) hS1 hll
theorem j_min (F : Ok X V cc Ts own rt rm) {x y : Int32} {index : Nat} (m1 : Cond.methodLink own index Lib.Math.min.name ∈ Ts) (m2 : Cond.static Lib.Math.min.name ∈ Ts) (m3 : Cond.initialized "java/lang/Math" ∈ Ts) (m4 : Cond.code Lib.Math.min.name Lib.Math.min.code 2 (some .int) ∈ Ts) (hR : 1 ≤ rm.frames ∧ (st.map fun v => v.category).sum + 13 ≤ rm.locals) (hdg : decode cc pc = .ok (.invokestatic index, 3)) (h : Jg X V z o M (pc + 3) lv (.int (mn x y) :: st)) : Jg X V z o M pc lv (.int y :: .int x :: st) :=
  fun ho H locs ls hP hS hl => va_mmin F.1.1 F.1.2.1 (F.1.2.2.1.trans hl.1.symm) F.1.2.2.2.1 (F.1.2.2.2.2 _ m1) (F.1.2.2.2.2 _ m2) (F.1.2.2.2.2 _ m3) (F.1.2.2.2.2 _ m4) (by rw [show X.2.2.2.1 = rm from F.2.2.2]; exact hR.1) (by rw [show X.2.2.2.1 = rm from F.2.2.2]; exact hR.2) (Nat.zero_le _) (Nat.zero_le _) hdg (h ho H locs ls hP hS hl)
theorem j_max (F : Ok X V cc Ts own rt rm) {x y : Int32} {index : Nat} (m1 : Cond.methodLink own index Lib.Math.max.name ∈ Ts) (m2 : Cond.static Lib.Math.max.name ∈ Ts) (m3 : Cond.initialized "java/lang/Math" ∈ Ts) (m4 : Cond.code Lib.Math.max.name Lib.Math.max.code 2 (some .int) ∈ Ts) (hR : 1 ≤ rm.frames ∧ (st.map fun v => v.category).sum + 13 ≤ rm.locals) (hdg : decode cc pc = .ok (.invokestatic index, 3)) (h : Jg X V z o M (pc + 3) lv (.int (mx x y) :: st)) : Jg X V z o M pc lv (.int y :: .int x :: st) :=
  fun ho H locs ls hP hS hl => va_mmax F.1.1 F.1.2.1 (F.1.2.2.1.trans hl.1.symm) F.1.2.2.2.1 (F.1.2.2.2.2 _ m1) (F.1.2.2.2.2 _ m2) (F.1.2.2.2.2 _ m3) (F.1.2.2.2.2 _ m4) (by rw [show X.2.2.2.1 = rm from F.2.2.2]; exact hR.1) (by rw [show X.2.2.2.1 = rm from F.2.2.2]; exact hR.2) (Nat.zero_le _) (Nat.zero_le _) hdg (h ho H locs ls hP hS hl)
theorem j_copy (F : Ok X V cc Ts own rt rm) (D : Wd X V G S) {k0 n0 k1 n1 : Nat} (c0 : Ce S k0 (.inl n0)) (c1 : Ce S k1 (.inl n1)) {sp dp n : Int32} {index : Nat} (m1 : Cond.methodLink own index arraycopyName ∈ Ts) (m2 : Cond.native arraycopyName ∈ Ts) (m3 : Cond.static arraycopyName ∈ Ts) (m4 : Cond.initialized "java/lang/System" ∈ Ts) (hR : 1 ≤ rm.frames ∧ (st.map fun v => v.category).sum + (nativeFrameWords "java/lang/System" "arraycopy" 5 + 11) ≤ rm.locals) (hdg : decode cc pc = .ok (.invokestatic index, 3)) {kk : Mm → Option ρ} (h : ∀ N, Jg X V z (kk N) N (pc + 3) lv st) : Jg X V z ((cpy M k0 n0 k1 n1 sp dp n).bind kk) M pc lv (.int n :: .int dp :: .ref (G.2.1 k1) :: .int sp :: .ref (G.2.1 k0) :: st) := by
  intro ho H locs ls hP hS hl
  unfold cpy at ho
  split at ho
  · cases ho
  · rename_i hin
    have ha := wo_at G S M c0.1 c0.2.1
    rw [c0.2.2] at ha
    have hb := wo_at G S M c1.1 c1.2.1
    rw [c1.2.2] at hb
    refine va_copyi F.1.1 F.1.2.1 (F.1.2.2.1.trans hl.1.symm) F.1.2.2.2.1 (F.1.2.2.2.2 _ m1) (F.1.2.2.2.2 _ m2) (F.1.2.2.2.2 _ m3) (F.1.2.2.2.2 _ m4) D.2.2.2.1 (D.P hP) (D.dj M) hS (k0 - S.1) (k1 - S.1) 0 0 ha hb (ty := .int) rfl rfl rfl (fun q => hin (Or.inl q)) (fun q => hin (Or.inr (Or.inl q))) (fun q => hin (Or.inr (Or.inr (Or.inl q)))) (Nat.not_lt.mp fun q => hin (Or.inr (Or.inr (Or.inr (Or.inl q))))) (Nat.not_lt.mp fun q => hin (Or.inr (Or.inr (Or.inr (Or.inr q))))) (fun i hi => rfl) (by rw [show X.2.2.2.1 = rm from F.2.2.2]; exact hR.1) (by rw [show X.2.2.2.1 = rm from F.2.2.2]; exact hR.2) hdg (fun H1 locs1 hP1 _ hS1 => h _ ho H1 locs1 ls (D.P' ?_) hS1 hl)
    rw [wo_set G S M (stA M k1 (va_cpy (M.1 k0) (M.1 k1) sp.toNatClampNeg dp.toNatClampNeg n.toNatClampNeg)) c1.1 c1.2.1 (by rw [c1.2.2]; simp [cel, stA]) (fun j hj => by simp [stA, hj])] at hP1
    exact hP1
end RowsC
/-- where a table goes -/
def tsw (pc : Nat) (dflt lo hi : Int) (offs : Array Int) (x : Int32) : Int := (pc : Int) + (if x.toInt < lo ∨ hi < x.toInt then dflt else offs.getD (x.toInt - lo).toNat 0)
theorem tsw_d {pc : Nat} {dflt lo hi : Int} {offs : Array Int} {x : Int32} (cs : List Int) (hs : hi - lo + 1 ≤ offs.size) (hall : ∀ i, i < offs.size → (lo + (i : Int) ∈ cs ∨ offs.getD i 0 = dflt)) (hx : x.toInt ∉ cs) : tsw pc dflt lo hi offs x = (pc : Int) + dflt := by
  unfold tsw
  by_cases h : x.toInt < lo ∨ hi < x.toInt
  · rw [if_pos h]
  · rw [if_neg h]
    have h1 : lo ≤ x.toInt := Int.not_lt.mp fun q => h (Or.inl q)
    have h2 : x.toInt ≤ hi := Int.not_lt.mp fun q => h (Or.inr q)
    rcases hall (x.toInt - lo).toNat (by omega) with h3 | h3
    · rw [show lo + ((x.toInt - lo).toNat : Int) = x.toInt by omega] at h3
      exact absurd h3 hx
    · rw [h3]
theorem j_tsw {ρ μ : Type} {X : Cx} {V : Vx μ} {z : ρ} {o : Option ρ} {M : μ} {pc : Nat} {lv : List (Nat × Value)} {st : List Value} {cc : ByteArray} {Ts : List Cond} {own : String} {rt : Option FieldType} {rm : Room} (F : Ok X V cc Ts own rt rm) {dflt lo hi : Int} {offs : Array Int} {len : Nat} {x : Int32} (hdg : decode cc pc = .ok (.tableswitch dflt lo hi offs, len)) (hs : hi - lo + 1 ≤ offs.size) (tgt : Nat) (ht : tsw pc dflt lo hi offs x = tgt) (k : Jg X V z o M tgt lv st) : Jg X V z o M pc lv (.int x :: st) := by
  intro ho H locs ls hP hS hl
  unfold tsw at ht
  by_cases h : x.toInt < lo ∨ hi < x.toInt
  · rw [if_pos h] at ht
    exact lv_tableOut F.1.1 F.1.2.1 hdg h ht (k ho H locs ls hP hS hl)
  · rw [if_neg h] at ht
    have h1 : ¬ x.toInt < lo := fun q => h (Or.inl q)
    have h2 : ¬ hi < x.toInt := fun q => h (Or.inr q)
    have h3 : (x.toInt - lo).toNat < offs.size := by omega
    refine lv_tableIn F.1.1 F.1.2.1 hdg h1 h2 (off := offs.getD (x.toInt - lo).toNat 0) ?_ ht (k ho H locs ls hP hS hl)
    rw [Array.getD_eq_getD_getElem?, Array.getElem?_eq_getElem h3]
    rfl
theorem toInt_ne {x c : Int32} {i : Int} (hc : c.toInt = i) (h : ¬ x = c) : ¬ x.toInt = i := fun q => h (Int32.toInt_inj.mp (q.trans hc.symm))
theorem j_letM {ρ μ : Type} {X : Cx} {V : Vx μ} {z : ρ} {pc : Nat} {lv : List (Nat × Value)} {st : List Value} {a : μ} {k : μ → Option ρ} (h : ∀ x : μ, Jg X V z (k x) x pc lv st) : Jg X V z (lt a k) a pc lv st := h a
theorem j_jn {ρ μ α : Type} {X : Cx} {V : Vx μ} {z : ρ} {M : μ} {pc : Nat} {lv : List (Nat × Value)} {st : List Value} {K : α} {b : α → Option ρ} {P : α → Prop} (h1 : P K) (h2 : ∀ K, P K → Jg X V z (b K) M pc lv st) : Jg X V z (jn K b) M pc lv st := h2 K h1
def ush (x y : Int32) : Int32 := (x.toUInt32 >>> (y.toUInt32 &&& Int32.toUInt32 31)).toInt32
