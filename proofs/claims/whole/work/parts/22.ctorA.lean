/-! Constructors: the world is a written list of cells that grows -/
def Kj (X : Cx) (D : va_G) (nL : Nat) (A : Nat → Prop) (Q : State → Prop) (ws : va_W) (cells slots pc : Nat) (lv : List (Nat × Value)) (st : List Value) : Prop :=
  ∀ (H : Heap) (locs : List Loc) (ls : Array Slot), va_P D vwCl ws H → va_D A ws → va_S A (xS X).heap H locs → lv_has ls nL lv →
    W X.1 X.2.1 X.2.2.1 X.2.2.2.1 X.2.2.2.2.1 X.2.2.2.2.2.1 X.2.2.2.2.2.2.1 X.2.2.2.2.2.2.2.1 X.2.2.2.2.2.2.2.2.1 X.2.2.2.2.2.2.2.2.2 H locs cells slots Q (F0 (xM X) pc ls st)
/-- what stands still in a constructor -/
def Ok0 (X : Cx) (D : va_G) (nL : Nat) (A : Nat → Prop) (tys : List (ClassId × FieldType)) (cc : ByteArray) (Ts : List Cond) (own : String) (rm : Room) : Prop :=
  CallFix X.1 (xM X) X.2.2.2.2.2.2.2.2.2 cc nL (xS X) (xA X) Ts own ∧ xR X = rm ∧ va_K D vwCl tys (xS X) ∧ ∀ q, (xS X).heap.size ≤ q → A q
/-- in the constructor itself: its name, its end -/
def OkN (X : Cx) : Prop := X.2.2.2.2.2.2.2.2.1.name = "<init>" ∧ X.2.2.2.2.2.2.2.2.1.sig.returnType = none ∧ X.2.2.2.2.2.2.2.2.1.locks = false
/-- a field that a constructor may write -/
def Ff (Ts : List Cond) (own : String) (index ci j : Nat) (ty : FieldType) : Prop := ∃ (C : String) (T : u_T) (N : Nat) (t0 : Nat → FieldType), vwCl[ci]? = some (C, T, N) ∧ j < N ∧ (∀ w ∈ u_ws C T N, w ∈ Ts) ∧ Cond.fieldLink own index (T j).1 (T j).2.1 (T j).2.2.1 ∈ Ts ∧ (∀ k, k < N → parseFieldDescriptor (T k).2.2.1 = some (t0 k)) ∧ (∀ a, a < N → ∀ b, b < N → a ≠ b → (T a).2.1 ≠ (T b).2.1) ∧ (T j).2.2.2 = true ∧ (T j).1 = own ∧ t0 j = ty
section RowsK
variable {X : Cx} {D : va_G} {nL : Nat} {A : Nat → Prop} {tys : List (ClassId × FieldType)} {Q : State → Prop} {ws ws' : va_W} {cells slots pc : Nat} {lv : List (Nat × Value)} {st : List Value} {cc : ByteArray} {Ts : List Cond} {own : String} {rm : Room}
theorem k_widen {k n : Nat} (h1 : cells ≤ k) (h2 : slots ≤ n) (h : Kj X D nL A Q ws k n pc lv st) : Kj X D nL A Q ws cells slots pc lv st :=
  fun H locs ls hP hD hS hl => W.widen h1 h2 (h H locs ls hP hD hS hl)
theorem k_ws (e : ws = ws') (h : Kj X D nL A Q ws' cells slots pc lv st) : Kj X D nL A Q ws cells slots pc lv st := e ▸ h
theorem k_iconst (F : Ok0 X D nL A tys cc Ts own rm) {n : Int} {v : Int32} (hdg : decode cc pc = .ok (.iconst n, 1)) (hv : Int32.ofInt n = v) (k : Kj X D nL A Q ws cells slots (pc + 1) lv (.int v :: st)) : Kj X D nL A Q ws cells slots pc lv st :=
  fun H locs ls hP hD hS hl => lv_iconst F.1.1 F.1.2.1 hdg hv (k H locs ls hP hD hS hl)
theorem k_bipush (F : Ok0 X D nL A tys cc Ts own rm) {n : Int} {v : Int32} (hdg : decode cc pc = .ok (.bipush n, 2)) (hv : (Int8.ofInt n).toInt32 = v) (k : Kj X D nL A Q ws cells slots (pc + 2) lv (.int v :: st)) : Kj X D nL A Q ws cells slots pc lv st :=
  fun H locs ls hP hD hS hl => lv_bipush F.1.1 F.1.2.1 hdg hv (k H locs ls hP hD hS hl)
theorem k_sipush (F : Ok0 X D nL A tys cc Ts own rm) {n : Int} {v : Int32} (hdg : decode cc pc = .ok (.sipush n, 3)) (hv : (Int16.ofInt n).toInt32 = v) (k : Kj X D nL A Q ws cells slots (pc + 3) lv (.int v :: st)) : Kj X D nL A Q ws cells slots pc lv st :=
  fun H locs ls hP hD hS hl => lv_sipush F.1.1 F.1.2.1 hdg hv (k H locs ls hP hD hS hl)
theorem k_aload_n (F : Ok0 X D nL A tys cc Ts own rm) {k : Fin 4} {i x : Nat} (hdg : decode cc pc = .ok (.aload_n k, 1)) (hi : (k : Nat) = i) (n : Nat) (hn : lv[n]? = some (i, .ref x)) (kk : Kj X D nL A Q ws cells slots (pc + 1) lv (.ref x :: st)) : Kj X D nL A Q ws cells slots pc lv st :=
  fun H locs ls hP hD hS hl => lv_aload_n F.1.1 F.1.2.1 hdg hi (lv_at hl n hn) (kk H locs ls hP hD hS hl)
theorem k_iload_n (F : Ok0 X D nL A tys cc Ts own rm) {k : Fin 4} {i : Nat} {x : Int32} (hdg : decode cc pc = .ok (.iload_n k, 1)) (hi : (k : Nat) = i) (n : Nat) (hn : lv[n]? = some (i, .int x)) (kk : Kj X D nL A Q ws cells slots (pc + 1) lv (.int x :: st)) : Kj X D nL A Q ws cells slots pc lv st :=
  fun H locs ls hP hD hS hl => lv_iload_n F.1.1 F.1.2.1 hdg hi (lv_at hl n hn) (kk H locs ls hP hD hS hl)
theorem k_istore_n (F : Ok0 X D nL A tys cc Ts own rm) {k : Fin 4} {i : Nat} {x : Int32} {lv' : List (Nat × Value)} (hdg : decode cc pc = .ok (.istore_n k, 1)) (hi : (k : Nat) = i) (hn : i < nL) (hl' : (i, Value.int x) :: lv.filter (fun q => !(q.1 == i) && !(q.1 + 1 == i && q.2.category == 2)) = lv') (kk : Kj X D nL A Q ws cells slots (pc + 1) lv' st) : Kj X D nL A Q ws cells slots pc lv (.int x :: st) :=
  fun H locs ls hP hD hS hl => lv_istore_n F.1.1 F.1.2.1 hdg hi hl hn hl' (fun ls hl => kk H locs ls hP hD hS hl)
theorem k_astore_n (F : Ok0 X D nL A tys cc Ts own rm) {k : Fin 4} {i : Nat} {x : Nat} {lv' : List (Nat × Value)} (hdg : decode cc pc = .ok (.astore_n k, 1)) (hi : (k : Nat) = i) (hn : i < nL) (hl' : (i, Value.ref x) :: lv.filter (fun q => !(q.1 == i) && !(q.1 + 1 == i && q.2.category == 2)) = lv') (kk : Kj X D nL A Q ws cells slots (pc + 1) lv' st) : Kj X D nL A Q ws cells slots pc lv (.ref x :: st) :=
  fun H locs ls hP hD hS hl => lv_astore_n F.1.1 F.1.2.1 hdg hi hl hn hl' (fun ls hl => kk H locs ls hP hD hS hl)
theorem k_iinc (F : Ok0 X D nL A tys cc Ts own rm) {i : Nat} {n : Int} {x v : Int32} {lv' : List (Nat × Value)} (hdg : decode cc pc = .ok (.iinc i n, 3)) (k : Nat) (hk : lv[k]? = some (i, .int x)) (hv : x + Int32.ofInt n = v) (hn : i < nL) (hl' : (i, Value.int v) :: lv.filter (fun q => !(q.1 == i) && !(q.1 + 1 == i && q.2.category == 2)) = lv') (kk : Kj X D nL A Q ws cells slots (pc + 3) lv' st) : Kj X D nL A Q ws cells slots pc lv st :=
  fun H locs ls hP hD hS hl => lv_iinc F.1.1 F.1.2.1 hdg hl hk hv hn hl' (fun ls hl => kk H locs ls hP hD hS hl)
theorem k_goto (F : Ok0 X D nL A tys cc Ts own rm) {off : Int} {tgt : Nat} (hdg : decode cc pc = .ok (.goto off, 3)) (ht : (pc : Int) + off = (tgt : Int)) (k : Kj X D nL A Q ws cells slots tgt lv st) : Kj X D nL A Q ws cells slots pc lv st :=
  fun H locs ls hP hD hS hl => lv_goto F.1.1 F.1.2.1 hdg ht (k H locs ls hP hD hS hl)
theorem k_geT (F : Ok0 X D nL A tys cc Ts own rm) {x y : Int32} {off : Int} {tgt : Nat} (hc : y ≤ x) (hdg : decode cc pc = .ok (.if_icmp .ge off, 3)) (ht : (pc : Int) + off = (tgt : Int)) (k : Kj X D nL A Q ws cells slots tgt lv st) : Kj X D nL A Q ws cells slots pc lv (.int y :: .int x :: st) :=
  fun H locs ls hP hD hS hl => lv_icmp_ge F.1.1 F.1.2.1 hdg ht (fun _ => k H locs ls hP hD hS hl) (fun h => absurd hc h)
theorem k_geF (F : Ok0 X D nL A tys cc Ts own rm) {x y : Int32} {off : Int} (tgt : Nat) (hc : ¬ y ≤ x) (hdg : decode cc pc = .ok (.if_icmp .ge off, 3)) (ht : (pc : Int) + off = (tgt : Int)) (k : Kj X D nL A Q ws cells slots (pc + 3) lv st) : Kj X D nL A Q ws cells slots pc lv (.int y :: .int x :: st) :=
  fun H locs ls hP hD hS hl => lv_icmp_ge F.1.1 F.1.2.1 hdg ht (fun h => absurd h hc) (fun _ => k H locs ls hP hD hS hl)
theorem k_dup (F : Ok0 X D nL A tys cc Ts own rm) {a : Value} (ha : a.category = 1) (hdg : decode cc pc = .ok (.dup, 1)) (k : Kj X D nL A Q ws cells slots (pc + 1) lv (a :: a :: st)) : Kj X D nL A Q ws cells slots pc lv (a :: st) :=
  fun H locs ls hP hD hS hl => lv_dup F.1.1 F.1.2.1 hdg ha (k H locs ls hP hD hS hl)
theorem k_objInit (F : Ok0 X D nL A tys cc Ts own rm) {a index : Nat} (m1 : Cond.methodLink own index Lib.objectInit ∈ Ts) (m2 : Cond.instanceMethod Lib.objectInit ∈ Ts) (m3 : Cond.code Lib.objectInit ⟨#[0xb1]⟩ 1 none ∈ Ts) (hR : 1 ≤ rm.frames ∧ (st.map fun v => v.category).sum + 12 ≤ rm.locals) (hdg : decode cc pc = .ok (.invokespecial index, 3)) (k : Kj X D nL A Q ws cells slots (pc + 3) lv st) : Kj X D nL A Q ws cells slots pc lv (.ref a :: st) :=
  fun H locs ls hP hD hS hl => W.objInit F.1.1 F.1.2.1 F.1.2.2.2.1 (F.1.2.2.2.2 _ m1) (F.1.2.2.2.2 _ m2) (F.1.2.2.2.2 _ m3) rfl (by rw [F.1.2.2.1]; exact hl.1) rfl hdg (by rw [show X.2.2.2.1 = rm from F.2.1]; exact hR.1) (by rw [show X.2.2.2.1 = rm from F.2.1]; show 2 * 0 + _ + 12 ≤ _; rw [Nat.mul_zero, Nat.zero_add]; exact hR.2) (k H locs ls hP hD hS hl)
theorem kInt {tys : List (ClassId × FieldType)} {c1 c2 : ClassId} {U : State} (h1 : va_K D vwCl tys U) {i j : Nat} (e1 : tys[i]? = some (c1, .int)) (e2 : tys[j]? = some (c2, .int)) : c1 = c2 := by
  have a := (h1.2 i _ e1).2
  have b := (h1.2 j _ e2).2
  exact Option.some.inj (Eq.trans (Eq.symm a) b)
theorem k_newa (F : Ok0 X D nL A tys cc Ts own rm) {cI : ClassId} (h0 : tys[0]? = some (cI, .int)) (hm : Cond.arrayClass .int ∈ Ts) {n : Int32} {N : Nat} (hn : ¬ n < 0) (hN : n.toNatClampNeg = N) (hB : N ≤ 1000) (hR : cells + 1 ≤ rm.cells ∧ slots + N ≤ rm.slots) (hdg : decode cc pc = .ok (.newarray .int, 2)) (k : ∀ q, Kj X D nL A Q (ws ++ [(q, .inl (cI, N, .inl (fun _ => 0)))]) (cells + 1) (slots + N) (pc + 2) lv (.ref q :: st)) : Kj X D nL A Q ws cells slots pc lv (.int n :: st) := by
  intro H locs ls hP hD hS hl
  refine va_newa (atype := .int) (ty := .int) (a0 := (N, .inl (fun _ => 0))) F.1.1 F.1.2.1 (F.1.2.2.2.2 _ hm) rfl F.2.2.1 hP hD hS F.2.2.2 (fun cA => rfl) hn hN (by show N * 4 ≤ 536870912; omega) (by rw [show X.2.2.2.1 = rm from F.2.1]; exact hR.1) (by rw [show X.2.2.2.1 = rm from F.2.1]; exact hR.2) hdg (fun q cA H1 hK1 hP1 hD1 hS1 => ?_)
  have hz : 0 < tys.length := (List.getElem?_eq_some_iff.mp h0).1
  have e : cA = cI := kInt hK1 (i := tys.length) (j := 0) (by simp) (by rw [List.getElem?_append_left hz]; exact h0)
  subst e
  exact k q H1 locs ls hP1 hD1 hS1 hl
theorem k_new (F : Ok0 X D nL A tys cc Ts own rm) {C : String} {T : u_T} {N ci index : Nat} (hc : vwCl[ci]? = some (C, T, N)) (ty : Nat → FieldType) (hty : ∀ k, k < N → parseFieldDescriptor (T k).2.2.1 = some (ty k)) (hin : ∀ w ∈ u_ws C T N, w ∈ Ts) (m1 : Cond.classLink own index C ∈ Ts) (m2 : Cond.instantiable C N ∈ Ts) (m3 : Cond.initialized C ∈ Ts) {fs : List Value} (hfs : ∀ j, j < N → defaultValue (ty j) = vp_V fs j) (hR : cells + 1 ≤ rm.cells ∧ slots + N ≤ rm.slots) (hdg : decode cc pc = .ok (.new index, 3)) (k : ∀ q, Kj X D nL A Q (ws ++ [(q, .inr (ci, fs))]) (cells + 1) (slots + N) (pc + 3) lv (.ref q :: st)) : Kj X D nL A Q ws cells slots pc lv st := by
  intro H locs ls hP hD hS hl
  exact va_new F.1.1 F.1.2.1 F.1.2.2.2.2 hin ty hty F.1.2.2.2.1 (F.1.2.2.2.2 _ m1) (F.1.2.2.2.2 _ m2) (F.1.2.2.2.2 _ m3) F.2.2.1 hP hD hS F.2.2.2 hc hfs (by rw [show X.2.2.2.1 = rm from F.2.1]; exact hR.1) (by rw [show X.2.2.2.1 = rm from F.2.1]; exact hR.2) hdg (fun q H1 hP1 hD1 hS1 => k q H1 locs ls hP1 hD1 hS1 hl)
theorem k_putF (F : Ok0 X D nL A tys cc Ts own rm) (hN : OkN X) {a ci index j q0 : Nat} {ty : FieldType} {fs : List Value} {v : Value} (L : Ff Ts own index ci j ty) (he : ws[q0]? = some (a, .inr (ci, fs))) (hn : narrow ty v = v) (hfit : fits ty v = true) (hlen : j < fs.length) (hdg : decode cc pc = .ok (.putfield index, 3)) (hw : ws.set q0 (a, .inr (ci, fs.set j v)) = ws') (k : Kj X D nL A Q ws' cells slots (pc + 3) lv st) : Kj X D nL A Q ws cells slots pc lv (v :: .ref a :: st) := by
  intro H locs ls hP hD hS hl
  obtain ⟨C, T, N, t0, hc, hj, hin, hm, ht, hnm, hfin, hdc, hty⟩ := L
  subst hw
  exact va_putF F.1.1 F.1.2.1 F.1.2.2.2.2 hin t0 ht hnm F.1.2.2.2.1 F.2.2.1 hP hD hS q0 he hc j hj (F.1.2.2.2.2 _ hm) (fun _ h => h) hfin hN.1 hdc (ht j hj) (by rw [hty]; exact hn) (by rw [hty]; exact hfit) hlen hdg (fun H1 locs1 hP1 hD1 hS1 => k H1 locs1 ls hP1 hD1 hS1 hl)
theorem k_put (F : Ok0 X D nL A tys cc Ts own rm) {a ci index j q0 : Nat} {ty : FieldType} {fs : List Value} {v : Value} (L : Fp Ts own index ci j ty) (he : ws[q0]? = some (a, .inr (ci, fs))) (hn : narrow ty v = v) (hfit : fits ty v = true) (hlen : j < fs.length) (hdg : decode cc pc = .ok (.putfield index, 3)) (hw : ws.set q0 (a, .inr (ci, fs.set j v)) = ws') (k : Kj X D nL A Q ws' cells slots (pc + 3) lv st) : Kj X D nL A Q ws cells slots pc lv (v :: .ref a :: st) := by
  intro H locs ls hP hD hS hl
  obtain ⟨C, T, N, t0, hc, hj, hin, hm, ht, hnm, hfin, hty⟩ := L
  subst hw
  exact va_put F.1.1 F.1.2.1 F.1.2.2.2.2 hin t0 ht hnm F.1.2.2.2.1 F.2.2.1 hP hD hS q0 he hc j hj (F.1.2.2.2.2 _ hm) (fun _ h => h) hfin (ht j hj) (by rw [hty]; exact hn) (by rw [hty]; exact hfit) hlen hdg (fun H1 locs1 hP1 hD1 hS1 => k H1 locs1 ls hP1 hD1 hS1 hl)
theorem k_get (F : Ok0 X D nL A tys cc Ts own rm) {a ci index j q0 : Nat} {fs : List Value} {v : Value} (L : Fl Ts own index ci j) (he : ws[q0]? = some (a, .inr (ci, fs))) (hv : fs[j]? = some v) (hdg : decode cc pc = .ok (.getfield index, 3)) (k : Kj X D nL A Q ws cells slots (pc + 3) lv (v :: st)) : Kj X D nL A Q ws cells slots pc lv (.ref a :: st) := by
  intro H locs ls hP hD hS hl
  obtain ⟨C, T, N, hc, hj, hin, hm⟩ := L
  exact va_get F.1.1 F.1.2.1 F.1.2.2.2.2 hin F.1.2.2.2.1 F.2.2.1 hP q0 he hc j hj (F.1.2.2.2.2 _ hm) (fun _ h => h) hv hdg (k H locs ls hP hD hS hl)
theorem k_iast (F : Ok0 X D nL A tys cc Ts own rm) {cI : ClassId} (h0 : tys[0]? = some (cI, .int)) {a n q0 : Nat} {f : Nat → Int32} (he : ws[q0]? = some (a, .inl (cI, n, .inl f))) {i x : Int32} {j : Nat} (hin : vp_in i n) (hj : i.toNatClampNeg = j) (hdg : decode cc pc = .ok (.iastore, 1)) (hw : ws.set q0 (a, .inl (cI, n, .inl (upd f j x))) = ws') (k : Kj X D nL A Q ws' cells slots (pc + 1) lv st) : Kj X D nL A Q ws cells slots pc lv (.int x :: .int i :: .ref a :: st) := by
  intro H locs ls hP hD hS hl
  subst hj; subst hw
  exact va_iast F.1.1 F.1.2.1 F.2.2.1 hP hD hS q0 0 he h0 hin hdg (fun H1 locs1 hP1 hD1 hS1 => k H1 locs1 ls hP1 hD1 hS1 hl)
/-- a constructor's contract: from the cells w0 to the cells wN u, for some u -/
def CK (l : Launch) (D : va_G) (tys : List (ClassId × FieldType)) (Ex : State → Prop) (y : MethodName) (wd : List Cond) (rm : Room) (av : List Value) (w0 : va_W) (σ : Type) (wN : σ → va_W) (Ep : σ → State → Prop) (mc ms : Nat) : Prop :=
  ∀ sz : Nat, Met l y wd rm (va_Pc av (fun U => U.heap.size = sz ∧ va_P D vwCl w0 U.heap ∧ va_K D vwCl tys U ∧ va_D (fun _ => True) w0 ∧ Ex U)) (va_Qv (fun _ : σ => True) (fun u t => va_P D vwCl (wN u) t.heap ∧ va_D (va_A w0 sz) (wN u) ∧ Ep u t) (va_A w0 sz)) mc ms (va_A w0 sz)
def EndK (X : Cx) (D : va_G) (A : Nat → Prop) (Q : State → Prop) (σ : Type) (wN : σ → va_W) (Ep : σ → State → Prop) (mc ms : Nat) : Prop := Q = MQ (xB X) (va_Qv (fun _ : σ => True) (fun u t => va_P D vwCl (wN u) t.heap ∧ va_D A (wN u) ∧ Ep u t) A) (xA X) (xS X) mc ms A
theorem CK.intro {l : Launch} {D : va_G} {tys : List (ClassId × FieldType)} {Ex : State → Prop} {y : MethodName} {wd : List Cond} {rm : Room} {av : List Value} {w0 : va_W} {σ : Type} {wN : σ → va_W} {Ep : σ → State → Prop} {mc ms : Nat} {cc : ByteArray} {maxL n : Nat} (own : String) (hown : y.cls = own) (hy : plainName y.cls = true) (hk : Kc y cc maxL none wd n) (hlen : (lg_sl av).length ≤ maxL) {lv : List (Nat × Value)} (hlv : lv_args 0 av = lv)
    (body : ∀ (X : Cx) (A : Nat → Prop) (Q : State → Prop), Ok0 X D maxL A tys cc wd own rm → (X.2.2.2.2.2.2.2.2.1.name = y.name ∧ X.2.2.2.2.2.2.2.2.1.sig.returnType = none ∧ X.2.2.2.2.2.2.2.2.1.locks = false) → X.2.1 = l → Ex (xS X) → EndK X D A Q σ wN Ep mc ms → Kj X D maxL A Q w0 0 0 0 lv []) : CK l D tys Ex y wd rm av w0 σ wN Ep mc ms := by
  intro sz
  obtain ⟨⟨ws', hw⟩, -⟩ := hk
  refine Met.ofW (cc := cc) (maxL := maxL) (ret := none) hy hw ?_
  intro p e s m args below meth c s₁ B hml hv
  obtain ⟨rfl, hsz, hP, hK, hD0, hE⟩ := hv
  subst hsz
  have hl := lv_entry av (n := maxL) hlen
  rw [lg_entry_eq]
  generalize (lg_sl av ++ List.replicate (maxL - (lg_sl av).length) Slot.unset).toArray = ls at hl ⊢
  rw [hlv] at hl
  have hD := hD0.self (sz := s.heap.size)
  exact body (p, l, e, (headSpec wd rm).room, s, m, av.toArray, below, meth, c) (va_A w0 s.heap.size) _ ⟨⟨B.exec, B.bytes, hml, by rw [← hown]; exact findClass_of_methodNamed B.named, atoms_spec (ws := wd) B.pre⟩, rfl, hK, fun q h => Or.inr h⟩ ⟨(name_of_methodNamed B.named B.method).1, B.returns, B.notSynchronized⟩ rfl hE rfl s.heap [] ls hP hD va_S.rf hl
theorem k_vret {σ : Type} {wN : σ → va_W} {Ep : σ → State → Prop} {mc ms : Nat} (F : Ok0 X D nL A tys cc Ts own rm) (hN : X.2.2.2.2.2.2.2.2.1.sig.returnType = none ∧ X.2.2.2.2.2.2.2.2.1.locks = false) (E : EndK X D A Q σ wN Ep mc ms) (u : σ) (hw : ws = wN u) (hEp : ∀ t : State, (xS X).WarmedH t.vm → Ep u t) (hdg : decode cc pc = .ok (.return_, 1)) : Kj X D nL A Q ws mc ms pc lv [] := by
  intro H locs ls hP hD hS hl
  subst hw
  rw [E]
  exact W.vret F.1.1 F.1.2.1 hN.1 (fun t ht hW => ⟨⟨u, rfl, trivial, by rw [ht]; exact hP, hD, hEp t hW⟩, hS.F ht⟩) hS.2.2 hdg hN.2
theorem k_callI (F : Ok0 X D nL A tys cc Ts own rm) {l : Launch} (hl : X.2.1 = l) {Ex : State → Prop} {y : MethodName} {wd : List Cond} {rmc : Room} {a : Nat} {As : List Value} {w0 wr : va_W} {σ : Type} {wN : σ → va_W} {Ep : σ → State → Prop} {mc ms : Nat} (C : CK l D tys Ex y wd rmc (.ref a :: As) w0 σ wN Ep mc ms) (hblind : ∀ (U : State) (g : JFrame) (mk : MethodId) (v : Array Value), Ex U → Ex (U.calling g mk v)) (hEx : ∀ U : State, (xS X).WarmedH U.vm → Ex U) {Es : σ → Prop} (hEp : ∀ u t, (xS X).vm.Alike t.vm → Ep u t → Es u) (isC isR : List Nat) (hC : isC.map (fun i => ws[i]?) = w0.map some) (hC' : isC.filterMap (fun i => ws[i]?) = w0) (hnd : va_nd isC = true) (hR : isR.map (fun i => ws[i]?) = wr.map some) (hn' : va_nd isR = true) (hdis : ∀ i ∈ isR, i ∉ isC) {bytes : ByteArray} {maxL n index : Nat} (K : Kc y bytes maxL none wd n) (hname : y.name = "<init>") (hT : GoodIn Ts wd) (m1 : Cond.initialized y.cls ∈ Ts) (m2 : Cond.methodLink own index y ∈ Ts) (m3 : Cond.instanceMethod y ∈ Ts) (hc0 : rmc.cells = mc ∧ rmc.slots = ms) (hRm : rmc.frames + 1 ≤ rm.frames ∧ 8 + (maxL + 11) + rmc.locals ≤ rm.locals) (hn : As.length = n) (hst : (st.map fun v => v.category).sum ≤ 8) {st0 : List Value} (hs : st0 = As.reverse ++ .ref a :: st) (hdg : decode cc pc = .ok (.invokespecial index, 3)) (hroom : cells + mc ≤ rm.cells ∧ slots + ms ≤ rm.slots)
    (kk : ∀ u : σ, Es u → Kj X D nL A Q (wr ++ wN u) (cells + mc) (slots + ms) (pc + 3) lv st) : Kj X D nL A Q ws cells slots pc lv st0 := by
  intro H locs ls hP hD hS hll
  subst hl
  obtain ⟨⟨ws9, hw⟩, hd⟩ := K
  have hPc := hP.sub (ws' := w0) isC hC'
  have hDc := hD.sub (ws' := w0) isC hnd hC
  have hF := va_free (wc := w0) hD hS F.2.2.2 isC hC
  refine va_callv (va_runI (As := As) (rest := st) F.1 (C H.size) (cwI n F.1.2.2.2.2 hT hw hc0.1 hc0.2 (F.1.2.2.2.2 _ m1) (F.1.2.2.2.2 _ m2) (F.1.2.2.2.2 _ m3) hname hd (by rw [show X.2.2.2.1 = rm from F.2.1]; exact hRm)) ⟨fun a' U g mk q => ?_, fun U hU hW => ⟨rfl, by rw [hU], by rw [hU]; exact hPc, va_K.moved hW.alike F.2.2.1, hDc.weaken (fun _ _ _ _ => trivial), hEx U hW⟩⟩ rfl hn hll.1 hs (lv_room hst) hdg (by rw [show X.2.2.2.1 = rm from F.2.1]; exact hroom)) hS (fun q _ h => hF q h) hF (fun u t H1 locs1 ht hvm _ hB hz hk1 hS1 => ?_)
  · obtain ⟨q0, q1, qP, qK, qD, qE⟩ := q
    exact ⟨q0, q1, qP, va_K.moved (u := U) (U := U.calling g mk a') (Vm.Alike.refl U.vm) qK, qD, hblind U g mk a' qE⟩
  · obtain ⟨hP1, hD1, hE⟩ := hB
    rw [ht] at hP1
    obtain ⟨hP2, hD2⟩ := va_join (wr := wr) (w1 := wN u) hP hD isC isR hC hR hn' hdis hk1 hF hP1 hD1
    exact kk u (hEp u t hvm hE) H1 locs1 ls hP2 hD2 hS1 hll
/-- a call of a static method on cells of the world -/
theorem k_callS (F : Ok0 X D nL A tys cc Ts own rm) {l : Launch} (hl : X.2.1 = l) {y : MethodName} {wd : List Cond} {rmc : Room} {As : List Value} {w0 wr : va_W} {σ : Type} {wN : σ → va_W} {Ep : σ → State → Prop} (C : CK l D tys (fun _ => True) y wd rmc As w0 σ wN Ep 0 0) (isC isR : List Nat) (hC : isC.map (fun i => ws[i]?) = w0.map some) (hC' : isC.filterMap (fun i => ws[i]?) = w0) (hnd : va_nd isC = true) (hR : isR.map (fun i => ws[i]?) = wr.map some) (hn' : va_nd isR = true) (hdis : ∀ i ∈ isR, i ∉ isC) {bytes : ByteArray} {maxL n index : Nat} (K : Kc y bytes maxL none wd n) (hT : GoodIn Ts (va_wsS own index y wd)) (hc0 : rmc.cells = 0 ∧ rmc.slots = 0) (hRm : rmc.frames + 1 ≤ rm.frames ∧ 8 + (maxL + 11) + rmc.locals ≤ rm.locals) (hn : As.length = n) (hst : (st.map fun v => v.category).sum ≤ 8) {st0 : List Value} (hs : st0 = As.reverse ++ st) (hdg : decode cc pc = .ok (.invokestatic index, 3)) (hroom : cells ≤ rm.cells ∧ slots ≤ rm.slots)
    (kk : ∀ u : σ, Kj X D nL A Q (wr ++ wN u) cells slots (pc + 3) lv st) : Kj X D nL A Q ws cells slots pc lv st0 := by
  intro H locs ls hP hD hS hll
  subst hl
  obtain ⟨⟨ws9, hw⟩, hd⟩ := K
  have hPc := hP.sub (ws' := w0) isC hC'
  have hDc := hD.sub (ws' := w0) isC hnd hC
  have hF := va_free (wc := w0) hD hS F.2.2.2 isC hC
  refine va_callv (va_runS (As := As) (rest := st) F.1 (C H.size) (va_cwS (ret := none) n F.1.2.2.2.2 hT hw hc0.1 hc0.2 hd (by rw [show X.2.2.2.1 = rm from F.2.1]; exact hRm)) ⟨fun a' U g mk q => ?_, fun U hU hW => ⟨rfl, by rw [hU], by rw [hU]; exact hPc, va_K.moved hW.alike F.2.2.1, hDc.weaken (fun _ _ _ _ => trivial), trivial⟩⟩ rfl hn hll.1 hs (lv_room hst) hdg (by rw [show X.2.2.2.1 = rm from F.2.1]; exact hroom)) hS (fun q _ h => hF q h) hF (fun u t H1 locs1 ht hvm _ hB hz hk1 hS1 => ?_)
  · obtain ⟨q0, q1, qP, qK, qD, qE⟩ := q
    exact ⟨q0, q1, qP, va_K.moved (u := U) (U := U.calling g mk a') (Vm.Alike.refl U.vm) qK, qD, trivial⟩
  · obtain ⟨hP1, hD1, hE⟩ := hB
    rw [ht] at hP1
    obtain ⟨hP2, hD2⟩ := va_join (wr := wr) (w1 := wN u) hP hD isC isR hC hR hn' hdis hk1 hF hP1 hD1
    exact kk u H1 locs1 ls hP2 hD2 hS1 hll
/-- an array of references is made -/
theorem k_newq (F : Ok0 X D nL A tys cc Ts own rm) {C : String} {index : Nat} (m1 : Cond.classLink own index C ∈ Ts) (hover : va_AO C (xS X)) {n : Int32} {N : Nat} (hn : ¬ n < 0) (hN : n.toNatClampNeg = N) (hB : N ≤ 1000) (hR : cells + 1 ≤ rm.cells ∧ slots + N ≤ rm.slots) (hdg : decode cc pc = .ok (.anewarray index, 3)) (k : ∀ q cA, va_K D vwCl (tys ++ [(cA, .object C)]) (xS X) → Kj X D nL A Q (ws ++ [(q, .inl (cA, N, .inr (.inr (.inr (.inr (fun _ => none))))))]) (cells + 1) (slots + N) (pc + 3) lv (.ref q :: st)) : Kj X D nL A Q ws cells slots pc lv (.int n :: st) := by
  intro H locs ls hP hD hS hl
  exact va_newq F.1.1 F.1.2.1 F.1.2.2.2.1 (F.1.2.2.2.2 _ m1) hover F.2.2.1 hP hD hS F.2.2.2 hn hN (by omega) (by rw [show X.2.2.2.1 = rm from F.2.1]; exact hR.1) (by rw [show X.2.2.2.1 = rm from F.2.1]; exact hR.2) hdg (fun q cA H1 hK1 hP1 hD1 hS1 => k q cA hK1 H1 locs ls hP1 hD1 hS1 hl)
theorem k_astq (F : Ok0 X D nL A tys cc Ts own rm) {a v n q0 t0 qk ci : Nat} {cA : ClassId} {r : vw_C} {vs : List Value} {f : Nat → Option Nat} (he : ws[q0]? = some (a, .inl (cA, n, .inr (.inr (.inr (.inr f)))))) (ht : tys[t0]? = some (cA, .object r.1)) (hv : ws[qk]? = some (v, .inr (ci, vs))) (hc : vwCl[ci]? = some r) {i : Int32} {j : Nat} (hin : vp_in i n) (hj : i.toNatClampNeg = j) (hdg : decode cc pc = .ok (.aastore, 1)) (hw : ws.set q0 (a, .inl (cA, n, .inr (.inr (.inr (.inr (va_up f j (some v))))))) = ws') (k : Kj X D nL A Q ws' cells slots (pc + 1) lv st) : Kj X D nL A Q ws cells slots pc lv (.ref v :: .int i :: .ref a :: st) := by
  intro H locs ls hP hD hS hl
  subst hj; subst hw
  exact va_astq F.1.1 F.1.2.1 F.2.2.1 hP hD hS q0 t0 qk ci he ht hv hc hin hdg (fun H1 locs1 hP1 hD1 hS1 => k H1 locs1 ls hP1 hD1 hS1 hl)
theorem arrV_ext {cA : ClassId} {n : Nat} {f g : Nat → Value} (h : ∀ j, j < n → f j = g j) : arrV cA n f = arrV cA n g := by
  unfold arrV
  congr 1
  apply Array.ext
  · simp
  · intro i h1 h2
    simp at h1 h2
    simp [h i h1]
/-- a row of ints by its places within -/
theorem k_rowI {a n q0 : Nat} {cI : ClassId} {f g : Nat → Int32} (he : ws[q0]? = some (a, .inl (cI, n, .inl f))) (hfg : ∀ j, j < n → f j = g j) (hw : ws.set q0 (a, .inl (cI, n, .inl g)) = ws') (k : Kj X D nL A Q ws' cells slots pc lv st) : Kj X D nL A Q ws cells slots pc lv st := by
  intro H locs ls hP hD hS hl
  subst hw
  refine k H locs ls (fun j q hq => ?_) (hD.set he) hS hl
  by_cases h : j = q0
  · subst h
    have h9 : j < ws.length := (List.getElem?_eq_some_iff.mp he).1
    rw [List.getElem?_set_self h9] at hq
    cases hq
    have := hP j _ he
    show H[a]? = some (vp_cell _ _)
    rw [vp_cell_i, ← arrV_ext (f := fun j => .int (f j)) (fun j hj => by rw [hfg j hj])]
    exact this
  · rw [List.getElem?_set_ne (fun e => h e.symm)] at hq
    exact hP j q hq
theorem k_rowQ {a n q0 : Nat} {cI : ClassId} {f g : Nat → Option Nat} (he : ws[q0]? = some (a, .inl (cI, n, .inr (.inr (.inr (.inr f)))))) (hfg : ∀ j, j < n → f j = g j) (hw : ws.set q0 (a, .inl (cI, n, .inr (.inr (.inr (.inr g))))) = ws') (k : Kj X D nL A Q ws' cells slots pc lv st) : Kj X D nL A Q ws cells slots pc lv st := by
  intro H locs ls hP hD hS hl
  subst hw
  refine k H locs ls (fun j q hq => ?_) (hD.set he) hS hl
  by_cases h : j = q0
  · subst h
    have h9 : j < ws.length := (List.getElem?_eq_some_iff.mp he).1
    rw [List.getElem?_set_self h9] at hq
    cases hq
    have := hP j _ he
    show H[a]? = some (vp_cell _ _)
    rw [vp_cell_q, ← arrV_ext (f := fun j => va_rf (f j)) (fun j hj => by rw [hfg j hj])]
    exact this
  · rw [List.getElem?_set_ne (fun e => h e.symm)] at hq
    exact hP j q hq
theorem k_alen (F : Ok0 X D nL A tys cc Ts own rm) {cI : ClassId} (h0 : tys[0]? = some (cI, .int)) {a n q0 : Nat} {f : Nat → Int32} (he : ws[q0]? = some (a, .inl (cI, n, .inl f))) {v : Int32} (hv : Int32.ofNat n = v) (hdg : decode cc pc = .ok (.arraylength, 1)) (k : Kj X D nL A Q ws cells slots (pc + 1) lv (.int v :: st)) : Kj X D nL A Q ws cells slots pc lv (.ref a :: st) := by
  intro H locs ls hP hD hS hl
  exact va_alen F.1.1 F.1.2.1 F.2.2.1 hP q0 0 he h0 hv hdg (k H locs ls hP hD hS hl)
theorem k_sub (ks : List Nat) {lv' : List (Nat × Value)} (h : lv_pick lv ks = lv') (k : Kj X D nL A Q ws cells slots pc lv' st) : Kj X D nL A Q ws cells slots pc lv st :=
  fun H locs ls hP hD hS hl => k H locs ls hP hD hS (lv_sub hl ks h)
end RowsK
