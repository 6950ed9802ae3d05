/-! The rows of the layer: an instruction a row -/
section RowsA
variable {ρ μ : Type} {X : Cx} {V : Vx μ} {z : ρ} {o : Option ρ} {M : μ} {pc : Nat} {lv : List (Nat × Value)} {st : List Value} {cc : ByteArray} {Ts : List Cond} {own : String} {rt : Option FieldType} {rm : Room}
theorem j_none : Jg X V z (none : Option ρ) M pc lv st := fun h => by cases h
theorem j_sub (ks : List Nat) {lv' : List (Nat × Value)} (h : lv_pick lv ks = lv') (k : Jg X V z o M pc lv' st) : Jg X V z o M pc lv st :=
  fun ho H locs ls hP hS hl => k ho H locs ls hP hS (lv_sub hl ks h)
theorem j_let {α : Type} {a : α} {k : α → Option ρ} {f : α → Value} (h : ∀ x : α, Jg X V z (k x) M pc lv (f x :: st)) : Jg X V z (lt a k) M pc lv (f a :: st) := h a
theorem j_ite {c : Prop} {dc : Decidable c} {o1 o2 : Option ρ} (h1 : c → Jg X V z o1 M pc lv st) (h2 : ¬ c → Jg X V z o2 M pc lv st) : Jg X V z (@ite _ c dc o1 o2) M pc lv st := by
  by_cases h : c
  · rw [if_pos h]; exact h1 h
  · rw [if_neg h]; exact h2 h
theorem j_iconst (F : Ok X V cc Ts own rt rm) {n : Int} {v : Int32} (hdg : decode cc pc = .ok (.iconst n, 1)) (hv : Int32.ofInt n = v) (k : Jg X V z o M (pc + 1) lv (.int v :: st)) : Jg X V z o M pc lv (st) :=
  fun ho H locs ls hP hS hl => lv_iconst F.1.1 F.1.2.1 hdg hv (k ho H locs ls hP hS hl)
theorem j_bipush (F : Ok X V cc Ts own rt rm) {n : Int} {v : Int32} (hdg : decode cc pc = .ok (.bipush n, 2)) (hv : (Int8.ofInt n).toInt32 = v) (k : Jg X V z o M (pc + 2) lv (.int v :: st)) : Jg X V z o M pc lv (st) :=
  fun ho H locs ls hP hS hl => lv_bipush F.1.1 F.1.2.1 hdg hv (k ho H locs ls hP hS hl)
theorem j_sipush (F : Ok X V cc Ts own rt rm) {n : Int} {v : Int32} (hdg : decode cc pc = .ok (.sipush n, 3)) (hv : (Int16.ofInt n).toInt32 = v) (k : Jg X V z o M (pc + 3) lv (.int v :: st)) : Jg X V z o M pc lv (st) :=
  fun ho H locs ls hP hS hl => lv_sipush F.1.1 F.1.2.1 hdg hv (k ho H locs ls hP hS hl)
theorem j_ldcw (F : Ok X V cc Ts own rt rm) {index : Nat} {v : Int32} (hm : Cond.constant own index v ∈ Ts) (hdg : decode cc pc = .ok (.ldc_w index, 3)) (k : Jg X V z o M (pc + 3) lv (.int v :: st)) : Jg X V z o M pc lv (st) :=
  fun ho H locs ls hP hS hl => lv_ldcw F.1.1 F.1.2.1 F.1.2.2.2.1 (F.1.2.2.2.2 _ hm) hdg (k ho H locs ls hP hS hl)
theorem j_ldc (F : Ok X V cc Ts own rt rm) {index : Nat} {v : Int32} (hm : Cond.constant own index v ∈ Ts) (hdg : decode cc pc = .ok (.ldc index, 2)) (k : Jg X V z o M (pc + 2) lv (.int v :: st)) : Jg X V z o M pc lv (st) :=
  fun ho H locs ls hP hS hl => lv_ldc F.1.1 F.1.2.1 F.1.2.2.2.1 (F.1.2.2.2.2 _ hm) hdg (k ho H locs ls hP hS hl)
theorem j_ldc2 (F : Ok X V cc Ts own rt rm) {index : Nat} {v : Int64} (hm : Cond.constantLong own index v ∈ Ts) (hdg : decode cc pc = .ok (.ldc2_w index, 3)) (k : Jg X V z o M (pc + 3) lv (.long v :: st)) : Jg X V z o M pc lv (st) :=
  fun ho H locs ls hP hS hl => lv_ldc2 F.1.1 F.1.2.1 F.1.2.2.2.1 (F.1.2.2.2.2 _ hm) hdg (k ho H locs ls hP hS hl)
theorem j_iload_n (F : Ok X V cc Ts own rt rm) {k : Fin 4} {i : Nat} {x : Int32} (hdg : decode cc pc = .ok (.iload_n k, 1)) (hi : (k : Nat) = i) (n : Nat) (hn : lv[n]? = some (i, .int x)) (kk : Jg X V z o M (pc + 1) lv (.int x :: st)) : Jg X V z o M pc lv st :=
  fun ho H locs ls hP hS hl => lv_iload_n F.1.1 F.1.2.1 hdg hi (lv_at hl n hn) (kk ho H locs ls hP hS hl)
theorem j_aload_n (F : Ok X V cc Ts own rt rm) {k : Fin 4} {i : Nat} {x : Nat} (hdg : decode cc pc = .ok (.aload_n k, 1)) (hi : (k : Nat) = i) (n : Nat) (hn : lv[n]? = some (i, .ref x)) (kk : Jg X V z o M (pc + 1) lv (.ref x :: st)) : Jg X V z o M pc lv st :=
  fun ho H locs ls hP hS hl => lv_aload_n F.1.1 F.1.2.1 hdg hi (lv_at hl n hn) (kk ho H locs ls hP hS hl)
theorem j_lload_n (F : Ok X V cc Ts own rt rm) {k : Fin 4} {i : Nat} {x : Int64} (hdg : decode cc pc = .ok (.lload_n k, 1)) (hi : (k : Nat) = i) (n : Nat) (hn : lv[n]? = some (i, .long x)) (kk : Jg X V z o M (pc + 1) lv (.long x :: st)) : Jg X V z o M pc lv st :=
  fun ho H locs ls hP hS hl => lv_lload_n F.1.1 F.1.2.1 hdg hi (lv_at hl n hn) (kk ho H locs ls hP hS hl)
theorem j_iload (F : Ok X V cc Ts own rt rm) {i : Nat} {x : Int32} (hdg : decode cc pc = .ok (.iload i, 2)) (n : Nat) (hn : lv[n]? = some (i, .int x)) (kk : Jg X V z o M (pc + 2) lv (.int x :: st)) : Jg X V z o M pc lv st :=
  fun ho H locs ls hP hS hl => lv_iload F.1.1 F.1.2.1 hdg (lv_at hl n hn) (kk ho H locs ls hP hS hl)
theorem j_aload (F : Ok X V cc Ts own rt rm) {i : Nat} {x : Nat} (hdg : decode cc pc = .ok (.aload i, 2)) (n : Nat) (hn : lv[n]? = some (i, .ref x)) (kk : Jg X V z o M (pc + 2) lv (.ref x :: st)) : Jg X V z o M pc lv st :=
  fun ho H locs ls hP hS hl => lv_aload F.1.1 F.1.2.1 hdg (lv_at hl n hn) (kk ho H locs ls hP hS hl)
theorem j_lload (F : Ok X V cc Ts own rt rm) {i : Nat} {x : Int64} (hdg : decode cc pc = .ok (.lload i, 2)) (n : Nat) (hn : lv[n]? = some (i, .long x)) (kk : Jg X V z o M (pc + 2) lv (.long x :: st)) : Jg X V z o M pc lv st :=
  fun ho H locs ls hP hS hl => lv_lload F.1.1 F.1.2.1 hdg (lv_at hl n hn) (kk ho H locs ls hP hS hl)
theorem j_istore_n (F : Ok X V cc Ts own rt rm) {k : Fin 4} {i : Nat} {x : Int32} {lv' : List (Nat × Value)} (hdg : decode cc pc = .ok (.istore_n k, 1)) (hi : (k : Nat) = i) (hn : i < V.2.2.1) (hl' : (i, Value.int x) :: lv.filter (fun q => !(q.1 == i) && !(q.1 + 1 == i && q.2.category == 2)) = lv') (kk : Jg X V z o M (pc + 1) lv' st) : Jg X V z o M pc lv (.int x :: st) :=
  fun ho H locs ls hP hS hl => lv_istore_n F.1.1 F.1.2.1 hdg hi hl hn hl' (fun ls hl => kk ho H locs ls hP hS hl)
theorem j_istore (F : Ok X V cc Ts own rt rm) {i : Nat} {x : Int32} {lv' : List (Nat × Value)} (hdg : decode cc pc = .ok (.istore i, 2)) (hn : i < V.2.2.1) (hl' : (i, Value.int x) :: lv.filter (fun q => !(q.1 == i) && !(q.1 + 1 == i && q.2.category == 2)) = lv') (kk : Jg X V z o M (pc + 2) lv' st) : Jg X V z o M pc lv (.int x :: st) :=
  fun ho H locs ls hP hS hl => lv_istore F.1.1 F.1.2.1 hdg hl hn hl' (fun ls hl => kk ho H locs ls hP hS hl)
theorem j_astore_n (F : Ok X V cc Ts own rt rm) {k : Fin 4} {i : Nat} {x : Nat} {lv' : List (Nat × Value)} (hdg : decode cc pc = .ok (.astore_n k, 1)) (hi : (k : Nat) = i) (hn : i < V.2.2.1) (hl' : (i, Value.ref x) :: lv.filter (fun q => !(q.1 == i) && !(q.1 + 1 == i && q.2.category == 2)) = lv') (kk : Jg X V z o M (pc + 1) lv' st) : Jg X V z o M pc lv (.ref x :: st) :=
  fun ho H locs ls hP hS hl => lv_astore_n F.1.1 F.1.2.1 hdg hi hl hn hl' (fun ls hl => kk ho H locs ls hP hS hl)
theorem j_astore (F : Ok X V cc Ts own rt rm) {i : Nat} {x : Nat} {lv' : List (Nat × Value)} (hdg : decode cc pc = .ok (.astore i, 2)) (hn : i < V.2.2.1) (hl' : (i, Value.ref x) :: lv.filter (fun q => !(q.1 == i) && !(q.1 + 1 == i && q.2.category == 2)) = lv') (kk : Jg X V z o M (pc + 2) lv' st) : Jg X V z o M pc lv (.ref x :: st) :=
  fun ho H locs ls hP hS hl => lv_astore F.1.1 F.1.2.1 hdg hl hn hl' (fun ls hl => kk ho H locs ls hP hS hl)
theorem j_lstore_n (F : Ok X V cc Ts own rt rm) {k : Fin 4} {i : Nat} {x : Int64} {lv' : List (Nat × Value)} (hdg : decode cc pc = .ok (.lstore_n k, 1)) (hi : (k : Nat) = i) (hn : i + 1 < V.2.2.1) (hl' : (i, Value.long x) :: lv.filter (fun q => !(q.1 == i) && (!(q.1 == i + 1) && !(q.1 + 1 == i && q.2.category == 2))) = lv') (kk : Jg X V z o M (pc + 1) lv' st) : Jg X V z o M pc lv (.long x :: st) :=
  fun ho H locs ls hP hS hl => lv_lstore_n F.1.1 F.1.2.1 hdg hi hl hn hl' (fun ls hl => kk ho H locs ls hP hS hl)
theorem j_lstore (F : Ok X V cc Ts own rt rm) {i : Nat} {x : Int64} {lv' : List (Nat × Value)} (hdg : decode cc pc = .ok (.lstore i, 2)) (hn : i + 1 < V.2.2.1) (hl' : (i, Value.long x) :: lv.filter (fun q => !(q.1 == i) && (!(q.1 == i + 1) && !(q.1 + 1 == i && q.2.category == 2))) = lv') (kk : Jg X V z o M (pc + 2) lv' st) : Jg X V z o M pc lv (.long x :: st) :=
  fun ho H locs ls hP hS hl => lv_lstore F.1.1 F.1.2.1 hdg hl hn hl' (fun ls hl => kk ho H locs ls hP hS hl)
theorem j_iinc (F : Ok X V cc Ts own rt rm) {i : Nat} {n : Int} {x v : Int32} {lv' : List (Nat × Value)} (hdg : decode cc pc = .ok (.iinc i n, 3)) (k : Nat) (hk : lv[k]? = some (i, .int x)) (hv : x + Int32.ofInt n = v) (hn : i < V.2.2.1) (hl' : (i, Value.int v) :: lv.filter (fun q => !(q.1 == i) && !(q.1 + 1 == i && q.2.category == 2)) = lv') (kk : Jg X V z o M (pc + 3) lv' st) : Jg X V z o M pc lv st :=
  fun ho H locs ls hP hS hl => lv_iinc F.1.1 F.1.2.1 hdg hl hk hv hn hl' (fun ls hl => kk ho H locs ls hP hS hl)
theorem j_iadd (F : Ok X V cc Ts own rt rm) {x y : Int32} (hdg : decode cc pc = .ok (.iadd, 1)) (k : Jg X V z o M (pc + 1) lv (.int (x + y) :: st)) : Jg X V z o M pc lv (.int y :: .int x :: st) :=
  fun ho H locs ls hP hS hl => lv_iadd F.1.1 F.1.2.1 hdg (k ho H locs ls hP hS hl)
theorem j_isub (F : Ok X V cc Ts own rt rm) {x y : Int32} (hdg : decode cc pc = .ok (.isub, 1)) (k : Jg X V z o M (pc + 1) lv (.int (x - y) :: st)) : Jg X V z o M pc lv (.int y :: .int x :: st) :=
  fun ho H locs ls hP hS hl => lv_isub F.1.1 F.1.2.1 hdg (k ho H locs ls hP hS hl)
theorem j_imul (F : Ok X V cc Ts own rt rm) {x y : Int32} (hdg : decode cc pc = .ok (.imul, 1)) (k : Jg X V z o M (pc + 1) lv (.int (x * y) :: st)) : Jg X V z o M pc lv (.int y :: .int x :: st) :=
  fun ho H locs ls hP hS hl => lv_imul F.1.1 F.1.2.1 hdg (k ho H locs ls hP hS hl)
theorem j_iand (F : Ok X V cc Ts own rt rm) {x y : Int32} (hdg : decode cc pc = .ok (.iand, 1)) (k : Jg X V z o M (pc + 1) lv (.int (x &&& y) :: st)) : Jg X V z o M pc lv (.int y :: .int x :: st) :=
  fun ho H locs ls hP hS hl => lv_iand F.1.1 F.1.2.1 hdg (k ho H locs ls hP hS hl)
theorem j_ior (F : Ok X V cc Ts own rt rm) {x y : Int32} (hdg : decode cc pc = .ok (.ior, 1)) (k : Jg X V z o M (pc + 1) lv (.int (x ||| y) :: st)) : Jg X V z o M pc lv (.int y :: .int x :: st) :=
  fun ho H locs ls hP hS hl => lv_ior F.1.1 F.1.2.1 hdg (k ho H locs ls hP hS hl)
theorem j_ixor (F : Ok X V cc Ts own rt rm) {x y : Int32} (hdg : decode cc pc = .ok (.ixor, 1)) (k : Jg X V z o M (pc + 1) lv (.int (x ^^^ y) :: st)) : Jg X V z o M pc lv (.int y :: .int x :: st) :=
  fun ho H locs ls hP hS hl => lv_ixor F.1.1 F.1.2.1 hdg (k ho H locs ls hP hS hl)
theorem j_ishl (F : Ok X V cc Ts own rt rm) {x y : Int32} (hdg : decode cc pc = .ok (.ishl, 1)) (k : Jg X V z o M (pc + 1) lv (.int (x <<< (y &&& 31)) :: st)) : Jg X V z o M pc lv (.int y :: .int x :: st) :=
  fun ho H locs ls hP hS hl => lv_ishl F.1.1 F.1.2.1 hdg (k ho H locs ls hP hS hl)
theorem j_ishr (F : Ok X V cc Ts own rt rm) {x y : Int32} (hdg : decode cc pc = .ok (.ishr, 1)) (k : Jg X V z o M (pc + 1) lv (.int (x >>> (y &&& 31)) :: st)) : Jg X V z o M pc lv (.int y :: .int x :: st) :=
  fun ho H locs ls hP hS hl => lv_ishr F.1.1 F.1.2.1 hdg (k ho H locs ls hP hS hl)
theorem j_iushr (F : Ok X V cc Ts own rt rm) {x y v : Int32} (hv : (x.toUInt32 >>> (y.toUInt32 &&& Int32.toUInt32 31)).toInt32 = v) (hdg : decode cc pc = .ok (.iushr, 1)) (k : Jg X V z o M (pc + 1) lv (.int v :: st)) : Jg X V z o M pc lv (.int y :: .int x :: st) :=
  fun ho H locs ls hP hS hl => lv_iushr F.1.1 F.1.2.1 hdg hv (k ho H locs ls hP hS hl)
theorem j_idiv (F : Ok X V cc Ts own rt rm) {x y : Int32} (hne : ¬ y = 0) (hdg : decode cc pc = .ok (.idiv, 1)) (k : Jg X V z o M (pc + 1) lv (.int (x / y) :: st)) : Jg X V z o M pc lv (.int y :: .int x :: st) :=
  fun ho H locs ls hP hS hl => lv_idiv F.1.1 F.1.2.1 hdg hne (k ho H locs ls hP hS hl)
theorem j_irem (F : Ok X V cc Ts own rt rm) {x y : Int32} (hne : ¬ y = 0) (hdg : decode cc pc = .ok (.irem, 1)) (k : Jg X V z o M (pc + 1) lv (.int (x - x / y * y) :: st)) : Jg X V z o M pc lv (.int y :: .int x :: st) :=
  fun ho H locs ls hP hS hl => lv_irem F.1.1 F.1.2.1 hdg hne (k ho H locs ls hP hS hl)
theorem j_ineg (F : Ok X V cc Ts own rt rm) {x : Int32} (hdg : decode cc pc = .ok (.ineg, 1)) (k : Jg X V z o M (pc + 1) lv (.int (-x) :: st)) : Jg X V z o M pc lv (.int x :: st) :=
  fun ho H locs ls hP hS hl => lv_ineg F.1.1 F.1.2.1 hdg (k ho H locs ls hP hS hl)
theorem j_i2l (F : Ok X V cc Ts own rt rm) {x : Int32} (hdg : decode cc pc = .ok (.i2l, 1)) (k : Jg X V z o M (pc + 1) lv (.long x.toInt64 :: st)) : Jg X V z o M pc lv (.int x :: st) :=
  fun ho H locs ls hP hS hl => lv_i2l F.1.1 F.1.2.1 hdg rfl (k ho H locs ls hP hS hl)
theorem j_ladd (F : Ok X V cc Ts own rt rm) {x y : Int64} (hdg : decode cc pc = .ok (.ladd, 1)) (k : Jg X V z o M (pc + 1) lv (.long (x + y) :: st)) : Jg X V z o M pc lv (.long y :: .long x :: st) :=
  fun ho H locs ls hP hS hl => lv_ladd F.1.1 F.1.2.1 hdg (k ho H locs ls hP hS hl)
theorem j_lmul (F : Ok X V cc Ts own rt rm) {x y : Int64} (hdg : decode cc pc = .ok (.lmul, 1)) (k : Jg X V z o M (pc + 1) lv (.long (x * y) :: st)) : Jg X V z o M pc lv (.long y :: .long x :: st) :=
  fun ho H locs ls hP hS hl => lv_lmul F.1.1 F.1.2.1 hdg (k ho H locs ls hP hS hl)
theorem j_lcmp (F : Ok X V cc Ts own rt rm) {x y : Int64} (hdg : decode cc pc = .ok (.lcmp, 1)) (k : Jg X V z o M (pc + 1) lv (.int (lg_cmp x y) :: st)) : Jg X V z o M pc lv (.long y :: .long x :: st) :=
  fun ho H locs ls hP hS hl => W.lcmp F.1.1 F.1.2.1 hdg (k ho H locs ls hP hS hl)
theorem j_dup (F : Ok X V cc Ts own rt rm) {a : Value} (ha : a.category = 1) (hdg : decode cc pc = .ok (.dup, 1)) (k : Jg X V z o M (pc + 1) lv (a :: a :: st)) : Jg X V z o M pc lv (a :: st) :=
  fun ho H locs ls hP hS hl => lv_dup F.1.1 F.1.2.1 hdg ha (k ho H locs ls hP hS hl)
theorem j_pop (F : Ok X V cc Ts own rt rm) {a : Value} (ha : a.category = 1) (hdg : decode cc pc = .ok (.pop, 1)) (k : Jg X V z o M (pc + 1) lv (st)) : Jg X V z o M pc lv (a :: st) :=
  fun ho H locs ls hP hS hl => lv_pop F.1.1 F.1.2.1 hdg ha (k ho H locs ls hP hS hl)
theorem j_dup2 (F : Ok X V cc Ts own rt rm) {a b : Value} (ha : a.category = 1) (hb : b.category = 1) (hdg : decode cc pc = .ok (.dup2, 1)) (k : Jg X V z o M (pc + 1) lv (a :: b :: a :: b :: st)) : Jg X V z o M pc lv (a :: b :: st) :=
  fun ho H locs ls hP hS hl => lv_dup2_11 F.1.1 F.1.2.1 hdg ha hb (k ho H locs ls hP hS hl)
theorem j_goto (F : Ok X V cc Ts own rt rm) {off : Int} {tgt : Nat} (hdg : decode cc pc = .ok (.goto off, 3)) (ht : (pc : Int) + off = (tgt : Int)) (k : Jg X V z o M tgt lv st) : Jg X V z o M pc lv st :=
  fun ho H locs ls hP hS hl => lv_goto F.1.1 F.1.2.1 hdg ht (k ho H locs ls hP hS hl)
theorem j_icmp_eq (F : Ok X V cc Ts own rt rm) {x y : Int32} {off : Int} {tgt : Nat} {o1 o2 : Option ρ} {dc : Decidable (x = y)} (hdg : decode cc pc = .ok (.if_icmp .eq off, 3)) (ht : (pc : Int) + off = (tgt : Int)) (kt : Jg X V z o1 M tgt lv st) (kf : Jg X V z o2 M (pc + 3) lv st) : Jg X V z (@ite _ (x = y) dc o1 o2) M pc lv (.int y :: .int x :: st) :=
  fun ho H locs ls hP hS hl => lv_icmp_eq F.1.1 F.1.2.1 hdg ht (fun h => kt (((if_pos h).symm.trans ho)) H locs ls hP hS hl) (fun h => kf (((if_neg h).symm.trans ho)) H locs ls hP hS hl)
theorem j_if_eq (F : Ok X V cc Ts own rt rm) {x : Int32} {off : Int} {tgt : Nat} {o1 o2 : Option ρ} {dc : Decidable (x = 0)} (hdg : decode cc pc = .ok (.ifCond .eq off, 3)) (ht : (pc : Int) + off = (tgt : Int)) (kt : Jg X V z o1 M tgt lv st) (kf : Jg X V z o2 M (pc + 3) lv st) : Jg X V z (@ite _ (x = 0) dc o1 o2) M pc lv (.int x :: st) :=
  fun ho H locs ls hP hS hl => lv_if_eq F.1.1 F.1.2.1 hdg ht (fun h => kt (((if_pos h).symm.trans ho)) H locs ls hP hS hl) (fun h => kf (((if_neg h).symm.trans ho)) H locs ls hP hS hl)
theorem j_icmp_ne (F : Ok X V cc Ts own rt rm) {x y : Int32} {off : Int} {tgt : Nat} {o1 o2 : Option ρ} {dc : Decidable (x = y)} (hdg : decode cc pc = .ok (.if_icmp .ne off, 3)) (ht : (pc : Int) + off = (tgt : Int)) (kt : Jg X V z o2 M tgt lv st) (kf : Jg X V z o1 M (pc + 3) lv st) : Jg X V z (@ite _ (x = y) dc o1 o2) M pc lv (.int y :: .int x :: st) :=
  fun ho H locs ls hP hS hl => lv_icmp_ne F.1.1 F.1.2.1 hdg ht (fun h => kt (((if_neg h).symm.trans ho)) H locs ls hP hS hl) (fun h => kf (((if_pos h).symm.trans ho)) H locs ls hP hS hl)
theorem j_if_ne (F : Ok X V cc Ts own rt rm) {x : Int32} {off : Int} {tgt : Nat} {o1 o2 : Option ρ} {dc : Decidable (x = 0)} (hdg : decode cc pc = .ok (.ifCond .ne off, 3)) (ht : (pc : Int) + off = (tgt : Int)) (kt : Jg X V z o2 M tgt lv st) (kf : Jg X V z o1 M (pc + 3) lv st) : Jg X V z (@ite _ (x = 0) dc o1 o2) M pc lv (.int x :: st) :=
  fun ho H locs ls hP hS hl => lv_if_ne F.1.1 F.1.2.1 hdg ht (fun h => kt (((if_neg h).symm.trans ho)) H locs ls hP hS hl) (fun h => kf (((if_pos h).symm.trans ho)) H locs ls hP hS hl)
theorem j_icmp_lt (F : Ok X V cc Ts own rt rm) {x y : Int32} {off : Int} {tgt : Nat} {o1 o2 : Option ρ} {dc : Decidable (x < y)} (hdg : decode cc pc = .ok (.if_icmp .lt off, 3)) (ht : (pc : Int) + off = (tgt : Int)) (kt : Jg X V z o1 M tgt lv st) (kf : Jg X V z o2 M (pc + 3) lv st) : Jg X V z (@ite _ (x < y) dc o1 o2) M pc lv (.int y :: .int x :: st) :=
  fun ho H locs ls hP hS hl => lv_icmp_lt F.1.1 F.1.2.1 hdg ht (fun h => kt (((if_pos h).symm.trans ho)) H locs ls hP hS hl) (fun h => kf (((if_neg h).symm.trans ho)) H locs ls hP hS hl)
theorem j_if_lt (F : Ok X V cc Ts own rt rm) {x : Int32} {off : Int} {tgt : Nat} {o1 o2 : Option ρ} {dc : Decidable (x < 0)} (hdg : decode cc pc = .ok (.ifCond .lt off, 3)) (ht : (pc : Int) + off = (tgt : Int)) (kt : Jg X V z o1 M tgt lv st) (kf : Jg X V z o2 M (pc + 3) lv st) : Jg X V z (@ite _ (x < 0) dc o1 o2) M pc lv (.int x :: st) :=
  fun ho H locs ls hP hS hl => lv_if_lt F.1.1 F.1.2.1 hdg ht (fun h => kt (((if_pos h).symm.trans ho)) H locs ls hP hS hl) (fun h => kf (((if_neg h).symm.trans ho)) H locs ls hP hS hl)
theorem j_icmp_ge (F : Ok X V cc Ts own rt rm) {x y : Int32} {off : Int} {tgt : Nat} {o1 o2 : Option ρ} {dc : Decidable (y ≤ x)} (hdg : decode cc pc = .ok (.if_icmp .ge off, 3)) (ht : (pc : Int) + off = (tgt : Int)) (kt : Jg X V z o1 M tgt lv st) (kf : Jg X V z o2 M (pc + 3) lv st) : Jg X V z (@ite _ (y ≤ x) dc o1 o2) M pc lv (.int y :: .int x :: st) :=
  fun ho H locs ls hP hS hl => lv_icmp_ge F.1.1 F.1.2.1 hdg ht (fun h => kt (((if_pos h).symm.trans ho)) H locs ls hP hS hl) (fun h => kf (((if_neg h).symm.trans ho)) H locs ls hP hS hl)
theorem j_if_ge (F : Ok X V cc Ts own rt rm) {x : Int32} {off : Int} {tgt : Nat} {o1 o2 : Option ρ} {dc : Decidable (0 ≤ x)} (hdg : decode cc pc = .ok (.ifCond .ge off, 3)) (ht : (pc : Int) + off = (tgt : Int)) (kt : Jg X V z o1 M tgt lv st) (kf : Jg X V z o2 M (pc + 3) lv st) : Jg X V z (@ite _ (0 ≤ x) dc o1 o2) M pc lv (.int x :: st) :=
  fun ho H locs ls hP hS hl => lv_if_ge F.1.1 F.1.2.1 hdg ht (fun h => kt (((if_pos h).symm.trans ho)) H locs ls hP hS hl) (fun h => kf (((if_neg h).symm.trans ho)) H locs ls hP hS hl)
theorem j_icmp_gt (F : Ok X V cc Ts own rt rm) {x y : Int32} {off : Int} {tgt : Nat} {o1 o2 : Option ρ} {dc : Decidable (y < x)} (hdg : decode cc pc = .ok (.if_icmp .gt off, 3)) (ht : (pc : Int) + off = (tgt : Int)) (kt : Jg X V z o1 M tgt lv st) (kf : Jg X V z o2 M (pc + 3) lv st) : Jg X V z (@ite _ (y < x) dc o1 o2) M pc lv (.int y :: .int x :: st) :=
  fun ho H locs ls hP hS hl => lv_icmp_gt F.1.1 F.1.2.1 hdg ht (fun h => kt (((if_pos h).symm.trans ho)) H locs ls hP hS hl) (fun h => kf (((if_neg h).symm.trans ho)) H locs ls hP hS hl)
theorem j_if_gt (F : Ok X V cc Ts own rt rm) {x : Int32} {off : Int} {tgt : Nat} {o1 o2 : Option ρ} {dc : Decidable (0 < x)} (hdg : decode cc pc = .ok (.ifCond .gt off, 3)) (ht : (pc : Int) + off = (tgt : Int)) (kt : Jg X V z o1 M tgt lv st) (kf : Jg X V z o2 M (pc + 3) lv st) : Jg X V z (@ite _ (0 < x) dc o1 o2) M pc lv (.int x :: st) :=
  fun ho H locs ls hP hS hl => lv_if_gt F.1.1 F.1.2.1 hdg ht (fun h => kt (((if_pos h).symm.trans ho)) H locs ls hP hS hl) (fun h => kf (((if_neg h).symm.trans ho)) H locs ls hP hS hl)
theorem j_icmp_le (F : Ok X V cc Ts own rt rm) {x y : Int32} {off : Int} {tgt : Nat} {o1 o2 : Option ρ} {dc : Decidable (x ≤ y)} (hdg : decode cc pc = .ok (.if_icmp .le off, 3)) (ht : (pc : Int) + off = (tgt : Int)) (kt : Jg X V z o1 M tgt lv st) (kf : Jg X V z o2 M (pc + 3) lv st) : Jg X V z (@ite _ (x ≤ y) dc o1 o2) M pc lv (.int y :: .int x :: st) :=
  fun ho H locs ls hP hS hl => lv_icmp_le F.1.1 F.1.2.1 hdg ht (fun h => kt (((if_pos h).symm.trans ho)) H locs ls hP hS hl) (fun h => kf (((if_neg h).symm.trans ho)) H locs ls hP hS hl)
theorem j_if_le (F : Ok X V cc Ts own rt rm) {x : Int32} {off : Int} {tgt : Nat} {o1 o2 : Option ρ} {dc : Decidable (x ≤ 0)} (hdg : decode cc pc = .ok (.ifCond .le off, 3)) (ht : (pc : Int) + off = (tgt : Int)) (kt : Jg X V z o1 M tgt lv st) (kf : Jg X V z o2 M (pc + 3) lv st) : Jg X V z (@ite _ (x ≤ 0) dc o1 o2) M pc lv (.int x :: st) :=
  fun ho H locs ls hP hS hl => lv_if_le F.1.1 F.1.2.1 hdg ht (fun h => kt (((if_pos h).symm.trans ho)) H locs ls hP hS hl) (fun h => kf (((if_neg h).symm.trans ho)) H locs ls hP hS hl)
end RowsA
