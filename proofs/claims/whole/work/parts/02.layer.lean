/-! A layer over the kit: the memory of a world is a function of cell and place; a method is walked along a pure term in Option.
    wo G S M: the cells S.1 .. S.1 + S.2.1 - 1, each of its kind, holding M. Jg: 'if the pure rest answers z, the machine comes to Q'. -/
abbrev Mm : Type := (Nat → Nat → Int32) × (Nat → Nat → Int64)
/-- a field: none an int (or boolean), some none a long, some (some r) the cell r -/
abbrev Fk : Type := Option (Option Nat)
/-- a cell: ints in a row, an object (its kind, its fields), a row of cells -/
abbrev Sh : Type := Nat ⊕ ((Nat × List Fk) ⊕ (Nat × (Nat → Nat)))
/-- tables, addresses, the two array kinds, the two static rows -/
abbrev Gg : Type := va_G × (Nat → Nat) × (ClassId × ClassId) × (Nat × Nat)
abbrev Sg : Type := Nat × Nat × (Nat → Sh)
abbrev Cx : Type := Program × Launch × Env × Room × State × MethodId × Array Value × List Frame × Method × Code
abbrev Vx (μ : Type) : Type := (μ → va_W) × va_G × Nat × (Nat → Prop) × (State → Prop)
def fv (ad : Nat → Nat) (M : Mm) (k j : Nat) (f : Fk) : Value := match f with
  | none => .int (M.1 k j)
  | some none => .long (M.2 k j)
  | some (some r) => .ref (ad r)
def fvs (ad : Nat → Nat) (M : Mm) (k : Nat) : Nat → List Fk → List Value
  | _, [] => []
  | j, f :: fs => fv ad M k j f :: fvs ad M k (j + 1) fs
def cel (G : Gg) (M : Mm) (k : Nat) (h : Sh) : va_E := match h with
  | .inl n => .inl (G.2.2.1.1, n, .inl (M.1 k))
  | .inr (.inl o) => .inr (o.1, fvs G.2.1 M k 0 o.2)
  | .inr (.inr r) => .inl (G.2.2.1.2, r.1, .inr (.inr (.inr (.inr (fun j => some (G.2.1 (r.2 j)))))))
def wo (G : Gg) (S : Sg) (M : Mm) : va_W := (List.range S.2.1).map fun k => (G.2.1 (S.1 + k), cel G M (S.1 + k) (S.2.2 (S.1 + k)))
def Ao (G : Gg) (S : Sg) (sz : Nat) : Nat → Prop := fun q => (∃ k, S.1 ≤ k ∧ k < S.1 + S.2.1 ∧ q = G.2.1 k) ∨ sz ≤ q
def stA (M : Mm) (k : Nat) (f : Nat → Int32) : Mm := (fun a => if a = k then f else M.1 a, M.2)
def stI (M : Mm) (k j : Nat) (v : Int32) : Mm := stA M k (upd (M.1 k) j v)
def stL (M : Mm) (k j : Nat) (v : Int64) : Mm := (M.1, fun a => if a = k then vp_updL (M.2 k) j v else M.2 a)
theorem stA_same (M : Mm) (k : Nat) (f : Nat → Int32) : (stA M k f).1 k = f := by simp [stA]
theorem stA_ne (M : Mm) (k a : Nat) (f : Nat → Int32) (h : a ≠ k) : (stA M k f).1 a = M.1 a := by simp [stA, h]
theorem fvs_len (ad : Nat → Nat) (M : Mm) (k : Nat) : ∀ (fs : List Fk) (j : Nat), (fvs ad M k j fs).length = fs.length
  | [], _ => rfl
  | _ :: fs, j => by simp [fvs, fvs_len ad M k fs (j + 1)]
theorem fvs_get (ad : Nat → Nat) (M : Mm) (k : Nat) : ∀ (fs : List Fk) (j i : Nat) (f : Fk), fs[i]? = some f → (fvs ad M k j fs)[i]? = some (fv ad M k (j + i) f)
  | [], _, _, _, h => by simp at h
  | g :: fs, j, 0, f, h => by simp at h; subst h; simp [fvs]
  | g :: fs, j, i + 1, f, h => by
    simp at h
    simp only [fvs, List.getElem?_cons_succ]
    rw [fvs_get ad M k fs (j + 1) i f h]
    congr 2
    omega
theorem fvs_eq (ad : Nat → Nat) (M N : Mm) (k : Nat) : ∀ (fs : List Fk) (j : Nat), (∀ i, M.1 k i = N.1 k i) → (∀ i, M.2 k i = N.2 k i) → fvs ad M k j fs = fvs ad N k j fs
  | [], _, _, _ => rfl
  | f :: fs, j, h1, h2 => by
    simp only [fvs]
    rw [fvs_eq ad M N k fs (j + 1) h1 h2]
    congr 1
    rcases f with _ | _ | r
    · simp [fv, h1]
    · simp [fv, h2]
    · rfl
theorem cel_eq (G : Gg) (M N : Mm) (k : Nat) (h : Sh) (h1 : M.1 k = N.1 k) (h2 : M.2 k = N.2 k) : cel G M k h = cel G N k h := by
  rcases h with n | o | r
  · simp [cel, h1]
  · simp only [cel]; rw [fvs_eq G.2.1 M N k o.2 0 (fun i => by rw [h1]) (fun i => by rw [h2])]
  · rfl
theorem wo_len (G : Gg) (S : Sg) (M : Mm) : (wo G S M).length = S.2.1 := by simp [wo]
theorem wo_at (G : Gg) (S : Sg) (M : Mm) {k : Nat} (h1 : S.1 ≤ k) (h2 : k < S.1 + S.2.1) : (wo G S M)[k - S.1]? = some (G.2.1 k, cel G M k (S.2.2 k)) := by
  have h3 : k - S.1 < S.2.1 := by omega
  have h4 : S.1 + (k - S.1) = k := by omega
  simp [wo, List.getElem?_map, List.getElem?_range h3, h4]
theorem wo_get (G : Gg) (S : Sg) (M : Mm) {i : Nat} {q : Nat × va_E} (h : (wo G S M)[i]? = some q) : i < S.2.1 ∧ q = (G.2.1 (S.1 + i), cel G M (S.1 + i) (S.2.2 (S.1 + i))) := by
  have hl : i < S.2.1 := by
    have := (List.getElem?_eq_some_iff.mp h).1
    rwa [wo_len] at this
  have := wo_at G S M (k := S.1 + i) (by omega) (by omega)
  rw [show S.1 + i - S.1 = i by omega, h] at this
  exact ⟨hl, Option.some.inj this⟩
theorem wo_set (G : Gg) (S : Sg) (M N : Mm) {k : Nat} (h1 : S.1 ≤ k) (h2 : k < S.1 + S.2.1) {e : va_E} (he : cel G N k (S.2.2 k) = e) (ho : ∀ j, j ≠ k → M.1 j = N.1 j ∧ M.2 j = N.2 j) : (wo G S M).set (k - S.1) (G.2.1 k, e) = wo G S N := by
  apply List.ext_getElem?
  intro i
  by_cases hi : i = k - S.1
  · subst hi
    rw [wo_at G S N h1 h2, List.getElem?_set_self (by rw [wo_len]; omega), he]
  · rw [List.getElem?_set_ne (fun h => hi h.symm)]
    by_cases hl : i < S.2.1
    · have a := wo_at G S M (k := S.1 + i) (by omega) (by omega)
      have b := wo_at G S N (k := S.1 + i) (by omega) (by omega)
      rw [show S.1 + i - S.1 = i by omega] at a b
      rw [a, b]
      have hj := ho (S.1 + i) (by omega)
      rw [cel_eq G M N (S.1 + i) _ hj.1 hj.2]
    · rw [List.getElem?_eq_none (by rw [wo_len]; omega), List.getElem?_eq_none (by rw [wo_len]; omega)]
def tyG (G : Gg) : List (ClassId × FieldType) := [(G.2.2.1.1, .int), (G.2.2.1.2, .object RX4)]
def sX (j : Nat) : Int32 := if j = 0 then 1 else if j = 2 then -1 else 0
def sY (j : Nat) : Int32 := if j = 1 then 1 else if j = 3 then -1 else 0
/-- what stands outside the cells: the two rows of steps, a nest mate's link -/
def St (G : Gg) (A : Nat → Prop) (U : State) (H : Heap) : Prop :=
  va_Z RX3 "STEP_X" "[I" (.ref G.2.2.2.1) A U H ∧ va_Z RX3 "STEP_Y" "[I" (.ref G.2.2.2.2) A U H ∧ va_T .int G.2.2.2.1 4 (fun j => .int (sX j)) A U H ∧ va_T .int G.2.2.2.2 4 (fun j => .int (sY j)) A U H ∧ va_Nw (.methodLinkNest RX5 19 yX6_isWithin RX6) U
def Inj (G : Gg) : Prop := ∀ i j : Nat, i < 69 → j < 69 → G.2.1 i = G.2.1 j → i = j
def Pre (G : Gg) (S : Sg) (M : Mm) (U : State) : Prop := va_P G.1 vwCl (wo G S M) U.heap ∧ va_K G.1 vwCl (tyG G) U ∧ (Inj G ∧ S.1 + S.2.1 ≤ 69) ∧ St G (Ao G S U.heap.size) U U.heap
theorem wo_D (G : Gg) (S : Sg) (hi : Inj G) (hS : S.1 + S.2.1 ≤ 69) (M : Mm) {A : Nat → Prop} (hA : ∀ k, S.1 ≤ k → k < S.1 + S.2.1 → A (G.2.1 k)) : va_D A (wo G S M) := by
  refine ⟨fun i j p q hp hq h => ?_, fun k q hk => ?_⟩
  · obtain ⟨a1, a2⟩ := wo_get G S M hp
    obtain ⟨b1, b2⟩ := wo_get G S M hq
    subst a2; subst b2
    have := hi (S.1 + i) (S.1 + j) (by omega) (by omega) h
    omega
  · obtain ⟨a1, a2⟩ := wo_get G S M hk
    subst a2
    exact hA _ (by omega) (by omega)
def Wx (X : Cx) (H : Heap) (locs : List Loc) (Q : State → Prop) (g : JFrame) : Prop :=
  W X.1 X.2.1 X.2.2.1 X.2.2.2.1 X.2.2.2.2.1 X.2.2.2.2.2.1 X.2.2.2.2.2.2.1 X.2.2.2.2.2.2.2.1 X.2.2.2.2.2.2.2.2.1 X.2.2.2.2.2.2.2.2.2 H locs 0 0 Q g
abbrev xS (X : Cx) : State := X.2.2.2.2.1
abbrev xM (X : Cx) : MethodId := X.2.2.2.2.2.1
abbrev xR (X : Cx) : Room := X.2.2.2.1
abbrev xA (X : Cx) : Array Value := X.2.2.2.2.2.2.1
/-- the judgement: if the pure rest o answers z, the machine at pc, with the memory M, comes to the end -/
def Jg {ρ μ : Type} (X : Cx) (V : Vx μ) (z : ρ) (o : Option ρ) (M : μ) (pc : Nat) (lv : List (Nat × Value)) (st : List Value) : Prop :=
  o = some z → ∀ (H : Heap) (locs : List Loc) (ls : Array Slot), va_P V.2.1 vwCl (V.1 M) H → va_S V.2.2.2.1 (xS X).heap H locs → lv_has ls V.2.2.1 lv → Wx X H locs V.2.2.2.2 (F0 (xM X) pc ls st)
/-- what stands still while a method is walked -/
def Ok {μ : Type} (X : Cx) (V : Vx μ) (cc : ByteArray) (Ts : List Cond) (own : String) (rt : Option FieldType) (rm : Room) : Prop :=
  CallFix X.1 (xM X) X.2.2.2.2.2.2.2.2.2 cc V.2.2.1 (xS X) (xA X) Ts own ∧ X.2.2.2.2.2.2.2.2.1.sig.returnType = rt ∧ X.2.2.2.2.2.2.2.2.1.locks = false ∧ xR X = rm
/-- and of its world -/
def Wd (X : Cx) (V : Vx Mm) (G : Gg) (S : Sg) : Prop :=
  V.1 = wo G S ∧ V.2.1 = G.1 ∧ V.2.2.2.1 = Ao G S (xS X).heap.size ∧ va_K G.1 vwCl (tyG G) (xS X) ∧ (Inj G ∧ S.1 + S.2.1 ≤ 69) ∧ St G (Ao G S (xS X).heap.size) (xS X) (xS X).heap
def rd (M : Mm) (k n : Nat) (i : Int32) : Option Int32 := if i < 0 ∨ n ≤ i.toNatClampNeg then none else some (M.1 k i.toNatClampNeg)
def wr (M : Mm) (k n : Nat) (i v : Int32) : Option Mm := if i < 0 ∨ n ≤ i.toNatClampNeg then none else some (stI M k i.toNatClampNeg v)
def rdT (f : Nat → Int32) (n : Nat) (i : Int32) : Option Int32 := if i < 0 ∨ n ≤ i.toNatClampNeg then none else some (f i.toNatClampNeg)
def rdR (r : Nat → Nat) (n : Nat) (i : Int32) : Option Nat := if i < 0 ∨ n ≤ i.toNatClampNeg then none else some (r i.toNatClampNeg)
def ckZ (v : Int32) : Option Int32 := if v = 0 ∨ v = 1 then some v else none
def lt {α β : Type} (e : α) (k : α → β) : β := k e
def jn {α β : Type} (K : α) (b : α → β) : β := b K
def fu : Nat := 1000
