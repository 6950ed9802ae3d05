/-! Rows that look at the memory -/
def Ce (S : Sg) (k : Nat) (h : Sh) : Prop := S.1 ≤ k ∧ k < S.1 + S.2.1 ∧ S.2.2 k = h
/-- a field that may be read: its kind's table, its place, the link -/
def Fl (Ts : List Cond) (own : String) (index ci j : Nat) : Prop := ∃ (C : String) (T : u_T) (N : Nat), vwCl[ci]? = some (C, T, N) ∧ j < N ∧ (∀ w ∈ u_ws C T N, w ∈ Ts) ∧ Cond.fieldLink own index (T j).1 (T j).2.1 (T j).2.2.1 ∈ Ts
/-- a field that may be written, of type ty -/
def Fp (Ts : List Cond) (own : String) (index ci j : Nat) (ty : FieldType) : Prop := ∃ (C : String) (T : u_T) (N : Nat) (t0 : Nat → FieldType), vwCl[ci]? = some (C, T, N) ∧ j < N ∧ (∀ w ∈ u_ws C T N, w ∈ Ts) ∧ Cond.fieldLink own index (T j).1 (T j).2.1 (T j).2.2.1 ∈ Ts ∧ (∀ k, k < N → parseFieldDescriptor (T k).2.2.1 = some (t0 k)) ∧ (∀ a, a < N → ∀ b, b < N → a ≠ b → (T a).2.1 ≠ (T b).2.1) ∧ (T j).2.2.2 = false ∧ t0 j = ty
theorem Wd.P {X : Cx} {V : Vx Mm} {G : Gg} {S : Sg} (D : Wd X V G S) {M : Mm} {H : Heap} (h : va_P V.2.1 vwCl (V.1 M) H) : va_P G.1 vwCl (wo G S M) H := by rw [← D.1, ← D.2.1]; exact h
theorem Wd.P' {X : Cx} {V : Vx Mm} {G : Gg} {S : Sg} (D : Wd X V G S) {M : Mm} {H : Heap} (h : va_P G.1 vwCl (wo G S M) H) : va_P V.2.1 vwCl (V.1 M) H := by rw [D.1, D.2.1]; exact h
theorem Wd.dj {X : Cx} {V : Vx Mm} {G : Gg} {S : Sg} (D : Wd X V G S) (M : Mm) : va_D V.2.2.2.1 (wo G S M) := wo_D G S D.2.2.2.2.1.1 D.2.2.2.2.1.2 M (fun k h1 h2 => by rw [D.2.2.1]; exact Or.inl ⟨k, h1, h2, rfl⟩)
section RowsB
variable {ρ : Type} {X : Cx} {V : Vx Mm} {z : ρ} {o : Option ρ} {M : Mm} {pc : Nat} {lv : List (Nat × Value)} {st : List Value} {cc : ByteArray} {Ts : List Cond} {own : String} {rt : Option FieldType} {rm : Room} {G : Gg} {S : Sg}
theorem j_iald (F : Ok X V cc Ts own rt rm) (D : Wd X V G S) {k n : Nat} (c : Ce S k (.inl n)) {i : Int32} {kk : Int32 → Option ρ} (hdg : decode cc pc = .ok (.iaload, 1)) (h : ∀ v, Jg X V z (kk v) M (pc + 1) lv (.int v :: st)) : Jg X V z ((rd M k n i).bind kk) M pc lv (.int i :: .ref (G.2.1 k) :: st) := by
  intro ho H locs ls hP hS hl
  unfold rd at ho
  split at ho
  · cases ho
  · rename_i hin
    have ha := wo_at G S M c.1 c.2.1
    rw [c.2.2] at ha
    exact va_iald F.1.1 F.1.2.1 D.2.2.2.1 (D.P hP) (k - S.1) 0 ha rfl hin hdg (h _ ho H locs ls hP hS hl)
theorem j_iast (F : Ok X V cc Ts own rt rm) (D : Wd X V G S) {k n : Nat} (c : Ce S k (.inl n)) {i x : Int32} {kk : Mm → Option ρ} (hdg : decode cc pc = .ok (.iastore, 1)) (h : ∀ N, Jg X V z (kk N) N (pc + 1) lv st) : Jg X V z ((wr M k n i x).bind kk) M pc lv (.int x :: .int i :: .ref (G.2.1 k) :: st) := by
  intro ho H locs ls hP hS hl
  unfold wr at ho
  split at ho
  · cases ho
  · rename_i hin
    have ha := wo_at G S M c.1 c.2.1
    rw [c.2.2] at ha
    refine va_iast F.1.1 F.1.2.1 D.2.2.2.1 (D.P hP) (D.dj M) hS (k - S.1) 0 ha rfl hin hdg (fun H1 locs1 hP1 _ hS1 => h _ ho H1 locs1 ls (D.P' ?_) hS1 hl)
    rw [wo_set G S M (stI M k i.toNatClampNeg x) c.1 c.2.1 (by rw [c.2.2]; simp [cel, stI, stA]) (fun j hj => by simp [stI, stA, hj])] at hP1
    exact hP1
theorem j_geti (F : Ok X V cc Ts own rt rm) (D : Wd X V G S) {k ci : Nat} {fs : List Fk} (c : Ce S k (.inr (.inl (ci, fs)))) {index j : Nat} (L : Fl Ts own index ci j) (hf : fs[j]? = some none) (hdg : decode cc pc = .ok (.getfield index, 3)) (h : Jg X V z o M (pc + 3) lv (.int (M.1 k j) :: st)) : Jg X V z o M pc lv (.ref (G.2.1 k) :: st) := by
  intro ho H locs ls hP hS hl
  have ha := wo_at G S M c.1 c.2.1
  rw [c.2.2] at ha
  obtain ⟨C, T, N, hc, hj, hin, hm⟩ := L
  exact va_get F.1.1 F.1.2.1 F.1.2.2.2.2 hin F.1.2.2.2.1 D.2.2.2.1 (D.P hP) (k - S.1) ha hc j hj (F.1.2.2.2.2 _ hm) (fun _ h => h) (v := .int (M.1 k j)) (by rw [fvs_get _ _ _ _ _ _ _ hf]; simp [fv]) hdg (h ho H locs ls hP hS hl)
theorem j_getl (F : Ok X V cc Ts own rt rm) (D : Wd X V G S) {k ci : Nat} {fs : List Fk} (c : Ce S k (.inr (.inl (ci, fs)))) {index j : Nat} (L : Fl Ts own index ci j) (hf : fs[j]? = some (some none)) (hdg : decode cc pc = .ok (.getfield index, 3)) (h : Jg X V z o M (pc + 3) lv (.long (M.2 k j) :: st)) : Jg X V z o M pc lv (.ref (G.2.1 k) :: st) := by
  intro ho H locs ls hP hS hl
  have ha := wo_at G S M c.1 c.2.1
  rw [c.2.2] at ha
  obtain ⟨C, T, N, hc, hj, hin, hm⟩ := L
  exact va_get F.1.1 F.1.2.1 F.1.2.2.2.2 hin F.1.2.2.2.1 D.2.2.2.1 (D.P hP) (k - S.1) ha hc j hj (F.1.2.2.2.2 _ hm) (fun _ h => h) (v := .long (M.2 k j)) (by rw [fvs_get _ _ _ _ _ _ _ hf]; simp [fv]) hdg (h ho H locs ls hP hS hl)
theorem j_getr (F : Ok X V cc Ts own rt rm) (D : Wd X V G S) {k ci r : Nat} {fs : List Fk} (c : Ce S k (.inr (.inl (ci, fs)))) {index j : Nat} (L : Fl Ts own index ci j) (hf : fs[j]? = some (some (some r))) (hdg : decode cc pc = .ok (.getfield index, 3)) (h : Jg X V z o M (pc + 3) lv (.ref (G.2.1 r) :: st)) : Jg X V z o M pc lv (.ref (G.2.1 k) :: st) := by
  intro ho H locs ls hP hS hl
  have ha := wo_at G S M c.1 c.2.1
  rw [c.2.2] at ha
  obtain ⟨C, T, N, hc, hj, hin, hm⟩ := L
  exact va_get F.1.1 F.1.2.1 F.1.2.2.2.2 hin F.1.2.2.2.1 D.2.2.2.1 (D.P hP) (k - S.1) ha hc j hj (F.1.2.2.2.2 _ hm) (fun _ h => h) (v := .ref (G.2.1 r)) (by rw [fvs_get _ _ _ _ _ _ _ hf]; simp [fv]) hdg (h ho H locs ls hP hS hl)
theorem fvs_setI (ad : Nat → Nat) (M : Mm) (k jj : Nat) (v : Int32) : ∀ (fs : List Fk) (b i : Nat), fs[i]? = some none → b + i = jj → (fvs ad M k b fs).set i (.int v) = fvs ad (stI M k jj v) k b fs
  | [], _, _, h, _ => by simp at h
  | g :: fs, b, 0, h, hb => by
    simp at h; subst h
    have hb : b = jj := by omega
    subst hb
    simp only [fvs, List.set_cons_zero]
    refine List.cons_eq_cons.mpr ⟨by simp [fv, stI, stA, upd], ?_⟩
    exact fvs_tail ad M k b v fs (b + 1) (by omega)
  | g :: fs, b, i + 1, h, hb => by
    simp at h
    simp only [fvs, List.set_cons_succ]
    rw [fvs_setI ad M k jj v fs (b + 1) i h (by omega)]
    refine List.cons_eq_cons.mpr ⟨?_, rfl⟩
    rcases g with _ | _ | r
    · have : b ≠ jj := by omega
      simp [fv, stI, stA, upd, this]
    · rfl
    · rfl
where
  fvs_tail (ad : Nat → Nat) (M : Mm) (k jj : Nat) (v : Int32) : ∀ (fs : List Fk) (b : Nat), jj < b → fvs ad M k b fs = fvs ad (stI M k jj v) k b fs
  | [], _, _ => rfl
  | g :: fs, b, hb => by
    simp only [fvs]
    rw [fvs_tail ad M k jj v fs (b + 1) (by omega)]
    refine List.cons_eq_cons.mpr ⟨?_, rfl⟩
    rcases g with _ | _ | r
    · have : b ≠ jj := by omega
      simp [fv, stI, stA, upd, this]
    · rfl
    · rfl
theorem fvs_setL (ad : Nat → Nat) (M : Mm) (k jj : Nat) (v : Int64) : ∀ (fs : List Fk) (b i : Nat), fs[i]? = some (some none) → b + i = jj → (fvs ad M k b fs).set i (.long v) = fvs ad (stL M k jj v) k b fs
  | [], _, _, h, _ => by simp at h
  | g :: fs, b, 0, h, hb => by
    simp at h; subst h
    have hb : b = jj := by omega
    subst hb
    simp only [fvs, List.set_cons_zero]
    refine List.cons_eq_cons.mpr ⟨by simp [fv, stL, vp_updL], ?_⟩
    exact fvs_tail ad M k b v fs (b + 1) (by omega)
  | g :: fs, b, i + 1, h, hb => by
    simp at h
    simp only [fvs, List.set_cons_succ]
    rw [fvs_setL ad M k jj v fs (b + 1) i h (by omega)]
    refine List.cons_eq_cons.mpr ⟨?_, rfl⟩
    rcases g with _ | _ | r
    · rfl
    · have : b ≠ jj := by omega
      simp [fv, stL, vp_updL, this]
    · rfl
where
  fvs_tail (ad : Nat → Nat) (M : Mm) (k jj : Nat) (v : Int64) : ∀ (fs : List Fk) (b : Nat), jj < b → fvs ad M k b fs = fvs ad (stL M k jj v) k b fs
  | [], _, _ => rfl
  | g :: fs, b, hb => by
    simp only [fvs]
    rw [fvs_tail ad M k jj v fs (b + 1) (by omega)]
    refine List.cons_eq_cons.mpr ⟨?_, rfl⟩
    rcases g with _ | _ | r
    · rfl
    · have : b ≠ jj := by omega
      simp [fv, stL, vp_updL, this]
    · rfl
theorem j_puti (F : Ok X V cc Ts own rt rm) (D : Wd X V G S) {k ci : Nat} {fs : List Fk} (c : Ce S k (.inr (.inl (ci, fs)))) {index j : Nat} {ty : FieldType} {x : Int32} (L : Fp Ts own index ci j ty) (hf : fs[j]? = some none) (hn : narrow ty (.int x) = .int x) (hfit : fits ty (.int x) = true) (hdg : decode cc pc = .ok (.putfield index, 3)) (h : Jg X V z o (stI M k j x) (pc + 3) lv st) : Jg X V z o M pc lv (.int x :: .ref (G.2.1 k) :: st) := by
  intro ho H locs ls hP hS hl
  have ha := wo_at G S M c.1 c.2.1
  rw [c.2.2] at ha
  obtain ⟨C, T, N, t0, hc, hj, hin, hm, ht, hnm, hfin, hty⟩ := L
  have hlen : j < (fvs G.2.1 M k 0 fs).length := by rw [fvs_len]; exact (List.getElem?_eq_some_iff.mp hf).1
  refine va_put F.1.1 F.1.2.1 F.1.2.2.2.2 hin t0 ht hnm F.1.2.2.2.1 D.2.2.2.1 (D.P hP) (D.dj M) hS (k - S.1) ha hc j hj (F.1.2.2.2.2 _ hm) (fun _ h => h) hfin (v := .int x) (ht j hj) (by rw [hty]; exact hn) (by rw [hty]; exact hfit) hlen hdg (fun H1 locs1 hP1 _ hS1 => h ho H1 locs1 ls (D.P' ?_) hS1 hl)
  rw [wo_set G S M (stI M k j x) c.1 c.2.1 (by rw [c.2.2]; simp only [cel]; rw [fvs_setI G.2.1 M k j x fs 0 j hf (by omega)]) (fun i hi => by simp [stI, stA, hi])] at hP1
  exact hP1
theorem j_putl (F : Ok X V cc Ts own rt rm) (D : Wd X V G S) {k ci : Nat} {fs : List Fk} (c : Ce S k (.inr (.inl (ci, fs)))) {index j : Nat} {x : Int64} (L : Fp Ts own index ci j .long) (hf : fs[j]? = some (some none)) (hdg : decode cc pc = .ok (.putfield index, 3)) (h : Jg X V z o (stL M k j x) (pc + 3) lv st) : Jg X V z o M pc lv (.long x :: .ref (G.2.1 k) :: st) := by
  intro ho H locs ls hP hS hl
  have ha := wo_at G S M c.1 c.2.1
  rw [c.2.2] at ha
  obtain ⟨C, T, N, t0, hc, hj, hin, hm, ht, hnm, hfin, hty⟩ := L
  have hlen : j < (fvs G.2.1 M k 0 fs).length := by rw [fvs_len]; exact (List.getElem?_eq_some_iff.mp hf).1
  refine va_put F.1.1 F.1.2.1 F.1.2.2.2.2 hin t0 ht hnm F.1.2.2.2.1 D.2.2.2.1 (D.P hP) (D.dj M) hS (k - S.1) ha hc j hj (F.1.2.2.2.2 _ hm) (fun _ h => h) hfin (v := .long x) (ht j hj) (by rw [hty]; rfl) (by rw [hty]; rfl) hlen hdg (fun H1 locs1 hP1 _ hS1 => h ho H1 locs1 ls (D.P' ?_) hS1 hl)
  rw [wo_set G S M (stL M k j x) c.1 c.2.1 (by rw [c.2.2]; simp only [cel]; rw [fvs_setL G.2.1 M k j x fs 0 j hf (by omega)]) (fun i hi => by simp [stL, hi])] at hP1
  exact hP1
theorem j_aald (F : Ok X V cc Ts own rt rm) (D : Wd X V G S) {k n : Nat} {r : Nat → Nat} (c : Ce S k (.inr (.inr (n, r)))) {i : Int32} {kk : Nat → Option ρ} (hdg : decode cc pc = .ok (.aaload, 1)) (h : ∀ j, j < n → Jg X V z (kk (r j)) M (pc + 1) lv (.ref (G.2.1 (r j)) :: st)) : Jg X V z ((rdR r n i).bind kk) M pc lv (.int i :: .ref (G.2.1 k) :: st) := by
  intro ho H locs ls hP hS hl
  unfold rdR at ho
  split at ho
  · cases ho
  · rename_i hin
    have ha := wo_at G S M c.1 c.2.1
    rw [c.2.2] at ha
    have hlt : i.toNatClampNeg < n := Nat.not_le.mp fun q => hin (Or.inr q)
    exact va_aldq F.1.1 F.1.2.1 D.2.2.2.1 (D.P hP) (k - S.1) 1 ha rfl hin hdg (h _ hlt ho H locs ls hP hS hl)
theorem j_alen (F : Ok X V cc Ts own rt rm) (D : Wd X V G S) {k n : Nat} (c : Ce S k (.inl n)) {v : Int32} (hv : Int32.ofNat n = v) (hdg : decode cc pc = .ok (.arraylength, 1)) (h : Jg X V z o M (pc + 1) lv (.int v :: st)) : Jg X V z o M pc lv (.ref (G.2.1 k) :: st) := by
  intro ho H locs ls hP hS hl
  have ha := wo_at G S M c.1 c.2.1
  rw [c.2.2] at ha
  exact va_alen F.1.1 F.1.2.1 D.2.2.2.1 (D.P hP) (k - S.1) 0 ha rfl hv hdg (h ho H locs ls hP hS hl)
theorem j_getX (F : Ok X V cc Ts own rt rm) (D : Wd X V G S) {index : Nat} (hm : Cond.fieldLink own index RX3 "STEP_X" "[I" ∈ Ts) (hdg : decode cc pc = .ok (.getstatic index, 3)) (h : Jg X V z o M (pc + 3) lv (.ref G.2.2.2.1 :: st)) : Jg X V z o M pc lv st := by
  intro ho H locs ls hP hS hl
  have hS' := hS
  rw [D.2.2.1] at hS'
  exact va_gets F.1.1 F.1.2.1 D.2.2.2.2.2.1 hS' F.1.2.2.2.1 (F.1.2.2.2.2 _ hm) (fun _ h => h) hdg (h ho H locs ls hP hS hl)
theorem j_getY (F : Ok X V cc Ts own rt rm) (D : Wd X V G S) {index : Nat} (hm : Cond.fieldLink own index RX3 "STEP_Y" "[I" ∈ Ts) (hdg : decode cc pc = .ok (.getstatic index, 3)) (h : Jg X V z o M (pc + 3) lv (.ref G.2.2.2.2 :: st)) : Jg X V z o M pc lv st := by
  intro ho H locs ls hP hS hl
  have hS' := hS
  rw [D.2.2.1] at hS'
  exact va_gets F.1.1 F.1.2.1 D.2.2.2.2.2.2.1 hS' F.1.2.2.2.1 (F.1.2.2.2.2 _ hm) (fun _ h => h) hdg (h ho H locs ls hP hS hl)
theorem j_taldX (F : Ok X V cc Ts own rt rm) (D : Wd X V G S) {i : Int32} {kk : Int32 → Option ρ} (hdg : decode cc pc = .ok (.iaload, 1)) (h : ∀ v, Jg X V z (kk v) M (pc + 1) lv (.int v :: st)) : Jg X V z ((rdT sX 4 i).bind kk) M pc lv (.int i :: .ref G.2.2.2.1 :: st) := by
  intro ho H locs ls hP hS hl
  have hS' := hS
  rw [D.2.2.1] at hS'
  unfold rdT at ho
  split at ho
  · cases ho
  · rename_i hin
    exact va_ti F.1.1 F.1.2.1 D.2.2.2.2.2.2.2.1 hS' hin rfl hdg (h _ ho H locs ls hP hS hl)
theorem j_taldY (F : Ok X V cc Ts own rt rm) (D : Wd X V G S) {i : Int32} {kk : Int32 → Option ρ} (hdg : decode cc pc = .ok (.iaload, 1)) (h : ∀ v, Jg X V z (kk v) M (pc + 1) lv (.int v :: st)) : Jg X V z ((rdT sY 4 i).bind kk) M pc lv (.int i :: .ref G.2.2.2.2 :: st) := by
  intro ho H locs ls hP hS hl
  have hS' := hS
  rw [D.2.2.1] at hS'
  unfold rdT at ho
  split at ho
  · cases ho
  · rename_i hin
    exact va_ti F.1.1 F.1.2.1 D.2.2.2.2.2.2.2.2.1 hS' hin rfl hdg (h _ ho H locs ls hP hS hl)
end RowsB
