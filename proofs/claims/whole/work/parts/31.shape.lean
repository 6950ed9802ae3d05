/-! the shape: what trace and lays leave -/
/-- the sheet at cell k holds the row r -/
def Shk (M : Mm) (k : Nat) (r : Nat → Int32) : Prop := M.1 k 4 = r 0 ∧ (∀ j, j < 7 → M.1 (k + 1) j = r (1 + j)) ∧ (∀ j, j < 6 → M.1 (k + 2) j = r (8 + j)) ∧ (∀ j, j < 6 → M.1 (k + 3) j = r (14 + j)) ∧ M.1 k 5 = r 20 ∧ M.1 k 6 = r 21 ∧ M.1 k 7 = r 22 ∧ (∀ j, j < 3 → M.1 (k + 4) j = r (23 + j))
def Nwk (N : Mm) (r : Nat → Int32) : Prop := ∀ j, j < 26 → N.1 55 j = r j
/-- a row that can be: n bends, lengths, ways, tools, those made, the press -/
def WfR (r : Nat → Int32) (n : Nat) : Prop := n ≤ 6 ∧ r 0 = nI n ∧ (∀ k, k ≤ n → ∃ v, 1 ≤ v ∧ v ≤ 20 ∧ r (1 + k) = nI v) ∧ (∀ k, k < n → r (8 + k) = 1 ∨ r (8 + k) = -1) ∧ (∀ k, k < n → ∃ t, t < 3 ∧ r (14 + k) = nI t) ∧ (∃ m, m < 2 ^ n ∧ r 20 = nI m) ∧ (∃ v, v ≤ 20 ∧ r 21 = nI v) ∧ (∃ v, v ≤ 40 ∧ r 22 = nI v)
def hdS (r : Nat → Int32) (n : Nat) (c : Int32) : Nat → Int32
  | 0 => 0
  | k + 1 => if k < n ∧ ((c >>> (nI k &&& 31)) &&& (1 : Int32)) = (1 : Int32) then (hdS r n c k + r (8 + k)) &&& (3 : Int32) else hdS r n c k
def pxS (r : Nat → Int32) (n : Nat) (c : Int32) : Nat → Int32
  | 0 => 0
  | k + 1 => pxS r n c k + r (1 + k) * sX (hdS r n c k).toNatClampNeg
def pyS (r : Nat → Int32) (n : Nat) (c : Int32) : Nat → Int32
  | 0 => 0
  | k + 1 => pyS r n c k + r (1 + k) * sY (hdS r n c k).toNatClampNeg
theorem hd4 : ∀ q, q < 4 → ((nI q + 1) &&& (3 : Int32) = nI ((q + 1) % 4)) ∧ ((nI q + (-1)) &&& (3 : Int32) = nI ((q + 3) % 4)) := by decide +kernel
theorem hd_ok {r : Nat → Int32} {n : Nat} (h : WfR r n) (c : Int32) : ∀ k, ∃ q, q < 4 ∧ hdS r n c k = nI q
  | 0 => ⟨0, by decide, rfl⟩
  | k + 1 => by
    obtain ⟨q, hq, e⟩ := hd_ok h c k
    unfold hdS
    by_cases h1 : k < n ∧ ((c >>> (nI k &&& 31)) &&& (1 : Int32)) = (1 : Int32)
    · rw [if_pos h1, e]
      rcases h.2.2.2.1 k h1.1 with h3 | h3
      · rw [h3, (hd4 q hq).1]; exact ⟨_, Nat.mod_lt _ (by decide), rfl⟩
      · rw [h3, (hd4 q hq).2]; exact ⟨_, Nat.mod_lt _ (by decide), rfl⟩
    · rw [if_neg h1]; exact ⟨q, hq, e⟩
/-- nothing but the cells of the list is other -/
def Oth (M M' : Mm) (l : List Nat) : Prop := M'.2 = M.2 ∧ ∀ k, k ∉ l → M'.1 k = M.1 k
theorem Oth.refl (M : Mm) (l : List Nat) : Oth M M l := ⟨rfl, fun _ _ => rfl⟩
theorem Oth.trans {M M' M'' : Mm} {l : List Nat} (h : Oth M M' l) (h' : Oth M' M'' l) : Oth M M'' l := ⟨h'.1.trans h.1, fun k hk => (h'.2 k hk).trans (h.2 k hk)⟩
theorem Oth.mono {M M' : Mm} {l l' : List Nat} (h : Oth M M' l) (hl : ∀ k, k ∈ l → k ∈ l') : Oth M M' l' := ⟨h.1, fun k hk => h.2 k (fun q => hk (hl k q))⟩
theorem Oth.put {M M' : Mm} {l : List Nat} (h : Oth M M' l) {k j : Nat} {v : Int32} (hk : k ∈ l) : Oth M (stI M' k j v) l := ⟨h.1, fun a ha => by rw [stI_c _ _ _ _ _ (fun e => ha (by rw [e]; exact hk))]; exact h.2 a ha⟩
theorem Shk.oth {M M' : Mm} {k : Nat} {r : Nat → Int32} {l : List Nat} (h : Shk M k r) (o : Oth M M' l) (h0 : k ∉ l ∧ k + 1 ∉ l ∧ k + 2 ∉ l ∧ k + 3 ∉ l ∧ k + 4 ∉ l) : Shk M' k r := by
  unfold Shk
  rw [o.2 _ h0.1, o.2 _ h0.2.1, o.2 _ h0.2.2.1, o.2 _ h0.2.2.2.1, o.2 _ h0.2.2.2.2]
  exact h
theorem ex_o {α : Type} {M M1 : Mm} {l : List Nat} {o : Option α} {K : Mm → Option α} {P : Mm → Prop} (o1 : Oth M M1 l) (h : ∃ M', o = K M' ∧ Oth M1 M' l ∧ P M') : ∃ M', o = K M' ∧ Oth M M' l ∧ P M' := by
  obtain ⟨M', e1, e2, e3⟩ := h
  exact ⟨M', e1, o1.trans e2, e3⟩
/-- what trace leaves in the shape's cells -/
def TrR (M : Mm) (r : Nat → Int32) (n : Nat) (c : Int32) : Prop := M.1 6 3 = nI (n + 1) ∧ (∀ j, j ≤ n + 1 → M.1 7 j = pxS r n c j ∧ M.1 8 j = pyS r n c j) ∧ ∀ j, j ≤ n → M.1 9 j = hdS r n c j
theorem nI_n1 (a : Nat) : nI a + (1 : Int32) = nI (a + 1) := nI_1 a
theorem trace_loop {r : Nat → Int32} {n : Nat} (hw : WfR r n) (c : Int32) (K : Mm → Option (Unit × Mm)) : ∀ (d f i : Nat) (M : Mm), i + d = n + 1 → d < f → Shk M 1 r → M.1 6 3 = nI (n + 1) → (∀ j, j ≤ i → M.1 7 j = pxS r n c j ∧ M.1 8 j = pyS r n c j) → (∀ j, j < i → M.1 9 j = hdS r n c j) → ∃ M', lX3_trace_15 K c f (hdS r n c i) (nI i) M = K M' ∧ Oth M M' [6, 7, 8, 9] ∧ TrR M' r n c := by
  intro d
  induction d with
  | zero =>
    intro f i M hi hf hS h6 h1 h2
    obtain ⟨f, rfl⟩ : ∃ g, f = g + 1 := ⟨f - 1, by omega⟩
    have hi : i = n + 1 := by omega
    subst hi
    refine ⟨M, ?_, Oth.refl _ _, h6, h1, fun j hj => h2 j (by omega)⟩
    rw [lX3_trace_15, h6, if_pos (nI_le (Nat.le_refl _) (by have := hw.1; omega))]
  | succ d ih =>
    intro f i M hi hf hS h6 h1 h2
    obtain ⟨f, rfl⟩ : ∃ g, f = g + 1 := ⟨f - 1, by omega⟩
    have hn := hw.1
    obtain ⟨q, hq, eq⟩ := hd_ok hw c i
    rw [lX3_trace_15, h6, if_neg (nI_ge (by omega) (by omega)), wr_b i rfl (by omega) (by omega), rd_b i rfl (by omega) (by omega), rd_b i rfl (by omega) (by omega), rdT_b q eq hq (by omega), wr_b (i + 1) (nI_n1 i) (by omega) (by omega), rd_b i rfl (by omega) (by omega), rd_b i rfl (by omega) (by omega), rdT_b q eq hq (by omega), wr_b (i + 1) (nI_n1 i) (by omega) (by omega)]
    simp only [stI_1, Nat.reduceEqDiff, reduceIte, (h1 i (Nat.le_refl i)).1, (h1 i (Nat.le_refl i)).2, hS.1, hS.2.1 i (by omega), hw.2.1]
    have key : ∀ (v : Int32) (M1 : Mm), hdS r n c (i + 1) = v → M1 = stI (stI (stI M 9 i (hdS r n c i)) 7 (i + 1) (pxS r n c i + r (1 + i) * sX q)) 8 (i + 1) (pyS r n c i + r (1 + i) * sY q) → ∃ M', lX3_trace_15 K c f v (nI i + 1) M1 = K M' ∧ Oth M M' [6, 7, 8, 9] ∧ TrR M' r n c := by
      intro v M1 hv hM
      subst hM
      have o1 : Oth M (stI (stI (stI M 9 i (hdS r n c i)) 7 (i + 1) (pxS r n c i + r (1 + i) * sX q)) 8 (i + 1) (pyS r n c i + r (1 + i) * sY q)) [6, 7, 8, 9] := (((Oth.refl M _).put (by decide)).put (by decide)).put (by decide)
      rw [← hv, nI_n1]
      refine ex_o o1 (ih f (i + 1) _ (by omega) (by omega) (hS.oth o1 (by decide)) (by simp [stI_1, h6]) (fun j hj => ?_) (fun j hj => ?_))
      · by_cases hj2 : j = i + 1
        · subst hj2
          simp [stI_1, pxS, pyS, eq, nI_clamp (show q < 2 ^ 31 by omega)]
        · have := h1 j (by omega)
          simp [stI_1, hj2, this]
      · by_cases hj2 : j = i
        · subst hj2; simp [stI_1]
        · have := h2 j (by omega)
          simp [stI_1, hj2, this]
    by_cases h3 : i < n
    · rw [if_neg (nI_ge h3 (by omega))]
      by_cases h4 : ((c >>> (nI i &&& 31)) &&& (1 : Int32)) = (1 : Int32)
      · rw [if_pos h4, rd_b i rfl (by omega) (by omega), lt_e]
        refine key _ _ ?_ rfl
        rw [hdS, if_pos ⟨h3, h4⟩]
        simp [stI_1, hS.2.2.1 i (by omega)]
      · rw [if_neg h4]
        exact key _ _ (by rw [hdS, if_neg (fun h => h4 h.2)]) rfl
    · rw [if_pos (nI_le (by omega) (by omega))]
      exact key _ _ (by rw [hdS, if_neg (fun h => h3 h.1)]) rfl
theorem trace_ok {r : Nat → Int32} {n : Nat} (hw : WfR r n) (c : Int32) {M : Mm} (hS : Shk M 1 r) (h0 : M.1 7 0 = 0 ∧ M.1 8 0 = 0) : ∃ M', fX3_trace c M = some ((), M') ∧ Oth M M' [6, 7, 8, 9] ∧ TrR M' r n c := by
  unfold fX3_trace
  rw [lt_e, hS.1, hw.2.1, nI_n1]
  have o1 : Oth M (stI M 6 3 (nI (n + 1))) [6, 7, 8, 9] := (Oth.refl M _).put (by decide)
  have h1 : ∀ j, j ≤ 0 → (stI M 6 3 (nI (n + 1))).1 7 j = pxS r n c j ∧ (stI M 6 3 (nI (n + 1))).1 8 j = pyS r n c j := fun j hj => by
    have hj : j = 0 := by omega
    subst hj
    simp [stI_1, h0, pxS, pyS]
  obtain ⟨M', e1, e2, e3⟩ := trace_loop hw c (fun N7 => some ((), N7)) (n + 1) fu 0 (stI M 6 3 (nI (n + 1))) (by omega) (by rw [fu_eq]; have := hw.1; omega) (hS.oth o1 (by decide)) (by simp [stI_1]) h1 (fun j hj => absurd hj (by omega))
  exact ⟨M', e1, o1.trans e2, e3⟩
theorem alongX_ok {q : Nat} (hq : q < 4) (M : Mm) : fX7_alongX (nI q) M = some (sX q, M) := by
  rcases (show q = 0 ∨ q = 1 ∨ q = 2 ∨ q = 3 by omega) with rfl | rfl | rfl | rfl <;> rfl
theorem alongY_ok {q : Nat} (hq : q < 4) (M : Mm) : fX7_alongY (nI q) M = some (sY q, M) := by
  rcases (show q = 0 ∨ q = 1 ∨ q = 2 ∨ q = 3 by omega) with rfl | rfl | rfl | rfl <;> rfl
def TrM (M : Mm) (r : Nat → Int32) (n : Nat) (c : Int32) : Prop := (∀ j, j ≤ n + 1 → M.1 60 j = pxS r n c j ∧ M.1 61 j = pyS r n c j) ∧ ∀ j, j ≤ n → M.1 62 j = hdS r n c j
theorem Nwk.oth {M M' : Mm} {r : Nat → Int32} {l : List Nat} (h : Nwk M r) (o : Oth M M' l) (h0 : 55 ∉ l) : Nwk M' r := by
  intro j hj
  rw [o.2 _ h0]
  exact h j hj
theorem has_ok (c x : Int32) (M : Mm) : fX7_has c x M = some (if ((c >>> (x &&& 31)) &&& (1 : Int32)) = (1 : Int32) then 1 else 0, M) := by
  unfold fX7_has
  by_cases h : ((c >>> (x &&& 31)) &&& (1 : Int32)) = (1 : Int32)
  · rw [if_pos h, if_pos h]
  · rw [if_neg h, if_neg h]
theorem z10 : ¬ ((1 : Int32) = 0) := by decide
theorem lays_loop {r : Nat → Int32} {n : Nat} (hw : WfR r n) (c : Int32) (K : Mm → Option (Unit × Mm)) : ∀ (d f i : Nat) (M : Mm), i + d = n + 1 → d < f → Nwk M r → (∀ j, j ≤ i → M.1 60 j = pxS r n c j ∧ M.1 61 j = pyS r n c j) → (∀ j, j < i → M.1 62 j = hdS r n c j) → ∃ M', lX7_lays_18 K c f (hdS r n c i) (nI i) M = K M' ∧ Oth M M' [60, 61, 62] ∧ TrM M' r n c := by
  intro d
  induction d with
  | zero =>
    intro f i M hi hf hS h1 h2
    obtain ⟨f, rfl⟩ : ∃ g, f = g + 1 := ⟨f - 1, by omega⟩
    have hi : i = n + 1 := by omega
    subst hi
    refine ⟨M, ?_, Oth.refl _ _, h1, fun j hj => h2 j (by omega)⟩
    rw [lX7_lays_18, rd_b (x := 0) 0 rfl (by omega) (by omega), hS 0 (by omega), hw.2.1, if_pos (nI_lt (by omega) (by have := hw.1; omega))]
  | succ d ih =>
    intro f i M hi hf hS h1 h2
    obtain ⟨f, rfl⟩ : ∃ g, f = g + 1 := ⟨f - 1, by omega⟩
    have hn := hw.1
    obtain ⟨q, hq, eq⟩ := hd_ok hw c i
    rw [lX7_lays_18, rd_b (x := 0) 0 rfl (by omega) (by omega), hS 0 (by omega), hw.2.1, if_neg (nI_nlt (by omega) (by omega)), wr_b i rfl (by omega) (by omega), rd_b i rfl (by omega) (by omega), eq, alongX_ok hq, so_b, rd_b (x := 1 + nI i) (1 + i) (nI_add 1 i) (by omega) (by omega), wr_b (i + 1) (nI_n1 i) (by omega) (by omega), rd_b i rfl (by omega) (by omega), alongY_ok hq, so_b, rd_b (x := 1 + nI i) (1 + i) (nI_add 1 i) (by omega) (by omega), wr_b (i + 1) (nI_n1 i) (by omega) (by omega), rd_b (x := 0) 0 rfl (by omega) (by omega)]
    simp only [stI_1, Nat.reduceEqDiff, reduceIte, (h1 i (Nat.le_refl i)).1, (h1 i (Nat.le_refl i)).2, hS 0 (by omega), hS (1 + i) (by omega), hw.2.1]
    have key : ∀ (v : Int32) (M1 : Mm), hdS r n c (i + 1) = v → M1 = stI (stI (stI M 62 i (nI q)) 60 (i + 1) (pxS r n c i + sX q * r (1 + i))) 61 (i + 1) (pyS r n c i + sY q * r (1 + i)) → ∃ M', lX7_lays_18 K c f v (nI i + 1) M1 = K M' ∧ Oth M M' [60, 61, 62] ∧ TrM M' r n c := by
      intro v M1 hv hM
      subst hM
      have o1 : Oth M (stI (stI (stI M 62 i (nI q)) 60 (i + 1) (pxS r n c i + sX q * r (1 + i))) 61 (i + 1) (pyS r n c i + sY q * r (1 + i))) [60, 61, 62] := (((Oth.refl M _).put (by decide)).put (by decide)).put (by decide)
      rw [← hv, nI_n1]
      refine ex_o o1 (ih f (i + 1) _ (by omega) (by omega) (hS.oth o1 (by decide)) (fun j hj => ?_) (fun j hj => ?_))
      · by_cases hj2 : j = i + 1
        · subst hj2
          simp [stI_1, pxS, pyS, eq, nI_clamp (show q < 2 ^ 31 by omega), Int32.mul_comm]
        · have := h1 j (by omega)
          simp [stI_1, hj2, this]
      · by_cases hj2 : j = i
        · subst hj2; simp [stI_1, eq]
        · have := h2 j (by omega)
          simp [stI_1, hj2, this]
    by_cases h3 : i < n
    · rw [if_neg (nI_ge h3 (by omega)), has_ok, so_b]
      by_cases h4 : ((c >>> (nI i &&& 31)) &&& (1 : Int32)) = (1 : Int32)
      · rw [if_pos h4, if_neg z10, rd_b (x := 8 + nI i) (8 + i) (nI_add 8 i) (by omega) (by omega), lt_e]
        refine key _ _ ?_ rfl
        rw [hdS, if_pos ⟨h3, h4⟩]
        simp [stI_1, hS (8 + i) (by omega), eq]
      · rw [if_neg h4, if_pos rfl]
        exact key _ _ (by rw [hdS, if_neg (fun h => h4 h.2), eq]) rfl
    · rw [if_pos (nI_le (by omega) (by omega))]
      exact key _ _ (by rw [hdS, if_neg (fun h => h3 h.1), eq]) rfl
theorem lays_ok {r : Nat → Int32} {n : Nat} (hw : WfR r n) (c : Int32) {M : Mm} (hS : Nwk M r) : ∃ M', fX7_lays c M = some ((), M') ∧ Oth M M' [60, 61, 62] ∧ TrM M' r n c := by
  unfold fX7_lays
  rw [wr_b (x := 0) 0 rfl (by omega) (by omega), wr_b (x := 0) 0 rfl (by omega) (by omega)]
  have o1 : Oth M (stI (stI M 60 0 0) 61 0 0) [60, 61, 62] := ((Oth.refl M _).put (by decide)).put (by decide)
  have h1 : ∀ j, j ≤ 0 → (stI (stI M 60 0 0) 61 0 0).1 60 j = pxS r n c j ∧ (stI (stI M 60 0 0) 61 0 0).1 61 j = pyS r n c j := fun j hj => by
    have hj : j = 0 := by omega
    subst hj
    simp [stI_1, pxS, pyS]
  obtain ⟨M', e1, e2, e3⟩ := lays_loop hw c (fun N7 => some ((), N7)) (n + 1) fu 0 (stI (stI M 60 0 0) 61 0 0) (by omega) (by rw [fu_eq]; have := hw.1; omega) (hS.oth o1 (by decide)) h1 (fun j hj => absurd hj (by omega))
  exact ⟨M', e1, o1.trans e2, e3⟩
