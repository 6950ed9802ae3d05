/-! what of the press is hit -/
def lxS (r : Nat → Int32) (n : Nat) (c : Int32) (b k : Nat) : Int32 := (pxS r n c k - pxS r n c (b + 1)) * sX (hdS r n c (b + 1)).toNatClampNeg + (pyS r n c k - pyS r n c (b + 1)) * sY (hdS r n c (b + 1)).toNatClampNeg
def lyS (r : Nat → Int32) (n : Nat) (c : Int32) (b k : Nat) : Int32 := r (8 + b) * ((pyS r n c k - pyS r n c (b + 1)) * sX (hdS r n c (b + 1)).toNatClampNeg - (pxS r n c k - pxS r n c (b + 1)) * sY (hdS r n c (b + 1)).toNatClampNeg)
def belS (r : Nat → Int32) (n : Nat) (c : Int32) (b k : Nat) : Prop := (lyS r n c b k < 0 ∨ lyS r n c b (k + 1) < 0) ∧ ((lxS r n c b k ≤ r 21 ∨ lxS r n c b (k + 1) ≤ r 21) ∧ (-(r 21) ≤ lxS r n c b k ∨ -(r 21) ≤ lxS r n c b (k + 1)))
def aboS (r : Nat → Int32) (n : Nat) (c : Int32) (b k : Nat) : Prop := 0 < r 22 ∧ ((lxS r n c b k ≤ 0 ∨ lxS r n c b (k + 1) ≤ 0) ∧ (0 ≤ lxS r n c b k ∨ 0 ≤ lxS r n c b (k + 1))) ∧ ((lyS r n c b k ≤ r 22 ∨ lyS r n c b (k + 1) ≤ r 22) ∧ (1 ≤ lyS r n c b k ∨ 1 ≤ lyS r n c b (k + 1)))
def anyB (r : Nat → Int32) (n : Nat) (c : Int32) (b : Nat) : Prop := ∃ k, k ≤ n ∧ belS r n c b k
def anyA (r : Nat → Int32) (n : Nat) (c : Int32) (b : Nat) : Prop := ∃ k, k ≤ n ∧ aboS r n c b k
theorem le_nlt (x y : Int32) : (x < y) ↔ ¬ (y ≤ x) := by rw [tI_lt, tI_le]; omega
theorem mn_neg (x y : Int32) : ((0 : Int32) ≤ mn x y) ↔ ¬ (x < 0 ∨ y < 0) := by
  unfold mn
  by_cases h : y < x
  · rw [if_pos h]; simp only [tI_lt, tI_le] at *; omega
  · rw [if_neg h]; simp only [tI_lt, tI_le] at *; omega
theorem press_loop {r : Nat → Int32} {n : Nat} (hw : WfR r n) (c : Int32) {M : Mm} (hS : Shk M 1 r) (hT : TrR M r n c) (K : Int32 → Mm → Option (Int32 × Mm)) (b : Nat) (hb : b < n) {q : Nat} (hq : (hdS r n c (b + 1)).toNatClampNeg = q) : ∀ (d f i : Nat) (x10 : Int32), i + d = n + 1 → d < f → x10 = ic (∃ k, k < i ∧ aboS r n c b k) 1 0 → lX3_pressHit_47 K (nI b) (r (8 + b)) (sX q) (sY q) f x10 (lxS r n c b i) (lyS r n c b i) (nI (i + 1)) M = ic (∃ k, i ≤ k ∧ k ≤ n ∧ belS r n c b k) (some (1, M)) (K (ic (anyA r n c b) 1 0) M) := by
  intro d
  have hn := hw.1
  induction d with
  | zero =>
    intro f i x10 hi hf hx
    obtain ⟨f, rfl⟩ : ∃ g, f = g + 1 := ⟨f - 1, by omega⟩
    have hi : i = n + 1 := by omega
    subst hi
    rw [lX3_pressHit_47, hT.1, if_pos (nI_lt (by omega) (by omega)), ic_f (by rintro ⟨k, h1, h2, -⟩; omega), hx]
    congr 1
    exact ic_c ⟨fun ⟨k, h1, h2⟩ => ⟨k, by omega, h2⟩, fun ⟨k, h1, h2⟩ => ⟨k, by omega, h2⟩⟩
  | succ d ih =>
    intro f i x10 hi hf hx
    obtain ⟨f, rfl⟩ : ∃ g, f = g + 1 := ⟨f - 1, by omega⟩
    rw [lX3_pressHit_47, hT.1, if_neg (nI_nlt (by omega) (by omega)), rd_b (i + 1) rfl (by omega) (by omega), rd_b (b + 1) (nI_n1 b) (by omega) (by omega), lt_e, rd_b (i + 1) rfl (by omega) (by omega), rd_b (b + 1) (nI_n1 b) (by omega) (by omega), lt_e, lt_e, lt_e, jn_e]
    simp only [(hT.2.1 (i + 1) (by omega)).1, (hT.2.1 (i + 1) (by omega)).2, (hT.2.1 (b + 1) (by omega)).1, (hT.2.1 (b + 1) (by omega)).2]
    have ex : (pxS r n c (i + 1) - pxS r n c (b + 1)) * sX q + (pyS r n c (i + 1) - pyS r n c (b + 1)) * sY q = lxS r n c b (i + 1) := by rw [lxS, hq]
    have ey : r (8 + b) * ((pyS r n c (i + 1) - pyS r n c (b + 1)) * sX q - (pxS r n c (i + 1) - pxS r n c (b + 1)) * sY q) = lyS r n c b (i + 1) := by rw [lyS, hq]
    rw [ex, ey]
    have h0 : ¬ (nI (i + 1) ≤ (0 : Int32)) := nI_nle (by omega) (by omega)
    simp only [if_neg h0, nI_n1]
    simp only [hS.2.2.2.2.2.1, hS.2.2.2.2.2.2.1, reaches_ok, so_b, ic_0]
    have step : ∀ v : Int32, v = ic (∃ k, k < i + 1 ∧ aboS r n c b k) 1 0 → ¬ belS r n c b i → lX3_pressHit_47 K (nI b) (r (8 + b)) (sX q) (sY q) f v (lxS r n c b (i + 1)) (lyS r n c b (i + 1)) (nI (i + 1 + 1)) M = ic (∃ k, i ≤ k ∧ k ≤ n ∧ belS r n c b k) (some (1, M)) (K (ic (anyA r n c b) 1 0) M) := by
      intro v hv hnb
      rw [ih f (i + 1) v (by omega) (by omega) hv]
      refine ic_c ⟨fun ⟨k, h1, h2⟩ => ⟨k, by omega, h2⟩, fun ⟨k, h1, h2, h3⟩ => ⟨k, ?_, h2, h3⟩⟩
      rcases Nat.lt_or_ge i k with h | h
      · exact h
      · have : k = i := by omega
        subst this
        exact absurd h3 hnb
    have rest : ¬ belS r n c b i → (if r 22 ≤ 0 then lX3_pressHit_47 K (nI b) (r (8 + b)) (sX q) (sY q) f x10 (lxS r n c b (i + 1)) (lyS r n c b (i + 1)) (nI (i + 1 + 1)) M else ic ((lxS r n c b i ≤ 0 ∨ lxS r n c b (i + 1) ≤ 0) ∧ (0 ≤ lxS r n c b i ∨ 0 ≤ lxS r n c b (i + 1))) (ic ((lyS r n c b i ≤ r 22 ∨ lyS r n c b (i + 1) ≤ r 22) ∧ (1 ≤ lyS r n c b i ∨ 1 ≤ lyS r n c b (i + 1))) (lX3_pressHit_47 K (nI b) (r (8 + b)) (sX q) (sY q) f 1 (lxS r n c b (i + 1)) (lyS r n c b (i + 1)) (nI (i + 1 + 1)) M) (lX3_pressHit_47 K (nI b) (r (8 + b)) (sX q) (sY q) f x10 (lxS r n c b (i + 1)) (lyS r n c b (i + 1)) (nI (i + 1 + 1)) M)) (lX3_pressHit_47 K (nI b) (r (8 + b)) (sX q) (sY q) f x10 (lxS r n c b (i + 1)) (lyS r n c b (i + 1)) (nI (i + 1 + 1)) M)) = ic (∃ k, i ≤ k ∧ k ≤ n ∧ belS r n c b k) (some (1, M)) (K (ic (anyA r n c b) 1 0) M) := by
      intro hnb
      have keep : ¬ aboS r n c b i → x10 = ic (∃ k, k < i + 1 ∧ aboS r n c b k) 1 0 := by
        intro hna
        rw [hx]
        refine ic_c ⟨fun ⟨k, h1, h2⟩ => ⟨k, by omega, h2⟩, fun ⟨k, h1, h2⟩ => ⟨k, ?_, h2⟩⟩
        rcases Nat.lt_or_ge k i with h | h
        · exact h
        · have : k = i := by omega
          subst this
          exact absurd h2 hna
      by_cases h1 : r 22 ≤ 0
      · rw [if_pos h1]
        exact step _ (keep (fun h => (le_nlt _ _).mp h.1 h1)) hnb
      · rw [if_neg h1]
        by_cases h2 : ((lxS r n c b i ≤ 0 ∨ lxS r n c b (i + 1) ≤ 0) ∧ (0 ≤ lxS r n c b i ∨ 0 ≤ lxS r n c b (i + 1)))
        · rw [ic_t h2]
          by_cases h3 : ((lyS r n c b i ≤ r 22 ∨ lyS r n c b (i + 1) ≤ r 22) ∧ (1 ≤ lyS r n c b i ∨ 1 ≤ lyS r n c b (i + 1)))
          · rw [ic_t h3]
            exact step _ (ic_t ⟨i, by omega, (le_nlt _ _).mpr h1, h2, h3⟩).symm hnb
          · rw [ic_f h3]
            exact step _ (keep (fun h => h3 h.2.2)) hnb
        · rw [ic_f h2]
          exact step _ (keep (fun h => h2 h.2.1)) hnb
    by_cases h1 : (0 : Int32) ≤ mn (lyS r n c b i) (lyS r n c b (i + 1))
    · rw [if_pos h1]
      exact rest (fun h => (mn_neg _ _).mp h1 h.1)
    · rw [if_neg h1]
      by_cases h2 : ((lxS r n c b i ≤ r 21 ∨ lxS r n c b (i + 1) ≤ r 21) ∧ (-(r 21) ≤ lxS r n c b i ∨ -(r 21) ≤ lxS r n c b (i + 1)))
      · rw [ic_t h2, ic_t ⟨i, Nat.le_refl _, by omega, ⟨Decidable.not_not.mp (fun h => h1 ((mn_neg _ _).mpr h)), h2⟩⟩]
      · rw [ic_f h2]
        exact rest (fun h => h2 h.2)
theorem press_ok {r : Nat → Int32} {n : Nat} (hw : WfR r n) (c : Int32) {M : Mm} (hS : Shk M 1 r) (hT : TrR M r n c) (b : Nat) (hb : b < n) : fX3_pressHit (nI b) M = some (ic (anyB r n c b) 1 (ic (anyA r n c b) 2 0), M) := by
  have hn := hw.1
  obtain ⟨q, hq, eq⟩ := hd_ok hw c (b + 1)
  have hqc : (hdS r n c (b + 1)).toNatClampNeg = q := by rw [eq]; exact nI_clamp (by omega)
  unfold fX3_pressHit
  rw [rd_b b rfl (by omega) (by omega), rd_b (b + 1) (nI_n1 b) (by omega) (by omega), rdT_b q ((hT.2.2 (b + 1) (by omega)).trans eq) hq (by omega), rd_b (b + 1) (nI_n1 b) (by omega) (by omega), rdT_b q ((hT.2.2 (b + 1) (by omega)).trans eq) hq (by omega), hS.2.2.1 b (by omega)]
  rw [show fu = 999 + 1 from rfl, lX3_pressHit_47, hT.1, if_neg (by rw [show (0 : Int32) = nI 0 from rfl]; exact nI_nlt (by omega) (by omega)), rd_b (x := 0) 0 rfl (by omega) (by omega), rd_b (b + 1) (nI_n1 b) (by omega) (by omega), lt_e, rd_b (x := 0) 0 rfl (by omega) (by omega), rd_b (b + 1) (nI_n1 b) (by omega) (by omega), lt_e, lt_e, lt_e, jn_e]
  simp only [if_pos (Int32.le_refl 0)]
  simp only [(hT.2.1 0 (by omega)).1, (hT.2.1 0 (by omega)).2, (hT.2.1 (b + 1) (by omega)).1, (hT.2.1 (b + 1) (by omega)).2]
  have ex : (pxS r n c 0 - pxS r n c (b + 1)) * sX q + (pyS r n c 0 - pyS r n c (b + 1)) * sY q = lxS r n c b 0 := by rw [lxS, hqc]
  have ey : r (8 + b) * ((pyS r n c 0 - pyS r n c (b + 1)) * sX q - (pxS r n c 0 - pxS r n c (b + 1)) * sY q) = lyS r n c b 0 := by rw [lyS, hqc]
  rw [ex, ey, show (0 : Int32) + 1 = nI (0 + 1) from rfl, press_loop hw c hS hT _ b hb hqc (n + 1) 999 0 0 (by omega) (by omega) (ic_f (by rintro ⟨k, h, -⟩; omega)).symm]
  have e1 : (∃ k, 0 ≤ k ∧ k ≤ n ∧ belS r n c b k) ↔ anyB r n c b := ⟨fun ⟨k, _, h⟩ => ⟨k, h⟩, fun ⟨k, h⟩ => ⟨k, Nat.zero_le _, h⟩⟩
  rw [ic_c e1, ic_0]
  by_cases h1 : anyB r n c b
  · rw [ic_t h1, ic_t h1]
  · rw [ic_f h1, ic_f h1]
    by_cases h2 : anyA r n c b
    · rw [ic_t h2, ic_t h2]
    · rw [ic_f h2, ic_f h2]
