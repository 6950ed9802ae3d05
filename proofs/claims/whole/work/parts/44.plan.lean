/-! the folder's plan -/
theorem i4' (m t : Nat) : nI m * (4 : Int32) + nI t = nI (4 * m + t) := by
  rw [Int32.mul_comm]; exact i4 m t
theorem chTo_ok {t u : Nat} (ht : t < 4) (hu : u < 3) (M : Mm) : fX1_changeTo (nI t) (nI u) M = some (nI (chg t u), M) := by
  unfold fX1_changeTo chg
  by_cases q : t = 3
  · rw [if_pos (show nI t = (3 : Int32) by rw [q]; rfl), if_pos (show 3 ≤ t by omega)]; rfl
  · rw [if_neg (show ¬ nI t = (3 : Int32) from fun h => q ((nI_eq (by omega) (by omega)).mp (show nI t = nI 3 from h))), if_neg (show ¬ 3 ≤ t by omega)]
    by_cases q2 : t = u
    · rw [if_pos (show nI t = nI u by rw [q2]), if_pos q2]; rfl
    · rw [if_neg (show ¬ nI t = nI u from fun h => q2 ((nI_eq (by omega) (by omega)).mp h)), if_neg q2]; rfl
theorem chByC_ok {r : Nat → Int32} {n : Nat} (hw : WfR r n) {M : Mm} (hS : Shk M 1 r) {m t b : Nat} (hm : m < 2 ^ n) (ht : t < 4) (hb : b < n) (hN : M.1 14 (4 * (m ||| 2 ^ b) + tl r b) = nI (wN r n (m ||| 2 ^ b) (tl r b))) : fX1_changesBy (nI m) (nI t) (nI b) M = some (nI (chg t (tl r b) + wN r n (m ||| 2 ^ b) (tl r b)), M) := by
  have hn := hw.1
  have h64 := pw_le hn hm
  obtain ⟨e1, e2⟩ := tl_ok hw hb
  have h3 := or_lt m h64 b (by omega)
  unfold fX1_changesBy
  rw [rd_b b rfl (by omega) (by omega), hS.2.2.2.1 b (by omega), e1, chTo_ok ht e2, so_b]
  simp only []
  rw [or_b m h64 b (by omega), i4', rd_b (4 * (m ||| 2 ^ b) + tl r b) rfl (by omega) (by omega), hN, nI_add]
/-- the masks from i on that are met have their fewest changes -/
def De (M : Mm) (r : Nat → Int32) (n : Nat) (a : Nat → Nat) (i : Nat) : Prop := ∀ m, i ≤ m → m < 2 ^ n → 0 < a m → ∀ t, t < 4 → M.1 14 (4 * m + t) = nI (wN r n m t)
theorem mn_nI {a b : Nat} (ha : a < 2 ^ 31) (hb : b < 2 ^ 31) : mn (nI a) (nI b) = nI (min a b) := by
  unfold mn
  by_cases h : b < a
  · rw [if_pos (nI_lt h ha), Nat.min_eq_right (by omega)]
  · rw [if_neg (nI_nlt (by omega) hb), Nat.min_eq_left (by omega)]
theorem ff15 {r : Nat → Int32} {n : Nat} (hw : WfR r n) {M : Mm} (hS : Shk M 1 r) {a : Nat → Nat} {m t : Nat} (hm : m < 2 ^ n - 1) (ht : t < 4) (hcl : ∀ b, b < n → fr r n m b → 0 < a (m ||| 2 ^ b)) (hD : De M r n a (m + 1)) (K : Int32 → Mm → Option (Int32 × Mm)) : ∀ (d f i : Nat), i + d = n → d < f → lX1_fewestFrom_15 K (nI m) (nI t) (nI (frS r n m)) f (nI (mB 1000 (fr r n m) (fun b => chg t (tl r b) + wN r n (m ||| 2 ^ b) (tl r b)) i)) (nI i) M = K (nI (wN r n m t)) M := by
  have hn := hw.1
  have hm2 : m < 2 ^ n := by omega
  have h64 := pw_le hn hm2
  intro d
  induction d with
  | zero =>
    intro f i hi hf
    obtain ⟨f, rfl⟩ : ∃ g, f = g + 1 := ⟨f - 1, by omega⟩
    have hi : i = n := by omega
    subst hi
    rw [lX1_fewestFrom_15, hS.1, hw.2.1, if_pos (nI_le (Nat.le_refl _) (by omega)), wN_eq hn hm2, ic_f (by omega)]
  | succ d ih =>
    intro f i hi hf
    obtain ⟨f, rfl⟩ : ∃ g, f = g + 1 := ⟨f - 1, by omega⟩
    have hin : i < n := by omega
    rw [lX1_fewestFrom_15, hS.1, hw.2.1, if_neg (nI_ge (by omega) (by omega)), nI_n1]
    by_cases g : fr r n m i
    · have h1 := or_gt m h64 i (by omega) g.1
      have h2 := or_lt' n (by omega) m hm2 i hin
      have ht3 := (tl_ok hw hin).2
      have hw9 := wN_le (r := r) hn h2 (tl r i)
      have hc9 := chg_le t (tl r i)
      have hm9 := (mB_le (i := 1000) (p := fr r n m) (g := fun b => chg t (tl r b) + wN r n (m ||| 2 ^ b) (tl r b)) i).1
      rw [if_pos ((bt_iff (frS_lt hw m) (by omega)).mpr ((frS_bt hw m (by omega)).mpr ⟨hin, g⟩)), chByC_ok hw hS hm2 ht hin (hD _ (by omega) h2 (hcl i hin g) _ (by omega)), so_b, lt_e]
      simp only []
      rw [mn_nI (by omega) (by omega)]
      have := ih f (i + 1) (by omega) (by omega)
      rw [mB, ic_t g] at this
      exact this
    · rw [if_neg (fun h => g ((frS_bt hw m (by omega)).mp ((bt_iff (frS_lt hw m) (by omega)).mp h)).2)]
      have := ih f (i + 1) (by omega) (by omega)
      rw [mB, ic_f g] at this
      exact this
theorem fewestFrom_ok {r : Nat → Int32} {n : Nat} (hw : WfR r n) {M : Mm} (hS : Shk M 1 r) {a : Nat → Nat} {m t : Nat} (hm : m < 2 ^ n - 1) (ht : t < 4) (hF : M.1 11 m = nI (frS r n m)) (hcl : ∀ b, b < n → fr r n m b → 0 < a (m ||| 2 ^ b)) (hD : De M r n a (m + 1)) : fX1_fewestFrom (nI m) (nI t) M = some (nI (wN r n m t), M) := by
  unfold fX1_fewestFrom
  rw [rd_b m rfl (pw_le hw.1 (show m < 2 ^ n by omega)) (by omega), hF]
  exact ff15 hw hS hm ht hcl hD _ n fu 0 (by omega) (by rw [fu_eq]; have := hw.1; omega)
theorem ff20 {r : Nat → Int32} {n : Nat} (hw : WfR r n) (K : Mm → Option (Unit × Mm)) : ∀ (d f i : Nat) (M : Mm), i + d = 4 → d < f → (∀ t, t < i → M.1 14 (4 * (2 ^ n - 1) + t) = 0) → ∃ M', lX1_findFewest_20 K (nI (2 ^ n - 1)) f (nI i) M = K M' ∧ Oth M M' [14] ∧ ∀ t, t < 4 → M'.1 14 (4 * (2 ^ n - 1) + t) = 0 := by
  have hn := hw.1
  have hp2 := Nat.pow_le_pow_right (show 0 < 2 by decide) hn
  have hp : 0 < 2 ^ n := Nat.pow_pos (by decide)
  intro d
  induction d with
  | zero =>
    intro f i M hi hf h
    obtain ⟨f, rfl⟩ : ∃ g, f = g + 1 := ⟨f - 1, by omega⟩
    have hi : i = 4 := by omega
    subst hi
    exact ⟨M, by rw [lX1_findFewest_20, if_pos (by decide)], Oth.refl _ _, h⟩
  | succ d ih =>
    intro f i M hi hf h
    obtain ⟨f, rfl⟩ : ∃ g, f = g + 1 := ⟨f - 1, by omega⟩
    rw [lX1_findFewest_20, if_neg (by rw [show (4 : Int32) = nI 4 from rfl]; exact nI_ge (by omega) (by omega)), i4', wr_b (4 * (2 ^ n - 1) + i) rfl (by omega) (by omega), nI_n1]
    have o1 : Oth M (stI M 14 (4 * (2 ^ n - 1) + i) 0) [14] := (Oth.refl M _).put (by decide)
    refine ex_o o1 (ih f (i + 1) _ (by omega) (by omega) (fun t ht => ?_))
    rw [stI_1, if_pos rfl]
    by_cases e : t = i
    · rw [if_pos (by omega)]
    · rw [if_neg (by omega)]; exact h t (by omega)
theorem ff52 {r : Nat → Int32} {n : Nat} (hw : WfR r n) (K : Mm → Option (Unit × Mm)) {a : Nat → Nat} {m : Nat} (hm : m < 2 ^ n - 1) : ∀ (d f i : Nat) (M : Mm), i + d = 4 → d < f → Shk M 1 r → Met0 M r n a → De M r n a (m + 1) → (0 < a m → ∀ t, t < i → M.1 14 (4 * m + t) = nI (wN r n m t)) → ∃ M', lX1_findFewest_52 K (nI m) f (nI i) M = K M' ∧ Oth M M' [14] ∧ De M' r n a m := by
  have hn := hw.1
  have hp2 := Nat.pow_le_pow_right (show 0 < 2 by decide) hn
  have hm2 : m < 2 ^ n := by omega
  have h64 := pw_le hn hm2
  have fin : ∀ M : Mm, De M r n a (m + 1) → (0 < a m → ∀ t, t < 4 → M.1 14 (4 * m + t) = nI (wN r n m t)) → De M r n a m := by
    intro M hD h k h1 h2 h3
    rcases Nat.lt_or_ge m k with q | q
    · exact hD k q h2 h3
    · have : k = m := by omega
      subst this
      exact h h3
  intro d
  induction d with
  | zero =>
    intro f i M hi hf hS hM hD h
    obtain ⟨f, rfl⟩ : ∃ g, f = g + 1 := ⟨f - 1, by omega⟩
    have hi : i = 4 := by omega
    subst hi
    exact ⟨M, by rw [lX1_findFewest_52, if_pos (by decide)], Oth.refl _ _, fin M hD h⟩
  | succ d ih =>
    intro f i M hi hf hS hM hD h
    obtain ⟨f, rfl⟩ : ∃ g, f = g + 1 := ⟨f - 1, by omega⟩
    obtain ⟨q1, q2⟩ := hM.1 m hm2
    rw [lX1_findFewest_52, if_neg (by rw [show (4 : Int32) = nI 4 from rfl]; exact nI_ge (by omega) (by omega)), rd_b m rfl h64 (by omega), q1]
    by_cases g : 0 < a m
    · obtain ⟨k1, k2⟩ := hM.2.1 m hm g
      rw [if_neg (nI_nle g (by omega)), fewestFrom_ok hw hS hm (by omega) k1 k2 hD, so_b]
      simp only []
      rw [i4', wr_b (4 * m + i) rfl (by omega) (by omega), nI_n1]
      have o1 : Oth M (stI M 14 (4 * m + i) (nI (wN r n m i))) [14] := (Oth.refl M _).put (by decide)
      refine ex_o o1 (ih f (i + 1) _ (by omega) (by omega) (hS.oth o1 (by decide)) ?_ (fun k h1 h2 h3 t ht => ?_) (fun _ t ht => ?_))
      · unfold Met0
        rw [o1.2 13 (by decide), o1.2 11 (by decide)]
        exact hM
      · rw [stI_1, if_pos rfl, if_neg (by omega)]; exact hD k h1 h2 h3 t ht
      · rw [stI_1, if_pos rfl]
        by_cases e : t = i
        · rw [if_pos (by omega), e]
        · rw [if_neg (by omega)]; exact h g t (by omega)
    · rw [show a m = 0 by omega, if_pos (show nI 0 ≤ 0 from Int32.le_refl _)]
      exact ⟨M, rfl, Oth.refl _ _, fin M hD (fun q => absurd q g)⟩
theorem Met0.oth {M M' : Mm} {r : Nat → Int32} {n : Nat} {a : Nat → Nat} {l : List Nat} (h : Met0 M r n a) (o : Oth M M' l) (h1 : 11 ∉ l) (h2 : 13 ∉ l) : Met0 M' r n a := by
  unfold Met0
  rw [o.2 13 h2, o.2 11 h1]
  exact h
theorem ff46 {r : Nat → Int32} {n : Nat} (hw : WfR r n) (K : Mm → Option (Unit × Mm)) {a : Nat → Nat} : ∀ (m f : Nat) (M : Mm), m < 2 ^ n - 1 → m + 1 < f → Shk M 1 r → Met0 M r n a → De M r n a (m + 1) → ∃ M', lX1_findFewest_46 K f (nI m) M = K M' ∧ Oth M M' [14] ∧ De M' r n a 0 := by
  have hn := hw.1
  have hp2 := Nat.pow_le_pow_right (show 0 < 2 by decide) hn
  intro m
  induction m with
  | zero =>
    intro f M hm hf hS hM hD
    obtain ⟨f, rfl⟩ : ∃ g, f = g + 1 + 1 := ⟨f - 2, by omega⟩
    rw [lX1_findFewest_46, if_neg (nI_pos (by omega)), show (0 : Int32) = nI 0 from rfl]
    obtain ⟨M1, e1, o1, d1⟩ := ff52 hw (fun N22 => lX1_findFewest_46 K (f + 1) (nI 0 + -1) N22) hm 4 fu 0 M (by omega) (by rw [fu_eq]; omega) hS hM hD (fun _ t ht => absurd ht (Nat.not_lt_zero _))
    refine ⟨M1, ?_, o1, d1⟩
    rw [e1, show nI 0 + (-1 : Int32) = -1 from by decide, lX1_findFewest_46, if_pos (by decide)]
  | succ m ih =>
    intro f M hm hf hS hM hD
    obtain ⟨f, rfl⟩ : ∃ g, f = g + 1 := ⟨f - 1, by omega⟩
    rw [lX1_findFewest_46, if_neg (nI_pos (by omega)), show (0 : Int32) = nI 0 from rfl]
    obtain ⟨M1, e1, o1, d1⟩ := ff52 hw (fun N22 => lX1_findFewest_46 K f (nI (m + 1) + -1) N22) hm 4 fu 0 M (by omega) (by rw [fu_eq]; omega) hS hM hD (fun _ t ht => absurd ht (Nat.not_lt_zero _))
    rw [e1, pk_m1]
    exact ex_o o1 (ih f M1 (by omega) (by omega) (hS.oth o1 (by decide)) (hM.oth o1 (by decide) (by decide)) d1)
theorem findFewest_ok {r : Nat → Int32} {n : Nat} (hw : WfR r n) {M : Mm} (hS : Shk M 1 r) {a : Nat → Nat} (hM : Met0 M r n a) : ∃ M', fX1_findFewest M = some ((), M') ∧ Oth M M' [14] ∧ De M' r n a 0 := by
  have hn := hw.1
  have hp2 := Nat.pow_le_pow_right (show 0 < 2 by decide) hn
  have hp : 0 < 2 ^ n := Nat.pow_pos (by decide)
  unfold fX1_findFewest
  rw [allBends_ok hw hS, so_b]
  obtain ⟨M1, e1, o1, f1⟩ := fill_ok (k := 14) (n := 256) (by decide) 1000 M
  simp only []
  rw [e1, so_b, show (0 : Int32) = nI 0 from rfl]
  obtain ⟨M2, e2, o2, f2⟩ := ff20 hw (fun N7 => lt (nI (2 ^ n - 1) - 1) fun x11 => lX1_findFewest_46 (fun N15 => some ((), N15)) fu x11 N7) 4 fu 0 M1 (by omega) (by rw [fu_eq]; omega) (fun t ht => absurd ht (Nat.not_lt_zero _))
  simp only []
  rw [e2, lt_e]
  have o12 := o1.trans o2
  have hD0 : De M2 r n a (2 ^ n - 1) := by
    intro k h1 h2 _ t ht
    have : k = 2 ^ n - 1 := by omega
    subst this
    rw [f2 t ht]
    have h3 := (mB_le (i := ic (2 ^ n - 1 = 2 ^ n - 1) 0 1000) (p := fr r n (2 ^ n - 1)) (g := fun b => chg t (tl r b) + wN r n ((2 ^ n - 1) ||| 2 ^ b) (tl r b)) n).1
    rw [← wN_eq hn h2, ic_t rfl] at h3
    rw [Nat.le_zero.mp h3]
    rfl
  by_cases q : 2 ^ n = 1
  · refine ⟨M2, ?_, o12, ?_⟩
    · rw [show nI (2 ^ n - 1) - (1 : Int32) = -1 from by rw [show 2 ^ n - 1 = 0 by omega]; decide, show fu = 999 + 1 from rfl, lX1_findFewest_46, if_pos (by decide)]
    · rw [show 2 ^ n - 1 = 0 by omega] at hD0; exact hD0
  · obtain ⟨m, hm⟩ : ∃ m, 2 ^ n - 1 = m + 1 := ⟨2 ^ n - 2, by omega⟩
    rw [hm, nI_pred]
    exact ex_o o12 (ff46 hw (fun N15 => some ((), N15)) m fu M2 (by omega) (by rw [fu_eq]; omega) (hS.oth o12 (by decide)) (hM.oth o12 (by decide) (by decide)) (by rw [← hm]; exact hD0))
/-- the limit that the folder's walk goes by -/
noncomputable def lim (r : Nat → Int32) (n what m t : Nat) : Nat := if what = 0 then 999 else wN r n m t
theorem lim_iff {r : Nat → Int32} {n : Nat} (hn : n ≤ 6) {what m t b : Nat} (hwh : what < 2) (hm : m < 2 ^ n) (hne : m ≠ 2 ^ n - 1) (hc : 0 < cN r n m) (hb : b < n) (hfr : fr r n m b) : chg t (tl r b) + wN r n (m ||| 2 ^ b) (tl r b) ≤ lim r n what m t ↔ Qc r n what m t b := by
  have h2 := or_lt' n (by omega) m hm b hb
  have c1 := wN_c (r := r) hn _ h2
  have c2 := chg_le t (tl r b)
  have c3 := (wN_c hn m hm).2 hc t
  have c4 := (mB_le (i := ic (m = 2 ^ n - 1) 0 1000) (p := fr r n m) (g := fun b => chg t (tl r b) + wN r n (m ||| 2 ^ b) (tl r b)) n).2 b hb hfr
  rw [← wN_eq hn hm] at c4
  have c4 : wN r n m t ≤ chg t (tl r b) + wN r n (m ||| 2 ^ b) (tl r b) := c4
  unfold lim Qc
  rcases Nat.eq_zero_or_pos (cN r n (m ||| 2 ^ b)) with q | q
  · have c5 := c1.1 q (tl r b)
    constructor
    · intro h
      by_cases w : what = 0
      · rw [if_pos w] at h; omega
      · rw [if_neg w] at h; omega
    · intro h
      exact absurd h.2.1 (by omega)
  · have c5 := c1.2 q (tl r b)
    constructor
    · intro h
      refine ⟨hfr, q, fun w => ?_⟩
      rw [if_neg (by omega)] at h
      omega
    · intro h
      by_cases w : what = 0
      · rw [if_pos w]; omega
      · rw [if_neg w, h.2.2 (by omega)]; exact Nat.le_refl _
theorem lw11 {r : Nat → Int32} {n : Nat} (hw : WfR r n) {M : Mm} (hS : Shk M 1 r) {a : Nat → Nat} (K : Mm → Option (Int32 × Mm)) {what m t b0 : Nat} (hwh : what < 2) (hm : m < 2 ^ n) (hne : m ≠ 2 ^ n - 1) (hc : 0 < cN r n m) (ht : t < 4) (hcl : ∀ b, b < n → fr r n m b → 0 < a (m ||| 2 ^ b)) (hD : De M r n a 0) (hb0 : b0 < n) (hq : Qc r n what m t b0) (hmin : ∀ c, c < b0 → ¬ Qc r n what m t c) : ∀ (d f i : Nat), i + d = b0 → d < f → lX1_leastWithin_11 K (nI m) (nI t) (nI (lim r n what m t)) (nI (frS r n m)) f (nI i) M = some (nI b0, M) := by
  have hn := hw.1
  have h64 := pw_le hn hm
  have hl9 : lim r n what m t ≤ 1000 := by
    unfold lim
    have := wN_le (r := r) hn hm t
    by_cases w : what = 0
    · rw [if_pos w]; omega
    · rw [if_neg w]; exact this
  intro d
  induction d with
  | zero =>
    intro f i hi hf
    obtain ⟨f, rfl⟩ : ∃ g, f = g + 1 := ⟨f - 1, by omega⟩
    have hi : i = b0 := by omega
    subst hi
    have h2 := or_lt' n (by omega) m hm i hb0
    have ht3 := (tl_ok hw hb0).2
    have hli := (lim_iff (t := t) hn hwh hm hne hc hb0 hq.1).mpr hq
    rw [lX1_leastWithin_11, hS.1, hw.2.1, if_neg (nI_ge (by omega) (by omega)), if_pos ((bt_iff (frS_lt hw m) (by omega)).mpr ((frS_bt hw m (by omega)).mpr ⟨hb0, hq.1⟩)), chByC_ok hw hS hm ht hb0 (hD _ (Nat.zero_le _) h2 (hcl i hb0 hq.1) _ (by omega)), so_b, if_neg (nI_nlt hli (by omega))]
  | succ d ih =>
    intro f i hi hf
    obtain ⟨f, rfl⟩ : ∃ g, f = g + 1 := ⟨f - 1, by omega⟩
    have hin : i < n := by omega
    have nq := hmin i (by omega)
    rw [lX1_leastWithin_11, hS.1, hw.2.1, if_neg (nI_ge (by omega) (by omega)), nI_n1]
    by_cases g : fr r n m i
    · have h2 := or_lt' n (by omega) m hm i hin
      have ht3 := (tl_ok hw hin).2
      have hw9 := wN_le (r := r) hn h2 (tl r i)
      have hc9 := chg_le t (tl r i)
      have hli : ¬ (chg t (tl r i) + wN r n (m ||| 2 ^ i) (tl r i) ≤ lim r n what m t) := fun h => nq ((lim_iff (t := t) hn hwh hm hne hc hin g).mp h)
      rw [if_pos ((bt_iff (frS_lt hw m) (by omega)).mpr ((frS_bt hw m (by omega)).mpr ⟨hin, g⟩)), chByC_ok hw hS hm ht hin (hD _ (Nat.zero_le _) h2 (hcl i hin g) _ (by omega)), so_b, if_pos (nI_lt (by omega) (by omega))]
      exact ih f (i + 1) (by omega) (by omega)
    · rw [if_neg (fun h => g ((frS_bt hw m (by omega)).mp ((bt_iff (frS_lt hw m) (by omega)).mp h)).2)]
      exact ih f (i + 1) (by omega) (by omega)
theorem wk11 {r : Nat → Int32} {n : Nat} (hw : WfR r n) {a : Nat → Nat} (K : Int32 → Mm → Option (Int32 × Mm)) {what kr : Nat} (hwh : what < 2) (hkr : kr = 15 ∨ kr = 16) (h0 : 0 < cN r n 0) : ∀ (d f k : Nat) (M : Mm), k + d = n → d < f → Shk M 1 r → Met0 M r n a → De M r n a 0 → 0 < a (sq r n what k).1 → (∀ j, j < k → M.1 kr j = nI (rowN r n what j)) → ∃ M', lX1_walk_11 K kr (nI what) f (nI (sq r n what k).1) (nI (sq r n what k).2.1) (nI (sq r n what k).2.2) (nI k) M = K (nI (sq r n what n).2.2) M' ∧ Oth M M' [kr] ∧ ∀ j, j < n → M'.1 kr j = nI (rowN r n what j) := by
  have hn := hw.1
  intro d
  induction d with
  | zero =>
    intro f k M hk hf hS hM hD ha hR
    obtain ⟨f, rfl⟩ : ∃ g, f = g + 1 := ⟨f - 1, by omega⟩
    have hk : k = n := by omega
    subst hk
    refine ⟨M, ?_, Oth.refl _ _, hR⟩
    rw [lX1_walk_11, hS.1, hw.2.1, if_pos (nI_le (Nat.le_refl _) (by omega))]
  | succ d ih =>
    intro f k M hk hf hS hM hD ha hR
    obtain ⟨f, rfl⟩ : ∃ g, f = g + 1 := ⟨f - 1, by omega⟩
    obtain ⟨⟨h1, h2, h3, h4⟩, h5⟩ := sq_ok hw what h0 k (by omega)
    obtain ⟨q1, q2, q3⟩ := h5 (by omega)
    obtain ⟨t1, t2⟩ := tl_ok hw q1
    have h64 := pw_le hn h1
    have hne : (sq r n what k).1 ≠ 2 ^ n - 1 := fun e => by
      have := pcn_all n (by omega)
      rw [e, this] at h2
      omega
    obtain ⟨k1, k2⟩ := hM.2.1 (sq r n what k).1 (by omega) ha
    have esq : sq r n what (k + 1) = ((sq r n what k).1 ||| 2 ^ rowN r n what k, tl r (rowN r n what k), (sq r n what k).2.2 + chg (sq r n what k).2.1 (tl r (rowN r n what k))) := rfl
    have o1 : Oth M (stI M kr k (nI (rowN r n what k))) [kr] := (Oth.refl M _).put (List.mem_singleton.mpr rfl)
    have nk : ∀ c, c < 15 → c ∉ [kr] := fun c hc h => by have := List.mem_singleton.mp h; omega
    have hlw : fX1_leastWithin (nI (sq r n what k).1) (nI (sq r n what k).2.1) (nI (lim r n what (sq r n what k).1 (sq r n what k).2.1)) M = some (nI (rowN r n what k), M) := by
      unfold fX1_leastWithin
      rw [rd_b (sq r n what k).1 rfl h64 (by omega), k1]
      exact lw11 hw hS _ hwh h1 hne h3 h4 k2 hD q1 q2 q3 (rowN r n what k) fu 0 (by omega) (by rw [fu_eq]; omega)
    have f4 : rd M 4 6 (nI (rowN r n what k)) = some (nI (tl r (rowN r n what k))) := rd_v (rowN r n what k) rfl (by omega) (by omega) ((hS.2.2.2.1 _ (by omega)).trans t1)
    rw [lX1_walk_11, hS.1, hw.2.1, if_neg (nI_ge (by omega) (by omega)), jn_e]
    have key : ∀ v : Int32, v = nI (lim r n what (sq r n what k).1 (sq r n what k).2.1) → ∃ M', ((fX1_leastWithin (nI (sq r n what k).1) (nI (sq r n what k).2.1) v M).bind fun w14 => (rd w14.2 4 6 w14.1).bind fun v15 => (fX1_changeTo (nI (sq r n what k).2.1) v15 w14.2).bind fun w16 => lt (nI (sq r n what k).2.2 + w16.1) fun x17 => (rd w16.2 4 6 w14.1).bind fun v18 => lt (nI (sq r n what k).1 ||| ((1 : Int32) <<< (w14.1 &&& 31))) fun x19 => (wr w16.2 kr 6 (nI k) w14.1).bind fun N20 => lX1_walk_11 K kr (nI what) f x19 v18 x17 (nI k + 1) N20) = K (nI (sq r n what n).2.2) M' ∧ Oth M M' [kr] ∧ ∀ j, j < n → M'.1 kr j = nI (rowN r n what j) := by
      intro v hv
      rw [hv, hlw]
      simp only [so_b, f4, chTo_ok h4 t2, lt_e, or_b _ h64 _ (show rowN r n what k < 6 by omega), wr_i k rfl (show k < 6 by omega) (show 6 ≤ 1000 by omega), nI_n1, nI_add]
      have := ih f (k + 1) (stI M kr k (nI (rowN r n what k))) (by omega) (by omega) (hS.oth o1 ⟨nk 1 (by decide), nk 2 (by decide), nk 3 (by decide), nk 4 (by decide), nk 5 (by decide)⟩) (hM.oth o1 (nk 11 (by decide)) (nk 13 (by decide))) (fun m x y z t ht => by rw [stI_c _ _ _ _ _ (by omega)]; exact hD m x y z t ht) (k2 _ q1 q2.1) (fun j hj => by
        rw [stI_1, if_pos rfl]
        by_cases e : j = k
        · rw [if_pos e, e]
        · rw [if_neg e]; exact hR j (by omega))
      rw [esq] at this
      exact ex_o o1 this
    by_cases w : what = 0
    · rw [if_pos (by rw [w]; rfl)]
      exact key 999 (by unfold lim; rw [if_pos w]; rfl)
    · rw [if_neg (show ¬ nI what = (0 : Int32) from nI_ne0 (by omega) (by omega)), i4', rd_b (4 * (sq r n what k).1 + (sq r n what k).2.1) rfl (by omega) (by omega), hD _ (Nat.zero_le _) h1 ha _ h4]
      exact key _ (by unfold lim; rw [if_neg w])
theorem walk_ok {r : Nat → Int32} {n : Nat} (hw : WfR r n) {a : Nat → Nat} {what kr : Nat} (hwh : what < 2) (hkr : kr = 15 ∨ kr = 16) (h0 : 0 < cN r n 0) {M : Mm} (hS : Shk M 1 r) (hM : Met0 M r n a) (hD : De M r n a 0) : ∃ M', fX1_walk kr (nI what) M = some (nI (sq r n what n).2.2, M') ∧ Oth M M' [kr] ∧ ∀ j, j < n → M'.1 kr j = nI (rowN r n what j) := by
  unfold fX1_walk
  exact wk11 hw (fun x8 N9 => some (x8, N9)) hwh hkr h0 n fu 0 M (by omega) (by rw [fu_eq]; have := hw.1; omega) hS hM hD hM.2.2 (fun j hj => absurd hj (Nat.not_lt_zero _))
def PlanOk (M : Mm) (r : Nat → Int32) (n : Nat) : Prop := M.1 10 9 = nI (cN r n 0) ∧ (cN r n 0 = 0 → (∀ j, j < n → M.1 15 j = -1000 ∧ M.1 16 j = -1000) ∧ M.1 10 10 = -1000 ∧ M.1 10 11 = -1000) ∧ (0 < cN r n 0 → (∀ j, j < n → M.1 15 j = nI (rowN r n 0 j) ∧ M.1 16 j = nI (rowN r n 1 j)) ∧ M.1 10 10 = nI (sq r n 0 n).2.2 ∧ M.1 10 11 = nI (sq r n 1 n).2.2)
def PI (M : Mm) (r : Nat → Int32) (n : Nat) : Prop := CI M r n ∧ (M.1 10 6 = 0 ∨ PlanOk M r n)
theorem CI.oth {M M' : Mm} {r : Nat → Int32} {n : Nat} {l : List Nat} (h : CI M r n) (o : Oth M M' l) (h0 : 1 ∉ l ∧ 2 ∉ l ∧ 3 ∉ l ∧ 4 ∉ l ∧ 5 ∉ l ∧ 7 ∉ l ∧ 8 ∉ l ∧ 11 ∉ l ∧ 12 ∉ l) : CI M' r n := by
  obtain ⟨a1, a2, a3, a4, a5, a7, a8, a11, a12⟩ := h0
  refine ⟨h.1.oth o ⟨a1, a2, a3, a4, a5⟩, ?_, fun m hm => ?_, fun m hm => ?_⟩
  · rw [o.2 7 a7, o.2 8 a8]; exact h.2.1
  · rw [o.2 12 a12]; exact h.2.2.1 m hm
  · rw [o.2 11 a11]; exact h.2.2.2 m hm
theorem plan_ok {r : Nat → Int32} {n : Nat} (hw : WfR r n) {M : Mm} (h : PI M r n) : ∃ M', fX1_plan M = some ((), M') ∧ Oth M M' [6, 7, 8, 9, 10, 11, 12, 13, 14, 15, 16] ∧ PI M' r n ∧ PlanOk M' r n := by
  have hn := hw.1
  unfold fX1_plan
  by_cases g : M.1 10 6 = 0
  · rw [if_pos g, lt_e]
    have o1 : Oth M (stI M 10 6 1) [10] := (Oth.refl M _).put (by decide)
    have c1 := h.1.oth o1 (by decide)
    obtain ⟨M2, e2, o2, c2, kn2, m2⟩ := pathsFrom_ok hw c1 (s := 0) (Nat.pow_pos (by decide))
    obtain ⟨a, m2⟩ := m2 rfl
    rw [show (0 : Int32) = nI 0 from rfl, e2, so_b, lt_e]
    have o3 : Oth M2 (stI M2 10 9 (nI (cN r n 0))) [10] := (Oth.refl M2 _).put (by decide)
    have oA : Oth M (stI M2 10 9 (nI (cN r n 0))) [6, 7, 8, 9, 10, 11, 12, 13, 14, 15, 16] := ((o1.mono (by decide)).trans (o2.mono (by decide))).trans (o3.mono (by decide))
    have c3 := c2.oth o3 (by decide)
    have m3 := m2.oth o3 (by decide) (by decide)
    have hbd := Nat.le_trans (cN_bd (r := r) hn 0 (Nat.pow_pos (by decide))) (gB_bd 0 (by decide)).2
    have v9 : (stI M2 10 9 (nI (cN r n 0))).1 10 9 = nI (cN r n 0) := by rw [stI_1, if_pos rfl, if_pos rfl]
    simp only []
    rw [v9, show nI 0 = (0 : Int32) from rfl]
    generalize hM3 : stI M2 10 9 (nI (cN r n 0)) = M3 at *
    by_cases q : cN r n 0 = 0
    · rw [if_pos (by rw [q]; rfl)]
      obtain ⟨M4, e4, o4, f4⟩ := fill_ok (k := 15) (n := 6) (by decide) (-1000) M3
      rw [e4, so_b]
      obtain ⟨M5, e5, o5, f5⟩ := fill_ok (k := 16) (n := 6) (by decide) (-1000) M4
      simp only []
      rw [e5, so_b, lt_e, lt_e]
      have o6 : Oth M5 (stI (stI M5 10 10 (-1000)) 10 11 (-1000)) [10] := ((Oth.refl M5 _).put (by decide)).put (by decide)
      have oB := ((oA.trans (o4.mono (by decide))).trans (o5.mono (by decide))).trans (o6.mono (by decide))
      have c6 := ((c3.oth o4 (by decide)).oth o5 (by decide)).oth o6 (by decide)
      have pk : PlanOk (stI (stI M5 10 10 (-1000)) 10 11 (-1000)) r n := by
        refine ⟨?_, fun _ => ⟨fun j hj => ⟨?_, ?_⟩, ?_, ?_⟩, fun hp => absurd q (by omega)⟩
        · rw [stI_1, if_pos rfl, if_neg (by decide), stI_1, if_pos rfl, if_neg (by decide), o5.2 10 (by decide), o4.2 10 (by decide)]; exact v9
        · rw [o6.2 15 (by decide), o5.2 15 (by decide)]; exact f4 j (by omega)
        · rw [o6.2 16 (by decide)]; exact f5 j (by omega)
        · rw [stI_1, if_pos rfl, if_neg (by decide), stI_1, if_pos rfl, if_pos rfl]
        · rw [stI_1, if_pos rfl, if_pos rfl]
      exact ⟨_, rfl, oB, ⟨c6, Or.inr pk⟩, pk⟩
    · have h0 : 0 < cN r n 0 := by omega
      rw [if_neg (nI_ne0 h0 (by omega))]
      obtain ⟨M4, e4, o4, d4⟩ := findFewest_ok hw c3.1 m3
      rw [e4, so_b]
      have c4 := c3.oth o4 (by decide)
      have m4 := m3.oth o4 (by decide) (by decide)
      obtain ⟨M5, e5, o5, f5⟩ := walk_ok (what := 0) (kr := 15) hw (by decide) (Or.inl rfl) h0 c4.1 m4 d4
      simp only []
      rw [show (0 : Int32) = nI 0 from rfl, e5, so_b, lt_e]
      have o5' : Oth M4 (stI M5 10 10 (nI (sq r n 0 n).2.2)) [10, 15] := (o5.mono (by decide)).put (by decide)
      have c5 := c4.oth o5' (by decide)
      have m5 := m4.oth o5' (by decide) (by decide)
      have d5 : De (stI M5 10 10 (nI (sq r n 0 n).2.2)) r n a 0 := fun m x y z t ht => by rw [o5'.2 14 (by decide)]; exact d4 m x y z t ht
      obtain ⟨M6, e6, o6, f6⟩ := walk_ok (what := 1) (kr := 16) hw (by decide) (Or.inr rfl) h0 c5.1 m5 d5
      simp only []
      rw [show (1 : Int32) = nI 1 from rfl, e6, so_b, lt_e]
      have o7 : Oth (stI M5 10 10 (nI (sq r n 0 n).2.2)) (stI M6 10 11 (nI (sq r n 1 n).2.2)) [10, 16] := (o6.mono (by decide)).put (by decide)
      have oB := ((oA.trans (o4.mono (by decide))).trans (o5'.mono (by decide))).trans (o7.mono (by decide))
      have pk : PlanOk (stI M6 10 11 (nI (sq r n 1 n).2.2)) r n := by
        refine ⟨?_, fun hz => absurd hz q, fun _ => ⟨fun j hj => ⟨?_, ?_⟩, ?_, ?_⟩⟩
        · rw [stI_1, if_pos rfl, if_neg (by decide), o6.2 10 (by decide), stI_1, if_pos rfl, if_neg (by decide), o5.2 10 (by decide), o4.2 10 (by decide)]; exact v9
        · rw [o7.2 15 (by decide), stI_c _ _ _ _ _ (by decide)]; exact f5 j hj
        · rw [stI_c _ _ _ _ _ (by decide)]; exact f6 j hj
        · rw [stI_1, if_pos rfl, if_neg (by decide), o6.2 10 (by decide), stI_1, if_pos rfl, if_pos rfl]
        · rw [stI_1, if_pos rfl, if_pos rfl]
      exact ⟨_, rfl, oB, ⟨c5.oth o7 (by decide), Or.inr pk⟩, pk⟩
  · rw [if_neg g]
    exact ⟨M, rfl, Oth.refl _ _, h, h.2.resolve_left g⟩
