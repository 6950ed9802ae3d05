/-! the reference lays the orders -/
theorem allMade_ok {r : Nat → Int32} {n : Nat} (hw : WfR r n) {N : Mm} (hS : Nwk N r) : fX7_allMade N = some (nI (2 ^ n - 1), N) := by
  have hn := hw.1
  unfold fX7_allMade
  rw [rd_b (x := 0) 0 rfl (by omega) (by omega), hS 0 (by omega), hw.2.1, all_m n (by omega)]
theorem i4 (m t : Nat) : (4 : Int32) * nI m + nI t = nI (4 * m + t) := by
  rw [show (4 : Int32) = nI 4 from rfl, pk_mul, nI_add]
theorem tl_ok {r : Nat → Int32} {n : Nat} (hw : WfR r n) {b : Nat} (hb : b < n) : r (14 + b) = nI (tl r b) ∧ tl r b < 3 := by
  obtain ⟨t, h1, h2⟩ := hw.2.2.2.2.1 b hb
  unfold tl
  rw [h2, nI_clamp (by omega)]
  exact ⟨rfl, h1⟩
theorem ic_nI {p : Prop} {a b : Nat} : ic p (nI a) (nI b) = nI (ic p a b) := by
  by_cases h : p
  · rw [ic_t h, ic_t h]
  · rw [ic_f h, ic_f h]
theorem lo37 {r : Nat → Int32} {n : Nat} (hw : WfR r n) (K : Mm → Option (Unit × Mm)) {m : Nat} (hm : m < 2 ^ n) : ∀ (d f i : Nat) (N : Mm), i + d = 4 → d < f → Nwk N r → ∃ N', lX7_laysOrders_37 K (nI m) f (nI i) N = K N' ∧ Oth N N' [65] ∧ ((∀ t, i ≤ t → t < 4 → N'.1 65 (4 * m + t) = nI (ic (m = 2 ^ n - 1) 0 1000)) ∧ ∀ j, (j < 4 * m + i ∨ 4 * m + 4 ≤ j) → N'.1 65 j = N.1 65 j) := by
  intro d
  have hn := hw.1
  have h64 := pw_le hn hm
  induction d with
  | zero =>
    intro f i N hi hf hS
    obtain ⟨f, rfl⟩ : ∃ g, f = g + 1 := ⟨f - 1, by omega⟩
    have hi : i = 4 := by omega
    subst hi
    exact ⟨N, by rw [lX7_laysOrders_37, if_pos (by decide)], Oth.refl _ _, fun t h1 h2 => by omega, fun j _ => rfl⟩
  | succ d ih =>
    intro f i N hi hf hS
    obtain ⟨f, rfl⟩ : ∃ g, f = g + 1 := ⟨f - 1, by omega⟩
    rw [lX7_laysOrders_37, if_neg (by rw [show (4 : Int32) = nI 4 from rfl]; exact nI_ge (by omega) (by omega)), allMade_ok hw hS, so_b, i4]
    simp only []
    rw [wr_b (4 * m + i) rfl (by omega) (by omega), wr_b (4 * m + i) rfl (by omega) (by omega), nI_n1]
    have key : ∀ v : Int32, v = nI (ic (m = 2 ^ n - 1) 0 1000) → ∃ N', lX7_laysOrders_37 K (nI m) f (nI (i + 1)) (stI N 65 (4 * m + i) v) = K N' ∧ Oth N N' [65] ∧ ((∀ t, i ≤ t → t < 4 → N'.1 65 (4 * m + t) = nI (ic (m = 2 ^ n - 1) 0 1000)) ∧ ∀ j, (j < 4 * m + i ∨ 4 * m + 4 ≤ j) → N'.1 65 j = N.1 65 j) := by
      intro v hv
      have o1 : Oth N (stI N 65 (4 * m + i) v) [65] := (Oth.refl N _).put (by decide)
      obtain ⟨N', e1, e2, e3, e4⟩ := ih f (i + 1) _ (by omega) (by omega) (hS.oth o1 (by decide))
      refine ⟨N', e1, o1.trans e2, fun t h1 h2 => ?_, fun j hj => ?_⟩
      · by_cases q : t = i
        · subst q
          rw [e4 _ (by omega), stI_1, if_pos rfl, if_pos rfl, hv]
        · exact e3 t (by omega) h2
      · rw [e4 j (by omega), stI_1, if_pos rfl, if_neg (by omega)]
    by_cases q : m = 2 ^ n - 1
    · rw [if_pos (by rw [← q])]
      exact key 0 (by rw [ic_t q]; rfl)
    · rw [if_neg (fun h => q ((nI_eq (by omega) (by have := Nat.pow_le_pow_right (show 0 < 2 by decide) hn; omega)).mp h))]
      exact key 1000 (by rw [ic_f q]; rfl)
theorem chg_le (t u : Nat) : chg t u ≤ 1 := by unfold chg; split <;> (try split) <;> omega
theorem chBy_ok {r : Nat → Int32} {n : Nat} (hw : WfR r n) {N : Mm} (hS : Nwk N r) {m t b : Nat} (hm : m < 2 ^ n) (ht : t < 4) (hb : b < n) (hN : N.1 65 (4 * (m ||| 2 ^ b) + tl r b) = nI (wN r n (m ||| 2 ^ b) (tl r b))) : fX7_changesBy (nI m) (nI t) (nI b) N = some (nI (chg t (tl r b) + wN r n (m ||| 2 ^ b) (tl r b)), N) := by
  have hn := hw.1
  have h64 := pw_le hn hm
  obtain ⟨e1, e2⟩ := tl_ok hw hb
  have h3 := or_lt m h64 b (by omega)
  unfold fX7_changesBy
  rw [rd_b (x := 14 + nI b) (14 + b) (nI_add 14 b) (by omega) (by omega), hS (14 + b) (by omega), e1, or_b m h64 b (by omega), i4, rd_b (4 * (m ||| 2 ^ b) + tl r b) rfl (by omega) (by omega), hN]
  unfold chg
  by_cases q : 3 ≤ t
  · rw [if_pos (by rw [show (3 : Int32) = nI 3 from rfl]; exact nI_le q (by omega)), if_pos q, Int32.add_zero, Nat.zero_add]
  · rw [if_neg (by rw [show (3 : Int32) = nI 3 from rfl]; exact nI_ge (by omega) (by omega)), if_neg q]
    by_cases q2 : t = tl r b
    · rw [if_pos (by rw [q2]), if_pos q2, Int32.add_zero, Nat.zero_add]
    · rw [if_neg (fun h => q2 ((nI_eq (by omega) (by omega)).mp h)), if_neg q2, nI_n1, Nat.add_comm]
theorem ls_nI {a b : Nat} (ha : a < 2 ^ 31) (hb : b < 2 ^ 31) : ls (nI a) (nI b) = nI (min a b) := by
  unfold ls
  by_cases h : b ≤ a
  · rw [if_pos (nI_le h ha), Nat.min_eq_right h]
  · rw [if_neg (nI_ge (by omega) hb), Nat.min_eq_left (by omega)]
theorem lo127 {r : Nat → Int32} {n : Nat} (hw : WfR r n) (K : Mm → Option (Unit × Mm)) {m b : Nat} (hm : m < 2 ^ n) (hb : b < n) (hfr : fr r n m b) (a : Nat → Nat) (ha : ∀ t, t < 4 → a t ≤ 1000) : ∀ (d f i : Nat) (N : Mm), i + d = 4 → d < f → Nwk N r → N.1 65 (4 * (m ||| 2 ^ b) + tl r b) = nI (wN r n (m ||| 2 ^ b) (tl r b)) → (∀ t, i ≤ t → t < 4 → N.1 65 (4 * m + t) = nI (a t)) → ∃ N', lX7_laysOrders_127 K (nI m) (nI b) f (nI i) N = K N' ∧ Oth N N' [65] ∧ ((∀ t, i ≤ t → t < 4 → N'.1 65 (4 * m + t) = nI (min (a t) (chg t (tl r b) + wN r n (m ||| 2 ^ b) (tl r b)))) ∧ ∀ j, (j < 4 * m + i ∨ 4 * m + 4 ≤ j) → N'.1 65 j = N.1 65 j) := by
  intro d
  have hn := hw.1
  have h64 := pw_le hn hm
  have h1 := or_gt m h64 b (by omega) hfr.1
  have h2 := or_lt' n (by omega) m hm b hb
  have hw9 := wN_le (r := r) hn h2 (tl r b)
  induction d with
  | zero =>
    intro f i N hi hf hS hN hA
    obtain ⟨f, rfl⟩ : ∃ g, f = g + 1 := ⟨f - 1, by omega⟩
    have hi : i = 4 := by omega
    subst hi
    exact ⟨N, by rw [lX7_laysOrders_127, if_pos (by decide)], Oth.refl _ _, fun t h1 h2 => by omega, fun j _ => rfl⟩
  | succ d ih =>
    intro f i N hi hf hS hN hA
    obtain ⟨f, rfl⟩ : ∃ g, f = g + 1 := ⟨f - 1, by omega⟩
    have hc := chg_le i (tl r b)
    have hai := ha i (by omega)
    rw [lX7_laysOrders_127, if_neg (by rw [show (4 : Int32) = nI 4 from rfl]; exact nI_ge (by omega) (by omega)), i4, rd_b (4 * m + i) rfl (by omega) (by omega), chBy_ok hw hS hm (by omega) hb hN, so_b]
    simp only []
    rw [lesser_ok, so_b, hA i (Nat.le_refl _) (by omega)]
    simp only []
    rw [ls_nI (by omega) (by omega), wr_b (4 * m + i) rfl (by omega) (by omega), nI_n1]
    generalize hv : min (a i) (chg i (tl r b) + wN r n (m ||| 2 ^ b) (tl r b)) = v
    have o1 : Oth N (stI N 65 (4 * m + i) (nI v)) [65] := (Oth.refl N _).put (by decide)
    obtain ⟨N', e1, e2, e3, e4⟩ := ih f (i + 1) (stI N 65 (4 * m + i) (nI v)) (by omega) (by omega) (hS.oth o1 (by decide)) (by rw [stI_1, if_pos rfl, if_neg (by omega)]; exact hN) (fun t h5 h6 => by rw [stI_1, if_pos rfl, if_neg (by omega)]; exact hA t (by omega) h6)
    refine ⟨N', e1, o1.trans e2, fun t h5 h6 => ?_, fun j hj => ?_⟩
    · by_cases q : t = i
      · subst q
        rw [e4 _ (by omega), stI_1, if_pos rfl, if_pos rfl, hv]
      · exact e3 t (by omega) h6
    · rw [e4 j (by omega), stI_1, if_pos rfl, if_neg (by omega)]
/-- the masks from i on are laid -/
def Dn (N : Mm) (r : Nat → Int32) (n i : Nat) : Prop := ∀ m, i ≤ m → m < 2 ^ n → N.1 63 m = nI (frS r n m) ∧ N.1 64 m = nI (cN r n m) ∧ ∀ t, t < 4 → N.1 65 (4 * m + t) = nI (wN r n m t)
/-- of mask m the bends below i are looked at -/
def Md (N : Mm) (r : Nat → Int32) (n m i : Nat) : Prop := (∃ x, x < 64 ∧ N.1 63 m = nI x ∧ ∀ b, b < 6 → (bt x b = true ↔ (b < i ∧ fr r n m b))) ∧ N.1 64 m = nI (ic (m = 2 ^ n - 1) 1 0 + sB (fun b => ic (fr r n m b) (cN r n (m ||| 2 ^ b)) 0) i) ∧ ∀ t, t < 4 → N.1 65 (4 * m + t) = nI (mB (ic (m = 2 ^ n - 1) 0 1000) (fr r n m) (fun b => chg t (tl r b) + wN r n (m ||| 2 ^ b) (tl r b)) i)
theorem mB_1000 {r : Nat → Int32} {n m : Nat} (g : Nat → Nat) (i : Nat) : mB (ic (m = 2 ^ n - 1) 0 1000) (fr r n m) g i ≤ 1000 := by
  refine Nat.le_trans (mB_le i).1 ?_
  by_cases q : m = 2 ^ n - 1
  · rw [ic_t q]; omega
  · rw [ic_f q]; omega
theorem lo75 {r : Nat → Int32} {n : Nat} (hw : WfR r n) (K : Mm → Option (Unit × Mm)) {m : Nat} (hm : m < 2 ^ n) : ∀ (d f i : Nat) (N : Mm), i + d = n → d < f → Nwk N r → Dn N r n (m + 1) → Md N r n m i → ∃ N', lX7_laysOrders_75 K (nI m) f (nI i) N = K N' ∧ Oth N N' [60, 61, 62, 63, 64, 65] ∧ Dn N' r n m := by
  intro d
  have hn := hw.1
  have h64 := pw_le hn hm
  induction d with
  | zero =>
    intro f i N hi hf hS hD hM
    obtain ⟨f, rfl⟩ : ∃ g, f = g + 1 := ⟨f - 1, by omega⟩
    have hi : i = n := by omega
    subst hi
    refine ⟨N, ?_, Oth.refl _ _, fun k h1 h2 => ?_⟩
    · rw [lX7_laysOrders_75, rd_b (x := 0) 0 rfl (by omega) (by omega), hS 0 (by omega), hw.2.1, if_pos (nI_le (Nat.le_refl _) (by omega))]
    · rcases Nat.lt_or_ge m k with h | h
      · exact hD k h h2
      · have : k = m := by omega
        subst this
        obtain ⟨⟨x, hx, ex, hb⟩, ec, ew⟩ := hM
        refine ⟨by rw [ex, frS_eq hw k x hx hb], by rw [ec, cN_eq hn hm], fun t ht => by rw [ew t ht, wN_eq hn hm]⟩
  | succ d ih =>
    intro f i N hi hf hS hD hM
    obtain ⟨f, rfl⟩ : ∃ g, f = g + 1 := ⟨f - 1, by omega⟩
    obtain ⟨N1, e1, o1⟩ := isFree_ok hw hS h64 (show i < n by omega)
    have hS1 := hS.oth o1 (by decide)
    have c63 : N1.1 63 = N.1 63 := o1.2 63 (by decide)
    have c64 : N1.1 64 = N.1 64 := o1.2 64 (by decide)
    have c65 : N1.1 65 = N.1 65 := o1.2 65 (by decide)
    obtain ⟨⟨x, hx, ex, hb⟩, ec, ew⟩ := hM
    rw [lX7_laysOrders_75, rd_b (x := 0) 0 rfl (by omega) (by omega), hS 0 (by omega), hw.2.1, if_neg (nI_ge (by omega) (by omega)), e1, so_b]
    simp only [ic_0]
    have oo := o1.mono (l' := [60, 61, 62, 63, 64, 65]) (by decide)
    by_cases g : fr r n m i
    · rw [ic_t g, rd_b m rfl h64 (by omega), c63, ex, or_b x hx i (by omega), wr_b m rfl h64 (by omega), rd_b m rfl h64 (by omega), or_b m h64 i (by omega), rd_b (m ||| 2 ^ i) rfl (or_lt m h64 i (by omega)) (by omega), wr_b m rfl h64 (by omega)]
      have h1 := or_gt m h64 i (by omega) g.1
      have h2 := or_lt' n (by omega) m hm i (by omega)
      obtain ⟨d1, d2, d3⟩ := hD (m ||| 2 ^ i) (by omega) h2
      simp only [stI_1, Nat.reduceEqDiff, reduceIte, c64, ec, d2, nI_add]
      generalize hN2 : stI (stI N1 63 m (nI (x ||| 2 ^ i))) 64 m (nI (ic (m = 2 ^ n - 1) 1 0 + sB (fun b => ic (fr r n m b) (cN r n (m ||| 2 ^ b)) 0) i + cN r n (m ||| 2 ^ i))) = N2
      have o2 : Oth N1 N2 [60, 61, 62, 63, 64, 65] := by rw [← hN2]; exact ((Oth.refl N1 _).put (by decide)).put (by decide)
      have hS2 := hS1.oth o2 (by decide)
      have n65 : N2.1 65 = N.1 65 := by rw [← hN2, stI_c _ _ _ _ _ (by decide), stI_c _ _ _ _ _ (by decide)]; exact c65
      obtain ⟨tt1, tt2⟩ := tl_ok hw (show i < n by omega)
      rw [show (0 : Int32) = nI 0 from rfl]
      obtain ⟨N3, e3, o3, a3, b3⟩ := lo127 hw (fun (N42 : Mm) => lX7_laysOrders_75 K (nI m) f (nI i + 1) N42) hm (show i < n by omega) g (fun t => mB (ic (m = 2 ^ n - 1) 0 1000) (fr r n m) (fun b => chg t (tl r b) + wN r n (m ||| 2 ^ b) (tl r b)) i) (fun t _ => mB_1000 _ i) 4 fu 0 N2 (by omega) (by rw [fu_eq]; omega) hS2 (by rw [n65]; exact d3 _ (by omega)) (fun t _ ht => by rw [n65]; exact ew t ht)
      rw [e3, nI_n1]
      have o123 := (oo.trans o2).trans (o3.mono (by decide))
      have n63 : N3.1 63 = N2.1 63 := o3.2 63 (by decide)
      have n64 : N3.1 64 = N2.1 64 := o3.2 64 (by decide)
      refine ex_o o123 (ih f (i + 1) N3 (by omega) (by omega) (hS2.oth o3 (by decide)) (fun k h5 h6 => ?_) ⟨⟨x ||| 2 ^ i, or_lt x hx i (by omega), ?_, fun b h6 => ?_⟩, ?_, fun t ht => ?_⟩)
      · obtain ⟨q1, q2, q3⟩ := hD k h5 h6
        refine ⟨?_, ?_, fun t ht => ?_⟩
        · rw [n63, ← hN2, stI_1, if_neg (by decide), stI_1, if_pos rfl, if_neg (by omega), c63]; exact q1
        · rw [n64, ← hN2, stI_1, if_pos rfl, if_neg (by omega), stI_1, if_neg (by decide), c64]; exact q2
        · rw [b3 _ (by omega), n65]; exact q3 t ht
      · rw [n63, ← hN2, stI_1, if_neg (by decide), stI_1, if_pos rfl, if_pos rfl]
      · rw [or_bt x hx i (by omega) b (by omega)]
        by_cases e : b = i
        · subst e; simp [g]
        · have : (b == i) = false := by simp [e]
          rw [this, Bool.or_false, hb b h6]
          constructor
          · rintro ⟨a1, a2⟩; exact ⟨by omega, a2⟩
          · rintro ⟨a1, a2⟩; exact ⟨by omega, a2⟩
      · rw [n64, ← hN2, stI_1, if_pos rfl, if_pos rfl, sB, ic_t g, Nat.add_assoc]
      · rw [a3 t (Nat.zero_le _) ht, mB, ic_t g]
    · rw [ic_f g, nI_n1]
      refine ex_o oo (ih f (i + 1) N1 (by omega) (by omega) hS1 (fun k h5 h6 => by rw [c63, c64, c65]; exact hD k h5 h6) ⟨⟨x, hx, by rw [c63]; exact ex, fun b h6 => ?_⟩, ?_, fun t ht => ?_⟩)
      · rw [hb b h6]
        constructor
        · rintro ⟨a1, a2⟩; exact ⟨by omega, a2⟩
        · rintro ⟨a1, a2⟩
          refine ⟨?_, a2⟩
          rcases Nat.lt_or_ge b i with h | h
          · exact h
          · have : b = i := by omega
            subst this
            exact absurd a2 g
      · rw [c64, ec, sB, ic_f g, Nat.add_zero]
      · rw [c65, ew t ht, mB, ic_f g]
theorem lo5 {r : Nat → Int32} {n : Nat} (hw : WfR r n) (K : Mm → Option (Unit × Mm)) : ∀ (m f : Nat) (N : Mm), m < 2 ^ n → m + 1 < f → Nwk N r → Dn N r n (m + 1) → ∃ N', lX7_laysOrders_5 K f (nI m) N = K N' ∧ Oth N N' [60, 61, 62, 63, 64, 65] ∧ Dn N' r n 0 := by
  have hn := hw.1
  intro m
  induction m with
  | zero =>
    intro f N hm hf hS hD
    obtain ⟨f, rfl⟩ : ∃ g, f = g + 1 + 1 := ⟨f - 2, by omega⟩
    obtain ⟨N', e, o, h⟩ := lo_body hw K 0 f.succ N hm hS hD
    refine ⟨N', ?_, o, h⟩
    rw [e, show nI 0 + (-1 : Int32) = -1 from by decide, lX7_laysOrders_5, if_pos (by decide)]
  | succ m ih =>
    intro f N hm hf hS hD
    obtain ⟨f, rfl⟩ : ∃ g, f = g + 1 := ⟨f - 1, by omega⟩
    obtain ⟨N', e, o, h⟩ := lo_body hw K (m + 1) f N hm hS hD
    rw [e, pk_m1]
    exact ex_o o (ih f N' (by omega) (by omega) (hS.oth o (by decide)) h)
where
  lo_body {r : Nat → Int32} {n : Nat} (hw : WfR r n) (K : Mm → Option (Unit × Mm)) (m f : Nat) (N : Mm) (hm : m < 2 ^ n) (hS : Nwk N r) (hD : Dn N r n (m + 1)) : ∃ N', lX7_laysOrders_5 K (f + 1) (nI m) N = lX7_laysOrders_5 K f (nI m + (-1)) N' ∧ Oth N N' [60, 61, 62, 63, 64, 65] ∧ Dn N' r n m := by
    have hn := hw.1
    have h64 := pw_le hn hm
    rw [lX7_laysOrders_5, if_neg (nI_pos (by omega)), wr_b m rfl h64 (by omega)]
    have o1 : Oth N (stI N 63 m 0) [60, 61, 62, 63, 64, 65] := (Oth.refl N _).put (by decide)
    have hS1 := hS.oth o1 (by decide)
    rw [allMade_ok hw hS1, so_b, jn_e]
    simp only []
    have key : ∀ v : Int32, v = nI (ic (m = 2 ^ n - 1) 1 0) → ∃ N', ((wr (stI N 63 m 0) 64 64 (nI m) v).bind fun N12 => lX7_laysOrders_37 (fun N17 => lX7_laysOrders_75 (fun N27 => lX7_laysOrders_5 K f (nI m + -1) N27) (nI m) fu 0 N17) (nI m) fu 0 N12) = lX7_laysOrders_5 K f (nI m + (-1)) N' ∧ Oth N N' [60, 61, 62, 63, 64, 65] ∧ Dn N' r n m := by
      intro v hv
      rw [wr_b m rfl h64 (by omega)]
      have o2 : Oth N (stI (stI N 63 m 0) 64 m v) [60, 61, 62, 63, 64, 65] := o1.put (by decide)
      have hS2 := hS.oth o2 (by decide)
      rw [show (0 : Int32) = nI 0 from rfl]
      obtain ⟨N3, e3, o3, a3, b3⟩ := lo37 hw (fun N17 => lX7_laysOrders_75 (fun N27 => lX7_laysOrders_5 K f (nI m + -1) N27) (nI m) fu (nI 0) N17) hm 4 fu 0 (stI (stI N 63 m (nI 0)) 64 m v) (by omega) (by rw [fu_eq]; omega) hS2
      rw [e3]
      have n63 : N3.1 63 = (stI (stI N 63 m (nI 0)) 64 m v).1 63 := o3.2 63 (by decide)
      have n64 : N3.1 64 = (stI (stI N 63 m (nI 0)) 64 m v).1 64 := o3.2 64 (by decide)
      refine ex_o (o2.trans (o3.mono (by decide))) (lo75 hw (fun N27 => lX7_laysOrders_5 K f (nI m + -1) N27) hm n fu 0 N3 (by omega) (by rw [fu_eq]; omega) (hS2.oth o3 (by decide)) (fun k h5 h6 => ?_) ⟨⟨0, by decide, ?_, fun b h6 => by simp [bt]⟩, ?_, fun t ht => ?_⟩)
      · obtain ⟨q1, q2, q3⟩ := hD k h5 h6
        refine ⟨?_, ?_, fun t ht => ?_⟩
        · rw [n63, stI_1, if_neg (by decide), stI_1, if_pos rfl, if_neg (by omega)]; exact q1
        · rw [n64, stI_1, if_pos rfl, if_neg (by omega), stI_1, if_neg (by decide)]; exact q2
        · rw [b3 _ (by omega), stI_1, if_neg (by decide), stI_1, if_neg (by decide)]; exact q3 t ht
      · rw [n63, stI_1, if_neg (by decide), stI_1, if_pos rfl, if_pos rfl]
      · rw [n64, stI_1, if_pos rfl, if_pos rfl, hv, sB, Nat.add_zero]
      · rw [a3 t (Nat.zero_le _) ht, mB]
    by_cases q : m = 2 ^ n - 1
    · rw [if_pos (by rw [← q])]
      exact key 1 (by rw [ic_t q]; rfl)
    · rw [if_neg (fun h => q ((nI_eq (by omega) (by have := Nat.pow_le_pow_right (show 0 < 2 by decide) hn; omega)).mp h))]
      exact key 0 (by rw [ic_f q]; rfl)
theorem laysOrders_ok {r : Nat → Int32} {n : Nat} (hw : WfR r n) {N : Mm} (hS : Nwk N r) : ∃ N', fX7_laysOrders N = some ((), N') ∧ Oth N N' [60, 61, 62, 63, 64, 65] ∧ Dn N' r n 0 := by
  have hn := hw.1
  have h2 : 0 < 2 ^ n := Nat.pow_pos (by decide)
  have h3 := Nat.pow_le_pow_right (show 0 < 2 by decide) hn
  unfold fX7_laysOrders
  rw [allMade_ok hw hS, so_b]
  simp only []
  exact lo5 hw (fun N5 => some ((), N5)) (2 ^ n - 1) fu N (by omega) (by rw [fu_eq]; omega) hS (fun k h5 h6 => by omega)
