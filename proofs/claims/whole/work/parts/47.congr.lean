/-! what is made and what tools take don't matter for shapes and orders -/
def Agr (r r' : Nat → Int32) : Prop := ∀ j, j < 23 → j ≠ 20 → r' j = r j
section Congr
variable {r r' : Nat → Int32} {n : Nat}
theorem hd_c (h : Agr r r') (hn : n ≤ 6) (c : Int32) : ∀ k, hdS r' n c k = hdS r n c k
  | 0 => rfl
  | k + 1 => by
    rw [hdS, hdS, hd_c h hn c k]
    by_cases g : k < n ∧ ((c >>> (nI k &&& 31)) &&& (1 : Int32)) = (1 : Int32)
    · rw [if_pos g, if_pos g, h (8 + k) (by omega) (by omega)]
    · rw [if_neg g, if_neg g]
theorem pxy_c (h : Agr r r') (hn : n ≤ 6) (c : Int32) : ∀ k, k ≤ 8 → pxS r' n c k = pxS r n c k ∧ pyS r' n c k = pyS r n c k
  | 0, _ => ⟨rfl, rfl⟩
  | k + 1, hk => by
    obtain ⟨a, b⟩ := pxy_c h hn c k (by omega)
    rw [pxS, pxS, pyS, pyS, a, b, hd_c h hn, h (1 + k) (by omega) (by omega)]
    exact ⟨rfl, rfl⟩
theorem crs_c (h : Agr r r') (hn : n ≤ 6) (c : Int32) : crs r' n c ↔ crs r n c := by
  have e : ∀ k e, e ≤ n → k + 2 ≤ e → (metS r' n c k e ↔ metS r n c k e) := by
    intro k e h1 h2
    unfold metS
    rw [(pxy_c h hn c k (by omega)).1, (pxy_c h hn c k (by omega)).2, (pxy_c h hn c (k + 1) (by omega)).1, (pxy_c h hn c (k + 1) (by omega)).2, (pxy_c h hn c e (by omega)).1, (pxy_c h hn c e (by omega)).2, (pxy_c h hn c (e + 1) (by omega)).1, (pxy_c h hn c (e + 1) (by omega)).2]
  constructor
  · rintro ⟨k, x, h1, h2, h3⟩; exact ⟨k, x, h1, h2, (e k x h2 h1).mp h3⟩
  · rintro ⟨k, x, h1, h2, h3⟩; exact ⟨k, x, h1, h2, (e k x h2 h1).mpr h3⟩
theorem lxy_c (h : Agr r r') (hn : n ≤ 6) (c : Int32) {b k : Nat} (hb : b < n) (hk : k ≤ n + 1) : lxS r' n c b k = lxS r n c b k ∧ lyS r' n c b k = lyS r n c b k := by
  unfold lxS lyS
  rw [(pxy_c h hn c k (by omega)).1, (pxy_c h hn c k (by omega)).2, (pxy_c h hn c (b + 1) (by omega)).1, (pxy_c h hn c (b + 1) (by omega)).2, hd_c h hn, h (8 + b) (by omega) (by omega)]
  exact ⟨rfl, rfl⟩
theorem anyB_c (h : Agr r r') (hn : n ≤ 6) (c : Int32) {b : Nat} (hb : b < n) : anyB r' n c b ↔ anyB r n c b := by
  have e : ∀ k, k ≤ n → (belS r' n c b k ↔ belS r n c b k) := by
    intro k hk
    unfold belS
    rw [(lxy_c h hn c hb (show k ≤ n + 1 by omega)).1, (lxy_c h hn c hb (show k ≤ n + 1 by omega)).2, (lxy_c h hn c hb (show k + 1 ≤ n + 1 by omega)).1, (lxy_c h hn c hb (show k + 1 ≤ n + 1 by omega)).2, h 21 (by decide) (by decide)]
  constructor
  · rintro ⟨k, h1, h2⟩; exact ⟨k, h1, (e k h1).mp h2⟩
  · rintro ⟨k, h1, h2⟩; exact ⟨k, h1, (e k h1).mpr h2⟩
theorem anyA_c (h : Agr r r') (hn : n ≤ 6) (c : Int32) {b : Nat} (hb : b < n) : anyA r' n c b ↔ anyA r n c b := by
  have e : ∀ k, k ≤ n → (aboS r' n c b k ↔ aboS r n c b k) := by
    intro k hk
    unfold aboS
    rw [(lxy_c h hn c hb (show k ≤ n + 1 by omega)).1, (lxy_c h hn c hb (show k ≤ n + 1 by omega)).2, (lxy_c h hn c hb (show k + 1 ≤ n + 1 by omega)).1, (lxy_c h hn c hb (show k + 1 ≤ n + 1 by omega)).2, h 22 (by decide) (by decide)]
  constructor
  · rintro ⟨k, h1, h2⟩; exact ⟨k, h1, (e k h1).mp h2⟩
  · rintro ⟨k, h1, h2⟩; exact ⟨k, h1, (e k h1).mpr h2⟩
theorem ht_c (h : Agr r r') (hn : n ≤ 6) (c : Int32) {b : Nat} (hb : b < n) : htS r' n c b = htS r n c b := by
  unfold htS
  rw [ic_c (anyB_c h hn c hb), ic_c (anyA_c h hn c hb), ic_c (crs_c h hn _)]
theorem fr_c (h : Agr r r') (hn : n ≤ 6) (m : Nat) {b : Nat} (hb : b < n) : fr r' n m b ↔ fr r n m b := by
  unfold fr
  rw [ht_c h hn _ hb]
theorem frN_c (h : Agr r r') (hn : n ≤ 6) (m : Nat) : ∀ k, k ≤ n → frN r' n m k = frN r n m k
  | 0, _ => rfl
  | k + 1, hk => by rw [frN, frN, frN_c h hn m k (by omega), ic_c (fr_c h hn m (show k < n by omega))]
theorem frS_c (h : Agr r r') (hn : n ≤ 6) (m : Nat) : frS r' n m = frS r n m := frN_c h hn m n (Nat.le_refl _)
theorem tl_c (h : Agr r r') (hn : n ≤ 6) {b : Nat} (hb : b < n) : tl r' b = tl r b := by
  unfold tl
  rw [h (14 + b) (by omega) (by omega)]
theorem gC_c (h : Agr r r') (hn : n ≤ 6) : gC r' n = gC r n := by
  funext m u
  unfold gC
  congr 1
  exact sB_c n (fun b hb => ic_c (fr_c h hn m hb))
theorem mB_cc {i : Nat} {p q : Nat → Prop} {g k : Nat → Nat} : ∀ n, (∀ b, b < n → (p b ↔ q b)) → (∀ b, b < n → g b = k b) → mB i p g n = mB i q k n
  | 0, _, _ => rfl
  | n + 1, e1, e2 => by rw [mB, mB, mB_cc n (fun b hb => e1 b (by omega)) (fun b hb => e2 b (by omega)), ic_c (e1 n (by omega)), e2 n (by omega)]
theorem gW_c (h : Agr r r') (hn : n ≤ 6) : gW r' n = gW r n := by
  funext m u t
  unfold gW
  exact mB_cc n (fun b hb => fr_c h hn m hb) (fun b hb => by rw [tl_c h hn hb])
theorem cN_c (h : Agr r r') (hn : n ≤ 6) (m : Nat) : cN r' n m = cN r n m := by
  unfold cN
  rw [gC_c h hn]
theorem wN_cc (h : Agr r r') (hn : n ≤ 6) (m : Nat) : wN r' n m = wN r n m := by
  unfold wN
  rw [gW_c h hn]
theorem fb_c {p q : Nat → Prop} : ∀ (f i : Nat), (∀ b, b < i + f → (p b ↔ q b)) → fb p f i = fb q f i
  | 0, _, _ => rfl
  | f + 1, i, e => by rw [fb, fb, fb_c f (i + 1) (fun b hb => e b (by omega)), ic_c (e i (by omega))]
theorem lb_c (h : Agr r r') (hn : n ≤ 6) (what m t : Nat) : lb r' n what m t = lb r n what m t := by
  unfold lb
  refine fb_c n 0 (fun b hb => ?_)
  have hb : b < n := by omega
  unfold Qc
  rw [fr_c h hn m hb, cN_c h hn, tl_c h hn hb, wN_cc h hn, wN_cc h hn]
theorem lb_lt (what m t : Nat) : lb r n what m t ≤ n := by
  have : ∀ (p : Nat → Prop) (f i : Nat), fb p f i ≤ i + f := by
    intro p f
    induction f with
    | zero => intro i; rw [fb]; omega
    | succ f ih =>
      intro i
      rw [fb]
      by_cases g : p i
      · rw [ic_t g]; omega
      · rw [ic_f g]; have := ih (i + 1); omega
  have := this (Qc r n what m t) n 0
  unfold lb
  omega
theorem sq_c (h : Agr r r') (hn : n ≤ 6) (hw : WfR r n) (hw' : WfR r' n) (what : Nat) (h0 : 0 < cN r n 0) : ∀ k, k ≤ n → sq r' n what k = sq r n what k
  | 0, _ => rfl
  | k + 1, hk => by
    have ih := sq_c h hn hw hw' what h0 k (by omega)
    have hr := ((sq_ok hw what h0 k (by omega)).2 (by omega)).1
    rw [sq, sq, ih, lb_c h hn]
    have : tl r' (lb r n what (sq r n what k).1 (sq r n what k).2.1) = tl r (lb r n what (sq r n what k).1 (sq r n what k).2.1) := tl_c h hn hr
    rw [this]
theorem row_c (h : Agr r r') (hn : n ≤ 6) (hw : WfR r n) (hw' : WfR r' n) (what : Nat) (h0 : 0 < cN r n 0) {k : Nat} (hk : k < n) : rowN r' n what k = rowN r n what k := by
  unfold rowN
  rw [sq_c h hn hw hw' what h0 k (by omega), lb_c h hn]
/-- the folder's caches stay right -/
theorem PI.agr {M M' : Mm} (hp : PI M r n) (hw : WfR r n) (hw' : WfR r' n) (h : Agr r r') (hS : Shk M' 1 r') (o : ∀ k, 6 ≤ k → k ≤ 16 → M'.1 k = M.1 k) : PI M' r' n := by
  have hn := hw.1
  obtain ⟨⟨a1, a2, a3, a4⟩, a5⟩ := hp
  refine ⟨⟨hS, by rw [o 7 (by decide) (by decide), o 8 (by decide) (by decide)]; exact a2, fun m hm => ?_, fun m hm => ?_⟩, ?_⟩
  · rw [o 12 (by decide) (by decide), ic_c (crs_c h hn _)]; exact a3 m hm
  · rw [o 11 (by decide) (by decide), frS_c h hn]; exact a4 m hm
  · rw [o 10 (by decide) (by decide)]
    rcases a5 with a5 | a5
    · exact Or.inl a5
    · refine Or.inr ?_
      unfold PlanOk at a5 ⊢
      rw [o 10 (by decide) (by decide), o 15 (by decide) (by decide), o 16 (by decide) (by decide), cN_c h hn]
      refine ⟨a5.1, a5.2.1, fun q => ?_⟩
      obtain ⟨b1, b2, b3⟩ := a5.2.2 q
      refine ⟨fun j hj => ?_, ?_, ?_⟩
      · rw [row_c h hn hw hw' 0 q hj, row_c h hn hw hw' 1 q hj]; exact b1 j hj
      · rw [sq_c h hn hw hw' 0 q n (Nat.le_refl _)]; exact b2
      · rw [sq_c h hn hw hw' 1 q n (Nat.le_refl _)]; exact b3
end Congr
