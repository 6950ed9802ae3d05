def p0 (r : Nat → Int32) (n m b : Nat) : Prop := bt m b = false ∧ ¬ anyB r n (nI m) b ∧ ¬ anyA r n (nI m) b
theorem press0 {p q : Prop} : ic p (1 : Int32) (ic q 2 0) = 0 ↔ ¬ p ∧ ¬ q := by
  by_cases h : p
  · rw [ic_t h]; constructor
    · intro g; exact absurd g (by decide)
    · intro g; exact absurd h g.1
  · rw [ic_f h]
    by_cases k : q
    · rw [ic_t k]; constructor
      · intro g; exact absurd g (by decide)
      · intro g; exact absurd k g.2
    · rw [ic_f k]; exact ⟨fun _ => ⟨h, k⟩, fun _ => rfl⟩
theorem ht0 {r : Nat → Int32} {n m b : Nat} (hm : m < 64) (hb : b < 6) : fr r n m b ↔ (p0 r n m b ∧ ¬ crs r n (nI (m ||| 2 ^ b))) := by
  unfold fr p0 htS
  rw [or_b m hm b hb]
  by_cases h : anyB r n (nI m) b
  · rw [ic_t h]; constructor
    · intro g; exact absurd g.2 (by decide)
    · intro g; exact absurd h g.1.2.1
  · rw [ic_f h]
    by_cases k : anyA r n (nI m) b
    · rw [ic_t k]; constructor
      · intro g; exact absurd g.2 (by decide)
      · intro g; exact absurd k g.1.2.2
    · rw [ic_f k]
      by_cases q : crs r n (nI (m ||| 2 ^ b))
      · rw [ic_t q]; constructor
        · intro g; exact absurd g.2 (by decide)
        · intro g; exact absurd q g.2
      · rw [ic_f q]
        exact ⟨fun g => ⟨⟨g.1, h, k⟩, q⟩, fun g => ⟨g.1.1, rfl⟩⟩
theorem iff_b {a : Bool} {p : Prop} (h : a = true ↔ p) : a = false ↔ ¬ p := by
  cases a <;> simp_all
theorem free33 {r : Nat → Int32} {n : Nat} (hw : WfR r n) {M : Mm} {m : Nat} (hm : m < 64) (hS : Shk M 1 r) (hT : TrR M r n (nI m)) (K : Int32 → Mm → Option (Int32 × Mm)) : ∀ (d f i x : Nat), i + d = n → d < f → x < 64 → (∀ b, b < 6 → (bt x b = true ↔ (b < i ∧ p0 r n m b))) → ∃ x', x' < 64 ∧ (∀ b, b < 6 → (bt x' b = true ↔ (b < n ∧ p0 r n m b))) ∧ lX1_freeAt_33 K (nI m) f (nI x) (nI i) M = K (nI x') M := by
  intro d
  have hn := hw.1
  induction d with
  | zero =>
    intro f i x hi hf hx hb
    obtain ⟨f, rfl⟩ : ∃ g, f = g + 1 := ⟨f - 1, by omega⟩
    have hi : i = n := by omega
    subst hi
    refine ⟨x, hx, hb, ?_⟩
    rw [lX1_freeAt_33, hS.1, hw.2.1, if_pos (nI_le (Nat.le_refl _) (by omega))]
  | succ d ih =>
    intro f i x hi hf hx hb
    obtain ⟨f, rfl⟩ : ∃ g, f = g + 1 := ⟨f - 1, by omega⟩
    rw [lX1_freeAt_33, hS.1, hw.2.1, if_neg (nI_ge (by omega) (by omega)), press_ok hw _ hS hT i (by omega), so_b, lt_e, nI_n1, or_b x hx i (by omega)]
    simp only []
    have skip : ¬ p0 r n m i → ∃ x', x' < 64 ∧ (∀ b, b < 6 → (bt x' b = true ↔ (b < n ∧ p0 r n m b))) ∧ lX1_freeAt_33 K (nI m) f (nI x) (nI (i + 1)) M = K (nI x') M := by
      intro g
      refine ih f (i + 1) x (by omega) (by omega) hx (fun b h6 => ?_)
      rw [hb b h6]
      constructor
      · rintro ⟨a1, a2⟩; exact ⟨by omega, a2⟩
      · rintro ⟨a1, a2⟩
        refine ⟨?_, a2⟩
        rcases Nat.lt_or_ge b i with h | h
        · exact h
        · have : b = i := by omega
          subst this
          exact absurd a2 g
    by_cases g1 : bt m i = false
    · rw [if_pos ((bt_iff0 hm (by omega)).mpr g1)]
      by_cases g2 : ic (anyB r n (nI m) i) (1 : Int32) (ic (anyA r n (nI m) i) 2 0) = 0
      · rw [if_pos g2]
        have gp : p0 r n m i := ⟨g1, (press0.mp g2).1, (press0.mp g2).2⟩
        refine ih f (i + 1) (x ||| 2 ^ i) (by omega) (by omega) (or_lt x hx i (by omega)) (fun b h6 => ?_)
        rw [or_bt x hx i (by omega) b (by omega)]
        by_cases e : b = i
        · subst e; simp [gp]
        · have : (b == i) = false := by simp [e]
          rw [this, Bool.or_false, hb b h6]
          constructor
          · rintro ⟨a1, a2⟩; exact ⟨by omega, a2⟩
          · rintro ⟨a1, a2⟩; exact ⟨by omega, a2⟩
      · rw [if_neg g2]
        exact skip (fun h => g2 (press0.mpr ⟨h.2.1, h.2.2⟩))
    · rw [if_neg (fun h => g1 ((bt_iff0 hm (by omega)).mp h))]
      exact skip (fun h => g1 h.1)
theorem free81 {r : Nat → Int32} {n : Nat} (hw : WfR r n) {m : Nat} (hm : m < 64) (K : Int32 → Mm → Option (Int32 × Mm)) : ∀ (d f i x : Nat) (M : Mm), i + d = n → d < f → CI M r n → x < 64 → (∀ b, b < 6 → (bt x b = true ↔ (b < n ∧ p0 r n m b ∧ (b < i → ¬ crs r n (nI (m ||| 2 ^ b)))))) → ∃ M', lX1_freeAt_81 K (nI m) f (nI x) (nI i) M = K (nI (frS r n m)) M' ∧ Oth M M' [6, 7, 8, 9, 12] ∧ CI M' r n := by
  intro d
  have hn := hw.1
  induction d with
  | zero =>
    intro f i x M hi hf hC hx hb
    obtain ⟨f, rfl⟩ : ∃ g, f = g + 1 := ⟨f - 1, by omega⟩
    have hi : i = n := by omega
    subst hi
    refine ⟨M, ?_, Oth.refl _ _, hC⟩
    rw [lX1_freeAt_81, hC.1.1, hw.2.1, if_pos (nI_le (Nat.le_refl _) (by omega))]
    rw [frS_eq hw m x hx (fun b h6 => ?_)]
    rw [hb b h6, ht0 hm h6]
    exact ⟨fun h => ⟨h.1, h.2.1, h.2.2 h.1⟩, fun h => ⟨h.1, h.2.1, fun _ => h.2.2⟩⟩
  | succ d ih =>
    intro f i x M hi hf hC hx hb
    obtain ⟨f, rfl⟩ : ∃ g, f = g + 1 := ⟨f - 1, by omega⟩
    obtain ⟨M1, e1, o1, c1⟩ := crossAt_ok hw hC (m := m ||| 2 ^ i) (or_lt m hm i (by omega))
    rw [lX1_freeAt_81, hC.1.1, hw.2.1, if_neg (nI_ge (by omega) (by omega)), or_b m hm i (by omega), e1, so_b, lt_e, nI_n1]
    simp only [ic_0]
    have nxt : ∀ (x1 : Nat) (M1 : Mm), Oth M M1 [6, 7, 8, 9, 12] → CI M1 r n → x1 < 64 → (∀ b, b < 6 → (bt x1 b = true ↔ (b < n ∧ p0 r n m b ∧ (b < i + 1 → ¬ crs r n (nI (m ||| 2 ^ b)))))) → ∃ M', lX1_freeAt_81 K (nI m) f (nI x1) (nI (i + 1)) M1 = K (nI (frS r n m)) M' ∧ Oth M M' [6, 7, 8, 9, 12] ∧ CI M' r n := fun x1 M1 o c h1 h2 => ex_o o (ih f (i + 1) x1 M1 (by omega) (by omega) c h1 h2)
    by_cases g1 : bt x i = true
    · rw [if_pos ((bt_iff hx (by omega)).mpr g1)]
      have gi := (hb i (by omega)).mp g1
      by_cases g2 : crs r n (nI (m ||| 2 ^ i))
      · rw [ic_t g2, sub_b x hx i (by omega) g1]
        refine nxt _ _ o1 c1 (Nat.lt_of_le_of_lt (Nat.sub_le _ _) hx) (fun b h6 => ?_)
        rw [bt_sub x hx i (by omega) g1 b h6]
        by_cases e : b = i
        · subst e; simp [g2]
        · have : (b != i) = true := by simp [e]
          rw [this, Bool.and_true, hb b h6]
          exact ⟨fun h => ⟨h.1, h.2.1, fun k => h.2.2 (by omega)⟩, fun h => ⟨h.1, h.2.1, fun k => h.2.2 (by omega)⟩⟩
      · rw [ic_f g2]
        refine nxt _ _ o1 c1 hx (fun b h6 => ?_)
        rw [hb b h6]
        refine ⟨fun h => ⟨h.1, h.2.1, fun k => ?_⟩, fun h => ⟨h.1, h.2.1, fun k => h.2.2 (by omega)⟩⟩
        rcases Nat.lt_or_ge b i with h9 | h9
        · exact h.2.2 h9
        · have : b = i := by omega
          subst this
          exact g2
    · rw [if_neg (fun h => g1 ((bt_iff hx (by omega)).mp h))]
      refine nxt _ _ (Oth.refl _ _) hC hx (fun b h6 => ?_)
      rw [hb b h6]
      refine ⟨fun h => ⟨h.1, h.2.1, fun k => ?_⟩, fun h => ⟨h.1, h.2.1, fun k => h.2.2 (by omega)⟩⟩
      rcases Nat.lt_or_ge b i with h9 | h9
      · exact h.2.2 h9
      · have : b = i := by omega
        subst this
        exact absurd ((hb b h6).mpr ⟨h.1, h.2.1, fun q => absurd q (Nat.lt_irrefl _)⟩) g1
def Kn (M M' : Mm) : Prop := ∀ k, ¬ M.1 11 k = -1 → M'.1 11 k = M.1 11 k
theorem nI_ne_m1 : ∀ x, x < 64 → ¬ nI x = -1 := by decide +kernel
theorem freeAt_ok {r : Nat → Int32} {n : Nat} (hw : WfR r n) {M : Mm} (hC : CI M r n) {m : Nat} (hm : m < 2 ^ n) : ∃ M', fX1_freeAt (nI m) M = some (nI (frS r n m), M') ∧ Oth M M' [6, 7, 8, 9, 11, 12] ∧ CI M' r n ∧ M'.1 11 m = nI (frS r n m) ∧ Kn M M' := by
  have hn := hw.1
  have hm6 := pw_le hn hm
  unfold fX1_freeAt
  rw [rd_b m rfl hm6 (by omega)]
  by_cases g : M.1 11 m = -1
  · rw [if_pos g]
    obtain ⟨M1, e1, o1, t1, c1⟩ := trace_ci hw (nI m) hC
    rw [e1, so_b]
    simp only []
    obtain ⟨x, hx, hxb, e2⟩ := free33 hw hm6 c1.1 t1 (fun (x8 : Int32) (N9 : Mm) => lX1_freeAt_81 (fun (x19 : Int32) (N20 : Mm) => (wr N20 11 64 (nI m) x19).bind (fun N25 => some (x19, N25))) (nI m) fu x8 (0 : Int32) N9) n fu 0 0 (by omega) (by rw [fu_eq]; omega) (by decide) (fun b hb => by simp [bt])
    rw [show (0 : Int32) = nI 0 from rfl] at e2 ⊢
    rw [e2]
    obtain ⟨M2, e3, o2, c2⟩ := free81 hw hm6 (fun (x19 : Int32) (N20 : Mm) => (wr N20 11 64 (nI m) x19).bind (fun N25 => some (x19, N25))) n fu 0 x M1 (by omega) (by rw [fu_eq]; omega) c1 hx (fun b hb => by
      rw [hxb b hb]
      exact ⟨fun h => ⟨h.1, h.2, fun k => absurd k (Nat.not_lt_zero _)⟩, fun h => ⟨h.1, h.2.1⟩⟩)
    rw [e3]
    rw [wr_b m rfl hm6 (by omega)]
    have o3 : Oth M2 (stI M2 11 m (nI (frS r n m))) [6, 7, 8, 9, 11, 12] := (Oth.refl M2 _).put (by decide)
    have oo := ((o1.mono (l' := [6, 7, 8, 9, 11, 12]) (by decide)).trans (o2.mono (by decide))).trans o3
    refine ⟨_, rfl, oo, ⟨c2.1.oth o3 (by decide), ?_, ?_, ?_⟩, ?_, ?_⟩
    · rw [stI_c _ _ _ _ _ (by decide), stI_c _ _ _ _ _ (by decide)]; exact c2.2.1
    · intro k hk; rw [stI_c _ _ _ _ _ (by decide)]; exact c2.2.2.1 k hk
    · intro k hk
      rw [stI_1, if_pos rfl]
      by_cases q : k = m
      · subst q; rw [if_pos rfl]; exact Or.inr rfl
      · rw [if_neg q]; exact c2.2.2.2 k hk
    · rw [stI_1, if_pos rfl, if_pos rfl]
    · intro k hk
      have e11 : M2.1 11 = M.1 11 := (o2.2 11 (by decide)).trans (o1.2 11 (by decide))
      rw [stI_1, if_pos rfl, e11]
      by_cases q : k = m
      · subst q; exact absurd g hk
      · rw [if_neg q]
  · rw [if_neg g, rd_b m rfl hm6 (by omega)]
    have g2 := (hC.2.2.2 m hm).resolve_left g
    exact ⟨M, by rw [g2], Oth.refl _ _, hC, g2, fun k _ => rfl⟩
