/-! orders: how many, the fewest changes -/
def sB (g : Nat → Nat) : Nat → Nat
  | 0 => 0
  | b + 1 => sB g b + g b
noncomputable def mB (i : Nat) (p : Nat → Prop) (g : Nat → Nat) : Nat → Nat
  | 0 => i
  | b + 1 => ic (p b) (min (mB i p g b) (g b)) (mB i p g b)
def rF {α : Type} (d : α) (G : Nat → (Nat → α) → α) : Nat → Nat → α
  | 0, _ => d
  | f + 1, m => G m (rF d G f)
def rN {α : Type} (d : α) (G : Nat → (Nat → α) → α) (n m : Nat) : α := rF d G (2 ^ n - m) m
/-- a step that looks at larger masks alone -/
def Up {α : Type} (r : Nat → Int32) (n : Nat) (G : Nat → (Nat → α) → α) : Prop := ∀ m, m < 2 ^ n → ∀ u v : Nat → α, (∀ b, b < n → fr r n m b → u (m ||| 2 ^ b) = v (m ||| 2 ^ b)) → G m u = G m v
theorem rF_two {α : Type} {d : α} {G : Nat → (Nat → α) → α} {r : Nat → Int32} {n : Nat} (hn : n ≤ 6) (hG : Up r n G) : ∀ (f f' m : Nat), m < 2 ^ n → 2 ^ n - m ≤ f → 2 ^ n - m ≤ f' → rF d G f m = rF d G f' m := by
  intro f
  induction f with
  | zero => intro f' m hm hf; omega
  | succ f ih =>
    intro f' m hm hf hf'
    obtain ⟨g, rfl⟩ : ∃ g, f' = g + 1 := ⟨f' - 1, by omega⟩
    rw [rF, rF]
    refine hG m hm _ _ (fun b hb hfr => ?_)
    have h1 := or_gt m (pw_le hn hm) b (by omega) hfr.1
    have h2 := or_lt' n (by omega) m hm b hb
    exact ih g _ h2 (by omega) (by omega)
theorem rN_eq {α : Type} {d : α} {G : Nat → (Nat → α) → α} {r : Nat → Int32} {n : Nat} (hn : n ≤ 6) (hG : Up r n G) {m : Nat} (hm : m < 2 ^ n) : rN d G n m = G m (rN d G n) := by
  obtain ⟨g, hg⟩ : ∃ g, 2 ^ n - m = g + 1 := ⟨2 ^ n - m - 1, by omega⟩
  unfold rN
  rw [hg, rF]
  refine hG m hm _ _ (fun b hb hfr => ?_)
  have h1 := or_gt m (pw_le hn hm) b (by omega) hfr.1
  have h2 := or_lt' n (by omega) m hm b hb
  exact rF_two hn hG _ _ _ h2 (by omega) (Nat.le_refl _)
theorem sB_c {g h : Nat → Nat} : ∀ n, (∀ b, b < n → g b = h b) → sB g n = sB h n
  | 0, _ => rfl
  | n + 1, e => by rw [sB, sB, sB_c n (fun b hb => e b (by omega)), e n (by omega)]
theorem mB_c {i : Nat} {p : Nat → Prop} {g h : Nat → Nat} : ∀ n, (∀ b, b < n → p b → g b = h b) → mB i p g n = mB i p h n
  | 0, _ => rfl
  | n + 1, e => by
    rw [mB, mB, mB_c n (fun b hb => e b (by omega))]
    by_cases q : p n
    · rw [ic_t q, ic_t q, e n (by omega) q]
    · rw [ic_f q, ic_f q]
theorem mB_le {i : Nat} {p : Nat → Prop} {g : Nat → Nat} : ∀ n, mB i p g n ≤ i ∧ ∀ b, b < n → p b → mB i p g n ≤ g b
  | 0 => ⟨Nat.le_refl _, fun b hb => absurd hb (Nat.not_lt_zero _)⟩
  | n + 1 => by
    obtain ⟨h1, h2⟩ := mB_le (i := i) (p := p) (g := g) n
    rw [mB]
    by_cases q : p n
    · rw [ic_t q]
      refine ⟨Nat.le_trans (Nat.min_le_left _ _) h1, fun b hb hp => ?_⟩
      rcases Nat.lt_or_ge b n with h | h
      · exact Nat.le_trans (Nat.min_le_left _ _) (h2 b h hp)
      · have : b = n := by omega
        subst this
        exact Nat.min_le_right _ _
    · rw [ic_f q]
      refine ⟨h1, fun b hb hp => ?_⟩
      rcases Nat.lt_or_ge b n with h | h
      · exact h2 b h hp
      · have : b = n := by omega
        subst this
        exact absurd hp q
theorem mB_at {i : Nat} {p : Nat → Prop} {g : Nat → Nat} : ∀ n, mB i p g n = i ∨ ∃ b, b < n ∧ p b ∧ mB i p g n = g b
  | 0 => Or.inl rfl
  | n + 1 => by
    have h := mB_at (i := i) (p := p) (g := g) n
    rw [mB]
    by_cases q : p n
    · rw [ic_t q]
      rcases Nat.le_total (mB i p g n) (g n) with h3 | h3
      · rw [Nat.min_eq_left h3]
        rcases h with h | ⟨b, h4, h5, h6⟩
        · exact Or.inl h
        · exact Or.inr ⟨b, by omega, h5, h6⟩
      · rw [Nat.min_eq_right h3]
        exact Or.inr ⟨n, by omega, q, rfl⟩
    · rw [ic_f q]
      rcases h with h | ⟨b, h4, h5, h6⟩
      · exact Or.inl h
      · exact Or.inr ⟨b, by omega, h5, h6⟩
theorem sB_pos {g : Nat → Nat} : ∀ n, 0 < sB g n → ∃ b, b < n ∧ 0 < g b
  | 0, h => absurd h (Nat.lt_irrefl _)
  | n + 1, h => by
    rw [sB] at h
    rcases Nat.eq_zero_or_pos (g n) with q | q
    · obtain ⟨b, h1, h2⟩ := sB_pos (g := g) n (by omega)
      exact ⟨b, by omega, h2⟩
    · exact ⟨n, by omega, q⟩
theorem sB_zero {g : Nat → Nat} : ∀ n, sB g n = 0 → ∀ b, b < n → g b = 0
  | 0, _, b, hb => absurd hb (Nat.not_lt_zero _)
  | n + 1, h, b, hb => by
    rw [sB] at h
    rcases Nat.lt_or_ge b n with q | q
    · exact sB_zero n (by omega) b q
    · have : b = n := by omega
      subst this
      omega
theorem sB_bd {g : Nat → Nat} {B : Nat} : ∀ n, (∀ b, b < n → 6 * g b ≤ B) → 6 * sB g n ≤ n * B
  | 0, _ => by simp [sB]
  | n + 1, h => by
    have a := sB_bd n (fun b hb => h b (by omega))
    have c := h n (by omega)
    rw [sB, Nat.add_mul, Nat.one_mul]
    omega
/-- a bend's tool; a change -/
def tl (r : Nat → Int32) (b : Nat) : Nat := (r (14 + b)).toNatClampNeg
def chg (t u : Nat) : Nat := if 3 ≤ t then 0 else if t = u then 0 else 1
noncomputable def gC (r : Nat → Int32) (n m : Nat) (u : Nat → Nat) : Nat := ic (m = 2 ^ n - 1) 1 0 + sB (fun b => ic (fr r n m b) (u (m ||| 2 ^ b)) 0) n
noncomputable def gW (r : Nat → Int32) (n m : Nat) (u : Nat → Nat → Nat) : Nat → Nat := fun t => mB (ic (m = 2 ^ n - 1) 0 1000) (fr r n m) (fun b => chg t (tl r b) + u (m ||| 2 ^ b) (tl r b)) n
noncomputable def cN (r : Nat → Int32) (n m : Nat) : Nat := rN 0 (gC r n) n m
noncomputable def wN (r : Nat → Int32) (n m : Nat) : Nat → Nat := rN (fun _ => 0) (gW r n) n m
theorem up_C (r : Nat → Int32) (n : Nat) : Up r n (gC r n) := by
  intro m _ u v h
  unfold gC
  congr 1
  refine sB_c n (fun b hb => ?_)
  by_cases q : fr r n m b
  · rw [ic_t q, ic_t q, h b hb q]
  · rw [ic_f q, ic_f q]
theorem up_W (r : Nat → Int32) (n : Nat) : Up r n (gW r n) := by
  intro m _ u v h
  unfold gW
  funext t
  exact mB_c n (fun b hb q => by rw [h b hb q])
theorem cN_eq {r : Nat → Int32} {n m : Nat} (hn : n ≤ 6) (hm : m < 2 ^ n) : cN r n m = ic (m = 2 ^ n - 1) 1 0 + sB (fun b => ic (fr r n m b) (cN r n (m ||| 2 ^ b)) 0) n := rN_eq hn (up_C r n) hm
theorem wN_eq {r : Nat → Int32} {n m : Nat} (hn : n ≤ 6) (hm : m < 2 ^ n) (t : Nat) : wN r n m t = mB (ic (m = 2 ^ n - 1) 0 1000) (fr r n m) (fun b => chg t (tl r b) + wN r n (m ||| 2 ^ b) (tl r b)) n := congrFun (rN_eq hn (up_W r n) hm) t
theorem wN_le {r : Nat → Int32} {n m : Nat} (hn : n ≤ 6) (hm : m < 2 ^ n) (t : Nat) : wN r n m t ≤ 1000 := by
  rw [wN_eq hn hm]
  refine Nat.le_trans (mB_le n).1 ?_
  by_cases q : m = 2 ^ n - 1
  · rw [ic_t q]; omega
  · rw [ic_f q]; omega
def pcn (m : Nat) : Nat := (if bt m 0 then 1 else 0) + (if bt m 1 then 1 else 0) + (if bt m 2 then 1 else 0) + (if bt m 3 then 1 else 0) + (if bt m 4 then 1 else 0) + (if bt m 5 then 1 else 0)
def gB (m : Nat) : Nat := 6 ^ (6 - pcn m)
theorem gB_dn : ∀ m, m < 64 → ∀ b, b < 6 → bt m b = false → 6 * gB (m ||| 2 ^ b) ≤ gB m := by decide +kernel
theorem gB_bd : ∀ m, m < 64 → 1 ≤ gB m ∧ gB m ≤ 46656 := by decide +kernel
theorem pcn_up : ∀ m, m < 64 → ∀ b, b < 6 → bt m b = false → pcn (m ||| 2 ^ b) = pcn m + 1 := by decide +kernel
theorem pcn_le : ∀ m, m < 64 → pcn m ≤ 6 := by decide +kernel
theorem pcn_all : ∀ n, n < 7 → pcn (2 ^ n - 1) = n := by decide +kernel
theorem all_bt : ∀ n, n < 7 → ∀ b, b < n → bt (2 ^ n - 1) b = true := by decide +kernel
theorem all_nfr {r : Nat → Int32} {n b : Nat} (hn : n ≤ 6) (hb : b < n) : ¬ fr r n (2 ^ n - 1) b := fun h => by
  have := all_bt n (by omega) b hb
  rw [h.1] at this
  cases this
/-- from the largest mask down -/
theorem down {n : Nat} {P : Nat → Prop} (h : ∀ m, m < 2 ^ n → (∀ k, m < k → k < 2 ^ n → P k) → P m) : ∀ m, m < 2 ^ n → P m := by
  have key : ∀ d m, m < 2 ^ n → 2 ^ n - m ≤ d → P m := by
    intro d
    induction d with
    | zero => intro m h1 h2; omega
    | succ d ih =>
      intro m h1 h2
      exact h m h1 (fun k h3 h4 => ih k h4 (by omega))
  intro m hm
  exact key _ m hm (Nat.le_refl _)
theorem sB_all0 {g : Nat → Nat} : ∀ n, (∀ b, b < n → g b = 0) → sB g n = 0
  | 0, _ => rfl
  | n + 1, h => by rw [sB, sB_all0 n (fun b hb => h b (by omega)), h n (by omega)]
theorem cN_bd {r : Nat → Int32} {n : Nat} (hn : n ≤ 6) : ∀ m, m < 2 ^ n → cN r n m ≤ gB m := by
  refine down (fun m hm ih => ?_)
  have h64 := pw_le hn hm
  rw [cN_eq hn hm]
  by_cases q : m = 2 ^ n - 1
  · rw [ic_t q, sB_all0 n (fun b hb => ic_f (by rw [q]; exact all_nfr hn hb))]
    exact (gB_bd m h64).1
  · rw [ic_f q]
    have h6 : 6 * sB (fun b => ic (fr r n m b) (cN r n (m ||| 2 ^ b)) 0) n ≤ n * gB m := by
      refine sB_bd n (fun b hb => ?_)
      by_cases g : fr r n m b
      · simp only [ic_t g]
        have h1 := or_gt m h64 b (by omega) g.1
        have h2 := or_lt' n (by omega) m hm b hb
        exact Nat.le_trans (Nat.mul_le_mul_left 6 (ih _ h1 h2)) (gB_dn m h64 b (by omega) g.1)
      · simp only [ic_f g]
        omega
    have h7 : n * gB m ≤ 6 * gB m := Nat.mul_le_mul_right _ hn
    omega
/-- the fewest changes tell whether there is a way on -/
theorem wN_c {r : Nat → Int32} {n : Nat} (hn : n ≤ 6) : ∀ m, m < 2 ^ n → (cN r n m = 0 → ∀ t, wN r n m t = 1000) ∧ (0 < cN r n m → ∀ t, wN r n m t ≤ 6 - pcn m) := by
  refine down (fun m hm ih => ?_)
  have h64 := pw_le hn hm
  by_cases q : m = 2 ^ n - 1
  · constructor
    · intro h
      rw [cN_eq hn hm, ic_t q] at h
      omega
    · intro _ t
      rw [wN_eq hn hm]
      have := (mB_le (i := ic (m = 2 ^ n - 1) 0 1000) (p := fr r n m) (g := fun b => chg t (tl r b) + wN r n (m ||| 2 ^ b) (tl r b)) n).1
      rw [ic_t q] at this ⊢
      omega
  · constructor
    · intro h t
      rw [cN_eq hn hm, ic_f q, Nat.zero_add] at h
      rw [wN_eq hn hm, ic_f q]
      rcases mB_at (i := 1000) (p := fr r n m) (g := fun b => chg t (tl r b) + wN r n (m ||| 2 ^ b) (tl r b)) n with e | ⟨b, h1, h2, h3⟩
      · exact e
      · have h4 := sB_zero n h b h1
        simp only [ic_t h2] at h4
        have h5 := (ih _ (or_gt m h64 b (by omega) h2.1) (or_lt' n (by omega) m hm b h1)).1 h4 (tl r b)
        have h6 := (mB_le (i := 1000) (p := fr r n m) (g := fun b => chg t (tl r b) + wN r n (m ||| 2 ^ b) (tl r b)) n).1
        rw [h5] at h3
        omega
    · intro h t
      rw [cN_eq hn hm, ic_f q, Nat.zero_add] at h
      obtain ⟨b, h1, h2⟩ := sB_pos n h
      by_cases g : fr r n m b
      · simp only [ic_t g] at h2
        have h3 := (ih _ (or_gt m h64 b (by omega) g.1) (or_lt' n (by omega) m hm b h1)).2 h2 (tl r b)
        have h4 := (mB_le (i := ic (m = 2 ^ n - 1) 0 1000) (p := fr r n m) (g := fun b => chg t (tl r b) + wN r n (m ||| 2 ^ b) (tl r b)) n).2 b h1 g
        rw [wN_eq hn hm]
        have h5 := pcn_up m h64 b (by omega) g.1
        have h6 := pcn_le _ (or_lt m h64 b (by omega))
        have h7 : chg t (tl r b) ≤ 1 := by unfold chg; split <;> (try split) <;> omega
        omega
      · simp only [ic_f g] at h2
        exact absurd h2 (Nat.lt_irrefl _)
