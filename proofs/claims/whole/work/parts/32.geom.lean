/-! geometry: bounds, neighbours but one never meet -/
noncomputable def ic {α : Type} (p : Prop) (a b : α) : α := @ite _ p (Classical.propDecidable p) a b
theorem ic_t {α : Type} {p : Prop} {a b : α} (h : p) : ic p a b = a := by unfold ic; rw [if_pos h]
theorem ic_f {α : Type} {p : Prop} {a b : α} (h : ¬ p) : ic p a b = b := by unfold ic; rw [if_neg h]
theorem ic_c {α : Type} {p q : Prop} {a b : α} (h : p ↔ q) : ic p a b = ic q a b := by
  by_cases hp : p
  · rw [ic_t hp, ic_t (h.mp hp)]
  · rw [ic_f hp, ic_f (fun k => hp (h.mpr k))]
theorem nI_tI {n : Nat} (h : n < 2 ^ 31) : (nI n).toInt = (n : Int) := nI_toInt h
/-- one step: where the next joint is, by the heading -/
def stp (q : Nat) (x y x' y' v : Int) : Prop := (q = 0 ∧ x' = x + v ∧ y' = y) ∨ (q = 1 ∧ x' = x ∧ y' = y + v) ∨ (q = 2 ∧ x' = x - v ∧ y' = y) ∨ (q = 3 ∧ x' = x ∧ y' = y - v)
theorem addI {a b : Int32} {x y : Int} (ha : a.toInt = x) (hb : b.toInt = y) (h1 : -100000 ≤ x + y) (h2 : x + y ≤ 100000) : (a + b).toInt = x + y := by
  subst ha; subst hb
  exact tI_add (Int.le_trans (by decide) h1) (Int.lt_of_le_of_lt h2 (by decide))
theorem subI {a b : Int32} {x y : Int} (ha : a.toInt = x) (hb : b.toInt = y) (h1 : -100000 ≤ x - y) (h2 : x - y ≤ 100000) : (a - b).toInt = x - y := by
  subst ha; subst hb
  exact tI_sub (Int.le_trans (by decide) h1) (Int.lt_of_le_of_lt h2 (by decide))
theorem negI {a : Int32} {x : Int} (ha : a.toInt = x) (h1 : -100000 ≤ -x) (h2 : -x ≤ 100000) : (-a).toInt = -x := by
  subst ha
  exact tI_neg (Int.le_trans (by decide) h1) (Int.lt_of_le_of_lt h2 (by decide))
theorem m_one (w : Int32) : w * sX 0 = w ∧ w * sX 1 = 0 ∧ w * sX 2 = -w ∧ w * sX 3 = 0 ∧ w * sY 0 = 0 ∧ w * sY 1 = w ∧ w * sY 2 = 0 ∧ w * sY 3 = -w := by
  have a : sX 0 = 1 ∧ sX 1 = 0 ∧ sX 2 = -1 ∧ sX 3 = 0 ∧ sY 0 = 0 ∧ sY 1 = 1 ∧ sY 2 = 0 ∧ sY 3 = -1 := by decide
  obtain ⟨a0, a1, a2, a3, b0, b1, b2, b3⟩ := a
  have hm : w * (-1) = -w := by rw [Int32.mul_neg, Int32.mul_one]
  rw [a0, a1, a2, a3, b0, b1, b2, b3, hm]
  simp
theorem stepI {x y w : Int32} {X Y V : Int} {q : Nat} (hx : x.toInt = X) (hy : y.toInt = Y) (hw : w.toInt = V) (hV : 1 ≤ V ∧ V ≤ 20) (hX : -1000 ≤ X ∧ X ≤ 1000) (hY : -1000 ≤ Y ∧ Y ≤ 1000) (hq : q < 4) : stp q X Y (x + w * sX q).toInt (y + w * sY q).toInt V := by
  obtain ⟨c0, c1, c2, c3, e0, e1, e2, e3⟩ := m_one w
  have z : ∀ u : Int32, u + 0 = u := fun u => Int32.add_zero u
  have s : ∀ u : Int32, u + -w = u - w := fun u => (Int32.sub_eq_add_neg u w).symm
  unfold stp
  rcases (show q = 0 ∨ q = 1 ∨ q = 2 ∨ q = 3 by omega) with rfl | rfl | rfl | rfl
  · rw [c0, e0, z, hy, addI hx hw (by omega) (by omega)]; exact Or.inl ⟨rfl, rfl, rfl⟩
  · rw [c1, e1, z, hx, addI hy hw (by omega) (by omega)]; exact Or.inr (Or.inl ⟨rfl, rfl, rfl⟩)
  · rw [c2, e2, z, s, hy, subI hx hw (by omega) (by omega)]; exact Or.inr (Or.inr (Or.inl ⟨rfl, rfl, rfl⟩))
  · rw [c3, e3, z, s, hx, subI hy hw (by omega) (by omega)]; exact Or.inr (Or.inr (Or.inr ⟨rfl, rfl, rfl⟩))
theorem stp_bd {q k : Nat} {X Y X' Y' V : Int} (h : stp q X Y X' Y' V) (hV : 1 ≤ V ∧ V ≤ 20) (hX : -(20 * (k : Int)) ≤ X ∧ X ≤ 20 * k) (hY : -(20 * (k : Int)) ≤ Y ∧ Y ≤ 20 * k) : (-(20 * ((k + 1 : Nat) : Int)) ≤ X' ∧ X' ≤ 20 * ((k + 1 : Nat) : Int)) ∧ (-(20 * ((k + 1 : Nat) : Int)) ≤ Y' ∧ Y' ≤ 20 * ((k + 1 : Nat) : Int)) := by
  unfold stp at h
  omega
theorem len_i {r : Nat → Int32} {n : Nat} (h : WfR r n) {k : Nat} (hk : k ≤ n) : ∃ V : Int, (r (1 + k)).toInt = V ∧ 1 ≤ V ∧ V ≤ 20 := by
  obtain ⟨v, h1, h2, h3⟩ := h.2.2.1 k hk
  exact ⟨v, by rw [h3]; exact nI_tI (Nat.lt_of_le_of_lt h2 (by decide)), by omega, by omega⟩
theorem px_stp0 {r : Nat → Int32} {n : Nat} (h : WfR r n) (c : Int32) (k : Nat) (hk : k ≤ n) (hX : -1000 ≤ (pxS r n c k).toInt ∧ (pxS r n c k).toInt ≤ 1000) (hY : -1000 ≤ (pyS r n c k).toInt ∧ (pyS r n c k).toInt ≤ 1000) : ∃ (q : Nat) (v : Int), q < 4 ∧ hdS r n c k = nI q ∧ 1 ≤ v ∧ v ≤ 20 ∧ stp q (pxS r n c k).toInt (pyS r n c k).toInt (pxS r n c (k + 1)).toInt (pyS r n c (k + 1)).toInt v := by
  obtain ⟨q, hq, eq⟩ := hd_ok h c k
  obtain ⟨V, hV, hV1, hV2⟩ := len_i h hk
  refine ⟨q, V, hq, eq, hV1, hV2, ?_⟩
  have hc : (nI q).toNatClampNeg = q := nI_clamp (Nat.lt_trans hq (by decide))
  have := stepI (x := pxS r n c k) (y := pyS r n c k) (w := r (1 + k)) rfl rfl hV ⟨hV1, hV2⟩ hX hY hq
  rw [pxS, pyS, eq, hc]
  exact this
theorem px_bd {r : Nat → Int32} {n : Nat} (h : WfR r n) (c : Int32) : ∀ k, k ≤ n + 1 → (-(20 * (k : Int)) ≤ (pxS r n c k).toInt ∧ (pxS r n c k).toInt ≤ 20 * k) ∧ (-(20 * (k : Int)) ≤ (pyS r n c k).toInt ∧ (pyS r n c k).toInt ≤ 20 * k)
  | 0, _ => by simp [pxS, pyS]
  | k + 1, hk => by
    obtain ⟨a, b⟩ := px_bd h c k (by omega)
    have hn := h.1
    obtain ⟨q, v, -, -, h1, h2, h3⟩ := px_stp0 h c k (by omega) (by omega) (by omega)
    exact stp_bd h3 ⟨h1, h2⟩ a b
theorem px_stp {r : Nat → Int32} {n : Nat} (h : WfR r n) (c : Int32) (k : Nat) (hk : k ≤ n) : ∃ (q : Nat) (v : Int), q < 4 ∧ hdS r n c k = nI q ∧ 1 ≤ v ∧ v ≤ 20 ∧ stp q (pxS r n c k).toInt (pyS r n c k).toInt (pxS r n c (k + 1)).toInt (pyS r n c (k + 1)).toInt v := by
  obtain ⟨a, b⟩ := px_bd h c k (by omega)
  have hn := h.1
  exact px_stp0 h c k hk (by omega) (by omega)
theorem hd_next {r : Nat → Int32} {n : Nat} (h : WfR r n) (c : Int32) (k q q' : Nat) (hq : q < 4) (hq' : q' < 4) (e : hdS r n c k = nI q) (e' : hdS r n c (k + 1) = nI q') : q' = q ∨ q' = (q + 1) % 4 ∨ q' = (q + 3) % 4 := by
  have inj : ∀ a b : Nat, a < 4 → b < 4 → nI a = nI b → a = b := fun a b ha hb h => (nI_eq (by omega) (by omega)).mp h
  unfold hdS at e'
  by_cases h1 : k < n ∧ ((c >>> (nI k &&& 31)) &&& (1 : Int32)) = (1 : Int32)
  · rw [if_pos h1, e] at e'
    rcases h.2.2.2.1 k h1.1 with h3 | h3
    · rw [h3, (hd4 q hq).1] at e'
      exact Or.inr (Or.inl (inj _ _ hq' (Nat.mod_lt _ (by decide)) e'.symm))
    · rw [h3, (hd4 q hq).2] at e'
      exact Or.inr (Or.inr (inj _ _ hq' (Nat.mod_lt _ (by decide)) e'.symm))
  · rw [if_neg h1, e] at e'
    exact Or.inl (inj _ _ hq' hq e'.symm)
/-- two stretches of numbers meet -/
def ovl (a b c d : Int) : Prop := (c ≤ a ∨ c ≤ b ∨ d ≤ a ∨ d ≤ b) ∧ (a ≤ c ∨ a ≤ d ∨ b ≤ c ∨ b ≤ d)
def metS (r : Nat → Int32) (n : Nat) (c : Int32) (k e : Nat) : Prop := ovl (pxS r n c k).toInt (pxS r n c (k + 1)).toInt (pxS r n c e).toInt (pxS r n c (e + 1)).toInt ∧ ovl (pyS r n c k).toInt (pyS r n c (k + 1)).toInt (pyS r n c e).toInt (pyS r n c (e + 1)).toInt
def crs (r : Nat → Int32) (n : Nat) (c : Int32) : Prop := ∃ k e, k + 2 ≤ e ∧ e ≤ n ∧ metS r n c k e
theorem gap {q0 q1 q2 : Nat} {x0 y0 x1 y1 x2 y2 x3 y3 u v w : Int} (h0 : stp q0 x0 y0 x1 y1 u) (h1 : stp q1 x1 y1 x2 y2 v) (h2 : stp q2 x2 y2 x3 y3 w) (a : q1 = q0 ∨ q1 = (q0 + 1) % 4 ∨ q1 = (q0 + 3) % 4) (b : q2 = q1 ∨ q2 = (q1 + 1) % 4 ∨ q2 = (q1 + 3) % 4) (hu : 1 ≤ u) (hv : 1 ≤ v) (hw : 1 ≤ w) : ¬ (ovl x0 x1 x2 x3 ∧ ovl y0 y1 y2 y3) := by
  unfold ovl
  unfold stp at h0 h1 h2
  rcases h0 with ⟨rfl, rfl, rfl⟩ | ⟨rfl, rfl, rfl⟩ | ⟨rfl, rfl, rfl⟩ | ⟨rfl, rfl, rfl⟩ <;> rcases h1 with ⟨rfl, rfl, rfl⟩ | ⟨rfl, rfl, rfl⟩ | ⟨rfl, rfl, rfl⟩ | ⟨rfl, rfl, rfl⟩ <;> first | (exfalso; omega) | (rcases h2 with ⟨rfl, rfl, rfl⟩ | ⟨rfl, rfl, rfl⟩ | ⟨rfl, rfl, rfl⟩ | ⟨rfl, rfl, rfl⟩ <;> omega)
theorem met2 {r : Nat → Int32} {n : Nat} (h : WfR r n) (c : Int32) (k : Nat) (hk : k + 2 ≤ n) : ¬ metS r n c k (k + 2) := by
  obtain ⟨q0, u, hq0, e0, hu, -, s0⟩ := px_stp h c k (by omega)
  obtain ⟨q1, v, hq1, e1, hv, -, s1⟩ := px_stp h c (k + 1) (by omega)
  obtain ⟨q2, w, hq2, e2, hw, -, s2⟩ := px_stp h c (k + 2) (by omega)
  exact gap s0 s1 s2 (hd_next h c k q0 q1 hq0 hq1 e0 e1) (hd_next h c (k + 1) q1 q2 hq1 hq2 e1 e2) hu hv hw
theorem crs3 {r : Nat → Int32} {n : Nat} (h : WfR r n) (c : Int32) : crs r n c ↔ ∃ k e, k + 3 ≤ e ∧ e ≤ n ∧ metS r n c k e := by
  constructor
  · rintro ⟨k, e, h1, h2, h3⟩
    refine ⟨k, e, ?_, h2, h3⟩
    rcases Nat.lt_or_ge (k + 2) e with h4 | h4
    · exact h4
    · have : e = k + 2 := by omega
      subst this
      exact absurd h3 (met2 h c k h2)
  · rintro ⟨k, e, h1, h2, h3⟩
    exact ⟨k, e, by omega, h2, h3⟩
