theorem met_in {r : Nat → Int32} {n : Nat} (hw : WfR r n) (c : Int32) {M : Mm} (hS : Nwk M r) (hT : TrM M r n c) (K : Int32 → Mm → Option (Int32 × Mm)) (k : Nat) (hk : k ≤ n) (P : Prop) : ∀ (d f e : Nat) (x : Int32), n + 1 ≤ e + d → e ≤ 100 → d < f → ∀ R : Prop, x = ic R 1 0 → lX7_hitBy_173 K (nI k) f x (nI e) M = K (ic (R ∨ ∃ e', e ≤ e' ∧ e' ≤ n ∧ metS r n c k e') 1 0) M := by
  intro d
  have hn := hw.1
  have f0 : rd M 55 26 0 = some (nI n) := rd_v 0 rfl (by omega) (by omega) ((hS 0 (by omega)).trans hw.2.1)
  induction d with
  | zero =>
    intro f e x he h100 hf R hx
    obtain ⟨f, rfl⟩ : ∃ g, f = g + 1 := ⟨f - 1, by omega⟩
    rw [lX7_hitBy_173, f0, so_b, if_pos (nI_lt (by omega) (by omega)), hx]
    congr 1
    refine ic_c ⟨fun h => Or.inl h, fun h => h.elim id ?_⟩
    rintro ⟨e', h1, h2, -⟩
    omega
  | succ d ih =>
    intro f e x he h100 hf R hx
    obtain ⟨f, rfl⟩ : ∃ g, f = g + 1 := ⟨f - 1, by omega⟩
    rcases Nat.lt_or_ge n e with h9 | h9
    · rw [lX7_hitBy_173, f0, so_b, if_pos (nI_lt (by omega) (by omega)), hx]
      congr 1
      refine ic_c ⟨fun h => Or.inl h, fun h => h.elim id ?_⟩
      rintro ⟨e', h1, h2, -⟩
      omega
    · rw [lX7_hitBy_173, f0, so_b, if_neg (nI_nlt (by omega) (by omega)), met_ok hw c hT hk h9, so_b, nI_n1]
      have sh : ∀ R' : Prop, (R' ↔ (R ∨ metS r n c k e)) → ((R' ∨ ∃ e', e + 1 ≤ e' ∧ e' ≤ n ∧ metS r n c k e') ↔ (R ∨ ∃ e', e ≤ e' ∧ e' ≤ n ∧ metS r n c k e')) := by
        intro R' hR
        rw [hR]
        constructor
        · rintro ((h | h) | ⟨e', h1, h2, h3⟩)
          · exact Or.inl h
          · exact Or.inr ⟨e, Nat.le_refl _, h9, h⟩
          · exact Or.inr ⟨e', by omega, h2, h3⟩
        · rintro (h | ⟨e', h1, h2, h3⟩)
          · exact Or.inl (Or.inl h)
          · rcases Nat.lt_or_ge e e' with h4 | h4
            · exact Or.inr ⟨e', h4, h2, h3⟩
            · have : e' = e := by omega
              subst this
              exact Or.inl (Or.inr h3)
      by_cases g : R
      · rw [if_neg (by rw [hx, ic_t g]; exact z10), ih f (e + 1) 1 (by omega) (by omega) (by omega) True (ic_t trivial).symm, ic_c (sh True ⟨fun _ => Or.inl g, fun _ => trivial⟩)]
      · rw [if_pos (by rw [hx, ic_f g]), ic_0]
        by_cases g1 : metS r n c k e
        · rw [ic_t g1, ih f (e + 1) 1 (by omega) (by omega) (by omega) True (ic_t trivial).symm, ic_c (sh True ⟨fun _ => Or.inr g1, fun _ => trivial⟩)]
        · rw [ic_f g1, ih f (e + 1) 0 (by omega) (by omega) (by omega) False (ic_f id).symm, ic_c (sh False ⟨fun h => h.elim, fun h => h.elim g g1⟩)]
theorem met_out {r : Nat → Int32} {n : Nat} (hw : WfR r n) (c : Int32) {M : Mm} (hS : Nwk M r) (hT : TrM M r n c) (K : Int32 → Mm → Option (Int32 × Mm)) : ∀ (d f k : Nat) (x : Int32), k + d = n + 1 → d < f → ∀ R : Prop, x = ic R 1 0 → lX7_hitBy_156 K f x (nI k) M = K (ic (R ∨ ∃ k' e', k ≤ k' ∧ k' + 2 ≤ e' ∧ e' ≤ n ∧ metS r n c k' e') 1 0) M := by
  intro d
  have hn := hw.1
  have f0 : rd M 55 26 0 = some (nI n) := rd_v 0 rfl (by omega) (by omega) ((hS 0 (by omega)).trans hw.2.1)
  induction d with
  | zero =>
    intro f k x hk hf R hx
    obtain ⟨f, rfl⟩ : ∃ g, f = g + 1 := ⟨f - 1, by omega⟩
    rw [lX7_hitBy_156, f0, so_b, if_pos (nI_lt (by omega) (by omega)), hx]
    congr 1
    refine ic_c ⟨fun h => Or.inl h, fun h => h.elim id ?_⟩
    rintro ⟨k', e', h1, h2, h3, -⟩
    omega
  | succ d ih =>
    intro f k x hk hf R hx
    obtain ⟨f, rfl⟩ : ∃ g, f = g + 1 := ⟨f - 1, by omega⟩
    rw [lX7_hitBy_156, f0, so_b, if_neg (nI_nlt (by omega) (by omega)), lt_e, show nI k + (2 : Int32) = nI (k + 2) from nI_add k 2, nI_n1, met_in hw c hS hT _ k (by omega) True (n + 1) fu (k + 2) x (by omega) (by omega) (by rw [fu_eq]; omega) R hx, ih f (k + 1) _ (by omega) (by omega) _ rfl]
    congr 1
    refine ic_c ⟨?_, ?_⟩
    · rintro ((h | ⟨e', h1, h2, h3⟩) | ⟨k', e', h1, h2, h3, h4⟩)
      · exact Or.inl h
      · exact Or.inr ⟨k, e', Nat.le_refl _, h1, h2, h3⟩
      · exact Or.inr ⟨k', e', by omega, h2, h3, h4⟩
    · rintro (h | ⟨k', e', h1, h2, h3, h4⟩)
      · exact Or.inl (Or.inl h)
      · rcases Nat.lt_or_ge k k' with h5 | h5
        · exact Or.inr ⟨k', e', h5, h2, h3, h4⟩
        · have : k' = k := by omega
          subst this
          exact Or.inl (Or.inr ⟨e', h2, h3, h4⟩)
/-- what bend b hits, c being made -/
noncomputable def htS (r : Nat → Int32) (n : Nat) (c : Int32) (b : Nat) : Int32 := ic (anyB r n c b) 1 (ic (anyA r n c b) 2 (ic (crs r n (c ||| ((1 : Int32) <<< (nI b &&& 31)))) 3 0))
theorem ic_01 {p : Prop} {α : Type} {a b : α} : (if (ic p (1 : Int32) 0) = 0 then a else b) = ic p b a := ic_0
theorem hitBy_ok {r : Nat → Int32} {n : Nat} (hw : WfR r n) (c : Int32) {M : Mm} (hS : Nwk M r) (b : Nat) (hb : b < n) : ∃ M', fX7_hitBy (nI b) c M = some (htS r n c b, M') ∧ Oth M M' [60, 61, 62] := by
  have hn := hw.1
  unfold fX7_hitBy
  obtain ⟨M1, e1, o1, t1⟩ := lays_ok hw c hS
  rw [e1, so_b]
  have hS1 := hS.oth o1 (by decide)
  obtain ⟨M2, e2, o2, t2⟩ := turns_ok hw c hS1 t1 b hb
  have hS2 := hS1.oth o2 (by decide)
  simp only []
  rw [e2, so_b]
  have f8 : rd M2 55 26 (8 + nI b) = some (r (8 + b)) := rd_v (8 + b) (nI_add 8 b) (by omega) (by omega) (hS2 (8 + b) (by omega))
  simp only []
  rw [f8, so_b, show (0 : Int32) = nI 0 from rfl, hit_loop hw c c hS2 b hb t2 _ (n + 1) fu 0 (nI 0) (nI 0) (by omega) (by rw [fu_eq]; omega) (ic_f (by rintro ⟨k, h, -⟩; omega)).symm (ic_f (by rintro ⟨k, h, -⟩; omega)).symm]
  rw [show nI 0 = (0 : Int32) from rfl]
  simp only [ic_0]
  unfold htS
  by_cases hB : anyB r n c b
  · exact ⟨M2, by rw [ic_t hB, ic_t hB, ic_t hB], o1.trans o2⟩
  · by_cases hA : anyA r n c b
    · exact ⟨M2, by rw [ic_f hB, ic_f hB, ic_t hA, ic_t hA, ic_f hB], o1.trans o2⟩
    · obtain ⟨M3, e3, o3, t3⟩ := lays_ok hw (c ||| ((1 : Int32) <<< (nI b &&& 31))) hS2
      have hS3 := hS2.oth o3 (by decide)
      rw [ic_f hB, ic_f hB, ic_f hA, ic_f hA, e3, so_b]
      simp only []
      rw [show (0 : Int32) = nI 0 from rfl, met_out hw _ hS3 t3 _ (n + 1) fu 0 (nI 0) (by omega) (by rw [fu_eq]; omega) False (ic_f id).symm]
      have hc : (False ∨ ∃ k' e', 0 ≤ k' ∧ k' + 2 ≤ e' ∧ e' ≤ n ∧ metS r n (c ||| ((1 : Int32) <<< (nI b &&& 31))) k' e') ↔ crs r n (c ||| ((1 : Int32) <<< (nI b &&& 31))) := by
        constructor
        · rintro (h | ⟨k', e', -, h⟩)
          · exact h.elim
          · exact ⟨k', e', h⟩
        · rintro ⟨k', e', h⟩
          exact Or.inr ⟨k', e', Nat.zero_le _, h⟩
      refine ⟨M3, ?_, (o1.trans o2).trans o3⟩
      rw [ic_c hc, show nI 0 = (0 : Int32) from rfl, ic_0]
      by_cases g : crs r n (c ||| ((1 : Int32) <<< (nI b &&& 31)))
      · rw [ic_t g, ic_t g, ic_f hB]
      · rw [ic_f g, ic_f g, ic_f hB]
