/-! the first order, the best one -/
def Qc (r : Nat → Int32) (n what m t b : Nat) : Prop := fr r n m b ∧ 0 < cN r n (m ||| 2 ^ b) ∧ (what = 1 → chg t (tl r b) + wN r n (m ||| 2 ^ b) (tl r b) = wN r n m t)
noncomputable def fb (p : Nat → Prop) : Nat → Nat → Nat
  | 0, b => b
  | f + 1, b => ic (p b) b (fb p f (b + 1))
theorem fb_ok (p : Nat → Prop) : ∀ (f i : Nat), (∃ b, i ≤ b ∧ b < i + f ∧ p b) → i ≤ fb p f i ∧ fb p f i < i + f ∧ p (fb p f i) ∧ ∀ c, i ≤ c → c < fb p f i → ¬ p c
  | 0, i, ⟨b, h1, h2, _⟩ => by omega
  | f + 1, i, ⟨b, h1, h2, h3⟩ => by
    rw [fb]
    by_cases g : p i
    · rw [ic_t g]
      exact ⟨Nat.le_refl _, by omega, g, fun c h4 h5 => by omega⟩
    · rw [ic_f g]
      have hb : i ≠ b := fun e => g (by rw [e]; exact h3)
      obtain ⟨a1, a2, a3, a4⟩ := fb_ok p f (i + 1) ⟨b, by omega, by omega, h3⟩
      refine ⟨by omega, by omega, a3, fun c h4 h5 => ?_⟩
      by_cases e : c = i
      · rw [e]; exact g
      · exact a4 c (by omega) h5
noncomputable def lb (r : Nat → Int32) (n what m t : Nat) : Nat := fb (Qc r n what m t) n 0
noncomputable def sq (r : Nat → Int32) (n what : Nat) : Nat → Nat × Nat × Nat
  | 0 => (0, 3, 0)
  | k + 1 => ((sq r n what k).1 ||| 2 ^ lb r n what (sq r n what k).1 (sq r n what k).2.1, tl r (lb r n what (sq r n what k).1 (sq r n what k).2.1), (sq r n what k).2.2 + chg (sq r n what k).2.1 (tl r (lb r n what (sq r n what k).1 (sq r n what k).2.1)))
noncomputable def rowN (r : Nat → Int32) (n what k : Nat) : Nat := lb r n what (sq r n what k).1 (sq r n what k).2.1
theorem ex_Q {r : Nat → Int32} {n : Nat} (hn : n ≤ 6) (what : Nat) {m t : Nat} (hm : m < 2 ^ n) (hne : m ≠ 2 ^ n - 1) (hc : 0 < cN r n m) : ∃ b, b < n ∧ Qc r n what m t b := by
  have h64 := pw_le hn hm
  by_cases h : what = 1
  · have h1 := (wN_c hn m hm).2 hc t
    have h2 := wN_eq (r := r) hn hm t
    rw [ic_f hne] at h2
    rcases mB_at (i := 1000) (p := fr r n m) (g := fun b => chg t (tl r b) + wN r n (m ||| 2 ^ b) (tl r b)) n with e | ⟨b, h3, h4, h5⟩
    · rw [e] at h2; omega
    · refine ⟨b, h3, h4, ?_, fun _ => by rw [h2, h5]⟩
      rcases Nat.eq_zero_or_pos (cN r n (m ||| 2 ^ b)) with q | q
      · have := (wN_c hn _ (or_lt' n (by omega) m hm b h3)).1 q (tl r b)
        rw [this] at h5
        omega
      · exact q
  · rw [cN_eq hn hm, ic_f hne, Nat.zero_add] at hc
    obtain ⟨b, h1, h2⟩ := sB_pos n hc
    by_cases g : fr r n m b
    · simp only [ic_t g] at h2
      exact ⟨b, h1, g, h2, fun q => absurd q h⟩
    · simp only [ic_f g] at h2
      exact absurd h2 (Nat.lt_irrefl _)
theorem sq_ok {r : Nat → Int32} {n : Nat} (hw : WfR r n) (what : Nat) (h0 : 0 < cN r n 0) : ∀ k, k ≤ n → ((sq r n what k).1 < 2 ^ n ∧ pcn (sq r n what k).1 = k ∧ 0 < cN r n (sq r n what k).1 ∧ (sq r n what k).2.1 < 4) ∧ (k < n → rowN r n what k < n ∧ Qc r n what (sq r n what k).1 (sq r n what k).2.1 (rowN r n what k) ∧ ∀ c, c < rowN r n what k → ¬ Qc r n what (sq r n what k).1 (sq r n what k).2.1 c) := by
  have hn := hw.1
  have nxt : ∀ k, k ≤ n → ((sq r n what k).1 < 2 ^ n ∧ pcn (sq r n what k).1 = k ∧ 0 < cN r n (sq r n what k).1 ∧ (sq r n what k).2.1 < 4) → (k < n → rowN r n what k < n ∧ Qc r n what (sq r n what k).1 (sq r n what k).2.1 (rowN r n what k) ∧ ∀ c, c < rowN r n what k → ¬ Qc r n what (sq r n what k).1 (sq r n what k).2.1 c) := by
    intro k hk ⟨h1, h2, h3, h4⟩ hkn
    have hne : (sq r n what k).1 ≠ 2 ^ n - 1 := fun e => by
      have := pcn_all n (by omega)
      rw [e, this] at h2
      omega
    obtain ⟨b, b1, b2⟩ := ex_Q (t := (sq r n what k).2.1) hn what h1 hne h3
    have := fb_ok (Qc r n what (sq r n what k).1 (sq r n what k).2.1) n 0 ⟨b, Nat.zero_le _, by omega, b2⟩
    exact ⟨by have := this.2.1; unfold rowN lb; omega, this.2.2.1, fun c hc => this.2.2.2 c (Nat.zero_le _) hc⟩
  intro k
  induction k with
  | zero =>
    intro _
    have hz : (sq r n what 0).1 < 2 ^ n ∧ pcn (sq r n what 0).1 = 0 ∧ 0 < cN r n (sq r n what 0).1 ∧ (sq r n what 0).2.1 < 4 := ⟨Nat.pow_pos (by decide), show pcn 0 = 0 by decide, h0, show 3 < 4 by decide⟩
    exact ⟨hz, nxt 0 (Nat.zero_le _) hz⟩
  | succ k ih =>
    intro hk
    obtain ⟨⟨h1, h2, h3, h4⟩, h5⟩ := ih (by omega)
    obtain ⟨q1, q2, q3⟩ := h5 (by omega)
    have hz : (sq r n what (k + 1)).1 < 2 ^ n ∧ pcn (sq r n what (k + 1)).1 = k + 1 ∧ 0 < cN r n (sq r n what (k + 1)).1 ∧ (sq r n what (k + 1)).2.1 < 4 := by
      refine ⟨or_lt' n (by omega) _ h1 _ q1, ?_, q2.2.1, Nat.lt_trans (tl_ok hw q1).2 (by decide)⟩
      have := pcn_up _ (pw_le hn h1) _ (show rowN r n what k < 6 by omega) q2.1.1
      rw [h2] at this
      exact this
    exact ⟨hz, nxt (k + 1) hk hz⟩
theorem lr24 {r : Nat → Int32} {n : Nat} (hw : WfR r n) {N : Mm} (hS : Nwk N r) (hD : Dn N r n 0) (K : Int32 → Mm → Option (Int32 × Mm)) {what m t b0 : Nat} (hwh : what < 2) (c16 c17 : Int32) (hm : m < 2 ^ n) (ht : t < 4) (hb0 : b0 < n) (hq : Qc r n what m t b0) (hmin : ∀ c, c < b0 → ¬ Qc r n what m t c) : ∀ (d f i : Nat), i + d = b0 → d < f → lX7_laysRow_24 K (nI what) (nI m) (nI t) c16 c17 f (nI i) N = K (nI b0) N := by
  have hn := hw.1
  have h64 := pw_le hn hm
  obtain ⟨d1, d2, d3⟩ := hD m (Nat.zero_le _) hm
  have hf63 : rd N 63 64 (nI m) = some (nI (frS r n m)) := rd_v m rfl h64 (by omega) d1
  have hf65 : rd N 65 256 ((4 : Int32) * nI m + nI t) = some (nI (wN r n m t)) := rd_v (4 * m + t) (i4 m t) (by omega) (by omega) (d3 t ht)
  have hwm := wN_le (r := r) hn hm t
  intro d
  induction d with
  | zero =>
    intro f i hi hf
    obtain ⟨f, rfl⟩ : ∃ g, f = g + 1 := ⟨f - 1, by omega⟩
    have hi : i = b0 := by omega
    subst hi
    have h2 := or_lt' n (by omega) m hm i hb0
    obtain ⟨e1, e2, e3⟩ := hD (m ||| 2 ^ i) (Nat.zero_le _) h2
    have hf64 : rd N 64 64 (nI (m ||| 2 ^ i)) = some (nI (cN r n (m ||| 2 ^ i))) := rd_v _ rfl (pw_le hn h2) (by omega) e2
    have hbd := Nat.le_trans (cN_bd (r := r) hn _ h2) (gB_bd _ (pw_le hn h2)).2
    have hbit : ((nI (frS r n m) >>> (nI i &&& 31)) &&& (1 : Int32)) = 1 := (bt_iff (frS_lt hw m) (by omega)).mpr ((frS_bt hw m (by omega)).mpr ⟨hb0, hq.1⟩)
    rw [lX7_laysRow_24, hf63, so_b, has_ok, so_b]
    simp only [if_pos hbit, if_neg z10]
    rw [or_b m h64 i (by omega), hf64, so_b, if_neg (nI_ne0 hq.2.1 (by omega))]
    by_cases g : what = 1
    · rw [if_pos (by rw [g]; rfl), chBy_ok hw hS hm ht hb0 (e3 _ (Nat.lt_trans (tl_ok hw hb0).2 (by decide))), so_b]
      simp only []
      rw [hf65, so_b, hq.2.2 g, if_pos rfl]
    · rw [if_neg (show ¬ nI what = (1 : Int32) from fun h => g ((nI_eq (by omega) (by omega)).mp (show nI what = nI 1 from h)))]
  | succ d ih =>
    intro f i hi hf
    obtain ⟨f, rfl⟩ : ∃ g, f = g + 1 := ⟨f - 1, by omega⟩
    have nq := hmin i (by omega)
    have h2 := or_lt' n (by omega) m hm i (by omega)
    obtain ⟨e1, e2, e3⟩ := hD (m ||| 2 ^ i) (Nat.zero_le _) h2
    have hf64 : rd N 64 64 (nI (m ||| 2 ^ i)) = some (nI (cN r n (m ||| 2 ^ i))) := rd_v _ rfl (pw_le hn h2) (by omega) e2
    have hbd := Nat.le_trans (cN_bd (r := r) hn _ h2) (gB_bd _ (pw_le hn h2)).2
    have hti := tl_ok hw (show i < n by omega)
    have hw2 := wN_le (r := r) hn h2 (tl r i)
    have hch := chg_le t (tl r i)
    rw [lX7_laysRow_24, hf63, so_b, has_ok, so_b, nI_n1]
    simp only []
    by_cases g1 : fr r n m i
    · have hbit : ((nI (frS r n m) >>> (nI i &&& 31)) &&& (1 : Int32)) = 1 := (bt_iff (frS_lt hw m) (by omega)).mpr ((frS_bt hw m (by omega)).mpr ⟨by omega, g1⟩)
      rw [if_pos hbit, if_neg z10, or_b m h64 i (by omega), hf64, so_b]
      by_cases g2 : 0 < cN r n (m ||| 2 ^ i)
      · rw [if_neg (nI_ne0 g2 (by omega))]
        by_cases g : what = 1
        · rw [if_pos (by rw [g]; rfl), chBy_ok hw hS hm ht (show i < n by omega) (e3 _ (by omega)), so_b]
          simp only []
          rw [hf65, so_b, if_neg (fun h => nq ⟨g1, g2, fun _ => (nI_eq (by omega) (by omega)).mp h⟩)]
          exact ih f (i + 1) (by omega) (by omega)
        · exact absurd ⟨g1, g2, fun q => absurd q g⟩ nq
      · rw [show cN r n (m ||| 2 ^ i) = 0 by omega, if_pos (show nI 0 = 0 from rfl)]
        exact ih f (i + 1) (by omega) (by omega)
    · have hbit : ¬ ((nI (frS r n m) >>> (nI i &&& 31)) &&& (1 : Int32)) = 1 := fun h => g1 ((frS_bt hw m (by omega)).mp ((bt_iff (frS_lt hw m) (by omega)).mp h)).2
      rw [if_neg hbit, if_pos rfl]
      exact ih f (i + 1) (by omega) (by omega)
theorem lr10 {r : Nat → Int32} {n : Nat} (hw : WfR r n) (K : Int32 → Mm → Option (Int32 × Mm)) {what : Nat} (hwh : what < 2) (h0 : 0 < cN r n 0) : ∀ (d f k : Nat) (N : Mm), k + d = n → d < f → Nwk N r → Dn N r n 0 → (∀ j, j < k → N.1 66 j = nI (rowN r n what j)) → ∃ N', lX7_laysRow_10 K (nI what) f (nI (sq r n what k).1) (nI (sq r n what k).2.1) (nI (sq r n what k).2.2) (nI k) N = K (nI (sq r n what n).2.2) N' ∧ Oth N N' [66] ∧ ∀ j, j < n → N'.1 66 j = nI (rowN r n what j) := by
  have hn := hw.1
  intro d
  induction d with
  | zero =>
    intro f k N hk hf hS hD hR
    obtain ⟨f, rfl⟩ : ∃ g, f = g + 1 := ⟨f - 1, by omega⟩
    have hk : k = n := by omega
    subst hk
    refine ⟨N, ?_, Oth.refl _ _, hR⟩
    rw [lX7_laysRow_10, rd_b (x := 0) 0 rfl (by omega) (by omega), hS 0 (by omega), hw.2.1, if_pos (nI_le (Nat.le_refl _) (by omega))]
  | succ d ih =>
    intro f k N hk hf hS hD hR
    obtain ⟨f, rfl⟩ : ∃ g, f = g + 1 := ⟨f - 1, by omega⟩
    obtain ⟨⟨h1, h2, h3, h4⟩, h5⟩ := sq_ok hw what h0 k (by omega)
    obtain ⟨q1, q2, q3⟩ := h5 (by omega)
    obtain ⟨t1, t2⟩ := tl_ok hw q1
    have esq : sq r n what (k + 1) = ((sq r n what k).1 ||| 2 ^ rowN r n what k, tl r (rowN r n what k), (sq r n what k).2.2 + chg (sq r n what k).2.1 (tl r (rowN r n what k))) := rfl
    rw [lX7_laysRow_10, rd_b (x := 0) 0 rfl (by omega) (by omega), hS 0 (by omega), hw.2.1, if_neg (nI_ge (by omega) (by omega)), show (0 : Int32) = nI 0 from rfl, lr24 hw hS hD _ hwh _ _ h1 h4 q1 q2 q3 (rowN r n what k) fu 0 (by omega) (by rw [fu_eq]; omega), jn_e, jn_e]
    have f14 : ∀ N1 : Mm, Nwk N1 r → rd N1 55 26 (14 + nI (rowN r n what k)) = some (nI (tl r (rowN r n what k))) := fun N1 hN1 => rd_v (14 + rowN r n what k) (nI_add 14 _) (by omega) (by omega) ((hN1 _ (by omega)).trans t1)
    have o1 : Oth N (stI N 66 k (nI (rowN r n what k))) [66] := (Oth.refl N _).put (by decide)
    have hS1 := hS.oth o1 (by decide)
    simp only [wr_i k rfl (show k < 6 by omega) (show 6 ≤ 1000 by omega), so_b, lt_e, f14 _ hS, f14 _ hS1, or_b _ (pw_le hn h1) _ (show rowN r n what k < 6 by omega), nI_n1]
    have key : ∀ v : Int32, v = nI (chg (sq r n what k).2.1 (tl r (rowN r n what k))) → ∃ N', lX7_laysRow_10 K (nI what) f (nI ((sq r n what k).1 ||| 2 ^ rowN r n what k)) (nI (tl r (rowN r n what k))) (nI (sq r n what k).2.2 + v) (nI (k + 1)) (stI N 66 k (nI (rowN r n what k))) = K (nI (sq r n what n).2.2) N' ∧ Oth N N' [66] ∧ ∀ j, j < n → N'.1 66 j = nI (rowN r n what j) := by
      intro v hv
      have := ih f (k + 1) (stI N 66 k (nI (rowN r n what k))) (by omega) (by omega) hS1 (fun m a b => by rw [stI_c _ _ _ _ _ (by decide), stI_c _ _ _ _ _ (by decide), stI_c _ _ _ _ _ (by decide)]; exact hD m a b) (fun j hj => by
        rw [stI_1, if_pos rfl]
        by_cases e : j = k
        · rw [if_pos e, e]
        · rw [if_neg e]; exact hR j (by omega))
      rw [hv, nI_add]
      rw [esq] at this
      exact ex_o o1 this
    unfold chg at key
    by_cases g1 : 3 ≤ (sq r n what k).2.1
    · rw [if_pos (by rw [show (3 : Int32) = nI 3 from rfl]; exact nI_le g1 (by omega))]
      exact key (nI 0) (by rw [if_pos g1])
    · rw [if_neg (by rw [show (3 : Int32) = nI 3 from rfl]; exact nI_ge (by omega) (by omega))]
      by_cases g2 : (sq r n what k).2.1 = tl r (rowN r n what k)
      · rw [if_pos (by rw [g2])]
        exact key (nI 0) (by rw [if_neg g1, if_pos g2])
      · rw [if_neg (fun h => g2 ((nI_eq (by omega) (by omega)).mp h))]
        have k1 := key 1 (by rw [if_neg g1, if_neg g2]; rfl)
        rw [nI_n1] at k1
        exact k1
theorem laysRow_ok {r : Nat → Int32} {n : Nat} (hw : WfR r n) {what : Nat} (hwh : what < 2) (h0 : 0 < cN r n 0) {N : Mm} (hS : Nwk N r) (hD : Dn N r n 0) : ∃ N', fX7_laysRow (nI what) N = some (nI (sq r n what n).2.2, N') ∧ Oth N N' [66] ∧ ∀ j, j < n → N'.1 66 j = nI (rowN r n what j) := by
  unfold fX7_laysRow
  exact lr10 hw (fun x8 N9 => some (x8, N9)) hwh h0 n fu 0 N (by omega) (by rw [fu_eq]; have := hw.1; omega) hS hD (fun j hj => absurd hj (Nat.not_lt_zero _))
