/-! states: the folder's ring, the reference's rows -/
theorem cpy_ok {M : Mm} {k0 k1 n : Nat} {x : Int32} (hx : x = nI n) (hn : n ≤ 1000) : cpy M k0 n k1 n 0 0 x = some (stA M k1 (va_cpy (M.1 k0) (M.1 k1) 0 0 n)) := by
  subst hx
  unfold cpy
  have z : (0 : Int32).toNatClampNeg = 0 := by decide
  have c : (nI n).toNatClampNeg = n := nI_clamp (by omega)
  have h : ¬ ((0 : Int32) < 0 ∨ (0 : Int32) < 0 ∨ nI n < 0 ∨ n < (0 : Int32).toNatClampNeg + (nI n).toNatClampNeg ∨ n < (0 : Int32).toNatClampNeg + (nI n).toNatClampNeg) := by
    rw [z, c]
    rintro (h | h | h | h | h)
    · exact absurd h (by decide)
    · exact absurd h (by decide)
    · exact absurd h (nI_pos (by omega))
    · omega
    · omega
  rw [if_neg h, z, c]
theorem copy_ok {M : Mm} {kt ko : Nat} (hd : kt + 4 < ko ∨ ko + 4 < kt) {r : Nat → Int32} (hr : Shk M ko r) : ∃ M', fX4_copyFrom kt ko M = some ((), M') ∧ Oth M M' [kt, kt + 1, kt + 2, kt + 3, kt + 4] ∧ Shk M' kt r := by
  unfold fX4_copyFrom
  rw [cpy_ok (n := 7) (x := 7) rfl (by decide), so_b, cpy_ok (n := 6) (x := 6) rfl (by decide), so_b, cpy_ok (n := 6) (x := 6) rfl (by decide), so_b, cpy_ok (n := 3) (x := 3) rfl (by decide), so_b, lt_e, lt_e, lt_e, lt_e]
  refine ⟨_, rfl, ⟨rfl, fun a ha => ?_⟩, ?_⟩
  · simp only [List.mem_cons, List.not_mem_nil, or_false, not_or] at ha
    obtain ⟨a0, a1, a2, a3, a4⟩ := ha
    rw [stI_c _ _ _ _ _ a0, stI_c _ _ _ _ _ a0, stI_c _ _ _ _ _ a0, stI_c _ _ _ _ _ a0, stA_ne _ _ _ _ a4, stA_ne _ _ _ _ a3, stA_ne _ _ _ _ a2, stA_ne _ _ _ _ a1]
  · obtain ⟨r0, r1, r2, r3, r4, r5, r6, r7⟩ := hr
    have e : ∀ i j : Nat, i < 5 → j < 5 → ko + i ≠ kt + j := fun i j hi hj => by omega
    have e0 : ∀ j : Nat, j < 5 → ko ≠ kt + j := fun j hj => by omega
    have e1 : ∀ i : Nat, i < 5 → ko + i ≠ kt := fun i hi => by omega
    have e2 : ko ≠ kt := by omega
    refine ⟨?_, fun j hj => ?_, fun j hj => ?_, fun j hj => ?_, ?_, ?_, ?_, fun j hj => ?_⟩
    · simp [stI_1, stA_1, e, e0, e1, e2, r0]
    · simp [stI_1, stA_1, e, e0, e1, e2, sb_cpy0 hj, r1 j hj]
    · simp [stI_1, stA_1, e, e0, e1, e2, sb_cpy0 hj, r2 j hj]
    · simp [stI_1, stA_1, e, e0, e1, e2, sb_cpy0 hj, r3 j hj]
    · simp [stI_1, stA_1, e, e0, e1, e2, r4]
    · simp [stI_1, stA_1, e, e0, e1, e2, r5]
    · simp [stI_1, stA_1, e, e0, e1, e2, r6]
    · simp [stI_1, stA_1, e, e0, e1, e2, sb_cpy0 hj, r7 j hj]
theorem rdR_b {β : Type} {x : Int32} {f : Nat → Option β} (j : Nat) (hx : x = nI j) (hj : j < 6) : (rdR ringK 6 x).bind f = f (ringK j) := by
  subst hx
  unfold rdR
  rw [if_neg (nI_in hj (by omega)), nI_clamp (by omega)]
  rfl
def ringC (j : Nat) : List Nat := [ringK j, ringK j + 1, ringK j + 2, ringK j + 3, ringK j + 4]
def Tk (r : Nat → Int32) : Prop := ∀ t, t < 3 → ∃ v, v ≤ 99 ∧ r (23 + t) = nI v
def Wf2 (r : Nat → Int32) (n : Nat) : Prop := WfR r n ∧ Tk r
/-- the states: s of them, the next place nx of the ring -/
def Hist (M N : Mm) (s nx : Nat) : Prop := s ≤ 5 ∧ nx < 6 ∧ M.1 18 1 = nI nx ∧ M.1 18 2 = nI s ∧ N.1 54 3 = nI s ∧ ∀ d, d < s → ∃ rr nn, Wf2 rr nn ∧ Shk M (ringK ((nx + 5 - d) % 6)) rr ∧ ∀ j, j < 26 → N.1 57 (26 * (s - 1 - d) + j) = rr j
theorem ring_ne : ∀ a, a < 6 → ∀ b, b < 6 → a ≠ b → ∀ i, i < 5 → ringK a + i ∉ ringC b := fun a ha b hb => (show a = b ∨ ∀ i, i < 5 → ringK a + i ∉ ringC b from (by decide : ∀ a, a < 6 → ∀ b, b < 6 → (a = b ∨ ∀ i, i < 5 → ringK a + i ∉ ringC b)) a ha b hb).resolve_left
theorem ring_in {b i : Nat} (hi : i < 5) : ringK b + i ∈ ringC b := by
  unfold ringC
  rcases (show i = 0 ∨ i = 1 ∨ i = 2 ∨ i = 3 ∨ i = 4 by omega) with rfl | rfl | rfl | rfl | rfl <;> simp
theorem ring_out : ∀ a, a < 6 → ∀ c, c < 20 → c ∉ ringC a := by decide
theorem ring_out2 : ∀ a, a < 6 → 50 ∉ ringC a ∧ 51 ∉ ringC a ∧ 52 ∉ ringC a ∧ 53 ∉ ringC a := by decide
theorem ring_lo : ∀ a, a < 6 → ∀ i, i < 5 → ringK a + i ∉ [1, 2, 3, 4, 5, 6, 7, 8, 9, 10, 11, 12, 13, 14, 15, 16] ∧ ringK a + i ∉ [18] ∧ ringK a + i ∉ [0] ∧ ringK a + i ∉ [50, 51, 52, 53] := by decide
theorem Shk.ring {M M' : Mm} {a : Nat} {r : Nat → Int32} {l : List Nat} (h : Shk M (ringK a) r) (o : Oth M M' l) (h0 : ∀ i, i < 5 → ringK a + i ∉ l) : Shk M' (ringK a) r := h.oth o ⟨h0 0 (by decide), h0 1 (by decide), h0 2 (by decide), h0 3 (by decide), h0 4 (by decide)⟩
theorem stage_ok {M : Mm} {nx : Nat} (hnx : nx < 6) (h : M.1 18 1 = nI nx) {r : Nat → Int32} (hS : Shk M 1 r) : ∃ M', fX0_stage M = some ((), M') ∧ Oth M M' (ringC nx) ∧ Shk M' (ringK nx) r := by
  unfold fX0_stage
  rw [rdR_b nx h hnx]
  obtain ⟨M', e, o, s⟩ := copy_ok (M := M) (kt := ringK nx) (ko := 1) (Or.inr (by unfold ringK; omega)) hS
  rw [e, so_b]
  exact ⟨M', rfl, o, s⟩
theorem keep_nx : ∀ nx, nx < 6 → irm (nI nx + 1) 6 = nI ((nx + 1) % 6) := by decide +kernel
theorem keep_s : ∀ s, s < 6 → mn (nI s + 1) 5 = nI (min (s + 1) 5) := by decide +kernel
theorem last_nx : ∀ nx, nx < 6 → irm ((nI nx + 6) - 1) 6 = nI ((nx + 5) % 6) := by decide +kernel
theorem keepStaged_ok {M : Mm} {nx s : Nat} (hnx : nx < 6) (hs : s ≤ 5) (h1 : M.1 18 1 = nI nx) (h2 : M.1 18 2 = nI s) : ∃ M', fX0_keepStaged M = some ((), M') ∧ Oth M M' [18] ∧ M'.1 18 1 = nI ((nx + 1) % 6) ∧ M'.1 18 2 = nI (min (s + 1) 5) := by
  unfold fX0_keepStaged
  rw [lt_e, lt_e]
  refine ⟨_, rfl, ((Oth.refl M _).put (by decide)).put (by decide), ?_, ?_⟩
  · rw [stI_1, if_pos rfl, if_neg (by decide), stI_1, if_pos rfl, if_pos rfl, h1, keep_nx nx hnx]
  · rw [stI_1, if_pos rfl, if_pos rfl, stI_1, if_pos rfl, if_neg (by decide), h2, keep_s s (by omega)]
/-- the reference's rows move down by one -/
theorem lv10 (K : Mm → Option (Unit × Mm)) (p0 : Nat → Int32) : ∀ (d f i : Nat) (N : Mm), i + d = 104 → d < f → (∀ j, j < i → N.1 57 j = p0 (j + 26)) → (∀ j, i ≤ j → j < 130 → N.1 57 j = p0 j) → ∃ N', lX7_leaves_10 K f (nI i) N = K N' ∧ Oth N N' [57] ∧ ∀ j, j < 104 → N'.1 57 j = p0 (j + 26) := by
  intro d
  induction d with
  | zero =>
    intro f i N hi hf h1 h2
    obtain ⟨f, rfl⟩ : ∃ g, f = g + 1 := ⟨f - 1, by omega⟩
    have hi : i = 104 := by omega
    subst hi
    exact ⟨N, by rw [lX7_leaves_10, if_pos (by decide)], Oth.refl _ _, h1⟩
  | succ d ih =>
    intro f i N hi hf h1 h2
    obtain ⟨f, rfl⟩ : ∃ g, f = g + 1 := ⟨f - 1, by omega⟩
    rw [lX7_leaves_10, if_neg (by rw [show (104 : Int32) = nI 104 from rfl]; exact nI_ge (by omega) (by omega)), rd_b (x := nI i + 26) (i + 26) (nI_add i 26) (by omega) (by omega), wr_b i rfl (by omega) (by omega), nI_n1, h2 (i + 26) (by omega) (by omega)]
    have o1 : Oth N (stI N 57 i (p0 (i + 26))) [57] := (Oth.refl N _).put (by decide)
    refine ex_o o1 (ih f (i + 1) _ (by omega) (by omega) (fun j hj => ?_) (fun j h5 h6 => ?_))
    · rw [stI_1, if_pos rfl]
      by_cases e : j = i
      · rw [if_pos e, e]
      · rw [if_neg e]; exact h1 j (by omega)
    · rw [stI_1, if_pos rfl, if_neg (by omega)]; exact h2 j (by omega) h6
theorem i26 (s i : Nat) : (26 : Int32) * nI s + nI i = nI (26 * s + i) := by
  rw [show (26 : Int32) = nI 26 from rfl, pk_mul, nI_add]
theorem lv49 (K : Mm → Option (Unit × Mm)) {r : Nat → Int32} {s : Nat} (hs : s < 5) (p0 : Nat → Int32) : ∀ (d f i : Nat) (N : Mm), i + d = 26 → d < f → N.1 54 3 = nI s → Nwk N r → (∀ j, j < i → N.1 57 (26 * s + j) = r j) → (∀ j, j < 26 * s → N.1 57 j = p0 j) → ∃ N', lX7_leaves_49 K f (nI i) N = K N' ∧ Oth N N' [57] ∧ ((∀ j, j < 26 → N'.1 57 (26 * s + j) = r j) ∧ ∀ j, j < 26 * s → N'.1 57 j = p0 j) := by
  intro d
  induction d with
  | zero =>
    intro f i N hi hf hs3 hN h1 h2
    obtain ⟨f, rfl⟩ : ∃ g, f = g + 1 := ⟨f - 1, by omega⟩
    have hi : i = 26 := by omega
    subst hi
    exact ⟨N, by rw [lX7_leaves_49, if_pos (by decide)], Oth.refl _ _, h1, h2⟩
  | succ d ih =>
    intro f i N hi hf hs3 hN h1 h2
    obtain ⟨f, rfl⟩ : ∃ g, f = g + 1 := ⟨f - 1, by omega⟩
    rw [lX7_leaves_49, if_neg (by rw [show (26 : Int32) = nI 26 from rfl]; exact nI_ge (by omega) (by omega)), rd_b i rfl (by omega) (by omega), hs3, i26, wr_b (26 * s + i) rfl (by omega) (by omega), nI_n1, hN i (by omega)]
    have o1 : Oth N (stI N 57 (26 * s + i) (r i)) [57] := (Oth.refl N _).put (by decide)
    refine ex_o o1 (ih f (i + 1) _ (by omega) (by omega) (by rw [o1.2 54 (by decide)]; exact hs3) (hN.oth o1 (by decide)) (fun j hj => ?_) (fun j hj => ?_))
    · rw [stI_1, if_pos rfl]
      by_cases e : j = i
      · rw [if_pos (by omega), e]
      · rw [if_neg (by omega)]; exact h1 j (by omega)
    · rw [stI_1, if_pos rfl, if_neg (by omega)]; exact h2 j hj
/-- nothing but one field of the reference's object -/
def OthF (N N' : Mm) (l : List Nat) (fs : List Nat) : Prop := N'.2 = N.2 ∧ (∀ k, k ∉ l → k ≠ 54 → N'.1 k = N.1 k) ∧ ∀ j, j ∉ fs → N'.1 54 j = N.1 54 j
theorem leaves_ok {r : Nat → Int32} {N : Mm} {s : Nat} (hs : s ≤ 5) (h3 : N.1 54 3 = nI s) (hN : Nwk N r) : ∃ N', fX7_leaves N = some ((), N') ∧ OthF N N' [57] [3] ∧ N'.1 54 3 = nI (min (s + 1) 5) ∧ (∀ j, j < 26 → N'.1 57 (26 * (min (s + 1) 5 - 1) + j) = r j) ∧ ∀ q j, q < min (s + 1) 5 - 1 → j < 26 → N'.1 57 (26 * q + j) = N.1 57 (26 * (s - (min (s + 1) 5 - 1) + q) + j) := by
  unfold fX7_leaves
  rw [jn_e, h3]
  have push : ∀ (N1 : Mm) (s1 : Nat), s1 < 5 → Oth N N1 [57, 54] → (∀ j, j ≠ 3 → N1.1 54 j = N.1 54 j) → N1.1 54 3 = nI s1 → Nwk N1 r → ∃ N', lX7_leaves_49 (fun N6 => lt (stI N6 54 3 (N6.1 54 3 + 1)) fun N11 => some ((), N11)) fu 0 N1 = some ((), N') ∧ OthF N N' [57] [3] ∧ N'.1 54 3 = nI (s1 + 1) ∧ (∀ j, j < 26 → N'.1 57 (26 * s1 + j) = r j) ∧ ∀ j, j < 26 * s1 → N'.1 57 j = N1.1 57 j := by
    intro N1 s1 hs1 o1 f1 g1 hN1
    rw [show (0 : Int32) = nI 0 from rfl]
    obtain ⟨N2, e2, o2, a2, b2⟩ := lv49 (fun N6 => lt (stI N6 54 3 (N6.1 54 3 + 1)) fun N11 => some ((), N11)) hs1 (N1.1 57) 26 fu 0 N1 (by omega) (by rw [fu_eq]; omega) g1 hN1 (fun j hj => absurd hj (Nat.not_lt_zero _)) (fun j _ => rfl)
    have e54 : N2.1 54 = N1.1 54 := o2.2 54 (by decide)
    rw [e2, lt_e]
    refine ⟨_, rfl, ⟨o2.1.trans o1.1, fun k hk hk2 => ?_, fun j hj => ?_⟩, ?_, fun j hj => ?_, fun j hj => ?_⟩
    · rw [stI_c _ _ _ _ _ hk2, o2.2 k hk, o1.2 k (fun q => by
        rcases List.mem_cons.mp q with q | q
        · exact hk (List.mem_singleton.mpr q)
        · exact hk2 (List.mem_singleton.mp q))]
    · have hj3 : j ≠ 3 := fun q => hj (List.mem_singleton.mpr q)
      rw [stI_1, if_pos rfl, if_neg hj3, e54, f1 j hj3]
    · rw [stI_1, if_pos rfl, if_pos rfl, e54, g1, nI_n1]
    · rw [stI_c _ _ _ _ _ (by decide)]; exact a2 j hj
    · rw [stI_c _ _ _ _ _ (by decide)]; exact b2 j hj
  by_cases q : s = 5
  · subst q
    rw [if_pos (show nI 5 = (5 : Int32) from rfl), show (0 : Int32) = nI 0 from rfl]
    obtain ⟨N1, e1, o1, a1⟩ := lv10 (fun N16 => lt (stI N16 54 3 (N16.1 54 3 - 1)) fun N21 => (fun N1 => lX7_leaves_49 (fun N6 => lt (stI N6 54 3 (N6.1 54 3 + 1)) fun N11 => some ((), N11)) fu (nI 0) N1) N21) (N.1 57) 104 fu 0 N (by omega) (by rw [fu_eq]; omega) (fun j hj => absurd hj (Nat.not_lt_zero _)) (fun j _ _ => rfl)
    have e54 : N1.1 54 = N.1 54 := o1.2 54 (by decide)
    rw [e1, lt_e]
    obtain ⟨N', e2, o2, g2, a2, b2⟩ := push (stI N1 54 3 (N1.1 54 3 - 1)) 4 (by decide) ((o1.mono (by decide)).put (by decide)) (fun j hj => by rw [stI_1, if_pos rfl, if_neg hj, e54]) (by rw [stI_1, if_pos rfl, if_pos rfl, e54, h3]; decide) ((hN.oth o1 (by decide)).oth ((Oth.refl N1 [54]).put (by decide)) (by decide))
    refine ⟨N', e2, o2, g2, a2, fun u j hu hj => ?_⟩
    have hu4 : u < 4 := hu
    rw [b2 _ (by omega), stI_c _ _ _ _ _ (by decide), a1 _ (by omega), show min (5 + 1) 5 = 5 from rfl]
    exact congrArg (N.1 57) (show 26 * u + j + 26 = 26 * (5 - (5 - 1) + u) + j by omega)
  · have hne : ¬ nI s = (5 : Int32) := fun h => q ((nI_eq (by omega) (by omega)).mp (show nI s = nI 5 from h))
    rw [if_neg hne]
    obtain ⟨N', e2, o2, g2, a2, b2⟩ := push N s (by omega) (Oth.refl _ _) (fun _ _ => rfl) h3 hN
    have em : min (s + 1) 5 = s + 1 := by omega
    rw [em]
    refine ⟨N', e2, o2, g2, by rw [Nat.add_sub_cancel]; exact a2, fun u j hu hj => ?_⟩
    rw [b2 _ (by omega)]
    rw [show s - (s + 1 - 1) + u = u from by rw [Nat.add_sub_cancel, Nat.sub_self, Nat.zero_add]]
