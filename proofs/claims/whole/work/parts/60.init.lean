/-! both as they are made -/
def sF0 : Nat → Int32 := upd (upd (fun _ => 0) 6 2) 7 8
def sL0 : Nat → Int32 := upd (fun _ => 0) 0 (5 : Int32)
def sT0 : Nat → Int32 := upd (upd (upd (fun _ => 0) 0 (3 : Int32)) 1 (5 : Int32)) 2 (8 : Int32)
def r0 : Nat → Int32 := upd (upd (upd (upd (upd (upd (fun _ => 0) 1 (5 : Int32)) 21 (2 : Int32)) 22 (8 : Int32)) 23 (3 : Int32)) 24 (5 : Int32)) 25 (8 : Int32)
def m0 (k : Nat) : Nat → Int32 := match k with
  | 1 | 20 | 25 | 30 | 35 | 40 | 45 => sF0
  | 2 | 21 | 26 | 31 | 36 | 41 | 46 => sL0
  | 5 | 24 | 29 | 34 | 39 | 44 | 49 => sT0
  | 11 | 12 => fun _ => -1
  | 55 => r0
  | _ => fun _ => 0
def M0 : Mm := (m0, fun _ _ => 0)
theorem wf0 : Wf2 r0 0 := by
  refine ⟨⟨by decide, rfl, fun k hk => ?_, fun k hk => absurd hk (Nat.not_lt_zero _), fun k hk => absurd hk (Nat.not_lt_zero _), ⟨0, by decide, rfl⟩, ⟨2, by decide, rfl⟩, ⟨8, by decide, rfl⟩⟩, fun t ht => ?_⟩
  · have : k = 0 := by omega
    subst this
    exact ⟨5, by decide, by decide, rfl⟩
  · rcases (show t = 0 ∨ t = 1 ∨ t = 2 by omega) with rfl | rfl | rfl
    · exact ⟨3, by decide, rfl⟩
    · exact ⟨5, by decide, rfl⟩
    · exact ⟨8, by decide, rfl⟩
theorem sh0 : Shk M0 1 r0 := by
  refine ⟨rfl, ?_, ?_, ?_, rfl, rfl, rfl, ?_⟩
  · show ∀ j, j < 7 → m0 2 j = r0 (1 + j)
    decide
  · show ∀ j, j < 6 → m0 3 j = r0 (8 + j)
    decide
  · show ∀ j, j < 6 → m0 4 j = r0 (14 + j)
    decide
  · show ∀ j, j < 3 → m0 5 j = r0 (23 + j)
    decide
theorem rel0 : Rel M0 M0 := by
  refine ⟨r0, 0, 0, 0, 0, wf0, ⟨⟨sh0, ⟨rfl, rfl⟩, fun m hm => Or.inl rfl, fun m hm => Or.inl rfl⟩, Or.inl rfl⟩, fun j hj => rfl, ⟨by decide, by decide, rfl, rfl, rfl, fun d hd => absurd hd (Nat.not_lt_zero _)⟩, ⟨by decide, rfl, rfl, fun j hj => absurd hj (Nat.not_lt_zero _)⟩, ⟨rfl, rfl, rfl⟩⟩
theorem law0 {L : Nat} (xs : Nat → Int32) (hL : L ≤ 2048) : fL_law L xs (M0, M0) = some 1 := law_pure xs hL rel0
