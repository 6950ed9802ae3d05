/-! the cells: 0 .. 53 the folder, 54 .. 68 the reference -/
def shF (k : Nat) : List Fk := [some (some (k + 1)), some (some (k + 2)), some (some (k + 3)), some (some (k + 4)), none, none, none, none]
def ringK (j : Nat) : Nat := 20 + 5 * j
def shL : List Sh := [.inr (.inl (6, [some (some 1), some (some 6), some (some 10), some (some 17), some (some 18), some (some 50), none, none, none])), .inr (.inl (4, shF 1)), .inl 7, .inl 6, .inl 6, .inl 3, .inr (.inl (3, [some (some 7), some (some 8), some (some 9), none])), .inl 8, .inl 8, .inl 7, .inr (.inl (1, [some (some 1), some (some 6), some (some 11), some (some 12), some (some 13), some (some 14), none, some (some 15), some (some 16), none, none, none])), .inl 64, .inl 64, .inl 64, .inl 256, .inl 6, .inl 6, .inr (.inl (5, [some (some 1), some (some 10)])), .inr (.inl (0, [some (some 19), none, none])), .inr (.inr (6, ringK)), .inr (.inl (4, shF 20)), .inl 7, .inl 6, .inl 6, .inl 3, .inr (.inl (4, shF 25)), .inl 7, .inl 6, .inl 6, .inl 3, .inr (.inl (4, shF 30)), .inl 7, .inl 6, .inl 6, .inl 3, .inr (.inl (4, shF 35)), .inl 7, .inl 6, .inl 6, .inl 3, .inr (.inl (4, shF 40)), .inl 7, .inl 6, .inl 6, .inl 3, .inr (.inl (4, shF 45)), .inl 7, .inl 6, .inl 6, .inl 3, .inr (.inl (2, [some (some 51), some (some 52), some (some 53), none, none, none])), .inl 120, .inl 60, .inl 180, .inr (.inl (7, [some (some 55), some (some 56), some (some 57), none, some (some 58), some (some 59), none, some (some 60), some (some 61), some (some 62), some (some 63), some (some 64), some (some 65), some (some 66), none, none, some (some 67), some (some 68), some none])), .inl 26, .inl 26, .inl 130, .inl 3, .inl 120, .inl 8, .inl 8, .inl 7, .inl 64, .inl 64, .inl 256, .inl 6, .inl 60, .inl 180]
def sh (k : Nat) : Sh := shL.getD k (.inl 0)
def SC : Sg := (0, 54, sh)
def SM : Sg := (54, 15, sh)
theorem ce_0 : Ce SC 0 (.inr (.inl (6, [some (some 1), some (some 6), some (some 10), some (some 17), some (some 18), some (some 50), none, none, none]))) := ⟨by decide, by decide, rfl⟩
theorem ce_1 : Ce SC 1 (.inr (.inl (4, shF 1))) := ⟨by decide, by decide, rfl⟩
theorem ce_2 : Ce SC 2 (.inl 7) := ⟨by decide, by decide, rfl⟩
theorem ce_3 : Ce SC 3 (.inl 6) := ⟨by decide, by decide, rfl⟩
theorem ce_4 : Ce SC 4 (.inl 6) := ⟨by decide, by decide, rfl⟩
theorem ce_5 : Ce SC 5 (.inl 3) := ⟨by decide, by decide, rfl⟩
theorem ce_6 : Ce SC 6 (.inr (.inl (3, [some (some 7), some (some 8), some (some 9), none]))) := ⟨by decide, by decide, rfl⟩
theorem ce_7 : Ce SC 7 (.inl 8) := ⟨by decide, by decide, rfl⟩
theorem ce_8 : Ce SC 8 (.inl 8) := ⟨by decide, by decide, rfl⟩
theorem ce_9 : Ce SC 9 (.inl 7) := ⟨by decide, by decide, rfl⟩
theorem ce_10 : Ce SC 10 (.inr (.inl (1, [some (some 1), some (some 6), some (some 11), some (some 12), some (some 13), some (some 14), none, some (some 15), some (some 16), none, none, none]))) := ⟨by decide, by decide, rfl⟩
theorem ce_11 : Ce SC 11 (.inl 64) := ⟨by decide, by decide, rfl⟩
theorem ce_12 : Ce SC 12 (.inl 64) := ⟨by decide, by decide, rfl⟩
theorem ce_13 : Ce SC 13 (.inl 64) := ⟨by decide, by decide, rfl⟩
theorem ce_14 : Ce SC 14 (.inl 256) := ⟨by decide, by decide, rfl⟩
theorem ce_15 : Ce SC 15 (.inl 6) := ⟨by decide, by decide, rfl⟩
theorem ce_16 : Ce SC 16 (.inl 6) := ⟨by decide, by decide, rfl⟩
theorem ce_17 : Ce SC 17 (.inr (.inl (5, [some (some 1), some (some 10)]))) := ⟨by decide, by decide, rfl⟩
theorem ce_18 : Ce SC 18 (.inr (.inl (0, [some (some 19), none, none]))) := ⟨by decide, by decide, rfl⟩
theorem ce_19 : Ce SC 19 (.inr (.inr (6, ringK))) := ⟨by decide, by decide, rfl⟩
theorem ce_50 : Ce SC 50 (.inr (.inl (2, [some (some 51), some (some 52), some (some 53), none, none, none]))) := ⟨by decide, by decide, rfl⟩
theorem ce_51 : Ce SC 51 (.inl 120) := ⟨by decide, by decide, rfl⟩
theorem ce_52 : Ce SC 52 (.inl 60) := ⟨by decide, by decide, rfl⟩
theorem ce_53 : Ce SC 53 (.inl 180) := ⟨by decide, by decide, rfl⟩
theorem ce_54 : Ce SM 54 (.inr (.inl (7, [some (some 55), some (some 56), some (some 57), none, some (some 58), some (some 59), none, some (some 60), some (some 61), some (some 62), some (some 63), some (some 64), some (some 65), some (some 66), none, none, some (some 67), some (some 68), some none]))) := ⟨by decide, by decide, rfl⟩
theorem ce_55 : Ce SM 55 (.inl 26) := ⟨by decide, by decide, rfl⟩
theorem ce_56 : Ce SM 56 (.inl 26) := ⟨by decide, by decide, rfl⟩
theorem ce_57 : Ce SM 57 (.inl 130) := ⟨by decide, by decide, rfl⟩
theorem ce_58 : Ce SM 58 (.inl 3) := ⟨by decide, by decide, rfl⟩
theorem ce_59 : Ce SM 59 (.inl 120) := ⟨by decide, by decide, rfl⟩
theorem ce_60 : Ce SM 60 (.inl 8) := ⟨by decide, by decide, rfl⟩
theorem ce_61 : Ce SM 61 (.inl 8) := ⟨by decide, by decide, rfl⟩
theorem ce_62 : Ce SM 62 (.inl 7) := ⟨by decide, by decide, rfl⟩
theorem ce_63 : Ce SM 63 (.inl 64) := ⟨by decide, by decide, rfl⟩
theorem ce_64 : Ce SM 64 (.inl 64) := ⟨by decide, by decide, rfl⟩
theorem ce_65 : Ce SM 65 (.inl 256) := ⟨by decide, by decide, rfl⟩
theorem ce_66 : Ce SM 66 (.inl 6) := ⟨by decide, by decide, rfl⟩
theorem ce_67 : Ce SM 67 (.inl 60) := ⟨by decide, by decide, rfl⟩
theorem ce_68 : Ce SM 68 (.inl 180) := ⟨by decide, by decide, rfl⟩
def isSh (k : Nat) : Prop := k = 1 ∨ ∃ j, j < 6 ∧ k = ringK j
theorem isSh_one : isSh 1 := Or.inl rfl
theorem ringK_sh {j : Nat} (h : j < 6) : isSh (ringK j) := Or.inr ⟨j, h, rfl⟩
theorem isSh_o {k : Nat} (h : isSh k) : Ce SC k (.inr (.inl (4, shF k))) := by
  rcases h with rfl | ⟨j, hj, rfl⟩
  · exact ⟨by decide, by decide, rfl⟩
  · rcases (show j = 0 ∨ j = 1 ∨ j = 2 ∨ j = 3 ∨ j = 4 ∨ j = 5 by omega) with rfl | rfl | rfl | rfl | rfl | rfl <;> exact ⟨by decide, by decide, rfl⟩
theorem isSh_1 {k : Nat} (h : isSh k) : Ce SC (k + 1) (.inl 7) := by
  rcases h with rfl | ⟨j, hj, rfl⟩
  · exact ⟨by decide, by decide, rfl⟩
  · rcases (show j = 0 ∨ j = 1 ∨ j = 2 ∨ j = 3 ∨ j = 4 ∨ j = 5 by omega) with rfl | rfl | rfl | rfl | rfl | rfl <;> exact ⟨by decide, by decide, rfl⟩
theorem isSh_2 {k : Nat} (h : isSh k) : Ce SC (k + 2) (.inl 6) := by
  rcases h with rfl | ⟨j, hj, rfl⟩
  · exact ⟨by decide, by decide, rfl⟩
  · rcases (show j = 0 ∨ j = 1 ∨ j = 2 ∨ j = 3 ∨ j = 4 ∨ j = 5 by omega) with rfl | rfl | rfl | rfl | rfl | rfl <;> exact ⟨by decide, by decide, rfl⟩
theorem isSh_3 {k : Nat} (h : isSh k) : Ce SC (k + 3) (.inl 6) := by
  rcases h with rfl | ⟨j, hj, rfl⟩
  · exact ⟨by decide, by decide, rfl⟩
  · rcases (show j = 0 ∨ j = 1 ∨ j = 2 ∨ j = 3 ∨ j = 4 ∨ j = 5 by omega) with rfl | rfl | rfl | rfl | rfl | rfl <;> exact ⟨by decide, by decide, rfl⟩
theorem isSh_4 {k : Nat} (h : isSh k) : Ce SC (k + 4) (.inl 3) := by
  rcases h with rfl | ⟨j, hj, rfl⟩
  · exact ⟨by decide, by decide, rfl⟩
  · rcases (show j = 0 ∨ j = 1 ∨ j = 2 ∨ j = 3 ∨ j = 4 ∨ j = 5 by omega) with rfl | rfl | rfl | rfl | rfl | rfl <;> exact ⟨by decide, by decide, rfl⟩
def irm (x y : Int32) : Int32 := x - x / y * y
theorem j_irm {ρ μ : Type} {X : Cx} {V : Vx μ} {z : ρ} {o : Option ρ} {M : μ} {pc : Nat} {lv : List (Nat × Value)} {st : List Value} {cc : ByteArray} {Ts : List Cond} {own : String} {rt : Option FieldType} {rm : Room} (F : Ok X V cc Ts own rt rm) {x y : Int32} (hne : ¬ y = 0) (hdg : decode cc pc = .ok (.irem, 1)) (k : Jg X V z o M (pc + 1) lv (.int (irm x y) :: st)) : Jg X V z o M pc lv (.int y :: .int x :: st) := j_irem F hne hdg k
