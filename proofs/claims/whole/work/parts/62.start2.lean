theorem start_row {s : State} {b : Nat} {nm : String} {f : Nat → Int32} (hl : (Cond.laysStatic RX3 nm "[I").before #[Value.ref b] s = true) (hini : (Cond.initialized RX3).before #[Value.ref b] s = true) (harr : (Cond.arrayOf (.static RX3 nm "[I") .int).before #[Value.ref b] s = true) (hlen : (Cond.eq (.length (.static RX3 nm "[I")) (.int 4)).before #[Value.ref b] s = true) (h0 : (Cond.eq (.elem (.static RX3 nm "[I") (.int 0)) (.int (f 0))).before #[Value.ref b] s = true) (h1 : (Cond.eq (.elem (.static RX3 nm "[I") (.int 1)) (.int (f 1))).before #[Value.ref b] s = true) (h2 : (Cond.eq (.elem (.static RX3 nm "[I") (.int 2)) (.int (f 2))).before #[Value.ref b] s = true) (h3 : (Cond.eq (.elem (.static RX3 nm "[I") (.int 3)) (.int (f 3))).before #[Value.ref b] s = true) : ∃ t : Nat, va_Z RX3 nm "[I" (.ref t) (fun q => s.heap.size ≤ q) s s.heap ∧ va_T .int t 4 (fun j => .int (f j)) (fun q => s.heap.size ≤ q) s s.heap := by
  have hA : ∀ a : Nat, a < s.heap.size → ¬ (fun q : Nat => s.heap.size ≤ q) a := fun a h => Nat.not_le.mpr h
  obtain ⟨t, e, hT⟩ := va_Tof (N := 4) (f := fun j => .int (f j)) (A := fun q => s.heap.size ≤ q) (by decide) harr (va_eqt hlen) (fun j hj => by
    rcases (show j = 0 ∨ j = 1 ∨ j = 2 ∨ j = 3 by omega) with rfl | rfl | rfl | rfl
    · exact va_eqt h0
    · exact va_eqt h1
    · exact va_eqt h2
    · exact va_eqt h3) hA
  exact ⟨t, va_Zof hl hini e hA, hT⟩
theorem start_St {s : State} {b : Nat} (hts : ∀ w ∈ lw_tbl, w.before #[Value.ref b] s = true) (hgv : (Jvm.Cond.and given_1 narrow_1).before #[Value.ref b] s = true) : ∃ tX tY : Nat, ∀ (D : va_G) (ad : Nat → Nat) (cc : ClassId × ClassId), St (D, ad, cc, (tX, tY)) (fun q => s.heap.size ≤ q) s s.heap := by
  have hs := flat_of_before _ hgv
  obtain ⟨tX, z1, t1⟩ := start_row (nm := "STEP_X") (f := sX) (hts (.laysStatic RX3 "STEP_X" "[I") (by decide +kernel)) (hts (.initialized RX3) (by decide +kernel)) (hs _ (by decide +kernel)) (hs _ (by decide +kernel)) (hs _ (by decide +kernel)) (hs _ (by decide +kernel)) (hs _ (by decide +kernel)) (hs _ (by decide +kernel))
  obtain ⟨tY, z2, t2⟩ := start_row (nm := "STEP_Y") (f := sY) (hts (.laysStatic RX3 "STEP_Y" "[I") (by decide +kernel)) (hts (.initialized RX3) (by decide +kernel)) (hs _ (by decide +kernel)) (hs _ (by decide +kernel)) (hs _ (by decide +kernel)) (hs _ (by decide +kernel)) (hs _ (by decide +kernel)) (hs _ (by decide +kernel))
  exact ⟨tX, tY, fun D ad cc => ⟨z1, z2, t1, t2, va_Nw.of rfl (hts (.methodLinkNest RX5 19 yX6_isWithin RX6) (by decide +kernel))⟩⟩
