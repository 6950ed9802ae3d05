theorem wf2_at (G : Gg) (P : Mm × Mm) {k : Nat} (hk : k < 69) : ∃ e, (wf2 G P)[k]? = some (G.2.1 k, e) := by
  unfold wf2
  by_cases h : k < 54
  · rw [List.getElem?_append_left (by rw [wo_len]; exact h)]
    exact ⟨_, wo_at G SC P.1 (k := k) (Nat.zero_le _) (by show k < 0 + 54; omega)⟩
  · rw [List.getElem?_append_right (by rw [wo_len]; show 54 ≤ k; omega), wo_len]
    exact ⟨_, wo_at G SM P.2 (k := k) (by show 54 ≤ k; omega) (by show k < 54 + 15; omega)⟩
def adr (q0 : Nat) (u : sgX6_init) (q1 : Nat) (v : sgX7_init) (k : Nat) : Nat := [q0, u.1, u.2.1.1, u.2.1.2.1, u.2.1.2.2.1, u.2.1.2.2.2, u.2.2.1, u.2.2.2.1.1, u.2.2.2.1.2.1, u.2.2.2.1.2.2, u.2.2.2.2.1, u.2.2.2.2.2.1.1, u.2.2.2.2.2.1.2.1, u.2.2.2.2.2.1.2.2.1, u.2.2.2.2.2.1.2.2.2.1, u.2.2.2.2.2.1.2.2.2.2.1, u.2.2.2.2.2.1.2.2.2.2.2, u.2.2.2.2.2.2.1, u.2.2.2.2.2.2.2.2.1, u.2.2.2.2.2.2.2.2.2.1.1, u.2.2.2.2.2.2.2.2.2.1.2.2.1, u.2.2.2.2.2.2.2.2.2.1.2.2.2.1.1, u.2.2.2.2.2.2.2.2.2.1.2.2.2.1.2.1, u.2.2.2.2.2.2.2.2.2.1.2.2.2.1.2.2.1, u.2.2.2.2.2.2.2.2.2.1.2.2.2.1.2.2.2, u.2.2.2.2.2.2.2.2.2.1.2.2.2.2.1, u.2.2.2.2.2.2.2.2.2.1.2.2.2.2.2.1.1, u.2.2.2.2.2.2.2.2.2.1.2.2.2.2.2.1.2.1, u.2.2.2.2.2.2.2.2.2.1.2.2.2.2.2.1.2.2.1, u.2.2.2.2.2.2.2.2.2.1.2.2.2.2.2.1.2.2.2, u.2.2.2.2.2.2.2.2.2.1.2.2.2.2.2.2.1, u.2.2.2.2.2.2.2.2.2.1.2.2.2.2.2.2.2.1.1, u.2.2.2.2.2.2.2.2.2.1.2.2.2.2.2.2.2.1.2.1, u.2.2.2.2.2.2.2.2.2.1.2.2.2.2.2.2.2.1.2.2.1, u.2.2.2.2.2.2.2.2.2.1.2.2.2.2.2.2.2.1.2.2.2, u.2.2.2.2.2.2.2.2.2.1.2.2.2.2.2.2.2.2.1, u.2.2.2.2.2.2.2.2.2.1.2.2.2.2.2.2.2.2.2.1.1, u.2.2.2.2.2.2.2.2.2.1.2.2.2.2.2.2.2.2.2.1.2.1, u.2.2.2.2.2.2.2.2.2.1.2.2.2.2.2.2.2.2.2.1.2.2.1, u.2.2.2.2.2.2.2.2.2.1.2.2.2.2.2.2.2.2.2.1.2.2.2, u.2.2.2.2.2.2.2.2.2.1.2.2.2.2.2.2.2.2.2.2.1, u.2.2.2.2.2.2.2.2.2.1.2.2.2.2.2.2.2.2.2.2.2.1.1, u.2.2.2.2.2.2.2.2.2.1.2.2.2.2.2.2.2.2.2.2.2.1.2.1, u.2.2.2.2.2.2.2.2.2.1.2.2.2.2.2.2.2.2.2.2.2.1.2.2.1, u.2.2.2.2.2.2.2.2.2.1.2.2.2.2.2.2.2.2.2.2.2.1.2.2.2, u.2.2.2.2.2.2.2.2.2.1.2.2.2.2.2.2.2.2.2.2.2.2.1, u.2.2.2.2.2.2.2.2.2.1.2.2.2.2.2.2.2.2.2.2.2.2.2.1, u.2.2.2.2.2.2.2.2.2.1.2.2.2.2.2.2.2.2.2.2.2.2.2.2.1, u.2.2.2.2.2.2.2.2.2.1.2.2.2.2.2.2.2.2.2.2.2.2.2.2.2.1, u.2.2.2.2.2.2.2.2.2.1.2.2.2.2.2.2.2.2.2.2.2.2.2.2.2.2, u.2.2.2.2.2.2.2.2.2.2.1, u.2.2.2.2.2.2.2.2.2.2.2.1, u.2.2.2.2.2.2.2.2.2.2.2.2.1, u.2.2.2.2.2.2.2.2.2.2.2.2.2, q1, v.1, v.2.1, v.2.2.1, v.2.2.2.1, v.2.2.2.2.1, v.2.2.2.2.2.1, v.2.2.2.2.2.2.1, v.2.2.2.2.2.2.2.1, v.2.2.2.2.2.2.2.2.1, v.2.2.2.2.2.2.2.2.2.1, v.2.2.2.2.2.2.2.2.2.2.1, v.2.2.2.2.2.2.2.2.2.2.2.1, v.2.2.2.2.2.2.2.2.2.2.2.2.1, v.2.2.2.2.2.2.2.2.2.2.2.2.2].getD k 0
def adG (D : va_G) (cI : ClassId) (q0 : Nat) (u : sgX6_init) (q1 : Nat) (v : sgX7_init) (tX tY : Nat) : Gg := (D, adr q0 u q1 v, (cI, u.2.2.2.2.2.2.2.2.2.1.2.1), (tX, tY))
theorem ml_6 : Cond.methodLink RL 9 yX6_init ∈ wsL_law := by decide +kernel
theorem ml_7 : Cond.methodLink RL 12 yX7_init ∈ wsL_law := by decide +kernel
theorem mi_6 : Cond.instanceMethod yX6_init ∈ wsL_law := by decide +kernel
theorem mi_7 : Cond.instanceMethod yX7_init ∈ wsL_law := by decide +kernel
theorem mk_6 : Cond.classLink RL 7 RX6 ∈ wsL_law := by decide +kernel
theorem mk_7 : Cond.classLink RL 10 RX7 ∈ wsL_law := by decide +kernel
theorem mn_6 : Cond.instantiable RX6 9 ∈ wsL_law := by decide +kernel
theorem mn_7 : Cond.instantiable RX7 19 ∈ wsL_law := by decide +kernel
theorem mt_6 : Cond.initialized RX6 ∈ wsL_law := by decide +kernel
theorem mt_7 : Cond.initialized RX7 ∈ wsL_law := by decide +kernel
set_option maxHeartbeats 8000000 in
set_option maxRecDepth 100000 in
theorem whole_start {p : Program} {e : Env} {s : State} {m : MethodId} {below : List Frame} {meth : Method} {c : Code} (l : Launch) (_ : l.flags = flags0) {b L : Nat} {xs : Nat → Int32} (hL : L ≤ 2048) (C0 : lw_At p s m meth c b L xs) : W p l e room_1 s m #[Value.ref b] below meth c s.heap [] 0 0 (lw_Z below #[Value.ref b] s) (entryFrame m ([Value.ref b] : List Value).toArray 4) := by
  obtain ⟨hx, hb, hr, hml, hown, hts, hXs, hbl, hlocks, hgv⟩ := id C0
  obtain ⟨D, cI, hK⟩ := start_K hts
  obtain ⟨tX, tY, hSt⟩ := start_St hts hgv
  have hEx : va_AO RX4 s := va_AO.of (hts (.arrayOver (.object RX4)) (by decide +kernel))
  have hP : va_P D vwCl [] s.heap := fun k q h => by simp at h
  have hD : va_D (fun q : Nat => s.heap.size ≤ q) [] := ⟨fun i j p q h => by simp at h, fun k q h => by simp at h⟩
  have hl := lv_entry ([.ref b]) (n := 4) (Nat.le_of_ble_eq_true rfl)
  rw [lg_entry_eq]
  generalize (lg_sl ([.ref b]) ++ List.replicate (4 - (lg_sl ([.ref b])).length) Slot.unset).toArray = ls at hl ⊢
  have hl : lv_has ls 4 [(0, .ref b)] := hl
  obtain ⟨X, hXe⟩ : ∃ X : Cx, X = (p, l, e, room_1, s, m, #[Value.ref b], below, meth, c) := ⟨_, rfl⟩
  have hX : X.2.1 = l := by rw [hXe]
  have hcf : CallFix X.1 (xM X) X.2.2.2.2.2.2.2.2.2 cL_law 4 (xS X) (xA X) wsL_law RL := by
    rw [hXe]
    exact ⟨hx, hb, hml, hown, fun w hw => hts w (wsL_law_in w hw)⟩
  have F : Ok0 X D 4 (fun q => s.heap.size ≤ q) [(cI, .int)] cL_law wsL_law RL room_1 := ⟨hcf, by rw [hXe], by rw [hXe]; exact hK, by rw [hXe]; exact fun q h => h⟩
  have main : Kj X D 4 (fun q => s.heap.size ≤ q) (lw_Z below #[Value.ref b] s) [] 0 0 0 [(0, .ref b)] [] := by
    refine k_new (fs := [.null, .null, .null, .null, .null, .null, .int 0, .int 0, .int 0]) F (show vwCl[6]? = some (RX6, TX6, 9) from rfl) tyX6 tyX6_ok inlX6 mk_6 mn_6 mt_6 dfX6 ⟨Nat.le_of_ble_eq_true rfl, Nat.le_of_ble_eq_true rfl⟩ dL_law_0 (fun q0 => ?_)
    refine k_ws (ws' := [(q0, .inr (6, [.null, .null, .null, .null, .null, .null, .int 0, .int 0, .int 0]))]) rfl ?_
    refine k_dup F rfl dL_law_3 ?_
    refine k_callI (wr := []) (As := []) F hX (nX6_init l D [(cI, .int)] cI rfl q0) (fun U g mk v h => va_AO.moved (u := U) (U := U.calling g mk v) (Vm.Alike.refl U.vm) h) (fun U hW => va_AO.moved hW.alike (by rw [hXe]; exact hEx)) (Es := fun u => va_K D vwCl [(cI, .int), (u.2.2.2.2.2.2.2.2.2.1.2.1, .object RX4)] (xS X)) (fun u t hvm h => va_K.moved hvm.symm h) [0] [] rfl rfl rfl rfl (by decide) (by decide) kkX6_init rfl gL_law_X6_init mt_6 ml_6 mi_6 ⟨rfl, rfl⟩ ⟨Nat.le_of_ble_eq_true rfl, Nat.le_of_ble_eq_true rfl⟩ rfl (Nat.le_of_ble_eq_true rfl) rfl dL_law_4 ⟨Nat.le_of_ble_eq_true rfl, Nat.le_of_ble_eq_true rfl⟩ (fun u hKu => ?_)
    refine k_ws (ws' := wX6_init cI q0 u) rfl ?_
    refine k_astore_n (lv' := [(1, .ref q0), (0, .ref b)]) F dL_law_7 rfl (by decide) rfl ?_
    refine k_new (fs := [.null, .null, .null, .int 0, .null, .null, .int 0, .null, .null, .null, .null, .null, .null, .null, .int 0, .int 0, .null, .null, .long 0]) F (show vwCl[7]? = some (RX7, TX7, 19) from rfl) tyX7 tyX7_ok inlX7 mk_7 mn_7 mt_7 dfX7 ⟨Nat.le_of_ble_eq_true rfl, Nat.le_of_ble_eq_true rfl⟩ dL_law_8 (fun q1 => ?_)
    refine k_dup F rfl dL_law_11 ?_
    refine k_callI (wr := wX6_init cI q0 u) (As := []) F hX (nX7_init l D [(cI, .int)] cI rfl q1) (fun _ _ _ _ h => h) (fun _ _ => trivial) (Es := fun _ => True) (fun _ _ _ _ => trivial) [54] [0, 1, 2, 3, 4, 5, 6, 7, 8, 9, 10, 11, 12, 13, 14, 15, 16, 17, 18, 19, 20, 21, 22, 23, 24, 25, 26, 27, 28, 29, 30, 31, 32, 33, 34, 35, 36, 37, 38, 39, 40, 41, 42, 43, 44, 45, 46, 47, 48, 49, 50, 51, 52, 53] rfl rfl rfl rfl (by decide) (by decide) kkX7_init rfl gL_law_X7_init mt_7 ml_7 mi_7 ⟨rfl, rfl⟩ ⟨Nat.le_of_ble_eq_true rfl, Nat.le_of_ble_eq_true rfl⟩ rfl (Nat.le_of_ble_eq_true rfl) rfl dL_law_12 ⟨Nat.le_of_ble_eq_true rfl, Nat.le_of_ble_eq_true rfl⟩ (fun v _ => ?_)
    refine k_astore_n (lv' := [(2, .ref q1), (1, .ref q0), (0, .ref b)]) F dL_law_15 rfl (by decide) rfl ?_
    refine k_iconst (v := (0 : Int32)) F dL_law_16 (by decide) ?_
    refine k_istore_n (lv' := [(3, .int (0 : Int32)), (2, .ref q1), (1, .ref q0), (0, .ref b)]) F dL_law_17 rfl (by decide) rfl ?_
    refine k_sub [3, 2, 1, 0] rfl ?_
    refine k_rowQ (q0 := 19) (f := va_up (va_up (va_up (va_up (va_up (va_up (fun _ => none) 0 (some u.2.2.2.2.2.2.2.2.2.1.2.2.1)) 1 (some u.2.2.2.2.2.2.2.2.2.1.2.2.2.2.1)) 2 (some u.2.2.2.2.2.2.2.2.2.1.2.2.2.2.2.2.1)) 3 (some u.2.2.2.2.2.2.2.2.2.1.2.2.2.2.2.2.2.2.1)) 4 (some u.2.2.2.2.2.2.2.2.2.1.2.2.2.2.2.2.2.2.2.2.1)) 5 (some u.2.2.2.2.2.2.2.2.2.1.2.2.2.2.2.2.2.2.2.2.2.2.1)) (g := fun j => some (adr q0 u q1 v (ringK j))) (ws' := wf2 (adG D cI q0 u q1 v tX tY) (M0, M0)) rfl (fun j hj => ?_) rfl ?_
    · rcases (show j = 0 ∨ j = 1 ∨ j = 2 ∨ j = 3 ∨ j = 4 ∨ j = 5 by omega) with rfl | rfl | rfl | rfl | rfl | rfl <;> rfl
    refine k_widen (k := 600000) (n := 7302250) (Nat.le_of_ble_eq_true rfl) (Nat.le_of_ble_eq_true rfl) ?_
    intro H locs ls hP hD hS hl
    have hI : Inj (adG D cI q0 u q1 v tX tY) := fun i j hi hj h => by
      obtain ⟨e1, h1⟩ := wf2_at (adG D cI q0 u q1 v tX tY) (M0, M0) hi
      obtain ⟨e2, h2⟩ := wf2_at (adG D cI q0 u q1 v tX tY) (M0, M0) hj
      exact hD.1 i j _ _ h1 h2 h
    have hlo : ∀ k, k < 69 → s.heap.size ≤ (adG D cI q0 u q1 v tX tY).2.1 k := fun k hk => by
      obtain ⟨e1, h1⟩ := wf2_at (adG D cI q0 u q1 v tX tY) (M0, M0) hk
      exact hD.2 k _ h1
    have J := law_J l (adG D cI q0 u q1 v tX tY) b L xs X (wf2 (adG D cI q0 u q1 v tX tY), D, 4, (fun q => s.heap.size ≤ q), lw_Z below #[Value.ref b] s) (M0, M0) ⟨hcf, by rw [hXe]; exact hr, by rw [hXe]; exact hlocks, by rw [hXe]⟩ ⟨rfl, rfl, by rw [hXe], hKu, hI, by rw [hXe]; exact hSt D _ _, by rw [hXe]; exact hlo, by rw [hXe]; exact hXs, by rw [hXe]; exact hbl⟩ hX rfl ⟨rfl, rfl, by rw [hXe], by rw [hXe], by rw [hXe]⟩
    exact J (law0 xs hL) H locs ls hP hS hl
  have := main s.heap [] ls hP hD (by rw [hXe]; exact va_S.rf) hl
  rw [hXe] at this
  exact this
