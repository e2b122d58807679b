theorem vfX6 : ∀ j, j < 11 → defaultValue (tyX6 j) = vp_V [.null, .null, .null, .null, .null, .null, .null, .null, .int 0, .int 0, .int 0] j := by
  intro j hj
  rcases (show j = 0 ∨ j = 1 ∨ j = 2 ∨ j = 3 ∨ j = 4 ∨ j = 5 ∨ j = 6 ∨ j = 7 ∨ j = 8 ∨ j = 9 ∨ j = 10 by omega) with rfl | rfl | rfl | rfl | rfl | rfl | rfl | rfl | rfl | rfl | rfl <;> rfl
theorem vfX7 : ∀ j, j < 16 → defaultValue (tyX7 j) = vp_V [.null, .null, .null, .null, .null, .int 0, .null, .null, .int 0, .int 0, .int 0, .int 0, .int 0, .null, .null, .null] j := by
  intro j hj
  rcases (show j = 0 ∨ j = 1 ∨ j = 2 ∨ j = 3 ∨ j = 4 ∨ j = 5 ∨ j = 6 ∨ j = 7 ∨ j = 8 ∨ j = 9 ∨ j = 10 ∨ j = 11 ∨ j = 12 ∨ j = 13 ∨ j = 14 ∨ j = 15 by omega) with rfl | rfl | rfl | rfl | rfl | rfl | rfl | rfl | rfl | rfl | rfl | rfl | rfl | rfl | rfl | rfl <;> rfl
set_option maxHeartbeats 4000000 in
set_option maxRecDepth 100000 in
theorem ebl7 : (Cond.classLink RL 7 RX6) ∈ lw_tbl := by decide +kernel
set_option maxHeartbeats 4000000 in
set_option maxRecDepth 100000 in
theorem ebl10 : (Cond.classLink RL 10 RX7) ∈ lw_tbl := by decide +kernel
set_option maxHeartbeats 4000000 in
set_option maxRecDepth 100000 in
theorem ebi6 : (Cond.initialized RX6) ∈ lw_tbl := by decide +kernel
set_option maxHeartbeats 4000000 in
set_option maxRecDepth 100000 in
theorem ebi7 : (Cond.initialized RX7) ∈ lw_tbl := by decide +kernel
set_option maxHeartbeats 4000000 in
set_option maxRecDepth 100000 in
theorem ebm9 : (Cond.methodLink RL 9 yX6_init) ∈ lw_tbl := by decide +kernel
set_option maxHeartbeats 4000000 in
set_option maxRecDepth 100000 in
theorem ebm12 : (Cond.methodLink RL 12 yX7_init) ∈ lw_tbl := by decide +kernel
set_option maxHeartbeats 4000000 in
set_option maxRecDepth 100000 in
theorem ebn6 : (Cond.instanceMethod yX6_init) ∈ lw_tbl := by decide +kernel
set_option maxHeartbeats 4000000 in
set_option maxRecDepth 100000 in
theorem ebn7 : (Cond.instanceMethod yX7_init) ∈ lw_tbl := by decide +kernel
theorem oF_none : oF none none = fun _ => none := by
  funext j
  unfold oF
  by_cases c : j = 0
  · rw [if_pos c]; rfl
  · rw [if_neg c]
    by_cases d : j = 1
    · rw [if_pos d]; rfl
    · rw [if_neg d]
/-- the two beginnings are alike -/
theorem RV_begin {u : (Nat → Int32) × (Nat → Int32) × (Nat → Int32) × (Nat → Int32) × (Nat → Int32)} {bk : Nat → Int32} (hu : nwV u) (h0 : bk 0 = nI 4) (h1 : ∀ v, v < 4 → bk (10 + v) = nI v ∧ bk (16 + v) = nI v) (h2 : ∀ j, j < 104 → j ≠ 0 → (j < 10 ∨ 22 ≤ j) → bk j = 0) : RV 4 0 0 0 u.1 u.2.1 u.2.2.1 u.2.2.2.1 u.2.2.2.2 (fun _ => 0) (fun _ => 0) (fun _ => 0) (fun _ => 0) (fun _ => 0) (fun _ => 0) bk := by
  obtain ⟨a1, a2, a3, a4, a5⟩ := hu
  refine ⟨4, 0, 0, 0, ⟨by decide, by decide, by decide, by decide, by decide⟩, rfl, rfl, rfl, rfl, ⟨?_, ?_, ?_, ?_, ?_, ?_, ?_, ?_, ?_, ?_, ?_, ?_⟩, ⟨⟨h0, h2 1 (by decide) (by decide) (by decide), h2 2 (by decide) (by decide) (by decide), h2 3 (by decide) (by decide) (by decide)⟩, ?_, ?_, ?_, ?_, ?_, ?_, ?_, ?_, ?_, ?_⟩⟩
  · exact fun v hv => ⟨0, by decide, a1 v (by omega)⟩
  · exact fun v hv => ⟨v, hv, a2 v (by omega)⟩
  · exact fun v hv => ⟨v, hv, a3 v (by omega)⟩
  · intro b c hb hc e
    rw [a3 b (by omega), a3 c (by omega)] at e
    have := congrArg Int32.toInt e
    rw [nI_toInt (by omega), nI_toInt (by omega)] at this
    omega
  · intro b hb x hx
    rw [a4 _ (by omega)]
    exact bel_0 4
  · intro b hb
    rw [a5 b (by omega)]
    exact ⟨bel_0 4, fun v hv => by rw [b_0]; rfl⟩
  · exact fun i hi => absurd hi (Nat.not_lt_zero i)
  · exact fun i hi => absurd hi (Nat.not_lt_zero i)
  · exact fun i hi => absurd hi (Nat.not_lt_zero i)
  · exact fun i hi => absurd hi (Nat.not_lt_zero i)
  · exact fun i hi => absurd hi (Nat.not_lt_zero i)
  · exact fun i j hi => absurd hi (Nat.not_lt_zero i)
  · exact fun v hv => by rw [a1 v (by omega)]; exact h2 _ (by omega) (by omega) (by omega)
  · exact fun v hv => by rw [a2 v (by omega)]; exact (h1 v hv).1
  · exact fun v hv => by rw [a3 v (by omega)]; exact (h1 v hv).2
  · exact fun b hb x hx => by rw [a4 _ (by omega)]; exact h2 _ (by omega) (by omega) (by omega)
  · exact fun i hi => absurd hi (Nat.not_lt_zero i)
  · exact fun i hi => absurd hi (Nat.not_lt_zero i)
  · exact fun i hi => absurd hi (Nat.not_lt_zero i)
  · exact fun i hi => absurd hi (Nat.not_lt_zero i)
  · exact fun i hi => absurd hi (Nat.not_lt_zero i)
  · exact fun i hi => absurd hi (Nat.not_lt_zero i)
set_option maxHeartbeats 4000000 in
set_option maxRecDepth 100000 in
theorem whole_start {p : Program} {e : Env} {s : State} {m : MethodId} {below : List Frame} {meth : Method} {c : Code} (l : Launch) {b L : Nat} {xs : Nat → Int32} (hL : L ≤ 2560) (C0 : lw_At p s m meth c b L xs) : W p l e room_1 s m #[Value.ref b] below meth c s.heap [] 0 0 (lw_Z below #[Value.ref b] s) (entryFrame m ([Value.ref b] : List Value).toArray 4) := by
  obtain ⟨hx, hb, hr, hml, hown, hts, hX, hbl, hlocks, hgv⟩ := C0
  obtain ⟨G, hK, hN, hE, hO⟩ := entry hts hgv
  have hA : ∀ q : Nat, s.heap.size ≤ q → (fun q : Nat => s.heap.size ≤ q) q := fun _ h => h
  have C : Cx p m c cL_law 4 s #[Value.ref b] wsL_law RL meth ret G (fun q : Nat => s.heap.size ≤ q) := ⟨⟨hx, hb, hml, hown, fun w hw => hts w (wsL_law_in w hw)⟩, hr, hlocks, hK, hN, hE, hA⟩
  have hS : va_S (fun q : Nat => s.heap.size ≤ q) s.heap s.heap [] := va_S.rf
  have hP : va_P G.1 vwCl [] s.heap := fun k q h => by simp at h
  have hD : va_D (fun q : Nat => s.heap.size ≤ q) [] := ⟨fun i j p q h => by simp at h, fun k q h => by simp at h⟩
  have hl := lv_entry ([.ref b]) (n := 4) (Nat.le_of_ble_eq_true rfl)
  rw [lg_entry_eq]
  generalize (lg_sl ([.ref b]) ++ List.replicate (4 - (lg_sl ([.ref b])).length) Slot.unset).toArray = ls at hl ⊢
  have hl : lv_has ls 4 [(0, .ref b)] := hl
  refine va_new (ci := 6) (fs := [.null, .null, .null, .null, .null, .null, .null, .null, .int 0, .int 0, .int 0]) (C := RX6) (T := TX6) (N := 11) hx hb hts ezX6 tyX6 tyX6_ok hown (hts _ ebl7) (hts _ enX6) (hts _ ebi6) hK hP hD hS hA rfl vfX6 (Nat.le_of_ble_eq_true rfl) (Nat.le_of_ble_eq_true rfl) dL_law_0 (fun q H hP hD hS => ?_)
  refine W.widen (k := 1) (n := 11) (by decide) (by decide) ?_
  refine lv_dup hx hb dL_law_3 rfl ?_
  obtain ⟨hF, hpre⟩ := preN_of (ws := []) hK hN hE hA hP hD hS
  have hpre6 : PreS s H (va_Pc [.ref q] (c6Pre G [(q, .inr (6, [.null, .null, .null, .null, .null, .null, .null, .null, .int 0, .int 0, .int 0]))] H.size)) [.ref q] := by
    refine ⟨fun a U g mk r => ?_, fun U hU hW => ?_⟩
    · obtain ⟨r0, r1, r2⟩ := r
      obtain ⟨w0, w1⟩ := hpre.1 a U g mk ⟨r0, r1⟩
      exact ⟨w0, w1, va_AO.moved (u := U) (U := U.calling g mk a) (Vm.Alike.refl U.vm) r2⟩
    · obtain ⟨w0, w1⟩ := hpre.2 U hU hW
      exact ⟨w0, w1, va_AO.moved hW.alike hO⟩
  refine va_callv (va_runI (As := []) (rest := [.ref q]) C.1 (tX6_init l G q H.size) (cwI 0 C.1.2.2.2.2 gL_law_X6_init rfl rfl rfl (hts _ ebi6) (hts _ ebm9) (hts _ ebn6) rfl hdX6_init ⟨Nat.le_of_ble_eq_true rfl, Nat.le_of_ble_eq_true rfl⟩) hpre6 rfl rfl hl.1 rfl (lv_room (Nat.le_of_ble_eq_true rfl)) dL_law_4 ⟨Nat.le_of_ble_eq_true rfl, Nat.le_of_ble_eq_true rfl⟩) hS (fun x _ h => hF x h) hF (fun u t H1 locs1 ht hvm hp hB hz1 hk1 hS1 => ?_)
  obtain ⟨hP1, hD1⟩ := hB
  rw [ht] at hP1
  obtain ⟨hP, hD⟩ := joinN (ws := []) hP hD hk1 hF hP1 hD1
  obtain ⟨hu0, hva, hda⟩ := hp
  have hP : va_P G.1 vwCl (W6 G u) H1 := hP
  have hD : va_D (fun q : Nat => s.heap.size ≤ q) (W6 G u) := hD
  have hP6 := hP
  have hD6 := hD
  subst hu0
  have hP := hP6
  have hD := hD6
  refine W.widen (k := 43) (n := 720) (by decide) (by decide) ?_
  refine lv_astore_n (lv' := [(1, .ref (u.1 0)), (0, .ref b)]) hx hb dL_law_7 rfl hl (by decide) rfl (fun ls hl => ?_)
  refine va_new (ci := 7) (fs := [.null, .null, .null, .null, .null, .int 0, .null, .null, .int 0, .int 0, .int 0, .int 0, .int 0, .null, .null, .null]) (C := RX7) (T := TX7) (N := 16) hx hb hts ezX7 tyX7 tyX7_ok hown (hts _ ebl10) (hts _ enX7) (hts _ ebi7) hK hP hD hS1 hA rfl vfX7 (Nat.le_of_ble_eq_true rfl) (Nat.le_of_ble_eq_true rfl) dL_law_8 (fun q7 H hP hD hS => ?_)
  refine W.widen (k := 44) (n := 736) (by decide) (by decide) ?_
  refine lv_dup hx hb dL_law_11 rfl ?_
  refine kI C hP hD hS (tX7_init l G q7) gL_law_X7_init (hts _ ebm12) (hts _ ebn7) (hts _ ebi7) rfl ⟨rfl, rfl⟩ rfl hdX7_init ⟨Nat.le_of_ble_eq_true rfl, Nat.le_of_ble_eq_true rfl⟩ hl.1 (Nat.le_of_ble_eq_true rfl) ⟨Nat.le_of_ble_eq_true rfl, Nat.le_of_ble_eq_true rfl⟩ dL_law_12 (fun w H locs hw hP hD hS => ?_)
  refine W.widen (k := 54) (n := 1687) (by decide) (by decide) ?_
  obtain ⟨hw0, hw1, hw2, hw3⟩ := hw
  have hP7 := hP
  have hD7 := hD
  have hS7 := hS
  subst hw0
  have hP := hP7
  have hD := hD7
  have hS := hS7
  have hP : va_P G.1 vwCl (flat [wX6 G u.1 (u.2.1.1 0) (u.2.2.1.1 0) u.2.2.2.1 (u.2.2.2.2.1 0) (u.2.2.2.2.2.1 0) (u.2.2.2.2.2.2.1 0) (u.2.2.2.2.2.2.2.1 0) (u.2.2.2.2.2.2.2.2 0) 0 0 0, wX3 G u.2.1.1 4 0 0 0 u.2.1.2.1 u.2.1.2.2.1 u.2.1.2.2.2.1 u.2.1.2.2.2.2.1 u.2.1.2.2.2.2.2 (fun _ => 0) (fun _ => 0) (fun _ => 0) (fun _ => 0) (fun _ => 0) (fun _ => 0), wX3 G u.2.2.1.1 4 0 0 0 u.2.2.1.2.1 u.2.2.1.2.2.1 u.2.2.1.2.2.2.1 u.2.2.1.2.2.2.2.1 u.2.2.1.2.2.2.2.2 (fun _ => 0) (fun _ => 0) (fun _ => 0) (fun _ => 0) (fun _ => 0) (fun _ => 0), wI G u.2.2.2.1 (fun _ => none), wX2 G u.2.2.2.2.1 0 (fun _ => 0) (fun _ => 0) 0 0 0 0, wX4 G u.2.2.2.2.2.1 (fun _ => 0) (fun _ => 0) (fun _ => 0) (fun _ => 0), wX1 G u.2.2.2.2.2.2.1 (fun _ => 0) 0 (fun _ => 0) (fun _ => 0) 0, wX0 G u.2.2.2.2.2.2.2.1 (fun _ => 0) (fun _ => 0) 0, wX5 G u.2.2.2.2.2.2.2.2 (fun _ => 0)] ++ wX7 G w.1 w.2 (fun _ => 0) (fun _ => 0) (fun _ => 0) (fun _ => 0) 0 (fun _ => 0) (fun _ => 0) 0 0 0 0 0 (fun _ => 0) (fun _ => 0) (fun _ => 0)) H := hP
  have hD : va_D (fun q : Nat => s.heap.size ≤ q) (flat [wX6 G u.1 (u.2.1.1 0) (u.2.2.1.1 0) u.2.2.2.1 (u.2.2.2.2.1 0) (u.2.2.2.2.2.1 0) (u.2.2.2.2.2.2.1 0) (u.2.2.2.2.2.2.2.1 0) (u.2.2.2.2.2.2.2.2 0) 0 0 0, wX3 G u.2.1.1 4 0 0 0 u.2.1.2.1 u.2.1.2.2.1 u.2.1.2.2.2.1 u.2.1.2.2.2.2.1 u.2.1.2.2.2.2.2 (fun _ => 0) (fun _ => 0) (fun _ => 0) (fun _ => 0) (fun _ => 0) (fun _ => 0), wX3 G u.2.2.1.1 4 0 0 0 u.2.2.1.2.1 u.2.2.1.2.2.1 u.2.2.1.2.2.2.1 u.2.2.1.2.2.2.2.1 u.2.2.1.2.2.2.2.2 (fun _ => 0) (fun _ => 0) (fun _ => 0) (fun _ => 0) (fun _ => 0) (fun _ => 0), wI G u.2.2.2.1 (fun _ => none), wX2 G u.2.2.2.2.1 0 (fun _ => 0) (fun _ => 0) 0 0 0 0, wX4 G u.2.2.2.2.2.1 (fun _ => 0) (fun _ => 0) (fun _ => 0) (fun _ => 0), wX1 G u.2.2.2.2.2.2.1 (fun _ => 0) 0 (fun _ => 0) (fun _ => 0) 0, wX0 G u.2.2.2.2.2.2.2.1 (fun _ => 0) (fun _ => 0) 0, wX5 G u.2.2.2.2.2.2.2.2 (fun _ => 0)] ++ wX7 G w.1 w.2 (fun _ => 0) (fun _ => 0) (fun _ => 0) (fun _ => 0) 0 (fun _ => 0) (fun _ => 0) 0 0 0 0 0 (fun _ => 0) (fun _ => 0) (fun _ => 0)) := hD
  rw [← oF_none] at hP hD
  have hP : va_P G.1 vwCl (flat [wX6 G u.1 (u.2.1.1 0) (u.2.2.1.1 0) u.2.2.2.1 (u.2.2.2.2.1 0) (u.2.2.2.2.2.1 0) (u.2.2.2.2.2.2.1 0) (u.2.2.2.2.2.2.2.1 0) (u.2.2.2.2.2.2.2.2 0) 0 0 0, wX3 G u.2.1.1 4 0 0 0 u.2.1.2.1 u.2.1.2.2.1 u.2.1.2.2.2.1 u.2.1.2.2.2.2.1 u.2.1.2.2.2.2.2 (fun _ => 0) (fun _ => 0) (fun _ => 0) (fun _ => 0) (fun _ => 0) (fun _ => 0), wX3 G u.2.2.1.1 4 0 0 0 u.2.2.1.2.1 u.2.2.1.2.2.1 u.2.2.1.2.2.2.1 u.2.2.1.2.2.2.2.1 u.2.2.1.2.2.2.2.2 (fun _ => 0) (fun _ => 0) (fun _ => 0) (fun _ => 0) (fun _ => 0) (fun _ => 0), wI G u.2.2.2.1 (oF none none), wX2 G u.2.2.2.2.1 0 (fun _ => 0) (fun _ => 0) 0 0 0 0, wX4 G u.2.2.2.2.2.1 (fun _ => 0) (fun _ => 0) (fun _ => 0) (fun _ => 0), wX1 G u.2.2.2.2.2.2.1 (fun _ => 0) 0 (fun _ => 0) (fun _ => 0) 0, wX0 G u.2.2.2.2.2.2.2.1 (fun _ => 0) (fun _ => 0) 0, wX5 G u.2.2.2.2.2.2.2.2 (fun _ => 0), wX7 G w.1 w.2 (fun _ => 0) (fun _ => 0) (fun _ => 0) (fun _ => 0) 0 (fun _ => 0) (fun _ => 0) 0 0 0 0 0 (fun _ => 0) (fun _ => 0) (fun _ => 0), oB G none, oB G none]) H := hP
  have hD : va_D (fun q : Nat => s.heap.size ≤ q) (flat [wX6 G u.1 (u.2.1.1 0) (u.2.2.1.1 0) u.2.2.2.1 (u.2.2.2.2.1 0) (u.2.2.2.2.2.1 0) (u.2.2.2.2.2.2.1 0) (u.2.2.2.2.2.2.2.1 0) (u.2.2.2.2.2.2.2.2 0) 0 0 0, wX3 G u.2.1.1 4 0 0 0 u.2.1.2.1 u.2.1.2.2.1 u.2.1.2.2.2.1 u.2.1.2.2.2.2.1 u.2.1.2.2.2.2.2 (fun _ => 0) (fun _ => 0) (fun _ => 0) (fun _ => 0) (fun _ => 0) (fun _ => 0), wX3 G u.2.2.1.1 4 0 0 0 u.2.2.1.2.1 u.2.2.1.2.2.1 u.2.2.1.2.2.2.1 u.2.2.1.2.2.2.2.1 u.2.2.1.2.2.2.2.2 (fun _ => 0) (fun _ => 0) (fun _ => 0) (fun _ => 0) (fun _ => 0) (fun _ => 0), wI G u.2.2.2.1 (oF none none), wX2 G u.2.2.2.2.1 0 (fun _ => 0) (fun _ => 0) 0 0 0 0, wX4 G u.2.2.2.2.2.1 (fun _ => 0) (fun _ => 0) (fun _ => 0) (fun _ => 0), wX1 G u.2.2.2.2.2.2.1 (fun _ => 0) 0 (fun _ => 0) (fun _ => 0) 0, wX0 G u.2.2.2.2.2.2.2.1 (fun _ => 0) (fun _ => 0) 0, wX5 G u.2.2.2.2.2.2.2.2 (fun _ => 0), wX7 G w.1 w.2 (fun _ => 0) (fun _ => 0) (fun _ => 0) (fun _ => 0) 0 (fun _ => 0) (fun _ => 0) 0 0 0 0 0 (fun _ => 0) (fun _ => 0) (fun _ => 0), oB G none, oB G none]) := hD
  refine lv_astore_n (lv' := [(2, .ref (w.1 0)), (1, .ref (u.1 0)), (0, .ref b)]) hx hb dL_law_15 rfl hl (by decide) rfl (fun ls hl => ?_)
  refine lv_iconst (v := 0) hx hb dL_law_16 (by decide) ?_
  refine lv_istore_n (lv' := [(3, .int 0), (2, .ref (w.1 0)), (1, .ref (u.1 0)), (0, .ref b)]) hx hb dL_law_17 rfl hl (by decide) rfl (fun ls hl => ?_)
  have hW : LW G (fun q : Nat => s.heap.size ≤ q) u.1 u.2.1.1 u.2.2.1.1 u.2.2.2.1 u.2.2.2.2.1 u.2.2.2.2.2.1 u.2.2.2.2.2.2.1 u.2.2.2.2.2.2.2.1 u.2.2.2.2.2.2.2.2 w.1 H := ⟨_, _, _, _, _, _, _, _, _, _, _, _, _, _, _, _, _, _, _, _, _, _, _, _, _, _, _, _, _, _, _, _, _, _, _, _, _, _, _, _, _, _, _, _, _, _, _, _, _, _, _, _, _, _, _, _, _, _, _, _, _, _, _, _, _, _, _, _, _, none, none, hP, hD, RV_begin hva hw1 hw2 hw3, ⟨rfl, rfl, rfl⟩, ⟨0, by decide, rfl, rfl, fun j hj => absurd hj (Nat.not_lt_zero j)⟩, rfl, rfl⟩
  exact law_loop l G hL C hX hbl u.1 u.2.1.1 u.2.2.1.1 u.2.2.2.1 u.2.2.2.2.1 u.2.2.2.2.2.1 u.2.2.2.2.2.2.1 u.2.2.2.2.2.2.2.1 u.2.2.2.2.2.2.2.2 w.1 (L + 1) 0 (by omega) (by omega) H locs ls hW hS (lv_sub hl [3, 2, 1, 0] rfl)
