/-! RX6 counted(I)I -/
theorem iiX6_counted_X6 : ∀ w ∈ wsX60, w ∈ wsX6_counted := by decide +kernel
theorem mmX6_counted_1 : (Cond.fieldLink RX6 199 "BlindBells" "refusedFull" "I") ∈ wsX6_counted := by decide +kernel
theorem mmX6_counted_2 : (Cond.fieldLink RX6 196 "BlindBells" "refusedNo" "I") ∈ wsX6_counted := by decide +kernel
theorem mmX6_counted_3 : (Cond.fieldLink RX6 193 "BlindBells" "refusedBad" "I") ∈ wsX6_counted := by decide +kernel
theorem hdX6_counted : yX6_counted.cls = RX6 ∧ yX6_counted.cls ≠ "java/lang/invoke/MethodHandle" ∧ yX6_counted.cls ≠ "java/lang/invoke/VarHandle" ∧ (parseMethodDescriptor yX6_counted.desc).map (fun d => d.parameters.length) = some 1 := by decide +kernel
abbrev rmX6_counted : Room := { frames := 0, cells := 0, slots := 0, locals := 0 }
set_option maxHeartbeats 4000000 in
set_option maxRecDepth 100000 in
theorem tX6_counted (l : Launch) (G : GG) (a : Nat → Nat) (a_valley : Nat) (a_draft : Nat) (a_images : Nat) (a_tale : Nat) (a_run : Nat) (a_ropeSearch : Nat) (a_ringSearch : Nat) (a_woodSearch : Nat) (a_refusedBad : Int32) (a_refusedNo : Int32) (a_refusedFull : Int32) (p0 : Int32) (out : Int32 × Int32 × Int32 × Int32) (hf : fX6_counted a_refusedBad a_refusedNo a_refusedFull p0 = some out) : cMi l G yX6_counted wsX6_counted rmX6_counted [.ref (a 0), .int p0] (flat [wX6 G a a_valley a_draft a_images a_tale a_run a_ropeSearch a_ringSearch a_woodSearch a_refusedBad a_refusedNo a_refusedFull]) out.1 (flat [wX6 G a a_valley a_draft a_images a_tale a_run a_ropeSearch a_ringSearch a_woodSearch out.2.1 out.2.2.1 out.2.2.2]) := by
  intro sz
  refine met_of (cc := cX6_counted) (nL := 2) (ret := (some .int)) (Qc := fun A9 => QI G A9 out.1 (flat [wX6 G a a_valley a_draft a_images a_tale a_run a_ropeSearch a_ringSearch a_woodSearch out.2.1 out.2.2.1 out.2.2.2])) (by decide) rfl (Nat.le_of_ble_eq_true rfl) ?_
  intro p e s m args below meth c A ls C hP hD hS hl
  obtain ⟨⟨hx, hb, hml, hown, hts⟩, hr, hlocks, hK, hN, hE, hA⟩ := id C
  have hl : lv_has ls 2 [(0, .ref (a 0)), (1, .int p0)] := hl
  unfold fX6_counted at hf
  refine lv_iload_n hx hb dX6_counted_0 rfl (lv_at hl 1 rfl) ?_
  refine lv_bipush (v := (-2)) hx hb dX6_counted_1 (by decide) ?_
  refine lv_icmp_ne (tgt := 19) hx hb dX6_counted_3 (by decide) (fun c1 => ?_) (fun c1 => ?_)
  · have hf := (o_i hf).2 c1
    refine lv_iload_n hx hb dX6_counted_19 rfl (lv_at hl 1 rfl) ?_
    refine lv_bipush (v := (-3)) hx hb dX6_counted_20 (by decide) ?_
    refine lv_icmp_ne (tgt := 38) hx hb dX6_counted_22 (by decide) (fun c2 => ?_) (fun c2 => ?_)
    · have hf := (o_i hf).2 c2
      refine lv_iload_n hx hb dX6_counted_38 rfl (lv_at hl 1 rfl) ?_
      refine lv_bipush (v := (-4)) hx hb dX6_counted_39 (by decide) ?_
      refine lv_icmp_ne (tgt := 54) hx hb dX6_counted_41 (by decide) (fun c3 => ?_) (fun c3 => ?_)
      · have hf := (o_i hf).2 c3
        refine lv_iload_n hx hb dX6_counted_54 rfl (lv_at hl 1 rfl) ?_
        have e9 := Option.some.inj hf
        subst e9
        exact rt_i C hP hS rfl dX6_counted_55
      have hf := (o_i hf).1 c3
      refine lv_aload_n hx hb dX6_counted_44 rfl (lv_at hl 0 rfl) ?_
      refine lv_dup hx hb dX6_counted_45 rfl ?_
      refine va_get (D := G.1) (ci := 6) (v := .int a_refusedFull) (C := RX6) (T := TX6) (N := 11) hx hb hts iiX6_counted_X6 hown hK hP 0 rfl rfl 10 (by decide) (hts _ mmX6_counted_1) (fun _ h9 => h9) rfl dX6_counted_46 ?_
      refine lv_iconst (v := 1) hx hb dX6_counted_49 (by decide) ?_
      refine lv_iadd hx hb dX6_counted_50 ?_
      refine va_put (D := G.1) (ci := 6) (v := .int (a_refusedFull + 1)) (ty := .int) (C := RX6) (T := TX6) (N := 11) hx hb hts iiX6_counted_X6 tyX6 tyX6_ok nmX6 hown hK hP hD hS 0 rfl rfl 10 (by decide) (hts _ mmX6_counted_1) (fun _ h9 => h9) rfl (by decide +kernel) rfl rfl (Nat.le_of_ble_eq_true rfl) dX6_counted_51 (fun H locs hP hD hS => ?_)
      have hP : va_P G.1 vwCl (flat [wX6 G a a_valley a_draft a_images a_tale a_run a_ropeSearch a_ringSearch a_woodSearch a_refusedBad a_refusedNo (a_refusedFull + 1)]) H := hP
      have hD : va_D A (flat [wX6 G a a_valley a_draft a_images a_tale a_run a_ropeSearch a_ringSearch a_woodSearch a_refusedBad a_refusedNo (a_refusedFull + 1)]) := hD
      refine lv_iload_n hx hb dX6_counted_54 rfl (lv_at hl 1 rfl) ?_
      have e9 := Option.some.inj hf
      subst e9
      exact rt_i C hP hS rfl dX6_counted_55
    have hf := (o_i hf).1 c2
    refine lv_aload_n hx hb dX6_counted_25 rfl (lv_at hl 0 rfl) ?_
    refine lv_dup hx hb dX6_counted_26 rfl ?_
    refine va_get (D := G.1) (ci := 6) (v := .int a_refusedNo) (C := RX6) (T := TX6) (N := 11) hx hb hts iiX6_counted_X6 hown hK hP 0 rfl rfl 9 (by decide) (hts _ mmX6_counted_2) (fun _ h9 => h9) rfl dX6_counted_27 ?_
    refine lv_iconst (v := 1) hx hb dX6_counted_30 (by decide) ?_
    refine lv_iadd hx hb dX6_counted_31 ?_
    refine va_put (D := G.1) (ci := 6) (v := .int (a_refusedNo + 1)) (ty := .int) (C := RX6) (T := TX6) (N := 11) hx hb hts iiX6_counted_X6 tyX6 tyX6_ok nmX6 hown hK hP hD hS 0 rfl rfl 9 (by decide) (hts _ mmX6_counted_2) (fun _ h9 => h9) rfl (by decide +kernel) rfl rfl (Nat.le_of_ble_eq_true rfl) dX6_counted_32 (fun H locs hP hD hS => ?_)
    have hP : va_P G.1 vwCl (flat [wX6 G a a_valley a_draft a_images a_tale a_run a_ropeSearch a_ringSearch a_woodSearch a_refusedBad (a_refusedNo + 1) a_refusedFull]) H := hP
    have hD : va_D A (flat [wX6 G a a_valley a_draft a_images a_tale a_run a_ropeSearch a_ringSearch a_woodSearch a_refusedBad (a_refusedNo + 1) a_refusedFull]) := hD
    refine lv_goto (tgt := 54) hx hb dX6_counted_35 (by decide) ?_
    refine lv_iload_n hx hb dX6_counted_54 rfl (lv_at hl 1 rfl) ?_
    have e9 := Option.some.inj hf
    subst e9
    exact rt_i C hP hS rfl dX6_counted_55
  have hf := (o_i hf).1 c1
  refine lv_aload_n hx hb dX6_counted_6 rfl (lv_at hl 0 rfl) ?_
  refine lv_dup hx hb dX6_counted_7 rfl ?_
  refine va_get (D := G.1) (ci := 6) (v := .int a_refusedBad) (C := RX6) (T := TX6) (N := 11) hx hb hts iiX6_counted_X6 hown hK hP 0 rfl rfl 8 (by decide) (hts _ mmX6_counted_3) (fun _ h9 => h9) rfl dX6_counted_8 ?_
  refine lv_iconst (v := 1) hx hb dX6_counted_11 (by decide) ?_
  refine lv_iadd hx hb dX6_counted_12 ?_
  refine va_put (D := G.1) (ci := 6) (v := .int (a_refusedBad + 1)) (ty := .int) (C := RX6) (T := TX6) (N := 11) hx hb hts iiX6_counted_X6 tyX6 tyX6_ok nmX6 hown hK hP hD hS 0 rfl rfl 8 (by decide) (hts _ mmX6_counted_3) (fun _ h9 => h9) rfl (by decide +kernel) rfl rfl (Nat.le_of_ble_eq_true rfl) dX6_counted_13 (fun H locs hP hD hS => ?_)
  have hP : va_P G.1 vwCl (flat [wX6 G a a_valley a_draft a_images a_tale a_run a_ropeSearch a_ringSearch a_woodSearch (a_refusedBad + 1) a_refusedNo a_refusedFull]) H := hP
  have hD : va_D A (flat [wX6 G a a_valley a_draft a_images a_tale a_run a_ropeSearch a_ringSearch a_woodSearch (a_refusedBad + 1) a_refusedNo a_refusedFull]) := hD
  refine lv_goto (tgt := 54) hx hb dX6_counted_16 (by decide) ?_
  refine lv_iload_n hx hb dX6_counted_54 rfl (lv_at hl 1 rfl) ?_
  have e9 := Option.some.inj hf
  subst e9
  exact rt_i C hP hS rfl dX6_counted_55

/-! RX6 villages(I)I -/
theorem iiX6_villages_X6 : ∀ w ∈ wsX60, w ∈ wsX6_villages := by decide +kernel
theorem mmX6_villages_1 : (Cond.fieldLink RX6 12 "BlindBells" "valley" "LBlindBells$Valley;") ∈ wsX6_villages := by decide +kernel
theorem iiX6_villages_X3 : ∀ w ∈ wsX30, w ∈ wsX6_villages := by decide +kernel
theorem mmX6_villages_3 : (Cond.fieldLink RX6 58 "BlindBells$Valley" "villages" "I") ∈ wsX6_villages := by decide +kernel
theorem hdX6_villages : yX6_villages.cls = RX6 ∧ yX6_villages.cls ≠ "java/lang/invoke/MethodHandle" ∧ yX6_villages.cls ≠ "java/lang/invoke/VarHandle" ∧ (parseMethodDescriptor yX6_villages.desc).map (fun d => d.parameters.length) = some 1 := by decide +kernel
abbrev rmX6_villages : Room := { frames := 2, cells := 0, slots := 0, locals := 45 }
set_option maxHeartbeats 4000000 in
set_option maxRecDepth 100000 in
theorem tX6_villages (l : Launch) (G : GG) (a : Nat → Nat) (va : Nat → Nat) (a_draft : Nat) (a_images : Nat) (a_tale : Nat) (a_run : Nat) (a_ropeSearch : Nat) (a_ringSearch : Nat) (a_woodSearch : Nat) (a_refusedBad : Int32) (a_refusedNo : Int32) (a_refusedFull : Int32) (va_villages : Int32) (va_woods : Int32) (va_needs : Int32) (va_signs : Int32) (va_temper : Nat → Int32) (va_friend : Nat → Int32) (va_rope : Nat → Int32) (va_hears : Nat → Int32) (va_shut : Nat → Int32) (va_woodBell : Nat → Int32) (va_woodVillage : Nat → Int32) (va_needVillage : Nat → Int32) (va_needWind : Nat → Int32) (va_needSeen : Nat → Int32) (va_sign : Nat → Int32) (p0 : Int32) (out : Int32 × Int32 × Int32 × Int32 × Int32 × Int32 × Int32 × Int32 × (Nat → Int32) × (Nat → Int32) × (Nat → Int32) × (Nat → Int32) × (Nat → Int32)) (hf : fX6_villages a_refusedBad a_refusedNo a_refusedFull va_villages va_woods va_needs va_signs va_temper va_friend va_rope va_hears va_shut p0 = some out) : cMi l G yX6_villages wsX6_villages rmX6_villages [.ref (a 0), .int p0] (flat [wX6 G a ((va 0)) a_draft a_images a_tale a_run a_ropeSearch a_ringSearch a_woodSearch a_refusedBad a_refusedNo a_refusedFull, wX3 G va va_villages va_woods va_needs va_signs va_temper va_friend va_rope va_hears va_shut va_woodBell va_woodVillage va_needVillage va_needWind va_needSeen va_sign]) out.1 (flat [wX6 G a ((va 0)) a_draft a_images a_tale a_run a_ropeSearch a_ringSearch a_woodSearch out.2.1 out.2.2.1 out.2.2.2.1, wX3 G va out.2.2.2.2.1 out.2.2.2.2.2.1 out.2.2.2.2.2.2.1 out.2.2.2.2.2.2.2.1 out.2.2.2.2.2.2.2.2.1 out.2.2.2.2.2.2.2.2.2.1 out.2.2.2.2.2.2.2.2.2.2.1 out.2.2.2.2.2.2.2.2.2.2.2.1 out.2.2.2.2.2.2.2.2.2.2.2.2 va_woodBell va_woodVillage va_needVillage va_needWind va_needSeen va_sign]) := by
  intro sz
  refine met_of (cc := cX6_villages) (nL := 3) (ret := (some .int)) (Qc := fun A9 => QI G A9 out.1 (flat [wX6 G a ((va 0)) a_draft a_images a_tale a_run a_ropeSearch a_ringSearch a_woodSearch out.2.1 out.2.2.1 out.2.2.2.1, wX3 G va out.2.2.2.2.1 out.2.2.2.2.2.1 out.2.2.2.2.2.2.1 out.2.2.2.2.2.2.2.1 out.2.2.2.2.2.2.2.2.1 out.2.2.2.2.2.2.2.2.2.1 out.2.2.2.2.2.2.2.2.2.2.1 out.2.2.2.2.2.2.2.2.2.2.2.1 out.2.2.2.2.2.2.2.2.2.2.2.2 va_woodBell va_woodVillage va_needVillage va_needWind va_needSeen va_sign])) (by decide) rfl (Nat.le_of_ble_eq_true rfl) ?_
  intro p e s m args below meth c A ls C hP hD hS hl
  obtain ⟨⟨hx, hb, hml, hown, hts⟩, hr, hlocks, hK, hN, hE, hA⟩ := id C
  have hl : lv_has ls 3 [(0, .ref (a 0)), (1, .int p0)] := hl
  unfold fX6_villages at hf
  refine lv_aload_n hx hb dX6_villages_0 rfl (lv_at hl 0 rfl) ?_
  refine va_get (D := G.1) (ci := 6) (v := .ref (va 0)) (C := RX6) (T := TX6) (N := 11) hx hb hts iiX6_villages_X6 hown hK hP 0 rfl rfl 0 (by decide) (hts _ mmX6_villages_1) (fun _ h9 => h9) rfl dX6_villages_1 ?_
  refine va_get (D := G.1) (ci := 3) (v := .int va_villages) (C := RX3) (T := TX3) (N := 15) hx hb hts iiX6_villages_X3 hown hK hP 1 rfl rfl 0 (by decide) (hts _ mmX6_villages_3) (fun _ h9 => h9) rfl dX6_villages_4 ?_
  refine lv_istore_n (lv' := [(2, .int va_villages), (0, .ref (a 0)), (1, .int p0)]) hx hb dX6_villages_7 rfl hl (by decide) rfl (fun ls hl => ?_)
  refine lv_aload_n hx hb dX6_villages_8 rfl (lv_at hl 1 rfl) ?_
  refine lv_aload_n hx hb dX6_villages_9 rfl (lv_at hl 1 rfl) ?_
  refine va_get (D := G.1) (ci := 6) (v := .ref (va 0)) (C := RX6) (T := TX6) (N := 11) hx hb hts iiX6_villages_X6 hown hK hP 0 rfl rfl 0 (by decide) (hts _ mmX6_villages_1) (fun _ h9 => h9) rfl dX6_villages_10 ?_
  refine lv_iload_n hx hb dX6_villages_13 rfl (lv_at hl 2 rfl) ?_
  obtain ⟨g1, hg1, hf⟩ := o_b hf
  refine bVi (Bs' := [wX6 G a ((va 0)) a_draft a_images a_tale a_run a_ropeSearch a_ringSearch a_woodSearch a_refusedBad a_refusedNo a_refusedFull, wX3 G va g1.2.1 g1.2.2.1 g1.2.2.2.1 g1.2.2.2.2.1 g1.2.2.2.2.2.1 g1.2.2.2.2.2.2.1 g1.2.2.2.2.2.2.2.1 g1.2.2.2.2.2.2.2.2.1 g1.2.2.2.2.2.2.2.2.2 va_woodBell va_woodVillage va_needVillage va_needWind va_needSeen va_sign]) C hP hD hS (tX3_settle l G va va_villages va_woods va_needs va_signs va_temper va_friend va_rope va_hears va_shut va_woodBell va_woodVillage va_needVillage va_needWind va_needSeen va_sign p0 g1 hg1) gX6_villages_X3_settle rfl ⟨rfl, rfl⟩ hdX3_settle ⟨Nat.le_of_ble_eq_true rfl, Nat.le_of_ble_eq_true rfl⟩ rfl hl.1 rfl (Nat.le_of_ble_eq_true rfl) ⟨Nat.le_of_ble_eq_true rfl, Nat.le_of_ble_eq_true rfl⟩ [1] rfl rfl rfl rfl rfl (ci := 3) (q0 := 1) rfl rfl rfl dX6_villages_14 (fun H locs hP hD hS => ?_)
  have hP : va_P G.1 vwCl (flat [wX6 G a ((va 0)) a_draft a_images a_tale a_run a_ropeSearch a_ringSearch a_woodSearch a_refusedBad a_refusedNo a_refusedFull, wX3 G va g1.2.1 g1.2.2.1 g1.2.2.2.1 g1.2.2.2.2.1 g1.2.2.2.2.2.1 g1.2.2.2.2.2.2.1 g1.2.2.2.2.2.2.2.1 g1.2.2.2.2.2.2.2.2.1 g1.2.2.2.2.2.2.2.2.2 va_woodBell va_woodVillage va_needVillage va_needWind va_needSeen va_sign]) H := hP
  have hD : va_D A (flat [wX6 G a ((va 0)) a_draft a_images a_tale a_run a_ropeSearch a_ringSearch a_woodSearch a_refusedBad a_refusedNo a_refusedFull, wX3 G va g1.2.1 g1.2.2.1 g1.2.2.2.1 g1.2.2.2.2.1 g1.2.2.2.2.2.1 g1.2.2.2.2.2.2.1 g1.2.2.2.2.2.2.2.1 g1.2.2.2.2.2.2.2.2.1 g1.2.2.2.2.2.2.2.2.2 va_woodBell va_woodVillage va_needVillage va_needWind va_needSeen va_sign]) := hD
  refine at_pc (pc' := 17) rfl ?_
  obtain ⟨f3, hf3, hf⟩ := o_b hf
  have hJ : ∀ (H : Heap) (locs : List Loc) (ls : Array Slot), va_P G.1 vwCl (flat [wX6 G a ((va 0)) a_draft a_images a_tale a_run a_ropeSearch a_ringSearch a_woodSearch a_refusedBad a_refusedNo a_refusedFull, wX3 G va g1.2.1 g1.2.2.1 g1.2.2.2.1 g1.2.2.2.2.1 g1.2.2.2.2.2.1 g1.2.2.2.2.2.2.1 g1.2.2.2.2.2.2.2.1 g1.2.2.2.2.2.2.2.2.1 g1.2.2.2.2.2.2.2.2.2 va_woodBell va_woodVillage va_needVillage va_needWind va_needSeen va_sign]) H → va_D A (flat [wX6 G a ((va 0)) a_draft a_images a_tale a_run a_ropeSearch a_ringSearch a_woodSearch a_refusedBad a_refusedNo a_refusedFull, wX3 G va g1.2.1 g1.2.2.1 g1.2.2.2.1 g1.2.2.2.2.1 g1.2.2.2.2.2.1 g1.2.2.2.2.2.2.1 g1.2.2.2.2.2.2.2.1 g1.2.2.2.2.2.2.2.2.1 g1.2.2.2.2.2.2.2.2.2 va_woodBell va_woodVillage va_needVillage va_needWind va_needSeen va_sign]) → va_S A s.heap H locs → lv_has ls 3 [(0, .ref (a 0)), (1, .int p0), (2, .int va_villages)] → W p l e rmX6_villages s m args below meth c H locs 0 0 (MQ below (QI G A out.1 (flat [wX6 G a ((va 0)) a_draft a_images a_tale a_run a_ropeSearch a_ringSearch a_woodSearch out.2.1 out.2.2.1 out.2.2.2.1, wX3 G va out.2.2.2.2.1 out.2.2.2.2.2.1 out.2.2.2.2.2.2.1 out.2.2.2.2.2.2.2.1 out.2.2.2.2.2.2.2.2.1 out.2.2.2.2.2.2.2.2.2.1 out.2.2.2.2.2.2.2.2.2.2.1 out.2.2.2.2.2.2.2.2.2.2.2.1 out.2.2.2.2.2.2.2.2.2.2.2.2 va_woodBell va_woodVillage va_needVillage va_needWind va_needSeen va_sign])) args s 0 0 A) (F0 m 26 ls [.int f3, .ref (a 0)]) := by
    intro H locs ls hP hD hS hl
    obtain ⟨g4, hg4, hf⟩ := o_b hf
    refine bVi (Bs' := [wX6 G a ((va 0)) a_draft a_images a_tale a_run a_ropeSearch a_ringSearch a_woodSearch g4.2.1 g4.2.2.1 g4.2.2.2, wX3 G va g1.2.1 g1.2.2.1 g1.2.2.2.1 g1.2.2.2.2.1 g1.2.2.2.2.2.1 g1.2.2.2.2.2.2.1 g1.2.2.2.2.2.2.2.1 g1.2.2.2.2.2.2.2.2.1 g1.2.2.2.2.2.2.2.2.2 va_woodBell va_woodVillage va_needVillage va_needWind va_needSeen va_sign]) C hP hD hS (tX6_counted l G a ((va 0)) a_draft a_images a_tale a_run a_ropeSearch a_ringSearch a_woodSearch a_refusedBad a_refusedNo a_refusedFull f3 g4 hg4) gX6_villages_X6_counted rfl ⟨rfl, rfl⟩ hdX6_counted ⟨Nat.le_of_ble_eq_true rfl, Nat.le_of_ble_eq_true rfl⟩ rfl hl.1 rfl (Nat.le_of_ble_eq_true rfl) ⟨Nat.le_of_ble_eq_true rfl, Nat.le_of_ble_eq_true rfl⟩ [0] rfl rfl rfl rfl rfl (ci := 6) (q0 := 0) rfl rfl rfl dX6_villages_26 (fun H locs hP hD hS => ?_)
    have hP : va_P G.1 vwCl (flat [wX6 G a ((va 0)) a_draft a_images a_tale a_run a_ropeSearch a_ringSearch a_woodSearch g4.2.1 g4.2.2.1 g4.2.2.2, wX3 G va g1.2.1 g1.2.2.1 g1.2.2.2.1 g1.2.2.2.2.1 g1.2.2.2.2.2.1 g1.2.2.2.2.2.2.1 g1.2.2.2.2.2.2.2.1 g1.2.2.2.2.2.2.2.2.1 g1.2.2.2.2.2.2.2.2.2 va_woodBell va_woodVillage va_needVillage va_needWind va_needSeen va_sign]) H := hP
    have hD : va_D A (flat [wX6 G a ((va 0)) a_draft a_images a_tale a_run a_ropeSearch a_ringSearch a_woodSearch g4.2.1 g4.2.2.1 g4.2.2.2, wX3 G va g1.2.1 g1.2.2.1 g1.2.2.2.1 g1.2.2.2.2.1 g1.2.2.2.2.2.1 g1.2.2.2.2.2.2.1 g1.2.2.2.2.2.2.2.1 g1.2.2.2.2.2.2.2.2.1 g1.2.2.2.2.2.2.2.2.2 va_woodBell va_woodVillage va_needVillage va_needWind va_needSeen va_sign]) := hD
    have e9 := Option.some.inj hf
    subst e9
    exact rt_i C hP hS rfl dX6_villages_29
  clear hf
  have hf := hf3
  refine lv_if_eq (tgt := 24) hx hb dX6_villages_17 (by decide) (fun c2 => ?_) (fun c2 => ?_)
  · have hf := (o_i hf).1 c2
    refine lv_bipush (v := (-2)) hx hb dX6_villages_24 (by decide) ?_
    have e9 := Option.some.inj hf
    subst e9
    exact hJ _ _ _ hP hD hS (lv_sub hl [1, 2, 0] rfl)
  have hf := (o_i hf).2 c2
  refine lv_iload_n hx hb dX6_villages_20 rfl (lv_at hl 0 rfl) ?_
  refine lv_goto (tgt := 26) hx hb dX6_villages_21 (by decide) ?_
  have e9 := Option.some.inj hf
  subst e9
  exact hJ _ _ _ hP hD hS (lv_sub hl [1, 2, 0] rfl)

/-! RX6 hears(IIIZ)I -/
theorem iiX6_hears_X6 : ∀ w ∈ wsX60, w ∈ wsX6_hears := by decide +kernel
theorem mmX6_hears_1 : (Cond.fieldLink RX6 12 "BlindBells" "valley" "LBlindBells$Valley;") ∈ wsX6_hears := by decide +kernel
theorem hdX6_hears : yX6_hears.cls = RX6 ∧ yX6_hears.cls ≠ "java/lang/invoke/MethodHandle" ∧ yX6_hears.cls ≠ "java/lang/invoke/VarHandle" ∧ (parseMethodDescriptor yX6_hears.desc).map (fun d => d.parameters.length) = some 4 := by decide +kernel
abbrev rmX6_hears : Room := { frames := 3, cells := 0, slots := 0, locals := 68 }
set_option maxHeartbeats 4000000 in
set_option maxRecDepth 100000 in
theorem tX6_hears (l : Launch) (G : GG) (a : Nat → Nat) (va : Nat → Nat) (a_draft : Nat) (a_images : Nat) (a_tale : Nat) (a_run : Nat) (a_ropeSearch : Nat) (a_ringSearch : Nat) (a_woodSearch : Nat) (a_refusedBad : Int32) (a_refusedNo : Int32) (a_refusedFull : Int32) (va_villages : Int32) (va_woods : Int32) (va_needs : Int32) (va_signs : Int32) (va_temper : Nat → Int32) (va_friend : Nat → Int32) (va_rope : Nat → Int32) (va_hears : Nat → Int32) (va_shut : Nat → Int32) (va_woodBell : Nat → Int32) (va_woodVillage : Nat → Int32) (va_needVillage : Nat → Int32) (va_needWind : Nat → Int32) (va_needSeen : Nat → Int32) (va_sign : Nat → Int32) (p0 : Int32) (p1 : Int32) (p2 : Int32) (p3 : Int32) (out : Int32 × Int32 × Int32 × Int32 × (Nat → Int32)) (hf : fX6_hears a_refusedBad a_refusedNo a_refusedFull va_villages va_hears p0 p1 p2 p3 = some out) : cMi l G yX6_hears wsX6_hears rmX6_hears [.ref (a 0), .int p0, .int p1, .int p2, .int p3] (flat [wX6 G a ((va 0)) a_draft a_images a_tale a_run a_ropeSearch a_ringSearch a_woodSearch a_refusedBad a_refusedNo a_refusedFull, wX3 G va va_villages va_woods va_needs va_signs va_temper va_friend va_rope va_hears va_shut va_woodBell va_woodVillage va_needVillage va_needWind va_needSeen va_sign]) out.1 (flat [wX6 G a ((va 0)) a_draft a_images a_tale a_run a_ropeSearch a_ringSearch a_woodSearch out.2.1 out.2.2.1 out.2.2.2.1, wX3 G va va_villages va_woods va_needs va_signs va_temper va_friend va_rope out.2.2.2.2 va_shut va_woodBell va_woodVillage va_needVillage va_needWind va_needSeen va_sign]) := by
  intro sz
  refine met_of (cc := cX6_hears) (nL := 5) (ret := (some .int)) (Qc := fun A9 => QI G A9 out.1 (flat [wX6 G a ((va 0)) a_draft a_images a_tale a_run a_ropeSearch a_ringSearch a_woodSearch out.2.1 out.2.2.1 out.2.2.2.1, wX3 G va va_villages va_woods va_needs va_signs va_temper va_friend va_rope out.2.2.2.2 va_shut va_woodBell va_woodVillage va_needVillage va_needWind va_needSeen va_sign])) (by decide) rfl (Nat.le_of_ble_eq_true rfl) ?_
  intro p e s m args below meth c A ls C hP hD hS hl
  obtain ⟨⟨hx, hb, hml, hown, hts⟩, hr, hlocks, hK, hN, hE, hA⟩ := id C
  have hl : lv_has ls 5 [(0, .ref (a 0)), (1, .int p0), (2, .int p1), (3, .int p2), (4, .int p3)] := hl
  unfold fX6_hears at hf
  refine lv_aload_n hx hb dX6_hears_0 rfl (lv_at hl 0 rfl) ?_
  refine lv_aload_n hx hb dX6_hears_1 rfl (lv_at hl 0 rfl) ?_
  refine va_get (D := G.1) (ci := 6) (v := .ref (va 0)) (C := RX6) (T := TX6) (N := 11) hx hb hts iiX6_hears_X6 hown hK hP 0 rfl rfl 0 (by decide) (hts _ mmX6_hears_1) (fun _ h9 => h9) rfl dX6_hears_2 ?_
  refine lv_iload_n hx hb dX6_hears_5 rfl (lv_at hl 1 rfl) ?_
  refine lv_iload_n hx hb dX6_hears_6 rfl (lv_at hl 2 rfl) ?_
  refine lv_iload_n hx hb dX6_hears_7 rfl (lv_at hl 3 rfl) ?_
  refine lv_iload hx hb dX6_hears_8 (lv_at hl 4 rfl) ?_
  obtain ⟨g1, hg1, hf⟩ := o_b hf
  refine bVi (Bs' := [wX6 G a ((va 0)) a_draft a_images a_tale a_run a_ropeSearch a_ringSearch a_woodSearch a_refusedBad a_refusedNo a_refusedFull, wX3 G va va_villages va_woods va_needs va_signs va_temper va_friend va_rope g1.2 va_shut va_woodBell va_woodVillage va_needVillage va_needWind va_needSeen va_sign]) C hP hD hS (tX3_setHears l G va va_villages va_woods va_needs va_signs va_temper va_friend va_rope va_hears va_shut va_woodBell va_woodVillage va_needVillage va_needWind va_needSeen va_sign p0 p1 p2 p3 g1 hg1) gX6_hears_X3_setHears rfl ⟨rfl, rfl⟩ hdX3_setHears ⟨Nat.le_of_ble_eq_true rfl, Nat.le_of_ble_eq_true rfl⟩ rfl hl.1 rfl (Nat.le_of_ble_eq_true rfl) ⟨Nat.le_of_ble_eq_true rfl, Nat.le_of_ble_eq_true rfl⟩ [1] rfl rfl rfl rfl rfl (ci := 3) (q0 := 1) rfl rfl rfl dX6_hears_10 (fun H locs hP hD hS => ?_)
  have hP : va_P G.1 vwCl (flat [wX6 G a ((va 0)) a_draft a_images a_tale a_run a_ropeSearch a_ringSearch a_woodSearch a_refusedBad a_refusedNo a_refusedFull, wX3 G va va_villages va_woods va_needs va_signs va_temper va_friend va_rope g1.2 va_shut va_woodBell va_woodVillage va_needVillage va_needWind va_needSeen va_sign]) H := hP
  have hD : va_D A (flat [wX6 G a ((va 0)) a_draft a_images a_tale a_run a_ropeSearch a_ringSearch a_woodSearch a_refusedBad a_refusedNo a_refusedFull, wX3 G va va_villages va_woods va_needs va_signs va_temper va_friend va_rope g1.2 va_shut va_woodBell va_woodVillage va_needVillage va_needWind va_needSeen va_sign]) := hD
  obtain ⟨g2, hg2, hf⟩ := o_b hf
  refine bVi (Bs' := [wX6 G a ((va 0)) a_draft a_images a_tale a_run a_ropeSearch a_ringSearch a_woodSearch g2.2.1 g2.2.2.1 g2.2.2.2, wX3 G va va_villages va_woods va_needs va_signs va_temper va_friend va_rope g1.2 va_shut va_woodBell va_woodVillage va_needVillage va_needWind va_needSeen va_sign]) C hP hD hS (tX6_counted l G a ((va 0)) a_draft a_images a_tale a_run a_ropeSearch a_ringSearch a_woodSearch a_refusedBad a_refusedNo a_refusedFull g1.1 g2 hg2) gX6_hears_X6_counted rfl ⟨rfl, rfl⟩ hdX6_counted ⟨Nat.le_of_ble_eq_true rfl, Nat.le_of_ble_eq_true rfl⟩ rfl hl.1 rfl (Nat.le_of_ble_eq_true rfl) ⟨Nat.le_of_ble_eq_true rfl, Nat.le_of_ble_eq_true rfl⟩ [0] rfl rfl rfl rfl rfl (ci := 6) (q0 := 0) rfl rfl rfl dX6_hears_13 (fun H locs hP hD hS => ?_)
  have hP : va_P G.1 vwCl (flat [wX6 G a ((va 0)) a_draft a_images a_tale a_run a_ropeSearch a_ringSearch a_woodSearch g2.2.1 g2.2.2.1 g2.2.2.2, wX3 G va va_villages va_woods va_needs va_signs va_temper va_friend va_rope g1.2 va_shut va_woodBell va_woodVillage va_needVillage va_needWind va_needSeen va_sign]) H := hP
  have hD : va_D A (flat [wX6 G a ((va 0)) a_draft a_images a_tale a_run a_ropeSearch a_ringSearch a_woodSearch g2.2.1 g2.2.2.1 g2.2.2.2, wX3 G va va_villages va_woods va_needs va_signs va_temper va_friend va_rope g1.2 va_shut va_woodBell va_woodVillage va_needVillage va_needWind va_needSeen va_sign]) := hD
  refine at_pc (pc' := 16) rfl ?_
  have e9 := Option.some.inj hf
  subst e9
  exact rt_i C hP hS rfl dX6_hears_16

/-! RX6 wood(II)I -/
theorem iiX6_wood_X6 : ∀ w ∈ wsX60, w ∈ wsX6_wood := by decide +kernel
theorem mmX6_wood_1 : (Cond.fieldLink RX6 12 "BlindBells" "valley" "LBlindBells$Valley;") ∈ wsX6_wood := by decide +kernel
theorem hdX6_wood : yX6_wood.cls = RX6 ∧ yX6_wood.cls ≠ "java/lang/invoke/MethodHandle" ∧ yX6_wood.cls ≠ "java/lang/invoke/VarHandle" ∧ (parseMethodDescriptor yX6_wood.desc).map (fun d => d.parameters.length) = some 2 := by decide +kernel
abbrev rmX6_wood : Room := { frames := 3, cells := 0, slots := 0, locals := 65 }
set_option maxHeartbeats 4000000 in
set_option maxRecDepth 100000 in
theorem tX6_wood (l : Launch) (G : GG) (a : Nat → Nat) (va : Nat → Nat) (a_draft : Nat) (a_images : Nat) (a_tale : Nat) (a_run : Nat) (a_ropeSearch : Nat) (a_ringSearch : Nat) (a_woodSearch : Nat) (a_refusedBad : Int32) (a_refusedNo : Int32) (a_refusedFull : Int32) (va_villages : Int32) (va_woods : Int32) (va_needs : Int32) (va_signs : Int32) (va_temper : Nat → Int32) (va_friend : Nat → Int32) (va_rope : Nat → Int32) (va_hears : Nat → Int32) (va_shut : Nat → Int32) (va_woodBell : Nat → Int32) (va_woodVillage : Nat → Int32) (va_needVillage : Nat → Int32) (va_needWind : Nat → Int32) (va_needSeen : Nat → Int32) (va_sign : Nat → Int32) (p0 : Int32) (p1 : Int32) (out : Int32 × Int32 × Int32 × Int32 × Int32 × (Nat → Int32) × (Nat → Int32) × (Nat → Int32)) (hf : fX6_wood a_refusedBad a_refusedNo a_refusedFull va_villages va_woods va_shut va_woodBell va_woodVillage p0 p1 = some out) : cMi l G yX6_wood wsX6_wood rmX6_wood [.ref (a 0), .int p0, .int p1] (flat [wX6 G a ((va 0)) a_draft a_images a_tale a_run a_ropeSearch a_ringSearch a_woodSearch a_refusedBad a_refusedNo a_refusedFull, wX3 G va va_villages va_woods va_needs va_signs va_temper va_friend va_rope va_hears va_shut va_woodBell va_woodVillage va_needVillage va_needWind va_needSeen va_sign]) out.1 (flat [wX6 G a ((va 0)) a_draft a_images a_tale a_run a_ropeSearch a_ringSearch a_woodSearch out.2.1 out.2.2.1 out.2.2.2.1, wX3 G va va_villages out.2.2.2.2.1 va_needs va_signs va_temper va_friend va_rope va_hears out.2.2.2.2.2.1 out.2.2.2.2.2.2.1 out.2.2.2.2.2.2.2 va_needVillage va_needWind va_needSeen va_sign]) := by
  intro sz
  refine met_of (cc := cX6_wood) (nL := 3) (ret := (some .int)) (Qc := fun A9 => QI G A9 out.1 (flat [wX6 G a ((va 0)) a_draft a_images a_tale a_run a_ropeSearch a_ringSearch a_woodSearch out.2.1 out.2.2.1 out.2.2.2.1, wX3 G va va_villages out.2.2.2.2.1 va_needs va_signs va_temper va_friend va_rope va_hears out.2.2.2.2.2.1 out.2.2.2.2.2.2.1 out.2.2.2.2.2.2.2 va_needVillage va_needWind va_needSeen va_sign])) (by decide) rfl (Nat.le_of_ble_eq_true rfl) ?_
  intro p e s m args below meth c A ls C hP hD hS hl
  obtain ⟨⟨hx, hb, hml, hown, hts⟩, hr, hlocks, hK, hN, hE, hA⟩ := id C
  have hl : lv_has ls 3 [(0, .ref (a 0)), (1, .int p0), (2, .int p1)] := hl
  unfold fX6_wood at hf
  refine lv_aload_n hx hb dX6_wood_0 rfl (lv_at hl 0 rfl) ?_
  refine lv_aload_n hx hb dX6_wood_1 rfl (lv_at hl 0 rfl) ?_
  refine va_get (D := G.1) (ci := 6) (v := .ref (va 0)) (C := RX6) (T := TX6) (N := 11) hx hb hts iiX6_wood_X6 hown hK hP 0 rfl rfl 0 (by decide) (hts _ mmX6_wood_1) (fun _ h9 => h9) rfl dX6_wood_2 ?_
  refine lv_iload_n hx hb dX6_wood_5 rfl (lv_at hl 1 rfl) ?_
  refine lv_iload_n hx hb dX6_wood_6 rfl (lv_at hl 2 rfl) ?_
  obtain ⟨g1, hg1, hf⟩ := o_b hf
  refine bVi (Bs' := [wX6 G a ((va 0)) a_draft a_images a_tale a_run a_ropeSearch a_ringSearch a_woodSearch a_refusedBad a_refusedNo a_refusedFull, wX3 G va va_villages g1.2.1 va_needs va_signs va_temper va_friend va_rope va_hears g1.2.2.1 g1.2.2.2.1 g1.2.2.2.2 va_needVillage va_needWind va_needSeen va_sign]) C hP hD hS (tX3_addWood l G va va_villages va_woods va_needs va_signs va_temper va_friend va_rope va_hears va_shut va_woodBell va_woodVillage va_needVillage va_needWind va_needSeen va_sign p0 p1 g1 hg1) gX6_wood_X3_addWood rfl ⟨rfl, rfl⟩ hdX3_addWood ⟨Nat.le_of_ble_eq_true rfl, Nat.le_of_ble_eq_true rfl⟩ rfl hl.1 rfl (Nat.le_of_ble_eq_true rfl) ⟨Nat.le_of_ble_eq_true rfl, Nat.le_of_ble_eq_true rfl⟩ [1] rfl rfl rfl rfl rfl (ci := 3) (q0 := 1) rfl rfl rfl dX6_wood_7 (fun H locs hP hD hS => ?_)
  have hP : va_P G.1 vwCl (flat [wX6 G a ((va 0)) a_draft a_images a_tale a_run a_ropeSearch a_ringSearch a_woodSearch a_refusedBad a_refusedNo a_refusedFull, wX3 G va va_villages g1.2.1 va_needs va_signs va_temper va_friend va_rope va_hears g1.2.2.1 g1.2.2.2.1 g1.2.2.2.2 va_needVillage va_needWind va_needSeen va_sign]) H := hP
  have hD : va_D A (flat [wX6 G a ((va 0)) a_draft a_images a_tale a_run a_ropeSearch a_ringSearch a_woodSearch a_refusedBad a_refusedNo a_refusedFull, wX3 G va va_villages g1.2.1 va_needs va_signs va_temper va_friend va_rope va_hears g1.2.2.1 g1.2.2.2.1 g1.2.2.2.2 va_needVillage va_needWind va_needSeen va_sign]) := hD
  obtain ⟨g2, hg2, hf⟩ := o_b hf
  refine bVi (Bs' := [wX6 G a ((va 0)) a_draft a_images a_tale a_run a_ropeSearch a_ringSearch a_woodSearch g2.2.1 g2.2.2.1 g2.2.2.2, wX3 G va va_villages g1.2.1 va_needs va_signs va_temper va_friend va_rope va_hears g1.2.2.1 g1.2.2.2.1 g1.2.2.2.2 va_needVillage va_needWind va_needSeen va_sign]) C hP hD hS (tX6_counted l G a ((va 0)) a_draft a_images a_tale a_run a_ropeSearch a_ringSearch a_woodSearch a_refusedBad a_refusedNo a_refusedFull g1.1 g2 hg2) gX6_wood_X6_counted rfl ⟨rfl, rfl⟩ hdX6_counted ⟨Nat.le_of_ble_eq_true rfl, Nat.le_of_ble_eq_true rfl⟩ rfl hl.1 rfl (Nat.le_of_ble_eq_true rfl) ⟨Nat.le_of_ble_eq_true rfl, Nat.le_of_ble_eq_true rfl⟩ [0] rfl rfl rfl rfl rfl (ci := 6) (q0 := 0) rfl rfl rfl dX6_wood_10 (fun H locs hP hD hS => ?_)
  have hP : va_P G.1 vwCl (flat [wX6 G a ((va 0)) a_draft a_images a_tale a_run a_ropeSearch a_ringSearch a_woodSearch g2.2.1 g2.2.2.1 g2.2.2.2, wX3 G va va_villages g1.2.1 va_needs va_signs va_temper va_friend va_rope va_hears g1.2.2.1 g1.2.2.2.1 g1.2.2.2.2 va_needVillage va_needWind va_needSeen va_sign]) H := hP
  have hD : va_D A (flat [wX6 G a ((va 0)) a_draft a_images a_tale a_run a_ropeSearch a_ringSearch a_woodSearch g2.2.1 g2.2.2.1 g2.2.2.2, wX3 G va va_villages g1.2.1 va_needs va_signs va_temper va_friend va_rope va_hears g1.2.2.1 g1.2.2.2.1 g1.2.2.2.2 va_needVillage va_needWind va_needSeen va_sign]) := hD
  have e9 := Option.some.inj hf
  subst e9
  exact rt_i C hP hS rfl dX6_wood_13

/-! RX6 temper(II)I -/
theorem iiX6_temper_X6 : ∀ w ∈ wsX60, w ∈ wsX6_temper := by decide +kernel
theorem mmX6_temper_1 : (Cond.fieldLink RX6 12 "BlindBells" "valley" "LBlindBells$Valley;") ∈ wsX6_temper := by decide +kernel
theorem hdX6_temper : yX6_temper.cls = RX6 ∧ yX6_temper.cls ≠ "java/lang/invoke/MethodHandle" ∧ yX6_temper.cls ≠ "java/lang/invoke/VarHandle" ∧ (parseMethodDescriptor yX6_temper.desc).map (fun d => d.parameters.length) = some 2 := by decide +kernel
abbrev rmX6_temper : Room := { frames := 2, cells := 0, slots := 0, locals := 44 }
set_option maxHeartbeats 4000000 in
set_option maxRecDepth 100000 in
theorem tX6_temper (l : Launch) (G : GG) (a : Nat → Nat) (va : Nat → Nat) (a_draft : Nat) (a_images : Nat) (a_tale : Nat) (a_run : Nat) (a_ropeSearch : Nat) (a_ringSearch : Nat) (a_woodSearch : Nat) (a_refusedBad : Int32) (a_refusedNo : Int32) (a_refusedFull : Int32) (va_villages : Int32) (va_woods : Int32) (va_needs : Int32) (va_signs : Int32) (va_temper : Nat → Int32) (va_friend : Nat → Int32) (va_rope : Nat → Int32) (va_hears : Nat → Int32) (va_shut : Nat → Int32) (va_woodBell : Nat → Int32) (va_woodVillage : Nat → Int32) (va_needVillage : Nat → Int32) (va_needWind : Nat → Int32) (va_needSeen : Nat → Int32) (va_sign : Nat → Int32) (p0 : Int32) (p1 : Int32) (out : Int32 × Int32 × Int32 × Int32 × (Nat → Int32)) (hf : fX6_temper a_refusedBad a_refusedNo a_refusedFull va_villages va_temper p0 p1 = some out) : cMi l G yX6_temper wsX6_temper rmX6_temper [.ref (a 0), .int p0, .int p1] (flat [wX6 G a ((va 0)) a_draft a_images a_tale a_run a_ropeSearch a_ringSearch a_woodSearch a_refusedBad a_refusedNo a_refusedFull, wX3 G va va_villages va_woods va_needs va_signs va_temper va_friend va_rope va_hears va_shut va_woodBell va_woodVillage va_needVillage va_needWind va_needSeen va_sign]) out.1 (flat [wX6 G a ((va 0)) a_draft a_images a_tale a_run a_ropeSearch a_ringSearch a_woodSearch out.2.1 out.2.2.1 out.2.2.2.1, wX3 G va va_villages va_woods va_needs va_signs out.2.2.2.2 va_friend va_rope va_hears va_shut va_woodBell va_woodVillage va_needVillage va_needWind va_needSeen va_sign]) := by
  intro sz
  refine met_of (cc := cX6_temper) (nL := 3) (ret := (some .int)) (Qc := fun A9 => QI G A9 out.1 (flat [wX6 G a ((va 0)) a_draft a_images a_tale a_run a_ropeSearch a_ringSearch a_woodSearch out.2.1 out.2.2.1 out.2.2.2.1, wX3 G va va_villages va_woods va_needs va_signs out.2.2.2.2 va_friend va_rope va_hears va_shut va_woodBell va_woodVillage va_needVillage va_needWind va_needSeen va_sign])) (by decide) rfl (Nat.le_of_ble_eq_true rfl) ?_
  intro p e s m args below meth c A ls C hP hD hS hl
  obtain ⟨⟨hx, hb, hml, hown, hts⟩, hr, hlocks, hK, hN, hE, hA⟩ := id C
  have hl : lv_has ls 3 [(0, .ref (a 0)), (1, .int p0), (2, .int p1)] := hl
  unfold fX6_temper at hf
  refine lv_aload_n hx hb dX6_temper_0 rfl (lv_at hl 0 rfl) ?_
  refine lv_aload_n hx hb dX6_temper_1 rfl (lv_at hl 0 rfl) ?_
  refine va_get (D := G.1) (ci := 6) (v := .ref (va 0)) (C := RX6) (T := TX6) (N := 11) hx hb hts iiX6_temper_X6 hown hK hP 0 rfl rfl 0 (by decide) (hts _ mmX6_temper_1) (fun _ h9 => h9) rfl dX6_temper_2 ?_
  refine lv_iload_n hx hb dX6_temper_5 rfl (lv_at hl 1 rfl) ?_
  refine lv_iload_n hx hb dX6_temper_6 rfl (lv_at hl 2 rfl) ?_
  obtain ⟨g1, hg1, hf⟩ := o_b hf
  refine bVi (Bs' := [wX6 G a ((va 0)) a_draft a_images a_tale a_run a_ropeSearch a_ringSearch a_woodSearch a_refusedBad a_refusedNo a_refusedFull, wX3 G va va_villages va_woods va_needs va_signs g1.2 va_friend va_rope va_hears va_shut va_woodBell va_woodVillage va_needVillage va_needWind va_needSeen va_sign]) C hP hD hS (tX3_setTemper l G va va_villages va_woods va_needs va_signs va_temper va_friend va_rope va_hears va_shut va_woodBell va_woodVillage va_needVillage va_needWind va_needSeen va_sign p0 p1 g1 hg1) gX6_temper_X3_setTemper rfl ⟨rfl, rfl⟩ hdX3_setTemper ⟨Nat.le_of_ble_eq_true rfl, Nat.le_of_ble_eq_true rfl⟩ rfl hl.1 rfl (Nat.le_of_ble_eq_true rfl) ⟨Nat.le_of_ble_eq_true rfl, Nat.le_of_ble_eq_true rfl⟩ [1] rfl rfl rfl rfl rfl (ci := 3) (q0 := 1) rfl rfl rfl dX6_temper_7 (fun H locs hP hD hS => ?_)
  have hP : va_P G.1 vwCl (flat [wX6 G a ((va 0)) a_draft a_images a_tale a_run a_ropeSearch a_ringSearch a_woodSearch a_refusedBad a_refusedNo a_refusedFull, wX3 G va va_villages va_woods va_needs va_signs g1.2 va_friend va_rope va_hears va_shut va_woodBell va_woodVillage va_needVillage va_needWind va_needSeen va_sign]) H := hP
  have hD : va_D A (flat [wX6 G a ((va 0)) a_draft a_images a_tale a_run a_ropeSearch a_ringSearch a_woodSearch a_refusedBad a_refusedNo a_refusedFull, wX3 G va va_villages va_woods va_needs va_signs g1.2 va_friend va_rope va_hears va_shut va_woodBell va_woodVillage va_needVillage va_needWind va_needSeen va_sign]) := hD
  obtain ⟨g2, hg2, hf⟩ := o_b hf
  refine bVi (Bs' := [wX6 G a ((va 0)) a_draft a_images a_tale a_run a_ropeSearch a_ringSearch a_woodSearch g2.2.1 g2.2.2.1 g2.2.2.2, wX3 G va va_villages va_woods va_needs va_signs g1.2 va_friend va_rope va_hears va_shut va_woodBell va_woodVillage va_needVillage va_needWind va_needSeen va_sign]) C hP hD hS (tX6_counted l G a ((va 0)) a_draft a_images a_tale a_run a_ropeSearch a_ringSearch a_woodSearch a_refusedBad a_refusedNo a_refusedFull g1.1 g2 hg2) gX6_temper_X6_counted rfl ⟨rfl, rfl⟩ hdX6_counted ⟨Nat.le_of_ble_eq_true rfl, Nat.le_of_ble_eq_true rfl⟩ rfl hl.1 rfl (Nat.le_of_ble_eq_true rfl) ⟨Nat.le_of_ble_eq_true rfl, Nat.le_of_ble_eq_true rfl⟩ [0] rfl rfl rfl rfl rfl (ci := 6) (q0 := 0) rfl rfl rfl dX6_temper_10 (fun H locs hP hD hS => ?_)
  have hP : va_P G.1 vwCl (flat [wX6 G a ((va 0)) a_draft a_images a_tale a_run a_ropeSearch a_ringSearch a_woodSearch g2.2.1 g2.2.2.1 g2.2.2.2, wX3 G va va_villages va_woods va_needs va_signs g1.2 va_friend va_rope va_hears va_shut va_woodBell va_woodVillage va_needVillage va_needWind va_needSeen va_sign]) H := hP
  have hD : va_D A (flat [wX6 G a ((va 0)) a_draft a_images a_tale a_run a_ropeSearch a_ringSearch a_woodSearch g2.2.1 g2.2.2.1 g2.2.2.2, wX3 G va va_villages va_woods va_needs va_signs g1.2 va_friend va_rope va_hears va_shut va_woodBell va_woodVillage va_needVillage va_needWind va_needSeen va_sign]) := hD
  have e9 := Option.some.inj hf
  subst e9
  exact rt_i C hP hS rfl dX6_temper_13

/-! RX6 friendOf(II)I -/
theorem iiX6_friendOf_X6 : ∀ w ∈ wsX60, w ∈ wsX6_friendOf := by decide +kernel
theorem mmX6_friendOf_1 : (Cond.fieldLink RX6 12 "BlindBells" "valley" "LBlindBells$Valley;") ∈ wsX6_friendOf := by decide +kernel
theorem hdX6_friendOf : yX6_friendOf.cls = RX6 ∧ yX6_friendOf.cls ≠ "java/lang/invoke/MethodHandle" ∧ yX6_friendOf.cls ≠ "java/lang/invoke/VarHandle" ∧ (parseMethodDescriptor yX6_friendOf.desc).map (fun d => d.parameters.length) = some 2 := by decide +kernel
abbrev rmX6_friendOf : Room := { frames := 2, cells := 0, slots := 0, locals := 44 }
set_option maxHeartbeats 4000000 in
set_option maxRecDepth 100000 in
theorem tX6_friendOf (l : Launch) (G : GG) (a : Nat → Nat) (va : Nat → Nat) (a_draft : Nat) (a_images : Nat) (a_tale : Nat) (a_run : Nat) (a_ropeSearch : Nat) (a_ringSearch : Nat) (a_woodSearch : Nat) (a_refusedBad : Int32) (a_refusedNo : Int32) (a_refusedFull : Int32) (va_villages : Int32) (va_woods : Int32) (va_needs : Int32) (va_signs : Int32) (va_temper : Nat → Int32) (va_friend : Nat → Int32) (va_rope : Nat → Int32) (va_hears : Nat → Int32) (va_shut : Nat → Int32) (va_woodBell : Nat → Int32) (va_woodVillage : Nat → Int32) (va_needVillage : Nat → Int32) (va_needWind : Nat → Int32) (va_needSeen : Nat → Int32) (va_sign : Nat → Int32) (p0 : Int32) (p1 : Int32) (out : Int32 × Int32 × Int32 × Int32 × (Nat → Int32)) (hf : fX6_friendOf a_refusedBad a_refusedNo a_refusedFull va_villages va_friend p0 p1 = some out) : cMi l G yX6_friendOf wsX6_friendOf rmX6_friendOf [.ref (a 0), .int p0, .int p1] (flat [wX6 G a ((va 0)) a_draft a_images a_tale a_run a_ropeSearch a_ringSearch a_woodSearch a_refusedBad a_refusedNo a_refusedFull, wX3 G va va_villages va_woods va_needs va_signs va_temper va_friend va_rope va_hears va_shut va_woodBell va_woodVillage va_needVillage va_needWind va_needSeen va_sign]) out.1 (flat [wX6 G a ((va 0)) a_draft a_images a_tale a_run a_ropeSearch a_ringSearch a_woodSearch out.2.1 out.2.2.1 out.2.2.2.1, wX3 G va va_villages va_woods va_needs va_signs va_temper out.2.2.2.2 va_rope va_hears va_shut va_woodBell va_woodVillage va_needVillage va_needWind va_needSeen va_sign]) := by
  intro sz
  refine met_of (cc := cX6_friendOf) (nL := 3) (ret := (some .int)) (Qc := fun A9 => QI G A9 out.1 (flat [wX6 G a ((va 0)) a_draft a_images a_tale a_run a_ropeSearch a_ringSearch a_woodSearch out.2.1 out.2.2.1 out.2.2.2.1, wX3 G va va_villages va_woods va_needs va_signs va_temper out.2.2.2.2 va_rope va_hears va_shut va_woodBell va_woodVillage va_needVillage va_needWind va_needSeen va_sign])) (by decide) rfl (Nat.le_of_ble_eq_true rfl) ?_
  intro p e s m args below meth c A ls C hP hD hS hl
  obtain ⟨⟨hx, hb, hml, hown, hts⟩, hr, hlocks, hK, hN, hE, hA⟩ := id C
  have hl : lv_has ls 3 [(0, .ref (a 0)), (1, .int p0), (2, .int p1)] := hl
  unfold fX6_friendOf at hf
  refine lv_aload_n hx hb dX6_friendOf_0 rfl (lv_at hl 0 rfl) ?_
  refine lv_aload_n hx hb dX6_friendOf_1 rfl (lv_at hl 0 rfl) ?_
  refine va_get (D := G.1) (ci := 6) (v := .ref (va 0)) (C := RX6) (T := TX6) (N := 11) hx hb hts iiX6_friendOf_X6 hown hK hP 0 rfl rfl 0 (by decide) (hts _ mmX6_friendOf_1) (fun _ h9 => h9) rfl dX6_friendOf_2 ?_
  refine lv_iload_n hx hb dX6_friendOf_5 rfl (lv_at hl 1 rfl) ?_
  refine lv_iload_n hx hb dX6_friendOf_6 rfl (lv_at hl 2 rfl) ?_
  obtain ⟨g1, hg1, hf⟩ := o_b hf
  refine bVi (Bs' := [wX6 G a ((va 0)) a_draft a_images a_tale a_run a_ropeSearch a_ringSearch a_woodSearch a_refusedBad a_refusedNo a_refusedFull, wX3 G va va_villages va_woods va_needs va_signs va_temper g1.2 va_rope va_hears va_shut va_woodBell va_woodVillage va_needVillage va_needWind va_needSeen va_sign]) C hP hD hS (tX3_setFriend l G va va_villages va_woods va_needs va_signs va_temper va_friend va_rope va_hears va_shut va_woodBell va_woodVillage va_needVillage va_needWind va_needSeen va_sign p0 p1 g1 hg1) gX6_friendOf_X3_setFriend rfl ⟨rfl, rfl⟩ hdX3_setFriend ⟨Nat.le_of_ble_eq_true rfl, Nat.le_of_ble_eq_true rfl⟩ rfl hl.1 rfl (Nat.le_of_ble_eq_true rfl) ⟨Nat.le_of_ble_eq_true rfl, Nat.le_of_ble_eq_true rfl⟩ [1] rfl rfl rfl rfl rfl (ci := 3) (q0 := 1) rfl rfl rfl dX6_friendOf_7 (fun H locs hP hD hS => ?_)
  have hP : va_P G.1 vwCl (flat [wX6 G a ((va 0)) a_draft a_images a_tale a_run a_ropeSearch a_ringSearch a_woodSearch a_refusedBad a_refusedNo a_refusedFull, wX3 G va va_villages va_woods va_needs va_signs va_temper g1.2 va_rope va_hears va_shut va_woodBell va_woodVillage va_needVillage va_needWind va_needSeen va_sign]) H := hP
  have hD : va_D A (flat [wX6 G a ((va 0)) a_draft a_images a_tale a_run a_ropeSearch a_ringSearch a_woodSearch a_refusedBad a_refusedNo a_refusedFull, wX3 G va va_villages va_woods va_needs va_signs va_temper g1.2 va_rope va_hears va_shut va_woodBell va_woodVillage va_needVillage va_needWind va_needSeen va_sign]) := hD
  obtain ⟨g2, hg2, hf⟩ := o_b hf
  refine bVi (Bs' := [wX6 G a ((va 0)) a_draft a_images a_tale a_run a_ropeSearch a_ringSearch a_woodSearch g2.2.1 g2.2.2.1 g2.2.2.2, wX3 G va va_villages va_woods va_needs va_signs va_temper g1.2 va_rope va_hears va_shut va_woodBell va_woodVillage va_needVillage va_needWind va_needSeen va_sign]) C hP hD hS (tX6_counted l G a ((va 0)) a_draft a_images a_tale a_run a_ropeSearch a_ringSearch a_woodSearch a_refusedBad a_refusedNo a_refusedFull g1.1 g2 hg2) gX6_friendOf_X6_counted rfl ⟨rfl, rfl⟩ hdX6_counted ⟨Nat.le_of_ble_eq_true rfl, Nat.le_of_ble_eq_true rfl⟩ rfl hl.1 rfl (Nat.le_of_ble_eq_true rfl) ⟨Nat.le_of_ble_eq_true rfl, Nat.le_of_ble_eq_true rfl⟩ [0] rfl rfl rfl rfl rfl (ci := 6) (q0 := 0) rfl rfl rfl dX6_friendOf_10 (fun H locs hP hD hS => ?_)
  have hP : va_P G.1 vwCl (flat [wX6 G a ((va 0)) a_draft a_images a_tale a_run a_ropeSearch a_ringSearch a_woodSearch g2.2.1 g2.2.2.1 g2.2.2.2, wX3 G va va_villages va_woods va_needs va_signs va_temper g1.2 va_rope va_hears va_shut va_woodBell va_woodVillage va_needVillage va_needWind va_needSeen va_sign]) H := hP
  have hD : va_D A (flat [wX6 G a ((va 0)) a_draft a_images a_tale a_run a_ropeSearch a_ringSearch a_woodSearch g2.2.1 g2.2.2.1 g2.2.2.2, wX3 G va va_villages va_woods va_needs va_signs va_temper g1.2 va_rope va_hears va_shut va_woodBell va_woodVillage va_needVillage va_needWind va_needSeen va_sign]) := hD
  have e9 := Option.some.inj hf
  subst e9
  exact rt_i C hP hS rfl dX6_friendOf_13

/-! RX6 change(II)I -/
theorem iiX6_change_X6 : ∀ w ∈ wsX60, w ∈ wsX6_change := by decide +kernel
theorem mmX6_change_1 : (Cond.fieldLink RX6 12 "BlindBells" "valley" "LBlindBells$Valley;") ∈ wsX6_change := by decide +kernel
theorem hdX6_change : yX6_change.cls = RX6 ∧ yX6_change.cls ≠ "java/lang/invoke/MethodHandle" ∧ yX6_change.cls ≠ "java/lang/invoke/VarHandle" ∧ (parseMethodDescriptor yX6_change.desc).map (fun d => d.parameters.length) = some 2 := by decide +kernel
abbrev rmX6_change : Room := { frames := 3, cells := 0, slots := 0, locals := 66 }
set_option maxHeartbeats 4000000 in
set_option maxRecDepth 100000 in
theorem tX6_change (l : Launch) (G : GG) (a : Nat → Nat) (va : Nat → Nat) (a_draft : Nat) (a_images : Nat) (a_tale : Nat) (a_run : Nat) (a_ropeSearch : Nat) (a_ringSearch : Nat) (a_woodSearch : Nat) (a_refusedBad : Int32) (a_refusedNo : Int32) (a_refusedFull : Int32) (va_villages : Int32) (va_woods : Int32) (va_needs : Int32) (va_signs : Int32) (va_temper : Nat → Int32) (va_friend : Nat → Int32) (va_rope : Nat → Int32) (va_hears : Nat → Int32) (va_shut : Nat → Int32) (va_woodBell : Nat → Int32) (va_woodVillage : Nat → Int32) (va_needVillage : Nat → Int32) (va_needWind : Nat → Int32) (va_needSeen : Nat → Int32) (va_sign : Nat → Int32) (p0 : Int32) (p1 : Int32) (out : Int32 × Int32 × Int32 × Int32 × (Nat → Int32)) (hf : fX6_change a_refusedBad a_refusedNo a_refusedFull va_villages va_rope p0 p1 = some out) : cMi l G yX6_change wsX6_change rmX6_change [.ref (a 0), .int p0, .int p1] (flat [wX6 G a ((va 0)) a_draft a_images a_tale a_run a_ropeSearch a_ringSearch a_woodSearch a_refusedBad a_refusedNo a_refusedFull, wX3 G va va_villages va_woods va_needs va_signs va_temper va_friend va_rope va_hears va_shut va_woodBell va_woodVillage va_needVillage va_needWind va_needSeen va_sign]) out.1 (flat [wX6 G a ((va 0)) a_draft a_images a_tale a_run a_ropeSearch a_ringSearch a_woodSearch out.2.1 out.2.2.1 out.2.2.2.1, wX3 G va va_villages va_woods va_needs va_signs va_temper va_friend out.2.2.2.2 va_hears va_shut va_woodBell va_woodVillage va_needVillage va_needWind va_needSeen va_sign]) := by
  intro sz
  refine met_of (cc := cX6_change) (nL := 3) (ret := (some .int)) (Qc := fun A9 => QI G A9 out.1 (flat [wX6 G a ((va 0)) a_draft a_images a_tale a_run a_ropeSearch a_ringSearch a_woodSearch out.2.1 out.2.2.1 out.2.2.2.1, wX3 G va va_villages va_woods va_needs va_signs va_temper va_friend out.2.2.2.2 va_hears va_shut va_woodBell va_woodVillage va_needVillage va_needWind va_needSeen va_sign])) (by decide) rfl (Nat.le_of_ble_eq_true rfl) ?_
  intro p e s m args below meth c A ls C hP hD hS hl
  obtain ⟨⟨hx, hb, hml, hown, hts⟩, hr, hlocks, hK, hN, hE, hA⟩ := id C
  have hl : lv_has ls 3 [(0, .ref (a 0)), (1, .int p0), (2, .int p1)] := hl
  unfold fX6_change at hf
  refine lv_aload_n hx hb dX6_change_0 rfl (lv_at hl 0 rfl) ?_
  refine lv_aload_n hx hb dX6_change_1 rfl (lv_at hl 0 rfl) ?_
  refine va_get (D := G.1) (ci := 6) (v := .ref (va 0)) (C := RX6) (T := TX6) (N := 11) hx hb hts iiX6_change_X6 hown hK hP 0 rfl rfl 0 (by decide) (hts _ mmX6_change_1) (fun _ h9 => h9) rfl dX6_change_2 ?_
  refine lv_iload_n hx hb dX6_change_5 rfl (lv_at hl 1 rfl) ?_
  refine lv_iload_n hx hb dX6_change_6 rfl (lv_at hl 2 rfl) ?_
  obtain ⟨g1, hg1, hf⟩ := o_b hf
  refine bVi (Bs' := [wX6 G a ((va 0)) a_draft a_images a_tale a_run a_ropeSearch a_ringSearch a_woodSearch a_refusedBad a_refusedNo a_refusedFull, wX3 G va va_villages va_woods va_needs va_signs va_temper va_friend g1.2 va_hears va_shut va_woodBell va_woodVillage va_needVillage va_needWind va_needSeen va_sign]) C hP hD hS (tX3_changeRopes l G va va_villages va_woods va_needs va_signs va_temper va_friend va_rope va_hears va_shut va_woodBell va_woodVillage va_needVillage va_needWind va_needSeen va_sign p0 p1 g1 hg1) gX6_change_X3_changeRopes rfl ⟨rfl, rfl⟩ hdX3_changeRopes ⟨Nat.le_of_ble_eq_true rfl, Nat.le_of_ble_eq_true rfl⟩ rfl hl.1 rfl (Nat.le_of_ble_eq_true rfl) ⟨Nat.le_of_ble_eq_true rfl, Nat.le_of_ble_eq_true rfl⟩ [1] rfl rfl rfl rfl rfl (ci := 3) (q0 := 1) rfl rfl rfl dX6_change_7 (fun H locs hP hD hS => ?_)
  have hP : va_P G.1 vwCl (flat [wX6 G a ((va 0)) a_draft a_images a_tale a_run a_ropeSearch a_ringSearch a_woodSearch a_refusedBad a_refusedNo a_refusedFull, wX3 G va va_villages va_woods va_needs va_signs va_temper va_friend g1.2 va_hears va_shut va_woodBell va_woodVillage va_needVillage va_needWind va_needSeen va_sign]) H := hP
  have hD : va_D A (flat [wX6 G a ((va 0)) a_draft a_images a_tale a_run a_ropeSearch a_ringSearch a_woodSearch a_refusedBad a_refusedNo a_refusedFull, wX3 G va va_villages va_woods va_needs va_signs va_temper va_friend g1.2 va_hears va_shut va_woodBell va_woodVillage va_needVillage va_needWind va_needSeen va_sign]) := hD
  obtain ⟨g2, hg2, hf⟩ := o_b hf
  refine bVi (Bs' := [wX6 G a ((va 0)) a_draft a_images a_tale a_run a_ropeSearch a_ringSearch a_woodSearch g2.2.1 g2.2.2.1 g2.2.2.2, wX3 G va va_villages va_woods va_needs va_signs va_temper va_friend g1.2 va_hears va_shut va_woodBell va_woodVillage va_needVillage va_needWind va_needSeen va_sign]) C hP hD hS (tX6_counted l G a ((va 0)) a_draft a_images a_tale a_run a_ropeSearch a_ringSearch a_woodSearch a_refusedBad a_refusedNo a_refusedFull g1.1 g2 hg2) gX6_change_X6_counted rfl ⟨rfl, rfl⟩ hdX6_counted ⟨Nat.le_of_ble_eq_true rfl, Nat.le_of_ble_eq_true rfl⟩ rfl hl.1 rfl (Nat.le_of_ble_eq_true rfl) ⟨Nat.le_of_ble_eq_true rfl, Nat.le_of_ble_eq_true rfl⟩ [0] rfl rfl rfl rfl rfl (ci := 6) (q0 := 0) rfl rfl rfl dX6_change_10 (fun H locs hP hD hS => ?_)
  have hP : va_P G.1 vwCl (flat [wX6 G a ((va 0)) a_draft a_images a_tale a_run a_ropeSearch a_ringSearch a_woodSearch g2.2.1 g2.2.2.1 g2.2.2.2, wX3 G va va_villages va_woods va_needs va_signs va_temper va_friend g1.2 va_hears va_shut va_woodBell va_woodVillage va_needVillage va_needWind va_needSeen va_sign]) H := hP
  have hD : va_D A (flat [wX6 G a ((va 0)) a_draft a_images a_tale a_run a_ropeSearch a_ringSearch a_woodSearch g2.2.1 g2.2.2.1 g2.2.2.2, wX3 G va va_villages va_woods va_needs va_signs va_temper va_friend g1.2 va_hears va_shut va_woodBell va_woodVillage va_needVillage va_needWind va_needSeen va_sign]) := hD
  have e9 := Option.some.inj hf
  subst e9
  exact rt_i C hP hS rfl dX6_change_13

/-! RX6 need(III)I -/
theorem iiX6_need_X6 : ∀ w ∈ wsX60, w ∈ wsX6_need := by decide +kernel
theorem mmX6_need_1 : (Cond.fieldLink RX6 12 "BlindBells" "valley" "LBlindBells$Valley;") ∈ wsX6_need := by decide +kernel
theorem hdX6_need : yX6_need.cls = RX6 ∧ yX6_need.cls ≠ "java/lang/invoke/MethodHandle" ∧ yX6_need.cls ≠ "java/lang/invoke/VarHandle" ∧ (parseMethodDescriptor yX6_need.desc).map (fun d => d.parameters.length) = some 3 := by decide +kernel
abbrev rmX6_need : Room := { frames := 2, cells := 0, slots := 0, locals := 44 }
set_option maxHeartbeats 4000000 in
set_option maxRecDepth 100000 in
theorem tX6_need (l : Launch) (G : GG) (a : Nat → Nat) (va : Nat → Nat) (a_draft : Nat) (a_images : Nat) (a_tale : Nat) (a_run : Nat) (a_ropeSearch : Nat) (a_ringSearch : Nat) (a_woodSearch : Nat) (a_refusedBad : Int32) (a_refusedNo : Int32) (a_refusedFull : Int32) (va_villages : Int32) (va_woods : Int32) (va_needs : Int32) (va_signs : Int32) (va_temper : Nat → Int32) (va_friend : Nat → Int32) (va_rope : Nat → Int32) (va_hears : Nat → Int32) (va_shut : Nat → Int32) (va_woodBell : Nat → Int32) (va_woodVillage : Nat → Int32) (va_needVillage : Nat → Int32) (va_needWind : Nat → Int32) (va_needSeen : Nat → Int32) (va_sign : Nat → Int32) (p0 : Int32) (p1 : Int32) (p2 : Int32) (out : Int32 × Int32 × Int32 × Int32 × Int32 × (Nat → Int32) × (Nat → Int32) × (Nat → Int32)) (hf : fX6_need a_refusedBad a_refusedNo a_refusedFull va_villages va_needs va_needVillage va_needWind va_needSeen p0 p1 p2 = some out) : cMi l G yX6_need wsX6_need rmX6_need [.ref (a 0), .int p0, .int p1, .int p2] (flat [wX6 G a ((va 0)) a_draft a_images a_tale a_run a_ropeSearch a_ringSearch a_woodSearch a_refusedBad a_refusedNo a_refusedFull, wX3 G va va_villages va_woods va_needs va_signs va_temper va_friend va_rope va_hears va_shut va_woodBell va_woodVillage va_needVillage va_needWind va_needSeen va_sign]) out.1 (flat [wX6 G a ((va 0)) a_draft a_images a_tale a_run a_ropeSearch a_ringSearch a_woodSearch out.2.1 out.2.2.1 out.2.2.2.1, wX3 G va va_villages va_woods out.2.2.2.2.1 va_signs va_temper va_friend va_rope va_hears va_shut va_woodBell va_woodVillage out.2.2.2.2.2.1 out.2.2.2.2.2.2.1 out.2.2.2.2.2.2.2 va_sign]) := by
  intro sz
  refine met_of (cc := cX6_need) (nL := 4) (ret := (some .int)) (Qc := fun A9 => QI G A9 out.1 (flat [wX6 G a ((va 0)) a_draft a_images a_tale a_run a_ropeSearch a_ringSearch a_woodSearch out.2.1 out.2.2.1 out.2.2.2.1, wX3 G va va_villages va_woods out.2.2.2.2.1 va_signs va_temper va_friend va_rope va_hears va_shut va_woodBell va_woodVillage out.2.2.2.2.2.1 out.2.2.2.2.2.2.1 out.2.2.2.2.2.2.2 va_sign])) (by decide) rfl (Nat.le_of_ble_eq_true rfl) ?_
  intro p e s m args below meth c A ls C hP hD hS hl
  obtain ⟨⟨hx, hb, hml, hown, hts⟩, hr, hlocks, hK, hN, hE, hA⟩ := id C
  have hl : lv_has ls 4 [(0, .ref (a 0)), (1, .int p0), (2, .int p1), (3, .int p2)] := hl
  unfold fX6_need at hf
  refine lv_aload_n hx hb dX6_need_0 rfl (lv_at hl 0 rfl) ?_
  refine lv_aload_n hx hb dX6_need_1 rfl (lv_at hl 0 rfl) ?_
  refine va_get (D := G.1) (ci := 6) (v := .ref (va 0)) (C := RX6) (T := TX6) (N := 11) hx hb hts iiX6_need_X6 hown hK hP 0 rfl rfl 0 (by decide) (hts _ mmX6_need_1) (fun _ h9 => h9) rfl dX6_need_2 ?_
  refine lv_iload_n hx hb dX6_need_5 rfl (lv_at hl 1 rfl) ?_
  refine lv_iload_n hx hb dX6_need_6 rfl (lv_at hl 2 rfl) ?_
  refine lv_iload_n hx hb dX6_need_7 rfl (lv_at hl 3 rfl) ?_
  obtain ⟨g1, hg1, hf⟩ := o_b hf
  refine bVi (Bs' := [wX6 G a ((va 0)) a_draft a_images a_tale a_run a_ropeSearch a_ringSearch a_woodSearch a_refusedBad a_refusedNo a_refusedFull, wX3 G va va_villages va_woods g1.2.1 va_signs va_temper va_friend va_rope va_hears va_shut va_woodBell va_woodVillage g1.2.2.1 g1.2.2.2.1 g1.2.2.2.2 va_sign]) C hP hD hS (tX3_addNeed l G va va_villages va_woods va_needs va_signs va_temper va_friend va_rope va_hears va_shut va_woodBell va_woodVillage va_needVillage va_needWind va_needSeen va_sign p0 p1 p2 g1 hg1) gX6_need_X3_addNeed rfl ⟨rfl, rfl⟩ hdX3_addNeed ⟨Nat.le_of_ble_eq_true rfl, Nat.le_of_ble_eq_true rfl⟩ rfl hl.1 rfl (Nat.le_of_ble_eq_true rfl) ⟨Nat.le_of_ble_eq_true rfl, Nat.le_of_ble_eq_true rfl⟩ [1] rfl rfl rfl rfl rfl (ci := 3) (q0 := 1) rfl rfl rfl dX6_need_8 (fun H locs hP hD hS => ?_)
  have hP : va_P G.1 vwCl (flat [wX6 G a ((va 0)) a_draft a_images a_tale a_run a_ropeSearch a_ringSearch a_woodSearch a_refusedBad a_refusedNo a_refusedFull, wX3 G va va_villages va_woods g1.2.1 va_signs va_temper va_friend va_rope va_hears va_shut va_woodBell va_woodVillage g1.2.2.1 g1.2.2.2.1 g1.2.2.2.2 va_sign]) H := hP
  have hD : va_D A (flat [wX6 G a ((va 0)) a_draft a_images a_tale a_run a_ropeSearch a_ringSearch a_woodSearch a_refusedBad a_refusedNo a_refusedFull, wX3 G va va_villages va_woods g1.2.1 va_signs va_temper va_friend va_rope va_hears va_shut va_woodBell va_woodVillage g1.2.2.1 g1.2.2.2.1 g1.2.2.2.2 va_sign]) := hD
  obtain ⟨g2, hg2, hf⟩ := o_b hf
  refine bVi (Bs' := [wX6 G a ((va 0)) a_draft a_images a_tale a_run a_ropeSearch a_ringSearch a_woodSearch g2.2.1 g2.2.2.1 g2.2.2.2, wX3 G va va_villages va_woods g1.2.1 va_signs va_temper va_friend va_rope va_hears va_shut va_woodBell va_woodVillage g1.2.2.1 g1.2.2.2.1 g1.2.2.2.2 va_sign]) C hP hD hS (tX6_counted l G a ((va 0)) a_draft a_images a_tale a_run a_ropeSearch a_ringSearch a_woodSearch a_refusedBad a_refusedNo a_refusedFull g1.1 g2 hg2) gX6_need_X6_counted rfl ⟨rfl, rfl⟩ hdX6_counted ⟨Nat.le_of_ble_eq_true rfl, Nat.le_of_ble_eq_true rfl⟩ rfl hl.1 rfl (Nat.le_of_ble_eq_true rfl) ⟨Nat.le_of_ble_eq_true rfl, Nat.le_of_ble_eq_true rfl⟩ [0] rfl rfl rfl rfl rfl (ci := 6) (q0 := 0) rfl rfl rfl dX6_need_11 (fun H locs hP hD hS => ?_)
  have hP : va_P G.1 vwCl (flat [wX6 G a ((va 0)) a_draft a_images a_tale a_run a_ropeSearch a_ringSearch a_woodSearch g2.2.1 g2.2.2.1 g2.2.2.2, wX3 G va va_villages va_woods g1.2.1 va_signs va_temper va_friend va_rope va_hears va_shut va_woodBell va_woodVillage g1.2.2.1 g1.2.2.2.1 g1.2.2.2.2 va_sign]) H := hP
  have hD : va_D A (flat [wX6 G a ((va 0)) a_draft a_images a_tale a_run a_ropeSearch a_ringSearch a_woodSearch g2.2.1 g2.2.2.1 g2.2.2.2, wX3 G va va_villages va_woods g1.2.1 va_signs va_temper va_friend va_rope va_hears va_shut va_woodBell va_woodVillage g1.2.2.1 g1.2.2.2.1 g1.2.2.2.2 va_sign]) := hD
  have e9 := Option.some.inj hf
  subst e9
  exact rt_i C hP hS rfl dX6_need_14

/-! RX6 undo()I -/
theorem iiX6_undo_X6 : ∀ w ∈ wsX60, w ∈ wsX6_undo := by decide +kernel
theorem mmX6_undo_1 : (Cond.fieldLink RX6 12 "BlindBells" "valley" "LBlindBells$Valley;") ∈ wsX6_undo := by decide +kernel
theorem hdX6_undo : yX6_undo.cls = RX6 ∧ yX6_undo.cls ≠ "java/lang/invoke/MethodHandle" ∧ yX6_undo.cls ≠ "java/lang/invoke/VarHandle" ∧ (parseMethodDescriptor yX6_undo.desc).map (fun d => d.parameters.length) = some 0 := by decide +kernel
abbrev rmX6_undo : Room := { frames := 1, cells := 0, slots := 0, locals := 21 }
set_option maxHeartbeats 4000000 in
set_option maxRecDepth 100000 in
theorem tX6_undo (l : Launch) (G : GG) (a : Nat → Nat) (va : Nat → Nat) (a_draft : Nat) (a_images : Nat) (a_tale : Nat) (a_run : Nat) (a_ropeSearch : Nat) (a_ringSearch : Nat) (a_woodSearch : Nat) (a_refusedBad : Int32) (a_refusedNo : Int32) (a_refusedFull : Int32) (va_villages : Int32) (va_woods : Int32) (va_needs : Int32) (va_signs : Int32) (va_temper : Nat → Int32) (va_friend : Nat → Int32) (va_rope : Nat → Int32) (va_hears : Nat → Int32) (va_shut : Nat → Int32) (va_woodBell : Nat → Int32) (va_woodVillage : Nat → Int32) (va_needVillage : Nat → Int32) (va_needWind : Nat → Int32) (va_needSeen : Nat → Int32) (va_sign : Nat → Int32) (out : Int32 × Int32 × Int32 × Int32 × Int32) (hf : fX6_undo a_refusedBad a_refusedNo a_refusedFull va_needs = some out) : cMi l G yX6_undo wsX6_undo rmX6_undo [.ref (a 0)] (flat [wX6 G a ((va 0)) a_draft a_images a_tale a_run a_ropeSearch a_ringSearch a_woodSearch a_refusedBad a_refusedNo a_refusedFull, wX3 G va va_villages va_woods va_needs va_signs va_temper va_friend va_rope va_hears va_shut va_woodBell va_woodVillage va_needVillage va_needWind va_needSeen va_sign]) out.1 (flat [wX6 G a ((va 0)) a_draft a_images a_tale a_run a_ropeSearch a_ringSearch a_woodSearch out.2.1 out.2.2.1 out.2.2.2.1, wX3 G va va_villages va_woods out.2.2.2.2 va_signs va_temper va_friend va_rope va_hears va_shut va_woodBell va_woodVillage va_needVillage va_needWind va_needSeen va_sign]) := by
  intro sz
  refine met_of (cc := cX6_undo) (nL := 1) (ret := (some .int)) (Qc := fun A9 => QI G A9 out.1 (flat [wX6 G a ((va 0)) a_draft a_images a_tale a_run a_ropeSearch a_ringSearch a_woodSearch out.2.1 out.2.2.1 out.2.2.2.1, wX3 G va va_villages va_woods out.2.2.2.2 va_signs va_temper va_friend va_rope va_hears va_shut va_woodBell va_woodVillage va_needVillage va_needWind va_needSeen va_sign])) (by decide) rfl (Nat.le_of_ble_eq_true rfl) ?_
  intro p e s m args below meth c A ls C hP hD hS hl
  obtain ⟨⟨hx, hb, hml, hown, hts⟩, hr, hlocks, hK, hN, hE, hA⟩ := id C
  have hl : lv_has ls 1 [(0, .ref (a 0))] := hl
  unfold fX6_undo at hf
  refine lv_aload_n hx hb dX6_undo_0 rfl (lv_at hl 0 rfl) ?_
  refine lv_aload_n hx hb dX6_undo_1 rfl (lv_at hl 0 rfl) ?_
  refine va_get (D := G.1) (ci := 6) (v := .ref (va 0)) (C := RX6) (T := TX6) (N := 11) hx hb hts iiX6_undo_X6 hown hK hP 0 rfl rfl 0 (by decide) (hts _ mmX6_undo_1) (fun _ h9 => h9) rfl dX6_undo_2 ?_
  obtain ⟨g1, hg1, hf⟩ := o_b hf
  refine bVi (Bs' := [wX6 G a ((va 0)) a_draft a_images a_tale a_run a_ropeSearch a_ringSearch a_woodSearch a_refusedBad a_refusedNo a_refusedFull, wX3 G va va_villages va_woods g1.2 va_signs va_temper va_friend va_rope va_hears va_shut va_woodBell va_woodVillage va_needVillage va_needWind va_needSeen va_sign]) C hP hD hS (tX3_dropNeed l G va va_villages va_woods va_needs va_signs va_temper va_friend va_rope va_hears va_shut va_woodBell va_woodVillage va_needVillage va_needWind va_needSeen va_sign g1 hg1) gX6_undo_X3_dropNeed rfl ⟨rfl, rfl⟩ hdX3_dropNeed ⟨Nat.le_of_ble_eq_true rfl, Nat.le_of_ble_eq_true rfl⟩ rfl hl.1 rfl (Nat.le_of_ble_eq_true rfl) ⟨Nat.le_of_ble_eq_true rfl, Nat.le_of_ble_eq_true rfl⟩ [1] rfl rfl rfl rfl rfl (ci := 3) (q0 := 1) rfl rfl rfl dX6_undo_5 (fun H locs hP hD hS => ?_)
  have hP : va_P G.1 vwCl (flat [wX6 G a ((va 0)) a_draft a_images a_tale a_run a_ropeSearch a_ringSearch a_woodSearch a_refusedBad a_refusedNo a_refusedFull, wX3 G va va_villages va_woods g1.2 va_signs va_temper va_friend va_rope va_hears va_shut va_woodBell va_woodVillage va_needVillage va_needWind va_needSeen va_sign]) H := hP
  have hD : va_D A (flat [wX6 G a ((va 0)) a_draft a_images a_tale a_run a_ropeSearch a_ringSearch a_woodSearch a_refusedBad a_refusedNo a_refusedFull, wX3 G va va_villages va_woods g1.2 va_signs va_temper va_friend va_rope va_hears va_shut va_woodBell va_woodVillage va_needVillage va_needWind va_needSeen va_sign]) := hD
  obtain ⟨g2, hg2, hf⟩ := o_b hf
  refine bVi (Bs' := [wX6 G a ((va 0)) a_draft a_images a_tale a_run a_ropeSearch a_ringSearch a_woodSearch g2.2.1 g2.2.2.1 g2.2.2.2, wX3 G va va_villages va_woods g1.2 va_signs va_temper va_friend va_rope va_hears va_shut va_woodBell va_woodVillage va_needVillage va_needWind va_needSeen va_sign]) C hP hD hS (tX6_counted l G a ((va 0)) a_draft a_images a_tale a_run a_ropeSearch a_ringSearch a_woodSearch a_refusedBad a_refusedNo a_refusedFull g1.1 g2 hg2) gX6_undo_X6_counted rfl ⟨rfl, rfl⟩ hdX6_counted ⟨Nat.le_of_ble_eq_true rfl, Nat.le_of_ble_eq_true rfl⟩ rfl hl.1 rfl (Nat.le_of_ble_eq_true rfl) ⟨Nat.le_of_ble_eq_true rfl, Nat.le_of_ble_eq_true rfl⟩ [0] rfl rfl rfl rfl rfl (ci := 6) (q0 := 0) rfl rfl rfl dX6_undo_8 (fun H locs hP hD hS => ?_)
  have hP : va_P G.1 vwCl (flat [wX6 G a ((va 0)) a_draft a_images a_tale a_run a_ropeSearch a_ringSearch a_woodSearch g2.2.1 g2.2.2.1 g2.2.2.2, wX3 G va va_villages va_woods g1.2 va_signs va_temper va_friend va_rope va_hears va_shut va_woodBell va_woodVillage va_needVillage va_needWind va_needSeen va_sign]) H := hP
  have hD : va_D A (flat [wX6 G a ((va 0)) a_draft a_images a_tale a_run a_ropeSearch a_ringSearch a_woodSearch g2.2.1 g2.2.2.1 g2.2.2.2, wX3 G va va_villages va_woods g1.2 va_signs va_temper va_friend va_rope va_hears va_shut va_woodBell va_woodVillage va_needVillage va_needWind va_needSeen va_sign]) := hD
  have e9 := Option.some.inj hf
  subst e9
  exact rt_i C hP hS rfl dX6_undo_11

/-! RX6 heard(II)I -/
theorem iiX6_heard_X6 : ∀ w ∈ wsX60, w ∈ wsX6_heard := by decide +kernel
theorem mmX6_heard_1 : (Cond.fieldLink RX6 12 "BlindBells" "valley" "LBlindBells$Valley;") ∈ wsX6_heard := by decide +kernel
theorem hdX6_heard : yX6_heard.cls = RX6 ∧ yX6_heard.cls ≠ "java/lang/invoke/MethodHandle" ∧ yX6_heard.cls ≠ "java/lang/invoke/VarHandle" ∧ (parseMethodDescriptor yX6_heard.desc).map (fun d => d.parameters.length) = some 2 := by decide +kernel
abbrev rmX6_heard : Room := { frames := 1, cells := 0, slots := 0, locals := 22 }
set_option maxHeartbeats 4000000 in
set_option maxRecDepth 100000 in
theorem tX6_heard (l : Launch) (G : GG) (a : Nat → Nat) (va : Nat → Nat) (a_draft : Nat) (a_images : Nat) (a_tale : Nat) (a_run : Nat) (a_ropeSearch : Nat) (a_ringSearch : Nat) (a_woodSearch : Nat) (a_refusedBad : Int32) (a_refusedNo : Int32) (a_refusedFull : Int32) (va_villages : Int32) (va_woods : Int32) (va_needs : Int32) (va_signs : Int32) (va_temper : Nat → Int32) (va_friend : Nat → Int32) (va_rope : Nat → Int32) (va_hears : Nat → Int32) (va_shut : Nat → Int32) (va_woodBell : Nat → Int32) (va_woodVillage : Nat → Int32) (va_needVillage : Nat → Int32) (va_needWind : Nat → Int32) (va_needSeen : Nat → Int32) (va_sign : Nat → Int32) (p0 : Int32) (p1 : Int32) (out : Int32 × Int32 × Int32 × Int32) (hf : fX6_heard a_refusedBad a_refusedNo a_refusedFull va_villages va_hears va_shut p0 p1 = some out) : cMi l G yX6_heard wsX6_heard rmX6_heard [.ref (a 0), .int p0, .int p1] (flat [wX6 G a ((va 0)) a_draft a_images a_tale a_run a_ropeSearch a_ringSearch a_woodSearch a_refusedBad a_refusedNo a_refusedFull, wX3 G va va_villages va_woods va_needs va_signs va_temper va_friend va_rope va_hears va_shut va_woodBell va_woodVillage va_needVillage va_needWind va_needSeen va_sign]) out.1 (flat [wX6 G a ((va 0)) a_draft a_images a_tale a_run a_ropeSearch a_ringSearch a_woodSearch out.2.1 out.2.2.1 out.2.2.2, wX3 G va va_villages va_woods va_needs va_signs va_temper va_friend va_rope va_hears va_shut va_woodBell va_woodVillage va_needVillage va_needWind va_needSeen va_sign]) := by
  intro sz
  refine met_of (cc := cX6_heard) (nL := 3) (ret := (some .int)) (Qc := fun A9 => QI G A9 out.1 (flat [wX6 G a ((va 0)) a_draft a_images a_tale a_run a_ropeSearch a_ringSearch a_woodSearch out.2.1 out.2.2.1 out.2.2.2, wX3 G va va_villages va_woods va_needs va_signs va_temper va_friend va_rope va_hears va_shut va_woodBell va_woodVillage va_needVillage va_needWind va_needSeen va_sign])) (by decide) rfl (Nat.le_of_ble_eq_true rfl) ?_
  intro p e s m args below meth c A ls C hP hD hS hl
  obtain ⟨⟨hx, hb, hml, hown, hts⟩, hr, hlocks, hK, hN, hE, hA⟩ := id C
  have hl : lv_has ls 3 [(0, .ref (a 0)), (1, .int p0), (2, .int p1)] := hl
  unfold fX6_heard at hf
  refine lv_aload_n hx hb dX6_heard_0 rfl (lv_at hl 0 rfl) ?_
  refine lv_aload_n hx hb dX6_heard_1 rfl (lv_at hl 0 rfl) ?_
  refine va_get (D := G.1) (ci := 6) (v := .ref (va 0)) (C := RX6) (T := TX6) (N := 11) hx hb hts iiX6_heard_X6 hown hK hP 0 rfl rfl 0 (by decide) (hts _ mmX6_heard_1) (fun _ h9 => h9) rfl dX6_heard_2 ?_
  refine lv_iload_n hx hb dX6_heard_5 rfl (lv_at hl 1 rfl) ?_
  obtain ⟨g1, hg1, hf⟩ := o_b hf
  refine bVi C hP hD hS (tX3_isVillage l G va va_villages va_woods va_needs va_signs va_temper va_friend va_rope va_hears va_shut va_woodBell va_woodVillage va_needVillage va_needWind va_needSeen va_sign p0 g1 hg1) gX6_heard_X3_isVillage rfl ⟨rfl, rfl⟩ hdX3_isVillage ⟨Nat.le_of_ble_eq_true rfl, Nat.le_of_ble_eq_true rfl⟩ rfl hl.1 rfl (Nat.le_of_ble_eq_true rfl) ⟨Nat.le_of_ble_eq_true rfl, Nat.le_of_ble_eq_true rfl⟩ [1] rfl rfl rfl (setB_same _ _ _ rfl) rfl (ci := 3) (q0 := 1) rfl rfl rfl dX6_heard_6 (fun H locs hP hD hS => ?_)
  obtain ⟨f3, hf3, hf⟩ := o_b hf
  have hJ : ∀ (H : Heap) (locs : List Loc) (ls : Array Slot), va_P G.1 vwCl (flat [wX6 G a ((va 0)) a_draft a_images a_tale a_run a_ropeSearch a_ringSearch a_woodSearch a_refusedBad a_refusedNo a_refusedFull, wX3 G va va_villages va_woods va_needs va_signs va_temper va_friend va_rope va_hears va_shut va_woodBell va_woodVillage va_needVillage va_needWind va_needSeen va_sign]) H → va_D A (flat [wX6 G a ((va 0)) a_draft a_images a_tale a_run a_ropeSearch a_ringSearch a_woodSearch a_refusedBad a_refusedNo a_refusedFull, wX3 G va va_villages va_woods va_needs va_signs va_temper va_friend va_rope va_hears va_shut va_woodBell va_woodVillage va_needVillage va_needWind va_needSeen va_sign]) → va_S A s.heap H locs → lv_has ls 3 [(0, .ref (a 0)), (1, .int p0), (2, .int p1)] → W p l e rmX6_heard s m args below meth c H locs 0 0 (MQ below (QI G A out.1 (flat [wX6 G a ((va 0)) a_draft a_images a_tale a_run a_ropeSearch a_ringSearch a_woodSearch out.2.1 out.2.2.1 out.2.2.2, wX3 G va va_villages va_woods va_needs va_signs va_temper va_friend va_rope va_hears va_shut va_woodBell va_woodVillage va_needVillage va_needWind va_needSeen va_sign])) args s 0 0 A) (F0 m 33 ls [.int f3, .ref (a 0)]) := by
    intro H locs ls hP hD hS hl
    obtain ⟨g7, hg7, hf⟩ := o_b hf
    refine bVi (Bs' := [wX6 G a ((va 0)) a_draft a_images a_tale a_run a_ropeSearch a_ringSearch a_woodSearch g7.2.1 g7.2.2.1 g7.2.2.2, wX3 G va va_villages va_woods va_needs va_signs va_temper va_friend va_rope va_hears va_shut va_woodBell va_woodVillage va_needVillage va_needWind va_needSeen va_sign]) C hP hD hS (tX6_counted l G a ((va 0)) a_draft a_images a_tale a_run a_ropeSearch a_ringSearch a_woodSearch a_refusedBad a_refusedNo a_refusedFull f3 g7 hg7) gX6_heard_X6_counted rfl ⟨rfl, rfl⟩ hdX6_counted ⟨Nat.le_of_ble_eq_true rfl, Nat.le_of_ble_eq_true rfl⟩ rfl hl.1 rfl (Nat.le_of_ble_eq_true rfl) ⟨Nat.le_of_ble_eq_true rfl, Nat.le_of_ble_eq_true rfl⟩ [0] rfl rfl rfl rfl rfl (ci := 6) (q0 := 0) rfl rfl rfl dX6_heard_33 (fun H locs hP hD hS => ?_)
    have hP : va_P G.1 vwCl (flat [wX6 G a ((va 0)) a_draft a_images a_tale a_run a_ropeSearch a_ringSearch a_woodSearch g7.2.1 g7.2.2.1 g7.2.2.2, wX3 G va va_villages va_woods va_needs va_signs va_temper va_friend va_rope va_hears va_shut va_woodBell va_woodVillage va_needVillage va_needWind va_needSeen va_sign]) H := hP
    have hD : va_D A (flat [wX6 G a ((va 0)) a_draft a_images a_tale a_run a_ropeSearch a_ringSearch a_woodSearch g7.2.1 g7.2.2.1 g7.2.2.2, wX3 G va va_villages va_woods va_needs va_signs va_temper va_friend va_rope va_hears va_shut va_woodBell va_woodVillage va_needVillage va_needWind va_needSeen va_sign]) := hD
    have e9 := Option.some.inj hf
    subst e9
    exact rt_i C hP hS rfl dX6_heard_36
  clear hf
  have hf := hf3
  refine lv_if_eq (tgt := 31) hx hb dX6_heard_9 (by decide) (fun c2 => ?_) (fun c2 => ?_)
  · have hf := (o_i hf).1 c2
    refine lv_bipush (v := (-2)) hx hb dX6_heard_31 (by decide) ?_
    have e9 := Option.some.inj hf
    subst e9
    exact hJ _ _ _ hP hD hS (lv_sub hl [0, 1, 2] rfl)
  have hf := (o_i hf).2 c2
  refine lv_iload_n hx hb dX6_heard_12 rfl (lv_at hl 2 rfl) ?_
  obtain ⟨g4, hg4, hf⟩ := o_b hf
  refine bSi C hP hD hS (tX6_isWind l G p1 g4 hg4) gX6_heard_X6_isWind rfl ⟨rfl, rfl⟩ hdX6_isWind ⟨Nat.le_of_ble_eq_true rfl, Nat.le_of_ble_eq_true rfl⟩ rfl hl.1 rfl (Nat.le_of_ble_eq_true rfl) ⟨Nat.le_of_ble_eq_true rfl, Nat.le_of_ble_eq_true rfl⟩ [] rfl rfl rfl (setB_same _ _ _ rfl) rfl dX6_heard_13 (fun H locs hP hD hS => ?_)
  refine lv_if_eq (tgt := 31) hx hb dX6_heard_16 (by decide) (fun c5 => ?_) (fun c5 => ?_)
  · have hf := (o_i hf).1 c5
    refine lv_bipush (v := (-2)) hx hb dX6_heard_31 (by decide) ?_
    have e9 := Option.some.inj hf
    subst e9
    exact hJ _ _ _ hP hD hS (lv_sub hl [0, 1, 2] rfl)
  have hf := (o_i hf).2 c5
  refine lv_aload_n hx hb dX6_heard_19 rfl (lv_at hl 0 rfl) ?_
  refine va_get (D := G.1) (ci := 6) (v := .ref (va 0)) (C := RX6) (T := TX6) (N := 11) hx hb hts iiX6_heard_X6 hown hK hP 0 rfl rfl 0 (by decide) (hts _ mmX6_heard_1) (fun _ h9 => h9) rfl dX6_heard_20 ?_
  refine lv_iload_n hx hb dX6_heard_23 rfl (lv_at hl 1 rfl) ?_
  refine lv_iload_n hx hb dX6_heard_24 rfl (lv_at hl 2 rfl) ?_
  obtain ⟨g6, hg6, hf⟩ := o_b hf
  refine bVi C hP hD hS (tX3_heardIn l G va va_villages va_woods va_needs va_signs va_temper va_friend va_rope va_hears va_shut va_woodBell va_woodVillage va_needVillage va_needWind va_needSeen va_sign p0 p1 g6 hg6) gX6_heard_X3_heardIn rfl ⟨rfl, rfl⟩ hdX3_heardIn ⟨Nat.le_of_ble_eq_true rfl, Nat.le_of_ble_eq_true rfl⟩ rfl hl.1 rfl (Nat.le_of_ble_eq_true rfl) ⟨Nat.le_of_ble_eq_true rfl, Nat.le_of_ble_eq_true rfl⟩ [1] rfl rfl rfl (setB_same _ _ _ rfl) rfl (ci := 3) (q0 := 1) rfl rfl rfl dX6_heard_25 (fun H locs hP hD hS => ?_)
  refine lv_goto (tgt := 33) hx hb dX6_heard_28 (by decide) ?_
  have e9 := Option.some.inj hf
  subst e9
  exact hJ _ _ _ hP hD hS (lv_sub hl [0, 1, 2] rfl)

/-! RX6 type(JI)I -/
theorem iiX6_type_X6 : ∀ w ∈ wsX60, w ∈ wsX6_type := by decide +kernel
theorem mmX6_type_1 : (Cond.fieldLink RX6 26 "BlindBells" "tale" "LBlindBells$Tale;") ∈ wsX6_type := by decide +kernel
theorem hdX6_type : yX6_type.cls = RX6 ∧ yX6_type.cls ≠ "java/lang/invoke/MethodHandle" ∧ yX6_type.cls ≠ "java/lang/invoke/VarHandle" ∧ (parseMethodDescriptor yX6_type.desc).map (fun d => d.parameters.length) = some 2 := by decide +kernel
abbrev rmX6_type : Room := { frames := 1, cells := 0, slots := 0, locals := 24 }
set_option maxHeartbeats 4000000 in
set_option maxRecDepth 100000 in
theorem tX6_type (l : Launch) (G : GG) (a : Nat → Nat) (ta : Nat → Nat) (a_valley : Nat) (a_draft : Nat) (a_images : Nat) (a_run : Nat) (a_ropeSearch : Nat) (a_ringSearch : Nat) (a_woodSearch : Nat) (a_refusedBad : Int32) (a_refusedNo : Int32) (a_refusedFull : Int32) (ta_length : Int32) (ta_text : Nat → Int32) (ta_number : Nat → Int32) (ta_word : Int32) (ta_numbers : Int32) (ta_items : Int32) (ta_refused : Int32) (p0 : Int64) (p1 : Int32) (out : Int32 × Int32 × Int32 × Int32 × Int32 × (Nat → Int32)) (hf : fX6_type a_refusedBad a_refusedNo a_refusedFull ta_length ta_text p0 p1 = some out) : cMi l G yX6_type wsX6_type rmX6_type [.ref (a 0), .long p0, .int p1] (flat [wX6 G a a_valley a_draft a_images ((ta 0)) a_run a_ropeSearch a_ringSearch a_woodSearch a_refusedBad a_refusedNo a_refusedFull, wX2 G ta ta_length ta_text ta_number ta_word ta_numbers ta_items ta_refused]) out.1 (flat [wX6 G a a_valley a_draft a_images ((ta 0)) a_run a_ropeSearch a_ringSearch a_woodSearch out.2.1 out.2.2.1 out.2.2.2.1, wX2 G ta out.2.2.2.2.1 out.2.2.2.2.2 ta_number ta_word ta_numbers ta_items ta_refused]) := by
  intro sz
  refine met_of (cc := cX6_type) (nL := 4) (ret := (some .int)) (Qc := fun A9 => QI G A9 out.1 (flat [wX6 G a a_valley a_draft a_images ((ta 0)) a_run a_ropeSearch a_ringSearch a_woodSearch out.2.1 out.2.2.1 out.2.2.2.1, wX2 G ta out.2.2.2.2.1 out.2.2.2.2.2 ta_number ta_word ta_numbers ta_items ta_refused])) (by decide) rfl (Nat.le_of_ble_eq_true rfl) ?_
  intro p e s m args below meth c A ls C hP hD hS hl
  obtain ⟨⟨hx, hb, hml, hown, hts⟩, hr, hlocks, hK, hN, hE, hA⟩ := id C
  have hl : lv_has ls 4 [(0, .ref (a 0)), (1, .long p0), (3, .int p1)] := hl
  unfold fX6_type at hf
  refine lv_aload_n hx hb dX6_type_0 rfl (lv_at hl 0 rfl) ?_
  refine lv_aload_n hx hb dX6_type_1 rfl (lv_at hl 0 rfl) ?_
  refine va_get (D := G.1) (ci := 6) (v := .ref (ta 0)) (C := RX6) (T := TX6) (N := 11) hx hb hts iiX6_type_X6 hown hK hP 0 rfl rfl 3 (by decide) (hts _ mmX6_type_1) (fun _ h9 => h9) rfl dX6_type_2 ?_
  refine lv_lload_n hx hb dX6_type_5 rfl (lv_at hl 1 rfl) ?_
  refine lv_iload_n hx hb dX6_type_6 rfl (lv_at hl 2 rfl) ?_
  obtain ⟨g1, hg1, hf⟩ := o_b hf
  refine bVi (Bs' := [wX6 G a a_valley a_draft a_images ((ta 0)) a_run a_ropeSearch a_ringSearch a_woodSearch a_refusedBad a_refusedNo a_refusedFull, wX2 G ta g1.2.1 g1.2.2 ta_number ta_word ta_numbers ta_items ta_refused]) C hP hD hS (tX2_write l G ta ta_length ta_text ta_number ta_word ta_numbers ta_items ta_refused p0 p1 g1 hg1) gX6_type_X2_write rfl ⟨rfl, rfl⟩ hdX2_write ⟨Nat.le_of_ble_eq_true rfl, Nat.le_of_ble_eq_true rfl⟩ rfl hl.1 rfl (Nat.le_of_ble_eq_true rfl) ⟨Nat.le_of_ble_eq_true rfl, Nat.le_of_ble_eq_true rfl⟩ [1] rfl rfl rfl rfl rfl (ci := 2) (q0 := 1) rfl rfl rfl dX6_type_7 (fun H locs hP hD hS => ?_)
  have hP : va_P G.1 vwCl (flat [wX6 G a a_valley a_draft a_images ((ta 0)) a_run a_ropeSearch a_ringSearch a_woodSearch a_refusedBad a_refusedNo a_refusedFull, wX2 G ta g1.2.1 g1.2.2 ta_number ta_word ta_numbers ta_items ta_refused]) H := hP
  have hD : va_D A (flat [wX6 G a a_valley a_draft a_images ((ta 0)) a_run a_ropeSearch a_ringSearch a_woodSearch a_refusedBad a_refusedNo a_refusedFull, wX2 G ta g1.2.1 g1.2.2 ta_number ta_word ta_numbers ta_items ta_refused]) := hD
  obtain ⟨g2, hg2, hf⟩ := o_b hf
  refine bVi (Bs' := [wX6 G a a_valley a_draft a_images ((ta 0)) a_run a_ropeSearch a_ringSearch a_woodSearch g2.2.1 g2.2.2.1 g2.2.2.2, wX2 G ta g1.2.1 g1.2.2 ta_number ta_word ta_numbers ta_items ta_refused]) C hP hD hS (tX6_counted l G a a_valley a_draft a_images ((ta 0)) a_run a_ropeSearch a_ringSearch a_woodSearch a_refusedBad a_refusedNo a_refusedFull g1.1 g2 hg2) gX6_type_X6_counted rfl ⟨rfl, rfl⟩ hdX6_counted ⟨Nat.le_of_ble_eq_true rfl, Nat.le_of_ble_eq_true rfl⟩ rfl hl.1 rfl (Nat.le_of_ble_eq_true rfl) ⟨Nat.le_of_ble_eq_true rfl, Nat.le_of_ble_eq_true rfl⟩ [0] rfl rfl rfl rfl rfl (ci := 6) (q0 := 0) rfl rfl rfl dX6_type_10 (fun H locs hP hD hS => ?_)
  have hP : va_P G.1 vwCl (flat [wX6 G a a_valley a_draft a_images ((ta 0)) a_run a_ropeSearch a_ringSearch a_woodSearch g2.2.1 g2.2.2.1 g2.2.2.2, wX2 G ta g1.2.1 g1.2.2 ta_number ta_word ta_numbers ta_items ta_refused]) H := hP
  have hD : va_D A (flat [wX6 G a a_valley a_draft a_images ((ta 0)) a_run a_ropeSearch a_ringSearch a_woodSearch g2.2.1 g2.2.2.1 g2.2.2.2, wX2 G ta g1.2.1 g1.2.2 ta_number ta_word ta_numbers ta_items ta_refused]) := hD
  have e9 := Option.some.inj hf
  subst e9
  exact rt_i C hP hS rfl dX6_type_13

/-! RX6 clear()I -/
theorem iiX6_clear_X6 : ∀ w ∈ wsX60, w ∈ wsX6_clear := by decide +kernel
theorem mmX6_clear_1 : (Cond.fieldLink RX6 26 "BlindBells" "tale" "LBlindBells$Tale;") ∈ wsX6_clear := by decide +kernel
theorem hdX6_clear : yX6_clear.cls = RX6 ∧ yX6_clear.cls ≠ "java/lang/invoke/MethodHandle" ∧ yX6_clear.cls ≠ "java/lang/invoke/VarHandle" ∧ (parseMethodDescriptor yX6_clear.desc).map (fun d => d.parameters.length) = some 0 := by decide +kernel
abbrev rmX6_clear : Room := { frames := 1, cells := 0, slots := 0, locals := 21 }
set_option maxHeartbeats 4000000 in
set_option maxRecDepth 100000 in
theorem tX6_clear (l : Launch) (G : GG) (a : Nat → Nat) (ta : Nat → Nat) (a_valley : Nat) (a_draft : Nat) (a_images : Nat) (a_run : Nat) (a_ropeSearch : Nat) (a_ringSearch : Nat) (a_woodSearch : Nat) (a_refusedBad : Int32) (a_refusedNo : Int32) (a_refusedFull : Int32) (ta_length : Int32) (ta_text : Nat → Int32) (ta_number : Nat → Int32) (ta_word : Int32) (ta_numbers : Int32) (ta_items : Int32) (ta_refused : Int32) (out : Int32 × Int32) (hf : fX6_clear ta_length = some out) : cMi l G yX6_clear wsX6_clear rmX6_clear [.ref (a 0)] (flat [wX6 G a a_valley a_draft a_images ((ta 0)) a_run a_ropeSearch a_ringSearch a_woodSearch a_refusedBad a_refusedNo a_refusedFull, wX2 G ta ta_length ta_text ta_number ta_word ta_numbers ta_items ta_refused]) out.1 (flat [wX6 G a a_valley a_draft a_images ((ta 0)) a_run a_ropeSearch a_ringSearch a_woodSearch a_refusedBad a_refusedNo a_refusedFull, wX2 G ta out.2 ta_text ta_number ta_word ta_numbers ta_items ta_refused]) := by
  intro sz
  refine met_of (cc := cX6_clear) (nL := 1) (ret := (some .int)) (Qc := fun A9 => QI G A9 out.1 (flat [wX6 G a a_valley a_draft a_images ((ta 0)) a_run a_ropeSearch a_ringSearch a_woodSearch a_refusedBad a_refusedNo a_refusedFull, wX2 G ta out.2 ta_text ta_number ta_word ta_numbers ta_items ta_refused])) (by decide) rfl (Nat.le_of_ble_eq_true rfl) ?_
  intro p e s m args below meth c A ls C hP hD hS hl
  obtain ⟨⟨hx, hb, hml, hown, hts⟩, hr, hlocks, hK, hN, hE, hA⟩ := id C
  have hl : lv_has ls 1 [(0, .ref (a 0))] := hl
  unfold fX6_clear at hf
  refine lv_aload_n hx hb dX6_clear_0 rfl (lv_at hl 0 rfl) ?_
  refine va_get (D := G.1) (ci := 6) (v := .ref (ta 0)) (C := RX6) (T := TX6) (N := 11) hx hb hts iiX6_clear_X6 hown hK hP 0 rfl rfl 3 (by decide) (hts _ mmX6_clear_1) (fun _ h9 => h9) rfl dX6_clear_1 ?_
  obtain ⟨g1, hg1, hf⟩ := o_b hf
  refine bVi (Bs' := [wX6 G a a_valley a_draft a_images ((ta 0)) a_run a_ropeSearch a_ringSearch a_woodSearch a_refusedBad a_refusedNo a_refusedFull, wX2 G ta g1.2 ta_text ta_number ta_word ta_numbers ta_items ta_refused]) C hP hD hS (tX2_wipe l G ta ta_length ta_text ta_number ta_word ta_numbers ta_items ta_refused g1 hg1) gX6_clear_X2_wipe rfl ⟨rfl, rfl⟩ hdX2_wipe ⟨Nat.le_of_ble_eq_true rfl, Nat.le_of_ble_eq_true rfl⟩ rfl hl.1 rfl (Nat.le_of_ble_eq_true rfl) ⟨Nat.le_of_ble_eq_true rfl, Nat.le_of_ble_eq_true rfl⟩ [1] rfl rfl rfl rfl rfl (ci := 2) (q0 := 1) rfl rfl rfl dX6_clear_4 (fun H locs hP hD hS => ?_)
  have hP : va_P G.1 vwCl (flat [wX6 G a a_valley a_draft a_images ((ta 0)) a_run a_ropeSearch a_ringSearch a_woodSearch a_refusedBad a_refusedNo a_refusedFull, wX2 G ta g1.2 ta_text ta_number ta_word ta_numbers ta_items ta_refused]) H := hP
  have hD : va_D A (flat [wX6 G a a_valley a_draft a_images ((ta 0)) a_run a_ropeSearch a_ringSearch a_woodSearch a_refusedBad a_refusedNo a_refusedFull, wX2 G ta g1.2 ta_text ta_number ta_word ta_numbers ta_items ta_refused]) := hD
  have e9 := Option.some.inj hf
  subst e9
  exact rt_i C hP hS rfl dX6_clear_7

/-! RX6 read()I -/
theorem iiX6_read_X6 : ∀ w ∈ wsX60, w ∈ wsX6_read := by decide +kernel
theorem mmX6_read_1 : (Cond.fieldLink RX6 26 "BlindBells" "tale" "LBlindBells$Tale;") ∈ wsX6_read := by decide +kernel
theorem mmX6_read_2 : (Cond.fieldLink RX6 16 "BlindBells" "draft" "LBlindBells$Valley;") ∈ wsX6_read := by decide +kernel
theorem mmX6_read_3 : (Cond.fieldLink RX6 12 "BlindBells" "valley" "LBlindBells$Valley;") ∈ wsX6_read := by decide +kernel
theorem hdX6_read : yX6_read.cls = RX6 ∧ yX6_read.cls ≠ "java/lang/invoke/MethodHandle" ∧ yX6_read.cls ≠ "java/lang/invoke/VarHandle" ∧ (parseMethodDescriptor yX6_read.desc).map (fun d => d.parameters.length) = some 0 := by decide +kernel
abbrev rmX6_read : Room := { frames := 10, cells := 0, slots := 0, locals := 235 }
set_option maxHeartbeats 4000000 in
set_option maxRecDepth 100000 in
theorem tX6_read (l : Launch) (G : GG) (a : Nat → Nat) (va : Nat → Nat) (da : Nat → Nat) (ta : Nat → Nat) (a_images : Nat) (a_run : Nat) (a_ropeSearch : Nat) (a_ringSearch : Nat) (a_woodSearch : Nat) (a_refusedBad : Int32) (a_refusedNo : Int32) (a_refusedFull : Int32) (va_villages : Int32) (va_woods : Int32) (va_needs : Int32) (va_signs : Int32) (va_temper : Nat → Int32) (va_friend : Nat → Int32) (va_rope : Nat → Int32) (va_hears : Nat → Int32) (va_shut : Nat → Int32) (va_woodBell : Nat → Int32) (va_woodVillage : Nat → Int32) (va_needVillage : Nat → Int32) (va_needWind : Nat → Int32) (va_needSeen : Nat → Int32) (va_sign : Nat → Int32) (da_villages : Int32) (da_woods : Int32) (da_needs : Int32) (da_signs : Int32) (da_temper : Nat → Int32) (da_friend : Nat → Int32) (da_rope : Nat → Int32) (da_hears : Nat → Int32) (da_shut : Nat → Int32) (da_woodBell : Nat → Int32) (da_woodVillage : Nat → Int32) (da_needVillage : Nat → Int32) (da_needWind : Nat → Int32) (da_needSeen : Nat → Int32) (da_sign : Nat → Int32) (ta_length : Int32) (ta_text : Nat → Int32) (ta_number : Nat → Int32) (ta_word : Int32) (ta_numbers : Int32) (ta_items : Int32) (ta_refused : Int32) (out : Int32 × Int32 × Int32 × Int32 × Int32 × (Nat → Int32) × (Nat → Int32) × (Nat → Int32) × (Nat → Int32) × (Nat → Int32) × (Nat → Int32) × (Nat → Int32) × (Nat → Int32) × (Nat → Int32) × (Nat → Int32) × (Nat → Int32) × Int32 × Int32 × Int32 × Int32 × (Nat → Int32) × (Nat → Int32) × (Nat → Int32) × (Nat → Int32) × (Nat → Int32) × (Nat → Int32) × (Nat → Int32) × (Nat → Int32) × (Nat → Int32) × (Nat → Int32) × (Nat → Int32) × Int32 × Int32 × Int32 × Int32) (hf : fX6_read va_villages va_woods va_needs va_signs va_temper va_friend va_rope va_hears va_shut va_woodBell va_woodVillage va_needVillage va_needWind va_needSeen va_sign da_villages da_woods da_needs da_signs da_temper da_friend da_rope da_hears da_shut da_woodBell da_woodVillage da_needVillage da_needWind da_needSeen da_sign ta_length ta_text ta_number ta_numbers = some out) : cMi l G yX6_read wsX6_read rmX6_read [.ref (a 0)] (flat [wX6 G a ((va 0)) ((da 0)) a_images ((ta 0)) a_run a_ropeSearch a_ringSearch a_woodSearch a_refusedBad a_refusedNo a_refusedFull, wX3 G va va_villages va_woods va_needs va_signs va_temper va_friend va_rope va_hears va_shut va_woodBell va_woodVillage va_needVillage va_needWind va_needSeen va_sign, wX3 G da da_villages da_woods da_needs da_signs da_temper da_friend da_rope da_hears da_shut da_woodBell da_woodVillage da_needVillage da_needWind da_needSeen da_sign, wX2 G ta ta_length ta_text ta_number ta_word ta_numbers ta_items ta_refused]) out.1 (flat [wX6 G a ((va 0)) ((da 0)) a_images ((ta 0)) a_run a_ropeSearch a_ringSearch a_woodSearch a_refusedBad a_refusedNo a_refusedFull, wX3 G va out.2.1 out.2.2.1 out.2.2.2.1 out.2.2.2.2.1 out.2.2.2.2.2.1 out.2.2.2.2.2.2.1 out.2.2.2.2.2.2.2.1 out.2.2.2.2.2.2.2.2.1 out.2.2.2.2.2.2.2.2.2.1 out.2.2.2.2.2.2.2.2.2.2.1 out.2.2.2.2.2.2.2.2.2.2.2.1 out.2.2.2.2.2.2.2.2.2.2.2.2.1 out.2.2.2.2.2.2.2.2.2.2.2.2.2.1 out.2.2.2.2.2.2.2.2.2.2.2.2.2.2.1 out.2.2.2.2.2.2.2.2.2.2.2.2.2.2.2.1, wX3 G da out.2.2.2.2.2.2.2.2.2.2.2.2.2.2.2.2.1 out.2.2.2.2.2.2.2.2.2.2.2.2.2.2.2.2.2.1 out.2.2.2.2.2.2.2.2.2.2.2.2.2.2.2.2.2.2.1 out.2.2.2.2.2.2.2.2.2.2.2.2.2.2.2.2.2.2.2.1 out.2.2.2.2.2.2.2.2.2.2.2.2.2.2.2.2.2.2.2.2.1 out.2.2.2.2.2.2.2.2.2.2.2.2.2.2.2.2.2.2.2.2.2.1 out.2.2.2.2.2.2.2.2.2.2.2.2.2.2.2.2.2.2.2.2.2.2.1 out.2.2.2.2.2.2.2.2.2.2.2.2.2.2.2.2.2.2.2.2.2.2.2.1 out.2.2.2.2.2.2.2.2.2.2.2.2.2.2.2.2.2.2.2.2.2.2.2.2.1 out.2.2.2.2.2.2.2.2.2.2.2.2.2.2.2.2.2.2.2.2.2.2.2.2.2.1 out.2.2.2.2.2.2.2.2.2.2.2.2.2.2.2.2.2.2.2.2.2.2.2.2.2.2.1 out.2.2.2.2.2.2.2.2.2.2.2.2.2.2.2.2.2.2.2.2.2.2.2.2.2.2.2.1 out.2.2.2.2.2.2.2.2.2.2.2.2.2.2.2.2.2.2.2.2.2.2.2.2.2.2.2.2.1 out.2.2.2.2.2.2.2.2.2.2.2.2.2.2.2.2.2.2.2.2.2.2.2.2.2.2.2.2.2.1 da_sign, wX2 G ta ta_length ta_text out.2.2.2.2.2.2.2.2.2.2.2.2.2.2.2.2.2.2.2.2.2.2.2.2.2.2.2.2.2.2.1 out.2.2.2.2.2.2.2.2.2.2.2.2.2.2.2.2.2.2.2.2.2.2.2.2.2.2.2.2.2.2.2.1 out.2.2.2.2.2.2.2.2.2.2.2.2.2.2.2.2.2.2.2.2.2.2.2.2.2.2.2.2.2.2.2.2.1 out.2.2.2.2.2.2.2.2.2.2.2.2.2.2.2.2.2.2.2.2.2.2.2.2.2.2.2.2.2.2.2.2.2.1 out.2.2.2.2.2.2.2.2.2.2.2.2.2.2.2.2.2.2.2.2.2.2.2.2.2.2.2.2.2.2.2.2.2.2]) := by
  intro sz
  refine met_of (cc := cX6_read) (nL := 2) (ret := (some .int)) (Qc := fun A9 => QI G A9 out.1 (flat [wX6 G a ((va 0)) ((da 0)) a_images ((ta 0)) a_run a_ropeSearch a_ringSearch a_woodSearch a_refusedBad a_refusedNo a_refusedFull, wX3 G va out.2.1 out.2.2.1 out.2.2.2.1 out.2.2.2.2.1 out.2.2.2.2.2.1 out.2.2.2.2.2.2.1 out.2.2.2.2.2.2.2.1 out.2.2.2.2.2.2.2.2.1 out.2.2.2.2.2.2.2.2.2.1 out.2.2.2.2.2.2.2.2.2.2.1 out.2.2.2.2.2.2.2.2.2.2.2.1 out.2.2.2.2.2.2.2.2.2.2.2.2.1 out.2.2.2.2.2.2.2.2.2.2.2.2.2.1 out.2.2.2.2.2.2.2.2.2.2.2.2.2.2.1 out.2.2.2.2.2.2.2.2.2.2.2.2.2.2.2.1, wX3 G da out.2.2.2.2.2.2.2.2.2.2.2.2.2.2.2.2.1 out.2.2.2.2.2.2.2.2.2.2.2.2.2.2.2.2.2.1 out.2.2.2.2.2.2.2.2.2.2.2.2.2.2.2.2.2.2.1 out.2.2.2.2.2.2.2.2.2.2.2.2.2.2.2.2.2.2.2.1 out.2.2.2.2.2.2.2.2.2.2.2.2.2.2.2.2.2.2.2.2.1 out.2.2.2.2.2.2.2.2.2.2.2.2.2.2.2.2.2.2.2.2.2.1 out.2.2.2.2.2.2.2.2.2.2.2.2.2.2.2.2.2.2.2.2.2.2.1 out.2.2.2.2.2.2.2.2.2.2.2.2.2.2.2.2.2.2.2.2.2.2.2.1 out.2.2.2.2.2.2.2.2.2.2.2.2.2.2.2.2.2.2.2.2.2.2.2.2.1 out.2.2.2.2.2.2.2.2.2.2.2.2.2.2.2.2.2.2.2.2.2.2.2.2.2.1 out.2.2.2.2.2.2.2.2.2.2.2.2.2.2.2.2.2.2.2.2.2.2.2.2.2.2.1 out.2.2.2.2.2.2.2.2.2.2.2.2.2.2.2.2.2.2.2.2.2.2.2.2.2.2.2.1 out.2.2.2.2.2.2.2.2.2.2.2.2.2.2.2.2.2.2.2.2.2.2.2.2.2.2.2.2.1 out.2.2.2.2.2.2.2.2.2.2.2.2.2.2.2.2.2.2.2.2.2.2.2.2.2.2.2.2.2.1 da_sign, wX2 G ta ta_length ta_text out.2.2.2.2.2.2.2.2.2.2.2.2.2.2.2.2.2.2.2.2.2.2.2.2.2.2.2.2.2.2.1 out.2.2.2.2.2.2.2.2.2.2.2.2.2.2.2.2.2.2.2.2.2.2.2.2.2.2.2.2.2.2.2.1 out.2.2.2.2.2.2.2.2.2.2.2.2.2.2.2.2.2.2.2.2.2.2.2.2.2.2.2.2.2.2.2.2.1 out.2.2.2.2.2.2.2.2.2.2.2.2.2.2.2.2.2.2.2.2.2.2.2.2.2.2.2.2.2.2.2.2.2.1 out.2.2.2.2.2.2.2.2.2.2.2.2.2.2.2.2.2.2.2.2.2.2.2.2.2.2.2.2.2.2.2.2.2.2])) (by decide) rfl (Nat.le_of_ble_eq_true rfl) ?_
  intro p e s m args below meth c A ls C hP hD hS hl
  obtain ⟨⟨hx, hb, hml, hown, hts⟩, hr, hlocks, hK, hN, hE, hA⟩ := id C
  have hl : lv_has ls 2 [(0, .ref (a 0))] := hl
  unfold fX6_read at hf
  refine lv_aload_n hx hb dX6_read_0 rfl (lv_at hl 0 rfl) ?_
  refine va_get (D := G.1) (ci := 6) (v := .ref (ta 0)) (C := RX6) (T := TX6) (N := 11) hx hb hts iiX6_read_X6 hown hK hP 0 rfl rfl 3 (by decide) (hts _ mmX6_read_1) (fun _ h9 => h9) rfl dX6_read_1 ?_
  refine lv_aload_n hx hb dX6_read_4 rfl (lv_at hl 0 rfl) ?_
  refine va_get (D := G.1) (ci := 6) (v := .ref (da 0)) (C := RX6) (T := TX6) (N := 11) hx hb hts iiX6_read_X6 hown hK hP 0 rfl rfl 1 (by decide) (hts _ mmX6_read_2) (fun _ h9 => h9) rfl dX6_read_5 ?_
  obtain ⟨g1, hg1, hf⟩ := o_b hf
  refine bVi (Bs' := [wX6 G a ((va 0)) ((da 0)) a_images ((ta 0)) a_run a_ropeSearch a_ringSearch a_woodSearch a_refusedBad a_refusedNo a_refusedFull, wX3 G va va_villages va_woods va_needs va_signs va_temper va_friend va_rope va_hears va_shut va_woodBell va_woodVillage va_needVillage va_needWind va_needSeen va_sign, wX3 G da g1.2.2.2.2.2.2.1 g1.2.2.2.2.2.2.2.1 g1.2.2.2.2.2.2.2.2.1 g1.2.2.2.2.2.2.2.2.2.1 g1.2.2.2.2.2.2.2.2.2.2.1 g1.2.2.2.2.2.2.2.2.2.2.2.1 g1.2.2.2.2.2.2.2.2.2.2.2.2.1 g1.2.2.2.2.2.2.2.2.2.2.2.2.2.1 g1.2.2.2.2.2.2.2.2.2.2.2.2.2.2.1 g1.2.2.2.2.2.2.2.2.2.2.2.2.2.2.2.1 g1.2.2.2.2.2.2.2.2.2.2.2.2.2.2.2.2.1 g1.2.2.2.2.2.2.2.2.2.2.2.2.2.2.2.2.2.1 g1.2.2.2.2.2.2.2.2.2.2.2.2.2.2.2.2.2.2.1 g1.2.2.2.2.2.2.2.2.2.2.2.2.2.2.2.2.2.2.2 da_sign, wX2 G ta ta_length ta_text g1.2.1 g1.2.2.1 g1.2.2.2.1 g1.2.2.2.2.1 g1.2.2.2.2.2.1]) C hP hD hS (tX2_tell l G ta da ta_length ta_text ta_number ta_word ta_numbers ta_items ta_refused da_villages da_woods da_needs da_signs da_temper da_friend da_rope da_hears da_shut da_woodBell da_woodVillage da_needVillage da_needWind da_needSeen da_sign g1 hg1) gX6_read_X2_tell rfl ⟨rfl, rfl⟩ hdX2_tell ⟨Nat.le_of_ble_eq_true rfl, Nat.le_of_ble_eq_true rfl⟩ rfl hl.1 rfl (Nat.le_of_ble_eq_true rfl) ⟨Nat.le_of_ble_eq_true rfl, Nat.le_of_ble_eq_true rfl⟩ [3, 2] rfl rfl rfl rfl rfl (ci := 2) (q0 := 25) rfl rfl rfl dX6_read_8 (fun H locs hP hD hS => ?_)
  have hP : va_P G.1 vwCl (flat [wX6 G a ((va 0)) ((da 0)) a_images ((ta 0)) a_run a_ropeSearch a_ringSearch a_woodSearch a_refusedBad a_refusedNo a_refusedFull, wX3 G va va_villages va_woods va_needs va_signs va_temper va_friend va_rope va_hears va_shut va_woodBell va_woodVillage va_needVillage va_needWind va_needSeen va_sign, wX3 G da g1.2.2.2.2.2.2.1 g1.2.2.2.2.2.2.2.1 g1.2.2.2.2.2.2.2.2.1 g1.2.2.2.2.2.2.2.2.2.1 g1.2.2.2.2.2.2.2.2.2.2.1 g1.2.2.2.2.2.2.2.2.2.2.2.1 g1.2.2.2.2.2.2.2.2.2.2.2.2.1 g1.2.2.2.2.2.2.2.2.2.2.2.2.2.1 g1.2.2.2.2.2.2.2.2.2.2.2.2.2.2.1 g1.2.2.2.2.2.2.2.2.2.2.2.2.2.2.2.1 g1.2.2.2.2.2.2.2.2.2.2.2.2.2.2.2.2.1 g1.2.2.2.2.2.2.2.2.2.2.2.2.2.2.2.2.2.1 g1.2.2.2.2.2.2.2.2.2.2.2.2.2.2.2.2.2.2.1 g1.2.2.2.2.2.2.2.2.2.2.2.2.2.2.2.2.2.2.2 da_sign, wX2 G ta ta_length ta_text g1.2.1 g1.2.2.1 g1.2.2.2.1 g1.2.2.2.2.1 g1.2.2.2.2.2.1]) H := hP
  have hD : va_D A (flat [wX6 G a ((va 0)) ((da 0)) a_images ((ta 0)) a_run a_ropeSearch a_ringSearch a_woodSearch a_refusedBad a_refusedNo a_refusedFull, wX3 G va va_villages va_woods va_needs va_signs va_temper va_friend va_rope va_hears va_shut va_woodBell va_woodVillage va_needVillage va_needWind va_needSeen va_sign, wX3 G da g1.2.2.2.2.2.2.1 g1.2.2.2.2.2.2.2.1 g1.2.2.2.2.2.2.2.2.1 g1.2.2.2.2.2.2.2.2.2.1 g1.2.2.2.2.2.2.2.2.2.2.1 g1.2.2.2.2.2.2.2.2.2.2.2.1 g1.2.2.2.2.2.2.2.2.2.2.2.2.1 g1.2.2.2.2.2.2.2.2.2.2.2.2.2.1 g1.2.2.2.2.2.2.2.2.2.2.2.2.2.2.1 g1.2.2.2.2.2.2.2.2.2.2.2.2.2.2.2.1 g1.2.2.2.2.2.2.2.2.2.2.2.2.2.2.2.2.1 g1.2.2.2.2.2.2.2.2.2.2.2.2.2.2.2.2.2.1 g1.2.2.2.2.2.2.2.2.2.2.2.2.2.2.2.2.2.2.1 g1.2.2.2.2.2.2.2.2.2.2.2.2.2.2.2.2.2.2.2 da_sign, wX2 G ta ta_length ta_text g1.2.1 g1.2.2.1 g1.2.2.2.1 g1.2.2.2.2.1 g1.2.2.2.2.2.1]) := hD
  refine lv_istore_n (lv' := [(1, .int g1.1), (0, .ref (a 0))]) hx hb dX6_read_11 rfl hl (by decide) rfl (fun ls hl => ?_)
  refine lv_iload_n hx hb dX6_read_12 rfl (lv_at hl 0 rfl) ?_
  refine lv_if_le (tgt := 27) hx hb dX6_read_13 (by decide) (fun c2 => ?_) (fun c2 => ?_)
  · have hf := (o_i hf).1 c2
    refine lv_iload_n hx hb dX6_read_27 rfl (lv_at hl 0 rfl) ?_
    have e9 := Option.some.inj hf
    subst e9
    exact rt_i C hP hS rfl dX6_read_28
  have hf := (o_i hf).2 c2
  refine lv_aload_n hx hb dX6_read_16 rfl (lv_at hl 1 rfl) ?_
  refine va_get (D := G.1) (ci := 6) (v := .ref (va 0)) (C := RX6) (T := TX6) (N := 11) hx hb hts iiX6_read_X6 hown hK hP 0 rfl rfl 0 (by decide) (hts _ mmX6_read_3) (fun _ h9 => h9) rfl dX6_read_17 ?_
  refine lv_aload_n hx hb dX6_read_20 rfl (lv_at hl 1 rfl) ?_
  refine va_get (D := G.1) (ci := 6) (v := .ref (da 0)) (C := RX6) (T := TX6) (N := 11) hx hb hts iiX6_read_X6 hown hK hP 0 rfl rfl 1 (by decide) (hts _ mmX6_read_2) (fun _ h9 => h9) rfl dX6_read_21 ?_
  obtain ⟨g3, hg3, hf⟩ := o_b hf
  refine bVv (Bs' := [wX6 G a ((va 0)) ((da 0)) a_images ((ta 0)) a_run a_ropeSearch a_ringSearch a_woodSearch a_refusedBad a_refusedNo a_refusedFull, wX3 G va g3.1 g3.2.1 g3.2.2.1 g3.2.2.2.1 g3.2.2.2.2.1 g3.2.2.2.2.2.1 g3.2.2.2.2.2.2.1 g3.2.2.2.2.2.2.2.1 g3.2.2.2.2.2.2.2.2.1 g3.2.2.2.2.2.2.2.2.2.1 g3.2.2.2.2.2.2.2.2.2.2.1 g3.2.2.2.2.2.2.2.2.2.2.2.1 g3.2.2.2.2.2.2.2.2.2.2.2.2.1 g3.2.2.2.2.2.2.2.2.2.2.2.2.2.1 g3.2.2.2.2.2.2.2.2.2.2.2.2.2.2, wX3 G da g1.2.2.2.2.2.2.1 g1.2.2.2.2.2.2.2.1 g1.2.2.2.2.2.2.2.2.1 g1.2.2.2.2.2.2.2.2.2.1 g1.2.2.2.2.2.2.2.2.2.2.1 g1.2.2.2.2.2.2.2.2.2.2.2.1 g1.2.2.2.2.2.2.2.2.2.2.2.2.1 g1.2.2.2.2.2.2.2.2.2.2.2.2.2.1 g1.2.2.2.2.2.2.2.2.2.2.2.2.2.2.1 g1.2.2.2.2.2.2.2.2.2.2.2.2.2.2.2.1 g1.2.2.2.2.2.2.2.2.2.2.2.2.2.2.2.2.1 g1.2.2.2.2.2.2.2.2.2.2.2.2.2.2.2.2.2.1 g1.2.2.2.2.2.2.2.2.2.2.2.2.2.2.2.2.2.2.1 g1.2.2.2.2.2.2.2.2.2.2.2.2.2.2.2.2.2.2.2 da_sign, wX2 G ta ta_length ta_text g1.2.1 g1.2.2.1 g1.2.2.2.1 g1.2.2.2.2.1 g1.2.2.2.2.2.1]) C hP hD hS (tX3_copy l G va da va_villages va_woods va_needs va_signs va_temper va_friend va_rope va_hears va_shut va_woodBell va_woodVillage va_needVillage va_needWind va_needSeen va_sign g1.2.2.2.2.2.2.1 g1.2.2.2.2.2.2.2.1 g1.2.2.2.2.2.2.2.2.1 g1.2.2.2.2.2.2.2.2.2.1 g1.2.2.2.2.2.2.2.2.2.2.1 g1.2.2.2.2.2.2.2.2.2.2.2.1 g1.2.2.2.2.2.2.2.2.2.2.2.2.1 g1.2.2.2.2.2.2.2.2.2.2.2.2.2.1 g1.2.2.2.2.2.2.2.2.2.2.2.2.2.2.1 g1.2.2.2.2.2.2.2.2.2.2.2.2.2.2.2.1 g1.2.2.2.2.2.2.2.2.2.2.2.2.2.2.2.2.1 g1.2.2.2.2.2.2.2.2.2.2.2.2.2.2.2.2.2.1 g1.2.2.2.2.2.2.2.2.2.2.2.2.2.2.2.2.2.2.1 g1.2.2.2.2.2.2.2.2.2.2.2.2.2.2.2.2.2.2.2 da_sign g3 hg3) gX6_read_X3_copy rfl ⟨rfl, rfl⟩ hdX3_copy ⟨Nat.le_of_ble_eq_true rfl, Nat.le_of_ble_eq_true rfl⟩ rfl hl.1 rfl (Nat.le_of_ble_eq_true rfl) ⟨Nat.le_of_ble_eq_true rfl, Nat.le_of_ble_eq_true rfl⟩ [1, 2] rfl rfl rfl rfl rfl (ci := 3) (q0 := 1) rfl rfl rfl dX6_read_24 (fun H locs hP hD hS => ?_)
  have hP : va_P G.1 vwCl (flat [wX6 G a ((va 0)) ((da 0)) a_images ((ta 0)) a_run a_ropeSearch a_ringSearch a_woodSearch a_refusedBad a_refusedNo a_refusedFull, wX3 G va g3.1 g3.2.1 g3.2.2.1 g3.2.2.2.1 g3.2.2.2.2.1 g3.2.2.2.2.2.1 g3.2.2.2.2.2.2.1 g3.2.2.2.2.2.2.2.1 g3.2.2.2.2.2.2.2.2.1 g3.2.2.2.2.2.2.2.2.2.1 g3.2.2.2.2.2.2.2.2.2.2.1 g3.2.2.2.2.2.2.2.2.2.2.2.1 g3.2.2.2.2.2.2.2.2.2.2.2.2.1 g3.2.2.2.2.2.2.2.2.2.2.2.2.2.1 g3.2.2.2.2.2.2.2.2.2.2.2.2.2.2, wX3 G da g1.2.2.2.2.2.2.1 g1.2.2.2.2.2.2.2.1 g1.2.2.2.2.2.2.2.2.1 g1.2.2.2.2.2.2.2.2.2.1 g1.2.2.2.2.2.2.2.2.2.2.1 g1.2.2.2.2.2.2.2.2.2.2.2.1 g1.2.2.2.2.2.2.2.2.2.2.2.2.1 g1.2.2.2.2.2.2.2.2.2.2.2.2.2.1 g1.2.2.2.2.2.2.2.2.2.2.2.2.2.2.1 g1.2.2.2.2.2.2.2.2.2.2.2.2.2.2.2.1 g1.2.2.2.2.2.2.2.2.2.2.2.2.2.2.2.2.1 g1.2.2.2.2.2.2.2.2.2.2.2.2.2.2.2.2.2.1 g1.2.2.2.2.2.2.2.2.2.2.2.2.2.2.2.2.2.2.1 g1.2.2.2.2.2.2.2.2.2.2.2.2.2.2.2.2.2.2.2 da_sign, wX2 G ta ta_length ta_text g1.2.1 g1.2.2.1 g1.2.2.2.1 g1.2.2.2.2.1 g1.2.2.2.2.2.1]) H := hP
  have hD : va_D A (flat [wX6 G a ((va 0)) ((da 0)) a_images ((ta 0)) a_run a_ropeSearch a_ringSearch a_woodSearch a_refusedBad a_refusedNo a_refusedFull, wX3 G va g3.1 g3.2.1 g3.2.2.1 g3.2.2.2.1 g3.2.2.2.2.1 g3.2.2.2.2.2.1 g3.2.2.2.2.2.2.1 g3.2.2.2.2.2.2.2.1 g3.2.2.2.2.2.2.2.2.1 g3.2.2.2.2.2.2.2.2.2.1 g3.2.2.2.2.2.2.2.2.2.2.1 g3.2.2.2.2.2.2.2.2.2.2.2.1 g3.2.2.2.2.2.2.2.2.2.2.2.2.1 g3.2.2.2.2.2.2.2.2.2.2.2.2.2.1 g3.2.2.2.2.2.2.2.2.2.2.2.2.2.2, wX3 G da g1.2.2.2.2.2.2.1 g1.2.2.2.2.2.2.2.1 g1.2.2.2.2.2.2.2.2.1 g1.2.2.2.2.2.2.2.2.2.1 g1.2.2.2.2.2.2.2.2.2.2.1 g1.2.2.2.2.2.2.2.2.2.2.2.1 g1.2.2.2.2.2.2.2.2.2.2.2.2.1 g1.2.2.2.2.2.2.2.2.2.2.2.2.2.1 g1.2.2.2.2.2.2.2.2.2.2.2.2.2.2.1 g1.2.2.2.2.2.2.2.2.2.2.2.2.2.2.2.1 g1.2.2.2.2.2.2.2.2.2.2.2.2.2.2.2.2.1 g1.2.2.2.2.2.2.2.2.2.2.2.2.2.2.2.2.2.1 g1.2.2.2.2.2.2.2.2.2.2.2.2.2.2.2.2.2.2.1 g1.2.2.2.2.2.2.2.2.2.2.2.2.2.2.2.2.2.2.2 da_sign, wX2 G ta ta_length ta_text g1.2.1 g1.2.2.1 g1.2.2.2.1 g1.2.2.2.2.1 g1.2.2.2.2.2.1]) := hD
  refine lv_iload_n hx hb dX6_read_27 rfl (lv_at hl 0 rfl) ?_
  have e9 := Option.some.inj hf
  subst e9
  exact rt_i C hP hS rfl dX6_read_28

/-! RX6 rang(II)I -/
theorem iiX6_rang_X6 : ∀ w ∈ wsX60, w ∈ wsX6_rang := by decide +kernel
theorem mmX6_rang_1 : (Cond.fieldLink RX6 12 "BlindBells" "valley" "LBlindBells$Valley;") ∈ wsX6_rang := by decide +kernel
theorem iiX6_rang_X3 : ∀ w ∈ wsX30, w ∈ wsX6_rang := by decide +kernel
theorem mmX6_rang_3 : (Cond.fieldLink RX6 119 "BlindBells$Valley" "needs" "I") ∈ wsX6_rang := by decide +kernel
theorem mmX6_rang_4 : (Cond.fieldLink RX6 33 "BlindBells" "run" "LBlindBells$ValleyRun;") ∈ wsX6_rang := by decide +kernel
theorem iiX6_rang_X4 : ∀ w ∈ wsX40, w ∈ wsX6_rang := by decide +kernel
theorem mmX6_rang_6 : (Cond.fieldLink RX6 132 "BlindBells$ValleyRun" "rang" "[I") ∈ wsX6_rang := by decide +kernel
theorem mmX6_rang_7 : (Cond.fieldLink RX6 128 "BlindBells$ValleyRun" "due" "[I") ∈ wsX6_rang := by decide +kernel
theorem hdX6_rang : yX6_rang.cls = RX6 ∧ yX6_rang.cls ≠ "java/lang/invoke/MethodHandle" ∧ yX6_rang.cls ≠ "java/lang/invoke/VarHandle" ∧ (parseMethodDescriptor yX6_rang.desc).map (fun d => d.parameters.length) = some 2 := by decide +kernel
abbrev rmX6_rang : Room := { frames := 5, cells := 0, slots := 0, locals := 113 }
set_option maxHeartbeats 4000000 in
set_option maxRecDepth 100000 in
theorem tX6_rang (l : Launch) (G : GG) (a : Nat → Nat) (va : Nat → Nat) (na : Nat → Nat) (a_draft : Nat) (a_images : Nat) (a_tale : Nat) (a_ropeSearch : Nat) (a_ringSearch : Nat) (a_woodSearch : Nat) (a_refusedBad : Int32) (a_refusedNo : Int32) (a_refusedFull : Int32) (va_villages : Int32) (va_woods : Int32) (va_needs : Int32) (va_signs : Int32) (va_temper : Nat → Int32) (va_friend : Nat → Int32) (va_rope : Nat → Int32) (va_hears : Nat → Int32) (va_shut : Nat → Int32) (va_woodBell : Nat → Int32) (va_woodVillage : Nat → Int32) (va_needVillage : Nat → Int32) (va_needWind : Nat → Int32) (va_needSeen : Nat → Int32) (va_sign : Nat → Int32) (na_due : Nat → Int32) (na_rang : Nat → Int32) (na_times : Nat → Int32) (na_last : Nat → Int32) (p0 : Int32) (p1 : Int32) (out : Int32 × Int32 × Int32 × Int32 × (Nat → Int32) × (Nat → Int32) × (Nat → Int32) × (Nat → Int32)) (hf : fX6_rang a_refusedBad a_refusedNo a_refusedFull va_villages va_needs va_temper va_friend va_rope va_hears va_shut va_needVillage va_needWind va_needSeen na_due na_rang na_times na_last p0 p1 = some out) : cMi l G yX6_rang wsX6_rang rmX6_rang [.ref (a 0), .int p0, .int p1] (flat [wX6 G a ((va 0)) a_draft a_images a_tale ((na 0)) a_ropeSearch a_ringSearch a_woodSearch a_refusedBad a_refusedNo a_refusedFull, wX3 G va va_villages va_woods va_needs va_signs va_temper va_friend va_rope va_hears va_shut va_woodBell va_woodVillage va_needVillage va_needWind va_needSeen va_sign, wX4 G na na_due na_rang na_times na_last]) out.1 (flat [wX6 G a ((va 0)) a_draft a_images a_tale ((na 0)) a_ropeSearch a_ringSearch a_woodSearch out.2.1 out.2.2.1 out.2.2.2.1, wX3 G va va_villages va_woods va_needs va_signs va_temper va_friend va_rope va_hears va_shut va_woodBell va_woodVillage va_needVillage va_needWind va_needSeen va_sign, wX4 G na out.2.2.2.2.1 out.2.2.2.2.2.1 out.2.2.2.2.2.2.1 out.2.2.2.2.2.2.2]) := by
  intro sz
  refine met_of (cc := cX6_rang) (nL := 3) (ret := (some .int)) (Qc := fun A9 => QI G A9 out.1 (flat [wX6 G a ((va 0)) a_draft a_images a_tale ((na 0)) a_ropeSearch a_ringSearch a_woodSearch out.2.1 out.2.2.1 out.2.2.2.1, wX3 G va va_villages va_woods va_needs va_signs va_temper va_friend va_rope va_hears va_shut va_woodBell va_woodVillage va_needVillage va_needWind va_needSeen va_sign, wX4 G na out.2.2.2.2.1 out.2.2.2.2.2.1 out.2.2.2.2.2.2.1 out.2.2.2.2.2.2.2])) (by decide) rfl (Nat.le_of_ble_eq_true rfl) ?_
  intro p e s m args below meth c A ls C hP hD hS hl
  obtain ⟨⟨hx, hb, hml, hown, hts⟩, hr, hlocks, hK, hN, hE, hA⟩ := id C
  have hl : lv_has ls 3 [(0, .ref (a 0)), (1, .int p0), (2, .int p1)] := hl
  unfold fX6_rang at hf
  refine lv_iload_n hx hb dX6_rang_0 rfl (lv_at hl 1 rfl) ?_
  refine lv_if_lt (tgt := 22) hx hb dX6_rang_1 (by decide) (fun c1 => ?_) (fun c1 => ?_)
  · have hf := (o_i hf).1 c1
    refine lv_aload_n hx hb dX6_rang_22 rfl (lv_at hl 0 rfl) ?_
    refine lv_bipush (v := (-2)) hx hb dX6_rang_23 (by decide) ?_
    obtain ⟨g2, hg2, hf⟩ := o_b hf
    refine bVi (Bs' := [wX6 G a ((va 0)) a_draft a_images a_tale ((na 0)) a_ropeSearch a_ringSearch a_woodSearch g2.2.1 g2.2.2.1 g2.2.2.2, wX3 G va va_villages va_woods va_needs va_signs va_temper va_friend va_rope va_hears va_shut va_woodBell va_woodVillage va_needVillage va_needWind va_needSeen va_sign, wX4 G na na_due na_rang na_times na_last]) C hP hD hS (tX6_counted l G a ((va 0)) a_draft a_images a_tale ((na 0)) a_ropeSearch a_ringSearch a_woodSearch a_refusedBad a_refusedNo a_refusedFull ((-2)) g2 hg2) gX6_rang_X6_counted rfl ⟨rfl, rfl⟩ hdX6_counted ⟨Nat.le_of_ble_eq_true rfl, Nat.le_of_ble_eq_true rfl⟩ rfl hl.1 rfl (Nat.le_of_ble_eq_true rfl) ⟨Nat.le_of_ble_eq_true rfl, Nat.le_of_ble_eq_true rfl⟩ [0] rfl rfl rfl rfl rfl (ci := 6) (q0 := 0) rfl rfl rfl dX6_rang_25 (fun H locs hP hD hS => ?_)
    have hP : va_P G.1 vwCl (flat [wX6 G a ((va 0)) a_draft a_images a_tale ((na 0)) a_ropeSearch a_ringSearch a_woodSearch g2.2.1 g2.2.2.1 g2.2.2.2, wX3 G va va_villages va_woods va_needs va_signs va_temper va_friend va_rope va_hears va_shut va_woodBell va_woodVillage va_needVillage va_needWind va_needSeen va_sign, wX4 G na na_due na_rang na_times na_last]) H := hP
    have hD : va_D A (flat [wX6 G a ((va 0)) a_draft a_images a_tale ((na 0)) a_ropeSearch a_ringSearch a_woodSearch g2.2.1 g2.2.2.1 g2.2.2.2, wX3 G va va_villages va_woods va_needs va_signs va_temper va_friend va_rope va_hears va_shut va_woodBell va_woodVillage va_needVillage va_needWind va_needSeen va_sign, wX4 G na na_due na_rang na_times na_last]) := hD
    have e9 := Option.some.inj hf
    subst e9
    exact rt_i C hP hS rfl dX6_rang_28
  have hf := (o_i hf).2 c1
  refine lv_iload_n hx hb dX6_rang_4 rfl (lv_at hl 1 rfl) ?_
  refine lv_aload_n hx hb dX6_rang_5 rfl (lv_at hl 0 rfl) ?_
  refine va_get (D := G.1) (ci := 6) (v := .ref (va 0)) (C := RX6) (T := TX6) (N := 11) hx hb hts iiX6_rang_X6 hown hK hP 0 rfl rfl 0 (by decide) (hts _ mmX6_rang_1) (fun _ h9 => h9) rfl dX6_rang_6 ?_
  refine va_get (D := G.1) (ci := 3) (v := .int va_needs) (C := RX3) (T := TX3) (N := 15) hx hb hts iiX6_rang_X3 hown hK hP 1 rfl rfl 2 (by decide) (hts _ mmX6_rang_3) (fun _ h9 => h9) rfl dX6_rang_9 ?_
  refine lv_icmp_ge (tgt := 22) hx hb dX6_rang_12 (by decide) (fun c3 => ?_) (fun c3 => ?_)
  · have hf := (o_i hf).1 c3
    refine lv_aload_n hx hb dX6_rang_22 rfl (lv_at hl 0 rfl) ?_
    refine lv_bipush (v := (-2)) hx hb dX6_rang_23 (by decide) ?_
    obtain ⟨g4, hg4, hf⟩ := o_b hf
    refine bVi (Bs' := [wX6 G a ((va 0)) a_draft a_images a_tale ((na 0)) a_ropeSearch a_ringSearch a_woodSearch g4.2.1 g4.2.2.1 g4.2.2.2, wX3 G va va_villages va_woods va_needs va_signs va_temper va_friend va_rope va_hears va_shut va_woodBell va_woodVillage va_needVillage va_needWind va_needSeen va_sign, wX4 G na na_due na_rang na_times na_last]) C hP hD hS (tX6_counted l G a ((va 0)) a_draft a_images a_tale ((na 0)) a_ropeSearch a_ringSearch a_woodSearch a_refusedBad a_refusedNo a_refusedFull ((-2)) g4 hg4) gX6_rang_X6_counted rfl ⟨rfl, rfl⟩ hdX6_counted ⟨Nat.le_of_ble_eq_true rfl, Nat.le_of_ble_eq_true rfl⟩ rfl hl.1 rfl (Nat.le_of_ble_eq_true rfl) ⟨Nat.le_of_ble_eq_true rfl, Nat.le_of_ble_eq_true rfl⟩ [0] rfl rfl rfl rfl rfl (ci := 6) (q0 := 0) rfl rfl rfl dX6_rang_25 (fun H locs hP hD hS => ?_)
    have hP : va_P G.1 vwCl (flat [wX6 G a ((va 0)) a_draft a_images a_tale ((na 0)) a_ropeSearch a_ringSearch a_woodSearch g4.2.1 g4.2.2.1 g4.2.2.2, wX3 G va va_villages va_woods va_needs va_signs va_temper va_friend va_rope va_hears va_shut va_woodBell va_woodVillage va_needVillage va_needWind va_needSeen va_sign, wX4 G na na_due na_rang na_times na_last]) H := hP
    have hD : va_D A (flat [wX6 G a ((va 0)) a_draft a_images a_tale ((na 0)) a_ropeSearch a_ringSearch a_woodSearch g4.2.1 g4.2.2.1 g4.2.2.2, wX3 G va va_villages va_woods va_needs va_signs va_temper va_friend va_rope va_hears va_shut va_woodBell va_woodVillage va_needVillage va_needWind va_needSeen va_sign, wX4 G na na_due na_rang na_times na_last]) := hD
    have e9 := Option.some.inj hf
    subst e9
    exact rt_i C hP hS rfl dX6_rang_28
  have hf := (o_i hf).2 c3
  refine lv_iload_n hx hb dX6_rang_15 rfl (lv_at hl 2 rfl) ?_
  obtain ⟨g5, hg5, hf⟩ := o_b hf
  refine bSi C hP hD hS (tX6_isSide l G p1 g5 hg5) gX6_rang_X6_isSide rfl ⟨rfl, rfl⟩ hdX6_isSide ⟨Nat.le_of_ble_eq_true rfl, Nat.le_of_ble_eq_true rfl⟩ rfl hl.1 rfl (Nat.le_of_ble_eq_true rfl) ⟨Nat.le_of_ble_eq_true rfl, Nat.le_of_ble_eq_true rfl⟩ [] rfl rfl rfl (setB_same _ _ _ rfl) rfl dX6_rang_16 (fun H locs hP hD hS => ?_)
  refine lv_if_ne (tgt := 29) hx hb dX6_rang_19 (by decide) (fun c6 => ?_) (fun c6 => ?_)
  · have hf := (o_i hf).2 c6
    refine lv_aload_n hx hb dX6_rang_29 rfl (lv_at hl 0 rfl) ?_
    refine va_get (D := G.1) (ci := 6) (v := .ref (na 0)) (C := RX6) (T := TX6) (N := 11) hx hb hts iiX6_rang_X6 hown hK hP 0 rfl rfl 4 (by decide) (hts _ mmX6_rang_4) (fun _ h9 => h9) rfl dX6_rang_30 ?_
    refine lv_aload_n hx hb dX6_rang_33 rfl (lv_at hl 0 rfl) ?_
    refine va_get (D := G.1) (ci := 6) (v := .ref (va 0)) (C := RX6) (T := TX6) (N := 11) hx hb hts iiX6_rang_X6 hown hK hP 0 rfl rfl 0 (by decide) (hts _ mmX6_rang_1) (fun _ h9 => h9) rfl dX6_rang_34 ?_
    obtain ⟨g7, hg7, hf⟩ := o_b hf
    refine bVv (Bs' := [wX6 G a ((va 0)) a_draft a_images a_tale ((na 0)) a_ropeSearch a_ringSearch a_woodSearch a_refusedBad a_refusedNo a_refusedFull, wX3 G va va_villages va_woods va_needs va_signs va_temper va_friend va_rope va_hears va_shut va_woodBell va_woodVillage va_needVillage va_needWind va_needSeen va_sign, wX4 G na g7.1 g7.2.1 g7.2.2.1 g7.2.2.2]) C hP hD hS (tX4_go l G na va na_due na_rang na_times na_last va_villages va_woods va_needs va_signs va_temper va_friend va_rope va_hears va_shut va_woodBell va_woodVillage va_needVillage va_needWind va_needSeen va_sign g7 hg7) gX6_rang_X4_go rfl ⟨rfl, rfl⟩ hdX4_go ⟨Nat.le_of_ble_eq_true rfl, Nat.le_of_ble_eq_true rfl⟩ rfl hl.1 rfl (Nat.le_of_ble_eq_true rfl) ⟨Nat.le_of_ble_eq_true rfl, Nat.le_of_ble_eq_true rfl⟩ [2, 1] rfl rfl rfl rfl rfl (ci := 4) (q0 := 13) rfl rfl rfl dX6_rang_37 (fun H locs hP hD hS => ?_)
    have hP : va_P G.1 vwCl (flat [wX6 G a ((va 0)) a_draft a_images a_tale ((na 0)) a_ropeSearch a_ringSearch a_woodSearch a_refusedBad a_refusedNo a_refusedFull, wX3 G va va_villages va_woods va_needs va_signs va_temper va_friend va_rope va_hears va_shut va_woodBell va_woodVillage va_needVillage va_needWind va_needSeen va_sign, wX4 G na g7.1 g7.2.1 g7.2.2.1 g7.2.2.2]) H := hP
    have hD : va_D A (flat [wX6 G a ((va 0)) a_draft a_images a_tale ((na 0)) a_ropeSearch a_ringSearch a_woodSearch a_refusedBad a_refusedNo a_refusedFull, wX3 G va va_villages va_woods va_needs va_signs va_temper va_friend va_rope va_hears va_shut va_woodBell va_woodVillage va_needVillage va_needWind va_needSeen va_sign, wX4 G na g7.1 g7.2.1 g7.2.2.1 g7.2.2.2]) := hD
    refine lv_iload_n hx hb dX6_rang_40 rfl (lv_at hl 2 rfl) ?_
    refine lv_if_ne (tgt := 56) hx hb dX6_rang_41 (by decide) (fun c8 => ?_) (fun c8 => ?_)
    · have hf := (o_i hf).2 c8
      refine lv_aload_n hx hb dX6_rang_56 rfl (lv_at hl 0 rfl) ?_
      refine va_get (D := G.1) (ci := 6) (v := .ref (na 0)) (C := RX6) (T := TX6) (N := 11) hx hb hts iiX6_rang_X6 hown hK hP 0 rfl rfl 4 (by decide) (hts _ mmX6_rang_4) (fun _ h9 => h9) rfl dX6_rang_57 ?_
      refine va_get (D := G.1) (ci := 4) (v := .ref (na 2)) (C := RX4) (T := TX4) (N := 4) hx hb hts iiX6_rang_X4 hown hK hP 13 rfl rfl 1 (by decide) (hts _ mmX6_rang_6) (fun _ h9 => h9) rfl dX6_rang_60 ?_
      refine lv_iload_n hx hb dX6_rang_63 rfl (lv_at hl 1 rfl) ?_
      obtain ⟨z9, hz9, hf⟩ := o_b hf
      refine k_iald hx hb hK hP 15 0 rfl rfl hz9 dX6_rang_64 ?_
      have e9 := Option.some.inj hf
      subst e9
      exact rt_i C hP hS rfl dX6_rang_65
    have hf := (o_i hf).1 c8
    refine lv_aload_n hx hb dX6_rang_44 rfl (lv_at hl 0 rfl) ?_
    refine va_get (D := G.1) (ci := 6) (v := .ref (na 0)) (C := RX6) (T := TX6) (N := 11) hx hb hts iiX6_rang_X6 hown hK hP 0 rfl rfl 4 (by decide) (hts _ mmX6_rang_4) (fun _ h9 => h9) rfl dX6_rang_45 ?_
    refine va_get (D := G.1) (ci := 4) (v := .ref (na 1)) (C := RX4) (T := TX4) (N := 4) hx hb hts iiX6_rang_X4 hown hK hP 13 rfl rfl 0 (by decide) (hts _ mmX6_rang_7) (fun _ h9 => h9) rfl dX6_rang_48 ?_
    refine lv_iload_n hx hb dX6_rang_51 rfl (lv_at hl 1 rfl) ?_
    obtain ⟨z10, hz10, hf⟩ := o_b hf
    refine k_iald hx hb hK hP 14 0 rfl rfl hz10 dX6_rang_52 ?_
    refine lv_goto (tgt := 65) hx hb dX6_rang_53 (by decide) ?_
    have e9 := Option.some.inj hf
    subst e9
    exact rt_i C hP hS rfl dX6_rang_65
  have hf := (o_i hf).1 c6
  refine lv_aload_n hx hb dX6_rang_22 rfl (lv_at hl 0 rfl) ?_
  refine lv_bipush (v := (-2)) hx hb dX6_rang_23 (by decide) ?_
  obtain ⟨g11, hg11, hf⟩ := o_b hf
  refine bVi (Bs' := [wX6 G a ((va 0)) a_draft a_images a_tale ((na 0)) a_ropeSearch a_ringSearch a_woodSearch g11.2.1 g11.2.2.1 g11.2.2.2, wX3 G va va_villages va_woods va_needs va_signs va_temper va_friend va_rope va_hears va_shut va_woodBell va_woodVillage va_needVillage va_needWind va_needSeen va_sign, wX4 G na na_due na_rang na_times na_last]) C hP hD hS (tX6_counted l G a ((va 0)) a_draft a_images a_tale ((na 0)) a_ropeSearch a_ringSearch a_woodSearch a_refusedBad a_refusedNo a_refusedFull ((-2)) g11 hg11) gX6_rang_X6_counted rfl ⟨rfl, rfl⟩ hdX6_counted ⟨Nat.le_of_ble_eq_true rfl, Nat.le_of_ble_eq_true rfl⟩ rfl hl.1 rfl (Nat.le_of_ble_eq_true rfl) ⟨Nat.le_of_ble_eq_true rfl, Nat.le_of_ble_eq_true rfl⟩ [0] rfl rfl rfl rfl rfl (ci := 6) (q0 := 0) rfl rfl rfl dX6_rang_25 (fun H locs hP hD hS => ?_)
  have hP : va_P G.1 vwCl (flat [wX6 G a ((va 0)) a_draft a_images a_tale ((na 0)) a_ropeSearch a_ringSearch a_woodSearch g11.2.1 g11.2.2.1 g11.2.2.2, wX3 G va va_villages va_woods va_needs va_signs va_temper va_friend va_rope va_hears va_shut va_woodBell va_woodVillage va_needVillage va_needWind va_needSeen va_sign, wX4 G na na_due na_rang na_times na_last]) H := hP
  have hD : va_D A (flat [wX6 G a ((va 0)) a_draft a_images a_tale ((na 0)) a_ropeSearch a_ringSearch a_woodSearch g11.2.1 g11.2.2.1 g11.2.2.2, wX3 G va va_villages va_woods va_needs va_signs va_temper va_friend va_rope va_hears va_shut va_woodBell va_woodVillage va_needVillage va_needWind va_needSeen va_sign, wX4 G na na_due na_rang na_times na_last]) := hD
  have e9 := Option.some.inj hf
  subst e9
  exact rt_i C hP hS rfl dX6_rang_28
