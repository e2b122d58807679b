/-! RX6 helped(I)I -/
theorem iiX6_helped_X6 : ∀ w ∈ wsX60, w ∈ wsX6_helped := by decide +kernel
theorem mmX6_helped_1 : (Cond.fieldLink RX6 33 "BlindBells" "run" "LBlindBells$ValleyRun;") ∈ wsX6_helped := by decide +kernel
theorem mmX6_helped_2 : (Cond.fieldLink RX6 12 "BlindBells" "valley" "LBlindBells$Valley;") ∈ wsX6_helped := by decide +kernel
theorem hdX6_helped : yX6_helped.cls = RX6 ∧ yX6_helped.cls ≠ "java/lang/invoke/MethodHandle" ∧ yX6_helped.cls ≠ "java/lang/invoke/VarHandle" ∧ (parseMethodDescriptor yX6_helped.desc).map (fun d => d.parameters.length) = some 1 := by decide +kernel
abbrev rmX6_helped : Room := { frames := 5, cells := 0, slots := 0, locals := 113 }
set_option maxHeartbeats 4000000 in
set_option maxRecDepth 100000 in
theorem tX6_helped (l : Launch) (G : GG) (a : Nat → Nat) (va : Nat → Nat) (na : Nat → Nat) (a_draft : Nat) (a_images : Nat) (a_tale : Nat) (a_ropeSearch : Nat) (a_ringSearch : Nat) (a_woodSearch : Nat) (a_refusedBad : Int32) (a_refusedNo : Int32) (a_refusedFull : Int32) (va_villages : Int32) (va_woods : Int32) (va_needs : Int32) (va_signs : Int32) (va_temper : Nat → Int32) (va_friend : Nat → Int32) (va_rope : Nat → Int32) (va_hears : Nat → Int32) (va_shut : Nat → Int32) (va_woodBell : Nat → Int32) (va_woodVillage : Nat → Int32) (va_needVillage : Nat → Int32) (va_needWind : Nat → Int32) (va_needSeen : Nat → Int32) (va_sign : Nat → Int32) (na_due : Nat → Int32) (na_rang : Nat → Int32) (na_times : Nat → Int32) (na_last : Nat → Int32) (p0 : Int32) (out : Int32 × Int32 × Int32 × Int32 × (Nat → Int32) × (Nat → Int32) × (Nat → Int32) × (Nat → Int32)) (hf : fX6_helped a_refusedBad a_refusedNo a_refusedFull va_villages va_needs va_temper va_friend va_rope va_hears va_shut va_needVillage va_needWind va_needSeen na_due na_rang na_times na_last p0 = some out) : cMi l G yX6_helped wsX6_helped rmX6_helped [.ref (a 0), .int p0] (flat [wX6 G a ((va 0)) a_draft a_images a_tale ((na 0)) a_ropeSearch a_ringSearch a_woodSearch a_refusedBad a_refusedNo a_refusedFull, wX3 G va va_villages va_woods va_needs va_signs va_temper va_friend va_rope va_hears va_shut va_woodBell va_woodVillage va_needVillage va_needWind va_needSeen va_sign, wX4 G na na_due na_rang na_times na_last]) out.1 (flat [wX6 G a ((va 0)) a_draft a_images a_tale ((na 0)) a_ropeSearch a_ringSearch a_woodSearch out.2.1 out.2.2.1 out.2.2.2.1, wX3 G va va_villages va_woods va_needs va_signs va_temper va_friend va_rope va_hears va_shut va_woodBell va_woodVillage va_needVillage va_needWind va_needSeen va_sign, wX4 G na out.2.2.2.2.1 out.2.2.2.2.2.1 out.2.2.2.2.2.2.1 out.2.2.2.2.2.2.2]) := by
  intro sz
  refine met_of (cc := cX6_helped) (nL := 2) (ret := (some .int)) (Qc := fun A9 => QI G A9 out.1 (flat [wX6 G a ((va 0)) a_draft a_images a_tale ((na 0)) a_ropeSearch a_ringSearch a_woodSearch out.2.1 out.2.2.1 out.2.2.2.1, wX3 G va va_villages va_woods va_needs va_signs va_temper va_friend va_rope va_hears va_shut va_woodBell va_woodVillage va_needVillage va_needWind va_needSeen va_sign, wX4 G na out.2.2.2.2.1 out.2.2.2.2.2.1 out.2.2.2.2.2.2.1 out.2.2.2.2.2.2.2])) (by decide) rfl (Nat.le_of_ble_eq_true rfl) ?_
  intro p e s m args below meth c A ls C hP hD hS hl
  obtain ⟨⟨hx, hb, hml, hown, hts⟩, hr, hlocks, hK, hN, hE, hA⟩ := id C
  have hl : lv_has ls 2 [(0, .ref (a 0)), (1, .int p0)] := hl
  unfold fX6_helped at hf
  refine lv_iload_n hx hb dX6_helped_0 rfl (lv_at hl 1 rfl) ?_
  refine lv_iconst (v := (-1)) hx hb dX6_helped_1 (by decide) ?_
  refine lv_icmp_eq (tgt := 23) hx hb dX6_helped_2 (by decide) (fun c1 => ?_) (fun c1 => ?_)
  · have hf := (o_i hf).1 c1
    refine lv_aload_n hx hb dX6_helped_23 rfl (lv_at hl 0 rfl) ?_
    refine va_get (D := G.1) (ci := 6) (v := .ref (na 0)) (C := RX6) (T := TX6) (N := 11) hx hb hts iiX6_helped_X6 hown hK hP 0 rfl rfl 4 (by decide) (hts _ mmX6_helped_1) (fun _ h9 => h9) rfl dX6_helped_24 ?_
    refine lv_aload_n hx hb dX6_helped_27 rfl (lv_at hl 0 rfl) ?_
    refine va_get (D := G.1) (ci := 6) (v := .ref (va 0)) (C := RX6) (T := TX6) (N := 11) hx hb hts iiX6_helped_X6 hown hK hP 0 rfl rfl 0 (by decide) (hts _ mmX6_helped_2) (fun _ h9 => h9) rfl dX6_helped_28 ?_
    obtain ⟨g2, hg2, hf⟩ := o_b hf
    refine bVv (Bs' := [wX6 G a ((va 0)) a_draft a_images a_tale ((na 0)) a_ropeSearch a_ringSearch a_woodSearch a_refusedBad a_refusedNo a_refusedFull, wX3 G va va_villages va_woods va_needs va_signs va_temper va_friend va_rope va_hears va_shut va_woodBell va_woodVillage va_needVillage va_needWind va_needSeen va_sign, wX4 G na g2.1 g2.2.1 g2.2.2.1 g2.2.2.2]) C hP hD hS (tX4_go l G na va na_due na_rang na_times na_last va_villages va_woods va_needs va_signs va_temper va_friend va_rope va_hears va_shut va_woodBell va_woodVillage va_needVillage va_needWind va_needSeen va_sign g2 hg2) gX6_helped_X4_go rfl ⟨rfl, rfl⟩ hdX4_go ⟨Nat.le_of_ble_eq_true rfl, Nat.le_of_ble_eq_true rfl⟩ rfl hl.1 rfl (Nat.le_of_ble_eq_true rfl) ⟨Nat.le_of_ble_eq_true rfl, Nat.le_of_ble_eq_true rfl⟩ [2, 1] rfl rfl rfl rfl rfl (ci := 4) (q0 := 13) rfl rfl rfl dX6_helped_31 (fun H locs hP hD hS => ?_)
    have hP : va_P G.1 vwCl (flat [wX6 G a ((va 0)) a_draft a_images a_tale ((na 0)) a_ropeSearch a_ringSearch a_woodSearch a_refusedBad a_refusedNo a_refusedFull, wX3 G va va_villages va_woods va_needs va_signs va_temper va_friend va_rope va_hears va_shut va_woodBell va_woodVillage va_needVillage va_needWind va_needSeen va_sign, wX4 G na g2.1 g2.2.1 g2.2.2.1 g2.2.2.2]) H := hP
    have hD : va_D A (flat [wX6 G a ((va 0)) a_draft a_images a_tale ((na 0)) a_ropeSearch a_ringSearch a_woodSearch a_refusedBad a_refusedNo a_refusedFull, wX3 G va va_villages va_woods va_needs va_signs va_temper va_friend va_rope va_hears va_shut va_woodBell va_woodVillage va_needVillage va_needWind va_needSeen va_sign, wX4 G na g2.1 g2.2.1 g2.2.2.1 g2.2.2.2]) := hD
    refine lv_aload_n hx hb dX6_helped_34 rfl (lv_at hl 0 rfl) ?_
    refine va_get (D := G.1) (ci := 6) (v := .ref (na 0)) (C := RX6) (T := TX6) (N := 11) hx hb hts iiX6_helped_X6 hown hK hP 0 rfl rfl 4 (by decide) (hts _ mmX6_helped_1) (fun _ h9 => h9) rfl dX6_helped_35 ?_
    refine lv_aload_n hx hb dX6_helped_38 rfl (lv_at hl 0 rfl) ?_
    refine va_get (D := G.1) (ci := 6) (v := .ref (va 0)) (C := RX6) (T := TX6) (N := 11) hx hb hts iiX6_helped_X6 hown hK hP 0 rfl rfl 0 (by decide) (hts _ mmX6_helped_2) (fun _ h9 => h9) rfl dX6_helped_39 ?_
    refine at_pc (pc' := 42) rfl ?_
    refine lv_iload_n hx hb dX6_helped_42 rfl (lv_at hl 1 rfl) ?_
    obtain ⟨g3, hg3, hf⟩ := o_b hf
    refine bVi C hP hD hS (tX4_needsHelped l G na va g2.1 g2.2.1 g2.2.2.1 g2.2.2.2 va_villages va_woods va_needs va_signs va_temper va_friend va_rope va_hears va_shut va_woodBell va_woodVillage va_needVillage va_needWind va_needSeen va_sign p0 g3 hg3) gX6_helped_X4_needsHelped rfl ⟨rfl, rfl⟩ hdX4_needsHelped ⟨Nat.le_of_ble_eq_true rfl, Nat.le_of_ble_eq_true rfl⟩ rfl hl.1 rfl (Nat.le_of_ble_eq_true rfl) ⟨Nat.le_of_ble_eq_true rfl, Nat.le_of_ble_eq_true rfl⟩ [2, 1] rfl rfl rfl (setB_same _ _ _ rfl) rfl (ci := 4) (q0 := 13) rfl rfl rfl dX6_helped_43 (fun H locs hP hD hS => ?_)
    have e9 := Option.some.inj hf
    subst e9
    exact rt_i C hP hS rfl dX6_helped_46
  have hf := (o_i hf).2 c1
  refine lv_aload_n hx hb dX6_helped_5 rfl (lv_at hl 0 rfl) ?_
  refine va_get (D := G.1) (ci := 6) (v := .ref (va 0)) (C := RX6) (T := TX6) (N := 11) hx hb hts iiX6_helped_X6 hown hK hP 0 rfl rfl 0 (by decide) (hts _ mmX6_helped_2) (fun _ h9 => h9) rfl dX6_helped_6 ?_
  refine lv_iload_n hx hb dX6_helped_9 rfl (lv_at hl 1 rfl) ?_
  obtain ⟨g4, hg4, hf⟩ := o_b hf
  refine bVi C hP hD hS (tX3_isVillage l G va va_villages va_woods va_needs va_signs va_temper va_friend va_rope va_hears va_shut va_woodBell va_woodVillage va_needVillage va_needWind va_needSeen va_sign p0 g4 hg4) gX6_helped_X3_isVillage rfl ⟨rfl, rfl⟩ hdX3_isVillage ⟨Nat.le_of_ble_eq_true rfl, Nat.le_of_ble_eq_true rfl⟩ rfl hl.1 rfl (Nat.le_of_ble_eq_true rfl) ⟨Nat.le_of_ble_eq_true rfl, Nat.le_of_ble_eq_true rfl⟩ [1] rfl rfl rfl (setB_same _ _ _ rfl) rfl (ci := 3) (q0 := 1) rfl rfl rfl dX6_helped_10 (fun H locs hP hD hS => ?_)
  refine lv_if_ne (tgt := 23) hx hb dX6_helped_13 (by decide) (fun c5 => ?_) (fun c5 => ?_)
  · have hf := (o_i hf).2 c5
    refine lv_aload_n hx hb dX6_helped_23 rfl (lv_at hl 0 rfl) ?_
    refine va_get (D := G.1) (ci := 6) (v := .ref (na 0)) (C := RX6) (T := TX6) (N := 11) hx hb hts iiX6_helped_X6 hown hK hP 0 rfl rfl 4 (by decide) (hts _ mmX6_helped_1) (fun _ h9 => h9) rfl dX6_helped_24 ?_
    refine lv_aload_n hx hb dX6_helped_27 rfl (lv_at hl 0 rfl) ?_
    refine va_get (D := G.1) (ci := 6) (v := .ref (va 0)) (C := RX6) (T := TX6) (N := 11) hx hb hts iiX6_helped_X6 hown hK hP 0 rfl rfl 0 (by decide) (hts _ mmX6_helped_2) (fun _ h9 => h9) rfl dX6_helped_28 ?_
    obtain ⟨g6, hg6, hf⟩ := o_b hf
    refine bVv (Bs' := [wX6 G a ((va 0)) a_draft a_images a_tale ((na 0)) a_ropeSearch a_ringSearch a_woodSearch a_refusedBad a_refusedNo a_refusedFull, wX3 G va va_villages va_woods va_needs va_signs va_temper va_friend va_rope va_hears va_shut va_woodBell va_woodVillage va_needVillage va_needWind va_needSeen va_sign, wX4 G na g6.1 g6.2.1 g6.2.2.1 g6.2.2.2]) C hP hD hS (tX4_go l G na va na_due na_rang na_times na_last va_villages va_woods va_needs va_signs va_temper va_friend va_rope va_hears va_shut va_woodBell va_woodVillage va_needVillage va_needWind va_needSeen va_sign g6 hg6) gX6_helped_X4_go rfl ⟨rfl, rfl⟩ hdX4_go ⟨Nat.le_of_ble_eq_true rfl, Nat.le_of_ble_eq_true rfl⟩ rfl hl.1 rfl (Nat.le_of_ble_eq_true rfl) ⟨Nat.le_of_ble_eq_true rfl, Nat.le_of_ble_eq_true rfl⟩ [2, 1] rfl rfl rfl rfl rfl (ci := 4) (q0 := 13) rfl rfl rfl dX6_helped_31 (fun H locs hP hD hS => ?_)
    have hP : va_P G.1 vwCl (flat [wX6 G a ((va 0)) a_draft a_images a_tale ((na 0)) a_ropeSearch a_ringSearch a_woodSearch a_refusedBad a_refusedNo a_refusedFull, wX3 G va va_villages va_woods va_needs va_signs va_temper va_friend va_rope va_hears va_shut va_woodBell va_woodVillage va_needVillage va_needWind va_needSeen va_sign, wX4 G na g6.1 g6.2.1 g6.2.2.1 g6.2.2.2]) H := hP
    have hD : va_D A (flat [wX6 G a ((va 0)) a_draft a_images a_tale ((na 0)) a_ropeSearch a_ringSearch a_woodSearch a_refusedBad a_refusedNo a_refusedFull, wX3 G va va_villages va_woods va_needs va_signs va_temper va_friend va_rope va_hears va_shut va_woodBell va_woodVillage va_needVillage va_needWind va_needSeen va_sign, wX4 G na g6.1 g6.2.1 g6.2.2.1 g6.2.2.2]) := hD
    refine lv_aload_n hx hb dX6_helped_34 rfl (lv_at hl 0 rfl) ?_
    refine va_get (D := G.1) (ci := 6) (v := .ref (na 0)) (C := RX6) (T := TX6) (N := 11) hx hb hts iiX6_helped_X6 hown hK hP 0 rfl rfl 4 (by decide) (hts _ mmX6_helped_1) (fun _ h9 => h9) rfl dX6_helped_35 ?_
    refine lv_aload_n hx hb dX6_helped_38 rfl (lv_at hl 0 rfl) ?_
    refine va_get (D := G.1) (ci := 6) (v := .ref (va 0)) (C := RX6) (T := TX6) (N := 11) hx hb hts iiX6_helped_X6 hown hK hP 0 rfl rfl 0 (by decide) (hts _ mmX6_helped_2) (fun _ h9 => h9) rfl dX6_helped_39 ?_
    refine at_pc (pc' := 42) rfl ?_
    refine lv_iload_n hx hb dX6_helped_42 rfl (lv_at hl 1 rfl) ?_
    obtain ⟨g7, hg7, hf⟩ := o_b hf
    refine bVi C hP hD hS (tX4_needsHelped l G na va g6.1 g6.2.1 g6.2.2.1 g6.2.2.2 va_villages va_woods va_needs va_signs va_temper va_friend va_rope va_hears va_shut va_woodBell va_woodVillage va_needVillage va_needWind va_needSeen va_sign p0 g7 hg7) gX6_helped_X4_needsHelped rfl ⟨rfl, rfl⟩ hdX4_needsHelped ⟨Nat.le_of_ble_eq_true rfl, Nat.le_of_ble_eq_true rfl⟩ rfl hl.1 rfl (Nat.le_of_ble_eq_true rfl) ⟨Nat.le_of_ble_eq_true rfl, Nat.le_of_ble_eq_true rfl⟩ [2, 1] rfl rfl rfl (setB_same _ _ _ rfl) rfl (ci := 4) (q0 := 13) rfl rfl rfl dX6_helped_43 (fun H locs hP hD hS => ?_)
    have e9 := Option.some.inj hf
    subst e9
    exact rt_i C hP hS rfl dX6_helped_46
  have hf := (o_i hf).1 c5
  refine lv_aload_n hx hb dX6_helped_16 rfl (lv_at hl 0 rfl) ?_
  refine lv_bipush (v := (-2)) hx hb dX6_helped_17 (by decide) ?_
  obtain ⟨g8, hg8, hf⟩ := o_b hf
  refine bVi (Bs' := [wX6 G a ((va 0)) a_draft a_images a_tale ((na 0)) a_ropeSearch a_ringSearch a_woodSearch g8.2.1 g8.2.2.1 g8.2.2.2, wX3 G va va_villages va_woods va_needs va_signs va_temper va_friend va_rope va_hears va_shut va_woodBell va_woodVillage va_needVillage va_needWind va_needSeen va_sign, wX4 G na na_due na_rang na_times na_last]) C hP hD hS (tX6_counted l G a ((va 0)) a_draft a_images a_tale ((na 0)) a_ropeSearch a_ringSearch a_woodSearch a_refusedBad a_refusedNo a_refusedFull ((-2)) g8 hg8) gX6_helped_X6_counted rfl ⟨rfl, rfl⟩ hdX6_counted ⟨Nat.le_of_ble_eq_true rfl, Nat.le_of_ble_eq_true rfl⟩ rfl hl.1 rfl (Nat.le_of_ble_eq_true rfl) ⟨Nat.le_of_ble_eq_true rfl, Nat.le_of_ble_eq_true rfl⟩ [0] rfl rfl rfl rfl rfl (ci := 6) (q0 := 0) rfl rfl rfl dX6_helped_19 (fun H locs hP hD hS => ?_)
  have hP : va_P G.1 vwCl (flat [wX6 G a ((va 0)) a_draft a_images a_tale ((na 0)) a_ropeSearch a_ringSearch a_woodSearch g8.2.1 g8.2.2.1 g8.2.2.2, wX3 G va va_villages va_woods va_needs va_signs va_temper va_friend va_rope va_hears va_shut va_woodBell va_woodVillage va_needVillage va_needWind va_needSeen va_sign, wX4 G na na_due na_rang na_times na_last]) H := hP
  have hD : va_D A (flat [wX6 G a ((va 0)) a_draft a_images a_tale ((na 0)) a_ropeSearch a_ringSearch a_woodSearch g8.2.1 g8.2.2.1 g8.2.2.2, wX3 G va va_villages va_woods va_needs va_signs va_temper va_friend va_rope va_hears va_shut va_woodBell va_woodVillage va_needVillage va_needWind va_needSeen va_sign, wX4 G na na_due na_rang na_times na_last]) := hD
  have e9 := Option.some.inj hf
  subst e9
  exact rt_i C hP hS rfl dX6_helped_22

/-! RX6 favours(II)I -/
theorem iiX6_favours_X6 : ∀ w ∈ wsX60, w ∈ wsX6_favours := by decide +kernel
theorem mmX6_favours_1 : (Cond.fieldLink RX6 12 "BlindBells" "valley" "LBlindBells$Valley;") ∈ wsX6_favours := by decide +kernel
theorem mmX6_favours_2 : (Cond.fieldLink RX6 33 "BlindBells" "run" "LBlindBells$ValleyRun;") ∈ wsX6_favours := by decide +kernel
theorem iiX6_favours_X4 : ∀ w ∈ wsX40, w ∈ wsX6_favours := by decide +kernel
theorem mmX6_favours_4 : (Cond.fieldLink RX6 143 "BlindBells$ValleyRun" "times" "[I") ∈ wsX6_favours := by decide +kernel
theorem hdX6_favours : yX6_favours.cls = RX6 ∧ yX6_favours.cls ≠ "java/lang/invoke/MethodHandle" ∧ yX6_favours.cls ≠ "java/lang/invoke/VarHandle" ∧ (parseMethodDescriptor yX6_favours.desc).map (fun d => d.parameters.length) = some 2 := by decide +kernel
abbrev rmX6_favours : Room := { frames := 5, cells := 0, slots := 0, locals := 113 }
set_option maxHeartbeats 4000000 in
set_option maxRecDepth 100000 in
theorem tX6_favours (l : Launch) (G : GG) (a : Nat → Nat) (va : Nat → Nat) (na : Nat → Nat) (a_draft : Nat) (a_images : Nat) (a_tale : Nat) (a_ropeSearch : Nat) (a_ringSearch : Nat) (a_woodSearch : Nat) (a_refusedBad : Int32) (a_refusedNo : Int32) (a_refusedFull : Int32) (va_villages : Int32) (va_woods : Int32) (va_needs : Int32) (va_signs : Int32) (va_temper : Nat → Int32) (va_friend : Nat → Int32) (va_rope : Nat → Int32) (va_hears : Nat → Int32) (va_shut : Nat → Int32) (va_woodBell : Nat → Int32) (va_woodVillage : Nat → Int32) (va_needVillage : Nat → Int32) (va_needWind : Nat → Int32) (va_needSeen : Nat → Int32) (va_sign : Nat → Int32) (na_due : Nat → Int32) (na_rang : Nat → Int32) (na_times : Nat → Int32) (na_last : Nat → Int32) (p0 : Int32) (p1 : Int32) (out : Int32 × Int32 × Int32 × Int32 × (Nat → Int32) × (Nat → Int32) × (Nat → Int32) × (Nat → Int32)) (hf : fX6_favours a_refusedBad a_refusedNo a_refusedFull va_villages va_needs va_temper va_friend va_rope va_hears va_shut va_needVillage va_needWind va_needSeen na_due na_rang na_times na_last p0 p1 = some out) : cMi l G yX6_favours wsX6_favours rmX6_favours [.ref (a 0), .int p0, .int p1] (flat [wX6 G a ((va 0)) a_draft a_images a_tale ((na 0)) a_ropeSearch a_ringSearch a_woodSearch a_refusedBad a_refusedNo a_refusedFull, wX3 G va va_villages va_woods va_needs va_signs va_temper va_friend va_rope va_hears va_shut va_woodBell va_woodVillage va_needVillage va_needWind va_needSeen va_sign, wX4 G na na_due na_rang na_times na_last]) out.1 (flat [wX6 G a ((va 0)) a_draft a_images a_tale ((na 0)) a_ropeSearch a_ringSearch a_woodSearch out.2.1 out.2.2.1 out.2.2.2.1, wX3 G va va_villages va_woods va_needs va_signs va_temper va_friend va_rope va_hears va_shut va_woodBell va_woodVillage va_needVillage va_needWind va_needSeen va_sign, wX4 G na out.2.2.2.2.1 out.2.2.2.2.2.1 out.2.2.2.2.2.2.1 out.2.2.2.2.2.2.2]) := by
  intro sz
  refine met_of (cc := cX6_favours) (nL := 3) (ret := (some .int)) (Qc := fun A9 => QI G A9 out.1 (flat [wX6 G a ((va 0)) a_draft a_images a_tale ((na 0)) a_ropeSearch a_ringSearch a_woodSearch out.2.1 out.2.2.1 out.2.2.2.1, wX3 G va va_villages va_woods va_needs va_signs va_temper va_friend va_rope va_hears va_shut va_woodBell va_woodVillage va_needVillage va_needWind va_needSeen va_sign, wX4 G na out.2.2.2.2.1 out.2.2.2.2.2.1 out.2.2.2.2.2.2.1 out.2.2.2.2.2.2.2])) (by decide) rfl (Nat.le_of_ble_eq_true rfl) ?_
  intro p e s m args below meth c A ls C hP hD hS hl
  obtain ⟨⟨hx, hb, hml, hown, hts⟩, hr, hlocks, hK, hN, hE, hA⟩ := id C
  have hl : lv_has ls 3 [(0, .ref (a 0)), (1, .int p0), (2, .int p1)] := hl
  unfold fX6_favours at hf
  refine lv_aload_n hx hb dX6_favours_0 rfl (lv_at hl 0 rfl) ?_
  refine va_get (D := G.1) (ci := 6) (v := .ref (va 0)) (C := RX6) (T := TX6) (N := 11) hx hb hts iiX6_favours_X6 hown hK hP 0 rfl rfl 0 (by decide) (hts _ mmX6_favours_1) (fun _ h9 => h9) rfl dX6_favours_1 ?_
  refine lv_iload_n hx hb dX6_favours_4 rfl (lv_at hl 1 rfl) ?_
  refine lv_iload_n hx hb dX6_favours_5 rfl (lv_at hl 2 rfl) ?_
  obtain ⟨g1, hg1, hf⟩ := o_b hf
  refine bVi C hP hD hS (tX3_areTwo l G va va_villages va_woods va_needs va_signs va_temper va_friend va_rope va_hears va_shut va_woodBell va_woodVillage va_needVillage va_needWind va_needSeen va_sign p0 p1 g1 hg1) gX6_favours_X3_areTwo rfl ⟨rfl, rfl⟩ hdX3_areTwo ⟨Nat.le_of_ble_eq_true rfl, Nat.le_of_ble_eq_true rfl⟩ rfl hl.1 rfl (Nat.le_of_ble_eq_true rfl) ⟨Nat.le_of_ble_eq_true rfl, Nat.le_of_ble_eq_true rfl⟩ [1] rfl rfl rfl (setB_same _ _ _ rfl) rfl (ci := 3) (q0 := 1) rfl rfl rfl dX6_favours_6 (fun H locs hP hD hS => ?_)
  refine lv_if_ne (tgt := 19) hx hb dX6_favours_9 (by decide) (fun c2 => ?_) (fun c2 => ?_)
  · have hf := (o_i hf).2 c2
    refine lv_aload_n hx hb dX6_favours_19 rfl (lv_at hl 0 rfl) ?_
    refine va_get (D := G.1) (ci := 6) (v := .ref (na 0)) (C := RX6) (T := TX6) (N := 11) hx hb hts iiX6_favours_X6 hown hK hP 0 rfl rfl 4 (by decide) (hts _ mmX6_favours_2) (fun _ h9 => h9) rfl dX6_favours_20 ?_
    refine lv_aload_n hx hb dX6_favours_23 rfl (lv_at hl 0 rfl) ?_
    refine va_get (D := G.1) (ci := 6) (v := .ref (va 0)) (C := RX6) (T := TX6) (N := 11) hx hb hts iiX6_favours_X6 hown hK hP 0 rfl rfl 0 (by decide) (hts _ mmX6_favours_1) (fun _ h9 => h9) rfl dX6_favours_24 ?_
    obtain ⟨g3, hg3, hf⟩ := o_b hf
    refine bVv (Bs' := [wX6 G a ((va 0)) a_draft a_images a_tale ((na 0)) a_ropeSearch a_ringSearch a_woodSearch a_refusedBad a_refusedNo a_refusedFull, wX3 G va va_villages va_woods va_needs va_signs va_temper va_friend va_rope va_hears va_shut va_woodBell va_woodVillage va_needVillage va_needWind va_needSeen va_sign, wX4 G na g3.1 g3.2.1 g3.2.2.1 g3.2.2.2]) C hP hD hS (tX4_go l G na va na_due na_rang na_times na_last va_villages va_woods va_needs va_signs va_temper va_friend va_rope va_hears va_shut va_woodBell va_woodVillage va_needVillage va_needWind va_needSeen va_sign g3 hg3) gX6_favours_X4_go rfl ⟨rfl, rfl⟩ hdX4_go ⟨Nat.le_of_ble_eq_true rfl, Nat.le_of_ble_eq_true rfl⟩ rfl hl.1 rfl (Nat.le_of_ble_eq_true rfl) ⟨Nat.le_of_ble_eq_true rfl, Nat.le_of_ble_eq_true rfl⟩ [2, 1] rfl rfl rfl rfl rfl (ci := 4) (q0 := 13) rfl rfl rfl dX6_favours_27 (fun H locs hP hD hS => ?_)
    have hP : va_P G.1 vwCl (flat [wX6 G a ((va 0)) a_draft a_images a_tale ((na 0)) a_ropeSearch a_ringSearch a_woodSearch a_refusedBad a_refusedNo a_refusedFull, wX3 G va va_villages va_woods va_needs va_signs va_temper va_friend va_rope va_hears va_shut va_woodBell va_woodVillage va_needVillage va_needWind va_needSeen va_sign, wX4 G na g3.1 g3.2.1 g3.2.2.1 g3.2.2.2]) H := hP
    have hD : va_D A (flat [wX6 G a ((va 0)) a_draft a_images a_tale ((na 0)) a_ropeSearch a_ringSearch a_woodSearch a_refusedBad a_refusedNo a_refusedFull, wX3 G va va_villages va_woods va_needs va_signs va_temper va_friend va_rope va_hears va_shut va_woodBell va_woodVillage va_needVillage va_needWind va_needSeen va_sign, wX4 G na g3.1 g3.2.1 g3.2.2.1 g3.2.2.2]) := hD
    refine lv_aload_n hx hb dX6_favours_30 rfl (lv_at hl 0 rfl) ?_
    refine va_get (D := G.1) (ci := 6) (v := .ref (na 0)) (C := RX6) (T := TX6) (N := 11) hx hb hts iiX6_favours_X6 hown hK hP 0 rfl rfl 4 (by decide) (hts _ mmX6_favours_2) (fun _ h9 => h9) rfl dX6_favours_31 ?_
    refine va_get (D := G.1) (ci := 4) (v := .ref (na 3)) (C := RX4) (T := TX4) (N := 4) hx hb hts iiX6_favours_X4 hown hK hP 13 rfl rfl 2 (by decide) (hts _ mmX6_favours_4) (fun _ h9 => h9) rfl dX6_favours_34 ?_
    refine lv_iload_n hx hb dX6_favours_37 rfl (lv_at hl 1 rfl) ?_
    refine at_pc (pc' := 38) rfl ?_
    refine lv_iload_n hx hb dX6_favours_38 rfl (lv_at hl 2 rfl) ?_
    obtain ⟨g4, hg4, hf⟩ := o_b hf
    refine bSi C hP hD hS (tX6_pair l G p0 p1 g4 hg4) gX6_favours_X6_pair rfl ⟨rfl, rfl⟩ hdX6_pair ⟨Nat.le_of_ble_eq_true rfl, Nat.le_of_ble_eq_true rfl⟩ rfl hl.1 rfl (Nat.le_of_ble_eq_true rfl) ⟨Nat.le_of_ble_eq_true rfl, Nat.le_of_ble_eq_true rfl⟩ [] rfl rfl rfl (setB_same _ _ _ rfl) rfl dX6_favours_39 (fun H locs hP hD hS => ?_)
    obtain ⟨z5, hz5, hf⟩ := o_b hf
    refine k_iald hx hb hK hP 16 0 rfl rfl hz5 dX6_favours_42 ?_
    have e9 := Option.some.inj hf
    subst e9
    exact rt_i C hP hS rfl dX6_favours_43
  have hf := (o_i hf).1 c2
  refine lv_aload_n hx hb dX6_favours_12 rfl (lv_at hl 0 rfl) ?_
  refine lv_bipush (v := (-2)) hx hb dX6_favours_13 (by decide) ?_
  obtain ⟨g6, hg6, hf⟩ := o_b hf
  refine bVi (Bs' := [wX6 G a ((va 0)) a_draft a_images a_tale ((na 0)) a_ropeSearch a_ringSearch a_woodSearch g6.2.1 g6.2.2.1 g6.2.2.2, wX3 G va va_villages va_woods va_needs va_signs va_temper va_friend va_rope va_hears va_shut va_woodBell va_woodVillage va_needVillage va_needWind va_needSeen va_sign, wX4 G na na_due na_rang na_times na_last]) C hP hD hS (tX6_counted l G a ((va 0)) a_draft a_images a_tale ((na 0)) a_ropeSearch a_ringSearch a_woodSearch a_refusedBad a_refusedNo a_refusedFull ((-2)) g6 hg6) gX6_favours_X6_counted rfl ⟨rfl, rfl⟩ hdX6_counted ⟨Nat.le_of_ble_eq_true rfl, Nat.le_of_ble_eq_true rfl⟩ rfl hl.1 rfl (Nat.le_of_ble_eq_true rfl) ⟨Nat.le_of_ble_eq_true rfl, Nat.le_of_ble_eq_true rfl⟩ [0] rfl rfl rfl rfl rfl (ci := 6) (q0 := 0) rfl rfl rfl dX6_favours_15 (fun H locs hP hD hS => ?_)
  have hP : va_P G.1 vwCl (flat [wX6 G a ((va 0)) a_draft a_images a_tale ((na 0)) a_ropeSearch a_ringSearch a_woodSearch g6.2.1 g6.2.2.1 g6.2.2.2, wX3 G va va_villages va_woods va_needs va_signs va_temper va_friend va_rope va_hears va_shut va_woodBell va_woodVillage va_needVillage va_needWind va_needSeen va_sign, wX4 G na na_due na_rang na_times na_last]) H := hP
  have hD : va_D A (flat [wX6 G a ((va 0)) a_draft a_images a_tale ((na 0)) a_ropeSearch a_ringSearch a_woodSearch g6.2.1 g6.2.2.1 g6.2.2.2, wX3 G va va_villages va_woods va_needs va_signs va_temper va_friend va_rope va_hears va_shut va_woodBell va_woodVillage va_needVillage va_needWind va_needSeen va_sign, wX4 G na na_due na_rang na_times na_last]) := hD
  have e9 := Option.some.inj hf
  subst e9
  exact rt_i C hP hS rfl dX6_favours_18

/-! RX6 last(II)I -/
theorem iiX6_last_X6 : ∀ w ∈ wsX60, w ∈ wsX6_last := by decide +kernel
theorem mmX6_last_1 : (Cond.fieldLink RX6 12 "BlindBells" "valley" "LBlindBells$Valley;") ∈ wsX6_last := by decide +kernel
theorem mmX6_last_2 : (Cond.fieldLink RX6 33 "BlindBells" "run" "LBlindBells$ValleyRun;") ∈ wsX6_last := by decide +kernel
theorem iiX6_last_X4 : ∀ w ∈ wsX40, w ∈ wsX6_last := by decide +kernel
theorem mmX6_last_4 : (Cond.fieldLink RX6 149 "BlindBells$ValleyRun" "last" "[I") ∈ wsX6_last := by decide +kernel
theorem hdX6_last : yX6_last.cls = RX6 ∧ yX6_last.cls ≠ "java/lang/invoke/MethodHandle" ∧ yX6_last.cls ≠ "java/lang/invoke/VarHandle" ∧ (parseMethodDescriptor yX6_last.desc).map (fun d => d.parameters.length) = some 2 := by decide +kernel
abbrev rmX6_last : Room := { frames := 5, cells := 0, slots := 0, locals := 113 }
set_option maxHeartbeats 4000000 in
set_option maxRecDepth 100000 in
theorem tX6_last (l : Launch) (G : GG) (a : Nat → Nat) (va : Nat → Nat) (na : Nat → Nat) (a_draft : Nat) (a_images : Nat) (a_tale : Nat) (a_ropeSearch : Nat) (a_ringSearch : Nat) (a_woodSearch : Nat) (a_refusedBad : Int32) (a_refusedNo : Int32) (a_refusedFull : Int32) (va_villages : Int32) (va_woods : Int32) (va_needs : Int32) (va_signs : Int32) (va_temper : Nat → Int32) (va_friend : Nat → Int32) (va_rope : Nat → Int32) (va_hears : Nat → Int32) (va_shut : Nat → Int32) (va_woodBell : Nat → Int32) (va_woodVillage : Nat → Int32) (va_needVillage : Nat → Int32) (va_needWind : Nat → Int32) (va_needSeen : Nat → Int32) (va_sign : Nat → Int32) (na_due : Nat → Int32) (na_rang : Nat → Int32) (na_times : Nat → Int32) (na_last : Nat → Int32) (p0 : Int32) (p1 : Int32) (out : Int32 × Int32 × Int32 × Int32 × (Nat → Int32) × (Nat → Int32) × (Nat → Int32) × (Nat → Int32)) (hf : fX6_last a_refusedBad a_refusedNo a_refusedFull va_villages va_needs va_temper va_friend va_rope va_hears va_shut va_needVillage va_needWind va_needSeen na_due na_rang na_times na_last p0 p1 = some out) : cMi l G yX6_last wsX6_last rmX6_last [.ref (a 0), .int p0, .int p1] (flat [wX6 G a ((va 0)) a_draft a_images a_tale ((na 0)) a_ropeSearch a_ringSearch a_woodSearch a_refusedBad a_refusedNo a_refusedFull, wX3 G va va_villages va_woods va_needs va_signs va_temper va_friend va_rope va_hears va_shut va_woodBell va_woodVillage va_needVillage va_needWind va_needSeen va_sign, wX4 G na na_due na_rang na_times na_last]) out.1 (flat [wX6 G a ((va 0)) a_draft a_images a_tale ((na 0)) a_ropeSearch a_ringSearch a_woodSearch out.2.1 out.2.2.1 out.2.2.2.1, wX3 G va va_villages va_woods va_needs va_signs va_temper va_friend va_rope va_hears va_shut va_woodBell va_woodVillage va_needVillage va_needWind va_needSeen va_sign, wX4 G na out.2.2.2.2.1 out.2.2.2.2.2.1 out.2.2.2.2.2.2.1 out.2.2.2.2.2.2.2]) := by
  intro sz
  refine met_of (cc := cX6_last) (nL := 3) (ret := (some .int)) (Qc := fun A9 => QI G A9 out.1 (flat [wX6 G a ((va 0)) a_draft a_images a_tale ((na 0)) a_ropeSearch a_ringSearch a_woodSearch out.2.1 out.2.2.1 out.2.2.2.1, wX3 G va va_villages va_woods va_needs va_signs va_temper va_friend va_rope va_hears va_shut va_woodBell va_woodVillage va_needVillage va_needWind va_needSeen va_sign, wX4 G na out.2.2.2.2.1 out.2.2.2.2.2.1 out.2.2.2.2.2.2.1 out.2.2.2.2.2.2.2])) (by decide) rfl (Nat.le_of_ble_eq_true rfl) ?_
  intro p e s m args below meth c A ls C hP hD hS hl
  obtain ⟨⟨hx, hb, hml, hown, hts⟩, hr, hlocks, hK, hN, hE, hA⟩ := id C
  have hl : lv_has ls 3 [(0, .ref (a 0)), (1, .int p0), (2, .int p1)] := hl
  unfold fX6_last at hf
  refine lv_aload_n hx hb dX6_last_0 rfl (lv_at hl 0 rfl) ?_
  refine va_get (D := G.1) (ci := 6) (v := .ref (va 0)) (C := RX6) (T := TX6) (N := 11) hx hb hts iiX6_last_X6 hown hK hP 0 rfl rfl 0 (by decide) (hts _ mmX6_last_1) (fun _ h9 => h9) rfl dX6_last_1 ?_
  refine lv_iload_n hx hb dX6_last_4 rfl (lv_at hl 1 rfl) ?_
  refine lv_iload_n hx hb dX6_last_5 rfl (lv_at hl 2 rfl) ?_
  obtain ⟨g1, hg1, hf⟩ := o_b hf
  refine bVi C hP hD hS (tX3_areTwo l G va va_villages va_woods va_needs va_signs va_temper va_friend va_rope va_hears va_shut va_woodBell va_woodVillage va_needVillage va_needWind va_needSeen va_sign p0 p1 g1 hg1) gX6_last_X3_areTwo rfl ⟨rfl, rfl⟩ hdX3_areTwo ⟨Nat.le_of_ble_eq_true rfl, Nat.le_of_ble_eq_true rfl⟩ rfl hl.1 rfl (Nat.le_of_ble_eq_true rfl) ⟨Nat.le_of_ble_eq_true rfl, Nat.le_of_ble_eq_true rfl⟩ [1] rfl rfl rfl (setB_same _ _ _ rfl) rfl (ci := 3) (q0 := 1) rfl rfl rfl dX6_last_6 (fun H locs hP hD hS => ?_)
  refine lv_if_ne (tgt := 19) hx hb dX6_last_9 (by decide) (fun c2 => ?_) (fun c2 => ?_)
  · have hf := (o_i hf).2 c2
    refine lv_aload_n hx hb dX6_last_19 rfl (lv_at hl 0 rfl) ?_
    refine va_get (D := G.1) (ci := 6) (v := .ref (na 0)) (C := RX6) (T := TX6) (N := 11) hx hb hts iiX6_last_X6 hown hK hP 0 rfl rfl 4 (by decide) (hts _ mmX6_last_2) (fun _ h9 => h9) rfl dX6_last_20 ?_
    refine lv_aload_n hx hb dX6_last_23 rfl (lv_at hl 0 rfl) ?_
    refine va_get (D := G.1) (ci := 6) (v := .ref (va 0)) (C := RX6) (T := TX6) (N := 11) hx hb hts iiX6_last_X6 hown hK hP 0 rfl rfl 0 (by decide) (hts _ mmX6_last_1) (fun _ h9 => h9) rfl dX6_last_24 ?_
    obtain ⟨g3, hg3, hf⟩ := o_b hf
    refine bVv (Bs' := [wX6 G a ((va 0)) a_draft a_images a_tale ((na 0)) a_ropeSearch a_ringSearch a_woodSearch a_refusedBad a_refusedNo a_refusedFull, wX3 G va va_villages va_woods va_needs va_signs va_temper va_friend va_rope va_hears va_shut va_woodBell va_woodVillage va_needVillage va_needWind va_needSeen va_sign, wX4 G na g3.1 g3.2.1 g3.2.2.1 g3.2.2.2]) C hP hD hS (tX4_go l G na va na_due na_rang na_times na_last va_villages va_woods va_needs va_signs va_temper va_friend va_rope va_hears va_shut va_woodBell va_woodVillage va_needVillage va_needWind va_needSeen va_sign g3 hg3) gX6_last_X4_go rfl ⟨rfl, rfl⟩ hdX4_go ⟨Nat.le_of_ble_eq_true rfl, Nat.le_of_ble_eq_true rfl⟩ rfl hl.1 rfl (Nat.le_of_ble_eq_true rfl) ⟨Nat.le_of_ble_eq_true rfl, Nat.le_of_ble_eq_true rfl⟩ [2, 1] rfl rfl rfl rfl rfl (ci := 4) (q0 := 13) rfl rfl rfl dX6_last_27 (fun H locs hP hD hS => ?_)
    have hP : va_P G.1 vwCl (flat [wX6 G a ((va 0)) a_draft a_images a_tale ((na 0)) a_ropeSearch a_ringSearch a_woodSearch a_refusedBad a_refusedNo a_refusedFull, wX3 G va va_villages va_woods va_needs va_signs va_temper va_friend va_rope va_hears va_shut va_woodBell va_woodVillage va_needVillage va_needWind va_needSeen va_sign, wX4 G na g3.1 g3.2.1 g3.2.2.1 g3.2.2.2]) H := hP
    have hD : va_D A (flat [wX6 G a ((va 0)) a_draft a_images a_tale ((na 0)) a_ropeSearch a_ringSearch a_woodSearch a_refusedBad a_refusedNo a_refusedFull, wX3 G va va_villages va_woods va_needs va_signs va_temper va_friend va_rope va_hears va_shut va_woodBell va_woodVillage va_needVillage va_needWind va_needSeen va_sign, wX4 G na g3.1 g3.2.1 g3.2.2.1 g3.2.2.2]) := hD
    refine lv_aload_n hx hb dX6_last_30 rfl (lv_at hl 0 rfl) ?_
    refine va_get (D := G.1) (ci := 6) (v := .ref (na 0)) (C := RX6) (T := TX6) (N := 11) hx hb hts iiX6_last_X6 hown hK hP 0 rfl rfl 4 (by decide) (hts _ mmX6_last_2) (fun _ h9 => h9) rfl dX6_last_31 ?_
    refine va_get (D := G.1) (ci := 4) (v := .ref (na 4)) (C := RX4) (T := TX4) (N := 4) hx hb hts iiX6_last_X4 hown hK hP 13 rfl rfl 3 (by decide) (hts _ mmX6_last_4) (fun _ h9 => h9) rfl dX6_last_34 ?_
    refine lv_iload_n hx hb dX6_last_37 rfl (lv_at hl 1 rfl) ?_
    refine at_pc (pc' := 38) rfl ?_
    refine lv_iload_n hx hb dX6_last_38 rfl (lv_at hl 2 rfl) ?_
    obtain ⟨g4, hg4, hf⟩ := o_b hf
    refine bSi C hP hD hS (tX6_pair l G p0 p1 g4 hg4) gX6_last_X6_pair rfl ⟨rfl, rfl⟩ hdX6_pair ⟨Nat.le_of_ble_eq_true rfl, Nat.le_of_ble_eq_true rfl⟩ rfl hl.1 rfl (Nat.le_of_ble_eq_true rfl) ⟨Nat.le_of_ble_eq_true rfl, Nat.le_of_ble_eq_true rfl⟩ [] rfl rfl rfl (setB_same _ _ _ rfl) rfl dX6_last_39 (fun H locs hP hD hS => ?_)
    obtain ⟨z5, hz5, hf⟩ := o_b hf
    refine k_iald hx hb hK hP 17 0 rfl rfl hz5 dX6_last_42 ?_
    have e9 := Option.some.inj hf
    subst e9
    exact rt_i C hP hS rfl dX6_last_43
  have hf := (o_i hf).1 c2
  refine lv_aload_n hx hb dX6_last_12 rfl (lv_at hl 0 rfl) ?_
  refine lv_bipush (v := (-2)) hx hb dX6_last_13 (by decide) ?_
  obtain ⟨g6, hg6, hf⟩ := o_b hf
  refine bVi (Bs' := [wX6 G a ((va 0)) a_draft a_images a_tale ((na 0)) a_ropeSearch a_ringSearch a_woodSearch g6.2.1 g6.2.2.1 g6.2.2.2, wX3 G va va_villages va_woods va_needs va_signs va_temper va_friend va_rope va_hears va_shut va_woodBell va_woodVillage va_needVillage va_needWind va_needSeen va_sign, wX4 G na na_due na_rang na_times na_last]) C hP hD hS (tX6_counted l G a ((va 0)) a_draft a_images a_tale ((na 0)) a_ropeSearch a_ringSearch a_woodSearch a_refusedBad a_refusedNo a_refusedFull ((-2)) g6 hg6) gX6_last_X6_counted rfl ⟨rfl, rfl⟩ hdX6_counted ⟨Nat.le_of_ble_eq_true rfl, Nat.le_of_ble_eq_true rfl⟩ rfl hl.1 rfl (Nat.le_of_ble_eq_true rfl) ⟨Nat.le_of_ble_eq_true rfl, Nat.le_of_ble_eq_true rfl⟩ [0] rfl rfl rfl rfl rfl (ci := 6) (q0 := 0) rfl rfl rfl dX6_last_15 (fun H locs hP hD hS => ?_)
  have hP : va_P G.1 vwCl (flat [wX6 G a ((va 0)) a_draft a_images a_tale ((na 0)) a_ropeSearch a_ringSearch a_woodSearch g6.2.1 g6.2.2.1 g6.2.2.2, wX3 G va va_villages va_woods va_needs va_signs va_temper va_friend va_rope va_hears va_shut va_woodBell va_woodVillage va_needVillage va_needWind va_needSeen va_sign, wX4 G na na_due na_rang na_times na_last]) H := hP
  have hD : va_D A (flat [wX6 G a ((va 0)) a_draft a_images a_tale ((na 0)) a_ropeSearch a_ringSearch a_woodSearch g6.2.1 g6.2.2.1 g6.2.2.2, wX3 G va va_villages va_woods va_needs va_signs va_temper va_friend va_rope va_hears va_shut va_woodBell va_woodVillage va_needVillage va_needWind va_needSeen va_sign, wX4 G na na_due na_rang na_times na_last]) := hD
  have e9 := Option.some.inj hf
  subst e9
  exact rt_i C hP hS rfl dX6_last_18

/-! RX6 badApart()I -/
theorem iiX6_badApart_X6 : ∀ w ∈ wsX60, w ∈ wsX6_badApart := by decide +kernel
theorem mmX6_badApart_1 : (Cond.fieldLink RX6 193 "BlindBells" "refusedBad" "I") ∈ wsX6_badApart := by decide +kernel
theorem hdX6_badApart : yX6_badApart.cls = RX6 ∧ yX6_badApart.cls ≠ "java/lang/invoke/MethodHandle" ∧ yX6_badApart.cls ≠ "java/lang/invoke/VarHandle" ∧ (parseMethodDescriptor yX6_badApart.desc).map (fun d => d.parameters.length) = some 0 := by decide +kernel
abbrev rmX6_badApart : Room := { frames := 0, cells := 0, slots := 0, locals := 0 }
set_option maxHeartbeats 4000000 in
set_option maxRecDepth 100000 in
theorem tX6_badApart (l : Launch) (G : GG) (a : Nat → Nat) (a_valley : Nat) (a_draft : Nat) (a_images : Nat) (a_tale : Nat) (a_run : Nat) (a_ropeSearch : Nat) (a_ringSearch : Nat) (a_woodSearch : Nat) (a_refusedBad : Int32) (a_refusedNo : Int32) (a_refusedFull : Int32) (out : Int32 × Int32) (hf : fX6_badApart a_refusedBad = some out) : cMi l G yX6_badApart wsX6_badApart rmX6_badApart [.ref (a 0)] (flat [wX6 G a a_valley a_draft a_images a_tale a_run a_ropeSearch a_ringSearch a_woodSearch a_refusedBad a_refusedNo a_refusedFull]) out.1 (flat [wX6 G a a_valley a_draft a_images a_tale a_run a_ropeSearch a_ringSearch a_woodSearch out.2 a_refusedNo a_refusedFull]) := by
  intro sz
  refine met_of (cc := cX6_badApart) (nL := 1) (ret := (some .int)) (Qc := fun A9 => QI G A9 out.1 (flat [wX6 G a a_valley a_draft a_images a_tale a_run a_ropeSearch a_ringSearch a_woodSearch out.2 a_refusedNo a_refusedFull])) (by decide) rfl (Nat.le_of_ble_eq_true rfl) ?_
  intro p e s m args below meth c A ls C hP hD hS hl
  obtain ⟨⟨hx, hb, hml, hown, hts⟩, hr, hlocks, hK, hN, hE, hA⟩ := id C
  have hl : lv_has ls 1 [(0, .ref (a 0))] := hl
  unfold fX6_badApart at hf
  refine lv_aload_n hx hb dX6_badApart_0 rfl (lv_at hl 0 rfl) ?_
  refine lv_dup hx hb dX6_badApart_1 rfl ?_
  refine va_get (D := G.1) (ci := 6) (v := .int a_refusedBad) (C := RX6) (T := TX6) (N := 11) hx hb hts iiX6_badApart_X6 hown hK hP 0 rfl rfl 8 (by decide) (hts _ mmX6_badApart_1) (fun _ h9 => h9) rfl dX6_badApart_2 ?_
  refine lv_iconst (v := 1) hx hb dX6_badApart_5 (by decide) ?_
  refine lv_iadd hx hb dX6_badApart_6 ?_
  refine va_put (D := G.1) (ci := 6) (v := .int (a_refusedBad + 1)) (ty := .int) (C := RX6) (T := TX6) (N := 11) hx hb hts iiX6_badApart_X6 tyX6 tyX6_ok nmX6 hown hK hP hD hS 0 rfl rfl 8 (by decide) (hts _ mmX6_badApart_1) (fun _ h9 => h9) rfl (by decide +kernel) rfl rfl (Nat.le_of_ble_eq_true rfl) dX6_badApart_7 (fun H locs hP hD hS => ?_)
  have hP : va_P G.1 vwCl (flat [wX6 G a a_valley a_draft a_images a_tale a_run a_ropeSearch a_ringSearch a_woodSearch (a_refusedBad + 1) a_refusedNo a_refusedFull]) H := hP
  have hD : va_D A (flat [wX6 G a a_valley a_draft a_images a_tale a_run a_ropeSearch a_ringSearch a_woodSearch (a_refusedBad + 1) a_refusedNo a_refusedFull]) := hD
  refine lv_bipush (v := (-10)) hx hb dX6_badApart_10 (by decide) ?_
  have e9 := Option.some.inj hf
  subst e9
  exact rt_i C hP hS rfl dX6_badApart_12

/-! RX6 ropes(I)I -/
theorem iiX6_ropes_X6 : ∀ w ∈ wsX60, w ∈ wsX6_ropes := by decide +kernel
theorem mmX6_ropes_1 : (Cond.fieldLink RX6 40 "BlindBells" "ropeSearch" "LBlindBells$RopeSearch;") ∈ wsX6_ropes := by decide +kernel
theorem mmX6_ropes_2 : (Cond.fieldLink RX6 12 "BlindBells" "valley" "LBlindBells$Valley;") ∈ wsX6_ropes := by decide +kernel
theorem iiX6_ropes_X1 : ∀ w ∈ wsX10, w ∈ wsX6_ropes := by decide +kernel
theorem mmX6_ropes_4 : (Cond.fieldLink RX6 156 "BlindBells$RopeSearch" "most" "I") ∈ wsX6_ropes := by decide +kernel
theorem mmX6_ropes_5 : (Cond.fieldLink RX6 159 "BlindBells$RopeSearch" "best" "[I") ∈ wsX6_ropes := by decide +kernel
theorem hdX6_ropes : yX6_ropes.cls = RX6 ∧ yX6_ropes.cls ≠ "java/lang/invoke/MethodHandle" ∧ yX6_ropes.cls ≠ "java/lang/invoke/VarHandle" ∧ (parseMethodDescriptor yX6_ropes.desc).map (fun d => d.parameters.length) = some 1 := by decide +kernel
abbrev rmX6_ropes : Room := { frames := 12, cells := 0, slots := 0, locals := 350 }
set_option maxHeartbeats 4000000 in
set_option maxRecDepth 100000 in
theorem tX6_ropes (l : Launch) (G : GG) (a : Nat → Nat) (va : Nat → Nat) (oa : Nat → Nat) (a_draft : Nat) (a_images : Nat) (a_tale : Nat) (a_run : Nat) (a_ringSearch : Nat) (a_woodSearch : Nat) (a_refusedBad : Int32) (a_refusedNo : Int32) (a_refusedFull : Int32) (va_villages : Int32) (va_woods : Int32) (va_needs : Int32) (va_signs : Int32) (va_temper : Nat → Int32) (va_friend : Nat → Int32) (va_rope : Nat → Int32) (va_hears : Nat → Int32) (va_shut : Nat → Int32) (va_woodBell : Nat → Int32) (va_woodVillage : Nat → Int32) (va_needVillage : Nat → Int32) (va_needWind : Nat → Int32) (va_needSeen : Nat → Int32) (va_sign : Nat → Int32) (oa_best : Nat → Int32) (oa_most : Int32) (oa_given : Nat → Int32) (oa_meets : Nat → Int32) (oa_villages : Int32) (p0 : Int32) (out : Int32 × Int32 × (Nat → Int32) × Int32 × (Nat → Int32) × (Nat → Int32) × Int32) (hf : fX6_ropes a_refusedBad va_villages va_needs va_hears va_shut va_needVillage va_needWind va_needSeen oa_best oa_most oa_given oa_meets oa_villages p0 = some out) : cMi l G yX6_ropes wsX6_ropes rmX6_ropes [.ref (a 0), .int p0] (flat [wX6 G a ((va 0)) a_draft a_images a_tale a_run ((oa 0)) a_ringSearch a_woodSearch a_refusedBad a_refusedNo a_refusedFull, wX3 G va va_villages va_woods va_needs va_signs va_temper va_friend va_rope va_hears va_shut va_woodBell va_woodVillage va_needVillage va_needWind va_needSeen va_sign, wX1 G oa oa_best oa_most oa_given oa_meets oa_villages]) out.1 (flat [wX6 G a ((va 0)) a_draft a_images a_tale a_run ((oa 0)) a_ringSearch a_woodSearch out.2.1 a_refusedNo a_refusedFull, wX3 G va va_villages va_woods va_needs va_signs va_temper va_friend va_rope va_hears va_shut va_woodBell va_woodVillage va_needVillage va_needWind va_needSeen va_sign, wX1 G oa out.2.2.1 out.2.2.2.1 out.2.2.2.2.1 out.2.2.2.2.2.1 out.2.2.2.2.2.2]) := by
  intro sz
  refine met_of (cc := cX6_ropes) (nL := 2) (ret := (some .int)) (Qc := fun A9 => QI G A9 out.1 (flat [wX6 G a ((va 0)) a_draft a_images a_tale a_run ((oa 0)) a_ringSearch a_woodSearch out.2.1 a_refusedNo a_refusedFull, wX3 G va va_villages va_woods va_needs va_signs va_temper va_friend va_rope va_hears va_shut va_woodBell va_woodVillage va_needVillage va_needWind va_needSeen va_sign, wX1 G oa out.2.2.1 out.2.2.2.1 out.2.2.2.2.1 out.2.2.2.2.2.1 out.2.2.2.2.2.2])) (by decide) rfl (Nat.le_of_ble_eq_true rfl) ?_
  intro p e s m args below meth c A ls C hP hD hS hl
  obtain ⟨⟨hx, hb, hml, hown, hts⟩, hr, hlocks, hK, hN, hE, hA⟩ := id C
  have hl : lv_has ls 2 [(0, .ref (a 0)), (1, .int p0)] := hl
  unfold fX6_ropes at hf
  refine lv_iload_n hx hb dX6_ropes_0 rfl (lv_at hl 1 rfl) ?_
  refine lv_iconst (v := (-1)) hx hb dX6_ropes_1 (by decide) ?_
  refine lv_icmp_eq (tgt := 21) hx hb dX6_ropes_2 (by decide) (fun c1 => ?_) (fun c1 => ?_)
  · have hf := (o_i hf).1 c1
    refine lv_aload_n hx hb dX6_ropes_21 rfl (lv_at hl 0 rfl) ?_
    refine va_get (D := G.1) (ci := 6) (v := .ref (oa 0)) (C := RX6) (T := TX6) (N := 11) hx hb hts iiX6_ropes_X6 hown hK hP 0 rfl rfl 5 (by decide) (hts _ mmX6_ropes_1) (fun _ h9 => h9) rfl dX6_ropes_22 ?_
    refine lv_aload_n hx hb dX6_ropes_25 rfl (lv_at hl 0 rfl) ?_
    refine va_get (D := G.1) (ci := 6) (v := .ref (va 0)) (C := RX6) (T := TX6) (N := 11) hx hb hts iiX6_ropes_X6 hown hK hP 0 rfl rfl 0 (by decide) (hts _ mmX6_ropes_2) (fun _ h9 => h9) rfl dX6_ropes_26 ?_
    obtain ⟨g2, hg2, hf⟩ := o_b hf
    refine bVv (Bs' := [wX6 G a ((va 0)) a_draft a_images a_tale a_run ((oa 0)) a_ringSearch a_woodSearch a_refusedBad a_refusedNo a_refusedFull, wX3 G va va_villages va_woods va_needs va_signs va_temper va_friend va_rope va_hears va_shut va_woodBell va_woodVillage va_needVillage va_needWind va_needSeen va_sign, wX1 G oa g2.1 g2.2.1 g2.2.2.1 g2.2.2.2.1 g2.2.2.2.2]) C hP hD hS (tX1_go l G oa va oa_best oa_most oa_given oa_meets oa_villages va_villages va_woods va_needs va_signs va_temper va_friend va_rope va_hears va_shut va_woodBell va_woodVillage va_needVillage va_needWind va_needSeen va_sign g2 hg2) gX6_ropes_X1_go rfl ⟨rfl, rfl⟩ hdX1_go ⟨Nat.le_of_ble_eq_true rfl, Nat.le_of_ble_eq_true rfl⟩ rfl hl.1 rfl (Nat.le_of_ble_eq_true rfl) ⟨Nat.le_of_ble_eq_true rfl, Nat.le_of_ble_eq_true rfl⟩ [2, 1] rfl rfl rfl rfl rfl (ci := 1) (q0 := 13) rfl rfl rfl dX6_ropes_29 (fun H locs hP hD hS => ?_)
    have hP : va_P G.1 vwCl (flat [wX6 G a ((va 0)) a_draft a_images a_tale a_run ((oa 0)) a_ringSearch a_woodSearch a_refusedBad a_refusedNo a_refusedFull, wX3 G va va_villages va_woods va_needs va_signs va_temper va_friend va_rope va_hears va_shut va_woodBell va_woodVillage va_needVillage va_needWind va_needSeen va_sign, wX1 G oa g2.1 g2.2.1 g2.2.2.1 g2.2.2.2.1 g2.2.2.2.2]) H := hP
    have hD : va_D A (flat [wX6 G a ((va 0)) a_draft a_images a_tale a_run ((oa 0)) a_ringSearch a_woodSearch a_refusedBad a_refusedNo a_refusedFull, wX3 G va va_villages va_woods va_needs va_signs va_temper va_friend va_rope va_hears va_shut va_woodBell va_woodVillage va_needVillage va_needWind va_needSeen va_sign, wX1 G oa g2.1 g2.2.1 g2.2.2.1 g2.2.2.2.1 g2.2.2.2.2]) := hD
    refine lv_iload_n hx hb dX6_ropes_32 rfl (lv_at hl 1 rfl) ?_
    refine lv_iconst (v := (-1)) hx hb dX6_ropes_33 (by decide) ?_
    refine lv_icmp_eq (tgt := 48) hx hb dX6_ropes_34 (by decide) (fun c3 => ?_) (fun c3 => ?_)
    · have hf := (o_i hf).1 c3
      refine lv_aload_n hx hb dX6_ropes_48 rfl (lv_at hl 0 rfl) ?_
      refine va_get (D := G.1) (ci := 6) (v := .ref (oa 0)) (C := RX6) (T := TX6) (N := 11) hx hb hts iiX6_ropes_X6 hown hK hP 0 rfl rfl 5 (by decide) (hts _ mmX6_ropes_1) (fun _ h9 => h9) rfl dX6_ropes_49 ?_
      refine va_get (D := G.1) (ci := 1) (v := .int g2.2.1) (C := RX1) (T := TX1) (N := 5) hx hb hts iiX6_ropes_X1 hown hK hP 13 rfl rfl 1 (by decide) (hts _ mmX6_ropes_4) (fun _ h9 => h9) rfl dX6_ropes_52 ?_
      have e9 := Option.some.inj hf
      subst e9
      exact rt_i C hP hS rfl dX6_ropes_55
    have hf := (o_i hf).2 c3
    refine lv_aload_n hx hb dX6_ropes_37 rfl (lv_at hl 0 rfl) ?_
    refine va_get (D := G.1) (ci := 6) (v := .ref (oa 0)) (C := RX6) (T := TX6) (N := 11) hx hb hts iiX6_ropes_X6 hown hK hP 0 rfl rfl 5 (by decide) (hts _ mmX6_ropes_1) (fun _ h9 => h9) rfl dX6_ropes_38 ?_
    refine va_get (D := G.1) (ci := 1) (v := .int g2.2.1) (C := RX1) (T := TX1) (N := 5) hx hb hts iiX6_ropes_X1 hown hK hP 13 rfl rfl 1 (by decide) (hts _ mmX6_ropes_4) (fun _ h9 => h9) rfl dX6_ropes_41 ?_
    refine lv_iconst (v := (-1)) hx hb dX6_ropes_44 (by decide) ?_
    refine lv_icmp_ne (tgt := 56) hx hb dX6_ropes_45 (by decide) (fun c4 => ?_) (fun c4 => ?_)
    · have hf := (o_i hf).2 c4
      refine lv_aload_n hx hb dX6_ropes_56 rfl (lv_at hl 0 rfl) ?_
      refine va_get (D := G.1) (ci := 6) (v := .ref (oa 0)) (C := RX6) (T := TX6) (N := 11) hx hb hts iiX6_ropes_X6 hown hK hP 0 rfl rfl 5 (by decide) (hts _ mmX6_ropes_1) (fun _ h9 => h9) rfl dX6_ropes_57 ?_
      refine va_get (D := G.1) (ci := 1) (v := .ref (oa 1)) (C := RX1) (T := TX1) (N := 5) hx hb hts iiX6_ropes_X1 hown hK hP 13 rfl rfl 0 (by decide) (hts _ mmX6_ropes_5) (fun _ h9 => h9) rfl dX6_ropes_60 ?_
      refine lv_iload_n hx hb dX6_ropes_63 rfl (lv_at hl 1 rfl) ?_
      obtain ⟨z5, hz5, hf⟩ := o_b hf
      refine k_iald hx hb hK hP 14 0 rfl rfl hz5 dX6_ropes_64 ?_
      have e9 := Option.some.inj hf
      subst e9
      exact rt_i C hP hS rfl dX6_ropes_65
    have hf := (o_i hf).1 c4
    refine lv_aload_n hx hb dX6_ropes_48 rfl (lv_at hl 0 rfl) ?_
    refine va_get (D := G.1) (ci := 6) (v := .ref (oa 0)) (C := RX6) (T := TX6) (N := 11) hx hb hts iiX6_ropes_X6 hown hK hP 0 rfl rfl 5 (by decide) (hts _ mmX6_ropes_1) (fun _ h9 => h9) rfl dX6_ropes_49 ?_
    refine va_get (D := G.1) (ci := 1) (v := .int g2.2.1) (C := RX1) (T := TX1) (N := 5) hx hb hts iiX6_ropes_X1 hown hK hP 13 rfl rfl 1 (by decide) (hts _ mmX6_ropes_4) (fun _ h9 => h9) rfl dX6_ropes_52 ?_
    have e9 := Option.some.inj hf
    subst e9
    exact rt_i C hP hS rfl dX6_ropes_55
  have hf := (o_i hf).2 c1
  refine lv_aload_n hx hb dX6_ropes_5 rfl (lv_at hl 0 rfl) ?_
  refine va_get (D := G.1) (ci := 6) (v := .ref (va 0)) (C := RX6) (T := TX6) (N := 11) hx hb hts iiX6_ropes_X6 hown hK hP 0 rfl rfl 0 (by decide) (hts _ mmX6_ropes_2) (fun _ h9 => h9) rfl dX6_ropes_6 ?_
  refine lv_iload_n hx hb dX6_ropes_9 rfl (lv_at hl 1 rfl) ?_
  obtain ⟨g6, hg6, hf⟩ := o_b hf
  refine bVi C hP hD hS (tX3_isVillage l G va va_villages va_woods va_needs va_signs va_temper va_friend va_rope va_hears va_shut va_woodBell va_woodVillage va_needVillage va_needWind va_needSeen va_sign p0 g6 hg6) gX6_ropes_X3_isVillage rfl ⟨rfl, rfl⟩ hdX3_isVillage ⟨Nat.le_of_ble_eq_true rfl, Nat.le_of_ble_eq_true rfl⟩ rfl hl.1 rfl (Nat.le_of_ble_eq_true rfl) ⟨Nat.le_of_ble_eq_true rfl, Nat.le_of_ble_eq_true rfl⟩ [1] rfl rfl rfl (setB_same _ _ _ rfl) rfl (ci := 3) (q0 := 1) rfl rfl rfl dX6_ropes_10 (fun H locs hP hD hS => ?_)
  refine lv_if_ne (tgt := 21) hx hb dX6_ropes_13 (by decide) (fun c7 => ?_) (fun c7 => ?_)
  · have hf := (o_i hf).2 c7
    refine lv_aload_n hx hb dX6_ropes_21 rfl (lv_at hl 0 rfl) ?_
    refine va_get (D := G.1) (ci := 6) (v := .ref (oa 0)) (C := RX6) (T := TX6) (N := 11) hx hb hts iiX6_ropes_X6 hown hK hP 0 rfl rfl 5 (by decide) (hts _ mmX6_ropes_1) (fun _ h9 => h9) rfl dX6_ropes_22 ?_
    refine lv_aload_n hx hb dX6_ropes_25 rfl (lv_at hl 0 rfl) ?_
    refine va_get (D := G.1) (ci := 6) (v := .ref (va 0)) (C := RX6) (T := TX6) (N := 11) hx hb hts iiX6_ropes_X6 hown hK hP 0 rfl rfl 0 (by decide) (hts _ mmX6_ropes_2) (fun _ h9 => h9) rfl dX6_ropes_26 ?_
    obtain ⟨g8, hg8, hf⟩ := o_b hf
    refine bVv (Bs' := [wX6 G a ((va 0)) a_draft a_images a_tale a_run ((oa 0)) a_ringSearch a_woodSearch a_refusedBad a_refusedNo a_refusedFull, wX3 G va va_villages va_woods va_needs va_signs va_temper va_friend va_rope va_hears va_shut va_woodBell va_woodVillage va_needVillage va_needWind va_needSeen va_sign, wX1 G oa g8.1 g8.2.1 g8.2.2.1 g8.2.2.2.1 g8.2.2.2.2]) C hP hD hS (tX1_go l G oa va oa_best oa_most oa_given oa_meets oa_villages va_villages va_woods va_needs va_signs va_temper va_friend va_rope va_hears va_shut va_woodBell va_woodVillage va_needVillage va_needWind va_needSeen va_sign g8 hg8) gX6_ropes_X1_go rfl ⟨rfl, rfl⟩ hdX1_go ⟨Nat.le_of_ble_eq_true rfl, Nat.le_of_ble_eq_true rfl⟩ rfl hl.1 rfl (Nat.le_of_ble_eq_true rfl) ⟨Nat.le_of_ble_eq_true rfl, Nat.le_of_ble_eq_true rfl⟩ [2, 1] rfl rfl rfl rfl rfl (ci := 1) (q0 := 13) rfl rfl rfl dX6_ropes_29 (fun H locs hP hD hS => ?_)
    have hP : va_P G.1 vwCl (flat [wX6 G a ((va 0)) a_draft a_images a_tale a_run ((oa 0)) a_ringSearch a_woodSearch a_refusedBad a_refusedNo a_refusedFull, wX3 G va va_villages va_woods va_needs va_signs va_temper va_friend va_rope va_hears va_shut va_woodBell va_woodVillage va_needVillage va_needWind va_needSeen va_sign, wX1 G oa g8.1 g8.2.1 g8.2.2.1 g8.2.2.2.1 g8.2.2.2.2]) H := hP
    have hD : va_D A (flat [wX6 G a ((va 0)) a_draft a_images a_tale a_run ((oa 0)) a_ringSearch a_woodSearch a_refusedBad a_refusedNo a_refusedFull, wX3 G va va_villages va_woods va_needs va_signs va_temper va_friend va_rope va_hears va_shut va_woodBell va_woodVillage va_needVillage va_needWind va_needSeen va_sign, wX1 G oa g8.1 g8.2.1 g8.2.2.1 g8.2.2.2.1 g8.2.2.2.2]) := hD
    refine lv_iload_n hx hb dX6_ropes_32 rfl (lv_at hl 1 rfl) ?_
    refine lv_iconst (v := (-1)) hx hb dX6_ropes_33 (by decide) ?_
    refine lv_icmp_eq (tgt := 48) hx hb dX6_ropes_34 (by decide) (fun c9 => ?_) (fun c9 => ?_)
    · have hf := (o_i hf).1 c9
      refine lv_aload_n hx hb dX6_ropes_48 rfl (lv_at hl 0 rfl) ?_
      refine va_get (D := G.1) (ci := 6) (v := .ref (oa 0)) (C := RX6) (T := TX6) (N := 11) hx hb hts iiX6_ropes_X6 hown hK hP 0 rfl rfl 5 (by decide) (hts _ mmX6_ropes_1) (fun _ h9 => h9) rfl dX6_ropes_49 ?_
      refine va_get (D := G.1) (ci := 1) (v := .int g8.2.1) (C := RX1) (T := TX1) (N := 5) hx hb hts iiX6_ropes_X1 hown hK hP 13 rfl rfl 1 (by decide) (hts _ mmX6_ropes_4) (fun _ h9 => h9) rfl dX6_ropes_52 ?_
      have e9 := Option.some.inj hf
      subst e9
      exact rt_i C hP hS rfl dX6_ropes_55
    have hf := (o_i hf).2 c9
    refine lv_aload_n hx hb dX6_ropes_37 rfl (lv_at hl 0 rfl) ?_
    refine va_get (D := G.1) (ci := 6) (v := .ref (oa 0)) (C := RX6) (T := TX6) (N := 11) hx hb hts iiX6_ropes_X6 hown hK hP 0 rfl rfl 5 (by decide) (hts _ mmX6_ropes_1) (fun _ h9 => h9) rfl dX6_ropes_38 ?_
    refine va_get (D := G.1) (ci := 1) (v := .int g8.2.1) (C := RX1) (T := TX1) (N := 5) hx hb hts iiX6_ropes_X1 hown hK hP 13 rfl rfl 1 (by decide) (hts _ mmX6_ropes_4) (fun _ h9 => h9) rfl dX6_ropes_41 ?_
    refine lv_iconst (v := (-1)) hx hb dX6_ropes_44 (by decide) ?_
    refine lv_icmp_ne (tgt := 56) hx hb dX6_ropes_45 (by decide) (fun c10 => ?_) (fun c10 => ?_)
    · have hf := (o_i hf).2 c10
      refine lv_aload_n hx hb dX6_ropes_56 rfl (lv_at hl 0 rfl) ?_
      refine va_get (D := G.1) (ci := 6) (v := .ref (oa 0)) (C := RX6) (T := TX6) (N := 11) hx hb hts iiX6_ropes_X6 hown hK hP 0 rfl rfl 5 (by decide) (hts _ mmX6_ropes_1) (fun _ h9 => h9) rfl dX6_ropes_57 ?_
      refine va_get (D := G.1) (ci := 1) (v := .ref (oa 1)) (C := RX1) (T := TX1) (N := 5) hx hb hts iiX6_ropes_X1 hown hK hP 13 rfl rfl 0 (by decide) (hts _ mmX6_ropes_5) (fun _ h9 => h9) rfl dX6_ropes_60 ?_
      refine lv_iload_n hx hb dX6_ropes_63 rfl (lv_at hl 1 rfl) ?_
      obtain ⟨z11, hz11, hf⟩ := o_b hf
      refine k_iald hx hb hK hP 14 0 rfl rfl hz11 dX6_ropes_64 ?_
      have e9 := Option.some.inj hf
      subst e9
      exact rt_i C hP hS rfl dX6_ropes_65
    have hf := (o_i hf).1 c10
    refine lv_aload_n hx hb dX6_ropes_48 rfl (lv_at hl 0 rfl) ?_
    refine va_get (D := G.1) (ci := 6) (v := .ref (oa 0)) (C := RX6) (T := TX6) (N := 11) hx hb hts iiX6_ropes_X6 hown hK hP 0 rfl rfl 5 (by decide) (hts _ mmX6_ropes_1) (fun _ h9 => h9) rfl dX6_ropes_49 ?_
    refine va_get (D := G.1) (ci := 1) (v := .int g8.2.1) (C := RX1) (T := TX1) (N := 5) hx hb hts iiX6_ropes_X1 hown hK hP 13 rfl rfl 1 (by decide) (hts _ mmX6_ropes_4) (fun _ h9 => h9) rfl dX6_ropes_52 ?_
    have e9 := Option.some.inj hf
    subst e9
    exact rt_i C hP hS rfl dX6_ropes_55
  have hf := (o_i hf).1 c7
  refine lv_aload_n hx hb dX6_ropes_16 rfl (lv_at hl 0 rfl) ?_
  obtain ⟨g12, hg12, hf⟩ := o_b hf
  refine bVi (Bs' := [wX6 G a ((va 0)) a_draft a_images a_tale a_run ((oa 0)) a_ringSearch a_woodSearch g12.2 a_refusedNo a_refusedFull, wX3 G va va_villages va_woods va_needs va_signs va_temper va_friend va_rope va_hears va_shut va_woodBell va_woodVillage va_needVillage va_needWind va_needSeen va_sign, wX1 G oa oa_best oa_most oa_given oa_meets oa_villages]) C hP hD hS (tX6_badApart l G a ((va 0)) a_draft a_images a_tale a_run ((oa 0)) a_ringSearch a_woodSearch a_refusedBad a_refusedNo a_refusedFull g12 hg12) gX6_ropes_X6_badApart rfl ⟨rfl, rfl⟩ hdX6_badApart ⟨Nat.le_of_ble_eq_true rfl, Nat.le_of_ble_eq_true rfl⟩ rfl hl.1 rfl (Nat.le_of_ble_eq_true rfl) ⟨Nat.le_of_ble_eq_true rfl, Nat.le_of_ble_eq_true rfl⟩ [0] rfl rfl rfl rfl rfl (ci := 6) (q0 := 0) rfl rfl rfl dX6_ropes_17 (fun H locs hP hD hS => ?_)
  have hP : va_P G.1 vwCl (flat [wX6 G a ((va 0)) a_draft a_images a_tale a_run ((oa 0)) a_ringSearch a_woodSearch g12.2 a_refusedNo a_refusedFull, wX3 G va va_villages va_woods va_needs va_signs va_temper va_friend va_rope va_hears va_shut va_woodBell va_woodVillage va_needVillage va_needWind va_needSeen va_sign, wX1 G oa oa_best oa_most oa_given oa_meets oa_villages]) H := hP
  have hD : va_D A (flat [wX6 G a ((va 0)) a_draft a_images a_tale a_run ((oa 0)) a_ringSearch a_woodSearch g12.2 a_refusedNo a_refusedFull, wX3 G va va_villages va_woods va_needs va_signs va_temper va_friend va_rope va_hears va_shut va_woodBell va_woodVillage va_needVillage va_needWind va_needSeen va_sign, wX1 G oa oa_best oa_most oa_given oa_meets oa_villages]) := hD
  have e9 := Option.some.inj hf
  subst e9
  exact rt_i C hP hS rfl dX6_ropes_20

/-! RX6 rope(I)I -/
theorem iiX6_rope_X6 : ∀ w ∈ wsX60, w ∈ wsX6_rope := by decide +kernel
theorem mmX6_rope_1 : (Cond.fieldLink RX6 12 "BlindBells" "valley" "LBlindBells$Valley;") ∈ wsX6_rope := by decide +kernel
theorem iiX6_rope_X3 : ∀ w ∈ wsX30, w ∈ wsX6_rope := by decide +kernel
theorem mmX6_rope_3 : (Cond.fieldLink RX6 162 "BlindBells$Valley" "rope" "[I") ∈ wsX6_rope := by decide +kernel
theorem hdX6_rope : yX6_rope.cls = RX6 ∧ yX6_rope.cls ≠ "java/lang/invoke/MethodHandle" ∧ yX6_rope.cls ≠ "java/lang/invoke/VarHandle" ∧ (parseMethodDescriptor yX6_rope.desc).map (fun d => d.parameters.length) = some 1 := by decide +kernel
abbrev rmX6_rope : Room := { frames := 1, cells := 0, slots := 0, locals := 21 }
set_option maxHeartbeats 4000000 in
set_option maxRecDepth 100000 in
theorem tX6_rope (l : Launch) (G : GG) (a : Nat → Nat) (va : Nat → Nat) (a_draft : Nat) (a_images : Nat) (a_tale : Nat) (a_run : Nat) (a_ropeSearch : Nat) (a_ringSearch : Nat) (a_woodSearch : Nat) (a_refusedBad : Int32) (a_refusedNo : Int32) (a_refusedFull : Int32) (va_villages : Int32) (va_woods : Int32) (va_needs : Int32) (va_signs : Int32) (va_temper : Nat → Int32) (va_friend : Nat → Int32) (va_rope : Nat → Int32) (va_hears : Nat → Int32) (va_shut : Nat → Int32) (va_woodBell : Nat → Int32) (va_woodVillage : Nat → Int32) (va_needVillage : Nat → Int32) (va_needWind : Nat → Int32) (va_needSeen : Nat → Int32) (va_sign : Nat → Int32) (p0 : Int32) (out : Int32 × Int32 × Int32 × Int32) (hf : fX6_rope a_refusedBad a_refusedNo a_refusedFull va_villages va_rope p0 = some out) : cMi l G yX6_rope wsX6_rope rmX6_rope [.ref (a 0), .int p0] (flat [wX6 G a ((va 0)) a_draft a_images a_tale a_run a_ropeSearch a_ringSearch a_woodSearch a_refusedBad a_refusedNo a_refusedFull, wX3 G va va_villages va_woods va_needs va_signs va_temper va_friend va_rope va_hears va_shut va_woodBell va_woodVillage va_needVillage va_needWind va_needSeen va_sign]) out.1 (flat [wX6 G a ((va 0)) a_draft a_images a_tale a_run a_ropeSearch a_ringSearch a_woodSearch out.2.1 out.2.2.1 out.2.2.2, wX3 G va va_villages va_woods va_needs va_signs va_temper va_friend va_rope va_hears va_shut va_woodBell va_woodVillage va_needVillage va_needWind va_needSeen va_sign]) := by
  intro sz
  refine met_of (cc := cX6_rope) (nL := 2) (ret := (some .int)) (Qc := fun A9 => QI G A9 out.1 (flat [wX6 G a ((va 0)) a_draft a_images a_tale a_run a_ropeSearch a_ringSearch a_woodSearch out.2.1 out.2.2.1 out.2.2.2, wX3 G va va_villages va_woods va_needs va_signs va_temper va_friend va_rope va_hears va_shut va_woodBell va_woodVillage va_needVillage va_needWind va_needSeen va_sign])) (by decide) rfl (Nat.le_of_ble_eq_true rfl) ?_
  intro p e s m args below meth c A ls C hP hD hS hl
  obtain ⟨⟨hx, hb, hml, hown, hts⟩, hr, hlocks, hK, hN, hE, hA⟩ := id C
  have hl : lv_has ls 2 [(0, .ref (a 0)), (1, .int p0)] := hl
  unfold fX6_rope at hf
  refine lv_aload_n hx hb dX6_rope_0 rfl (lv_at hl 0 rfl) ?_
  refine lv_aload_n hx hb dX6_rope_1 rfl (lv_at hl 0 rfl) ?_
  refine va_get (D := G.1) (ci := 6) (v := .ref (va 0)) (C := RX6) (T := TX6) (N := 11) hx hb hts iiX6_rope_X6 hown hK hP 0 rfl rfl 0 (by decide) (hts _ mmX6_rope_1) (fun _ h9 => h9) rfl dX6_rope_2 ?_
  refine lv_iload_n hx hb dX6_rope_5 rfl (lv_at hl 1 rfl) ?_
  obtain ⟨g1, hg1, hf⟩ := o_b hf
  refine bVi C hP hD hS (tX3_isVillage l G va va_villages va_woods va_needs va_signs va_temper va_friend va_rope va_hears va_shut va_woodBell va_woodVillage va_needVillage va_needWind va_needSeen va_sign p0 g1 hg1) gX6_rope_X3_isVillage rfl ⟨rfl, rfl⟩ hdX3_isVillage ⟨Nat.le_of_ble_eq_true rfl, Nat.le_of_ble_eq_true rfl⟩ rfl hl.1 rfl (Nat.le_of_ble_eq_true rfl) ⟨Nat.le_of_ble_eq_true rfl, Nat.le_of_ble_eq_true rfl⟩ [1] rfl rfl rfl (setB_same _ _ _ rfl) rfl (ci := 3) (q0 := 1) rfl rfl rfl dX6_rope_6 (fun H locs hP hD hS => ?_)
  obtain ⟨f3, hf3, hf⟩ := o_b hf
  have hJ : ∀ (H : Heap) (locs : List Loc) (ls : Array Slot), va_P G.1 vwCl (flat [wX6 G a ((va 0)) a_draft a_images a_tale a_run a_ropeSearch a_ringSearch a_woodSearch a_refusedBad a_refusedNo a_refusedFull, wX3 G va va_villages va_woods va_needs va_signs va_temper va_friend va_rope va_hears va_shut va_woodBell va_woodVillage va_needVillage va_needWind va_needSeen va_sign]) H → va_D A (flat [wX6 G a ((va 0)) a_draft a_images a_tale a_run a_ropeSearch a_ringSearch a_woodSearch a_refusedBad a_refusedNo a_refusedFull, wX3 G va va_villages va_woods va_needs va_signs va_temper va_friend va_rope va_hears va_shut va_woodBell va_woodVillage va_needVillage va_needWind va_needSeen va_sign]) → va_S A s.heap H locs → lv_has ls 2 [(0, .ref (a 0)), (1, .int p0)] → W p l e rmX6_rope s m args below meth c H locs 0 0 (MQ below (QI G A out.1 (flat [wX6 G a ((va 0)) a_draft a_images a_tale a_run a_ropeSearch a_ringSearch a_woodSearch out.2.1 out.2.2.1 out.2.2.2, wX3 G va va_villages va_woods va_needs va_signs va_temper va_friend va_rope va_hears va_shut va_woodBell va_woodVillage va_needVillage va_needWind va_needSeen va_sign])) args s 0 0 A) (F0 m 26 ls [.int f3, .ref (a 0)]) := by
    intro H locs ls hP hD hS hl
    obtain ⟨g5, hg5, hf⟩ := o_b hf
    refine bVi (Bs' := [wX6 G a ((va 0)) a_draft a_images a_tale a_run a_ropeSearch a_ringSearch a_woodSearch g5.2.1 g5.2.2.1 g5.2.2.2, wX3 G va va_villages va_woods va_needs va_signs va_temper va_friend va_rope va_hears va_shut va_woodBell va_woodVillage va_needVillage va_needWind va_needSeen va_sign]) C hP hD hS (tX6_counted l G a ((va 0)) a_draft a_images a_tale a_run a_ropeSearch a_ringSearch a_woodSearch a_refusedBad a_refusedNo a_refusedFull f3 g5 hg5) gX6_rope_X6_counted rfl ⟨rfl, rfl⟩ hdX6_counted ⟨Nat.le_of_ble_eq_true rfl, Nat.le_of_ble_eq_true rfl⟩ rfl hl.1 rfl (Nat.le_of_ble_eq_true rfl) ⟨Nat.le_of_ble_eq_true rfl, Nat.le_of_ble_eq_true rfl⟩ [0] rfl rfl rfl rfl rfl (ci := 6) (q0 := 0) rfl rfl rfl dX6_rope_26 (fun H locs hP hD hS => ?_)
    have hP : va_P G.1 vwCl (flat [wX6 G a ((va 0)) a_draft a_images a_tale a_run a_ropeSearch a_ringSearch a_woodSearch g5.2.1 g5.2.2.1 g5.2.2.2, wX3 G va va_villages va_woods va_needs va_signs va_temper va_friend va_rope va_hears va_shut va_woodBell va_woodVillage va_needVillage va_needWind va_needSeen va_sign]) H := hP
    have hD : va_D A (flat [wX6 G a ((va 0)) a_draft a_images a_tale a_run a_ropeSearch a_ringSearch a_woodSearch g5.2.1 g5.2.2.1 g5.2.2.2, wX3 G va va_villages va_woods va_needs va_signs va_temper va_friend va_rope va_hears va_shut va_woodBell va_woodVillage va_needVillage va_needWind va_needSeen va_sign]) := hD
    have e9 := Option.some.inj hf
    subst e9
    exact rt_i C hP hS rfl dX6_rope_29
  clear hf
  have hf := hf3
  refine lv_if_eq (tgt := 24) hx hb dX6_rope_9 (by decide) (fun c2 => ?_) (fun c2 => ?_)
  · have hf := (o_i hf).1 c2
    refine lv_bipush (v := (-2)) hx hb dX6_rope_24 (by decide) ?_
    have e9 := Option.some.inj hf
    subst e9
    exact hJ _ _ _ hP hD hS (lv_sub hl [0, 1] rfl)
  have hf := (o_i hf).2 c2
  refine lv_aload_n hx hb dX6_rope_12 rfl (lv_at hl 0 rfl) ?_
  refine va_get (D := G.1) (ci := 6) (v := .ref (va 0)) (C := RX6) (T := TX6) (N := 11) hx hb hts iiX6_rope_X6 hown hK hP 0 rfl rfl 0 (by decide) (hts _ mmX6_rope_1) (fun _ h9 => h9) rfl dX6_rope_13 ?_
  refine va_get (D := G.1) (ci := 3) (v := .ref (va 3)) (C := RX3) (T := TX3) (N := 15) hx hb hts iiX6_rope_X3 hown hK hP 1 rfl rfl 6 (by decide) (hts _ mmX6_rope_3) (fun _ h9 => h9) rfl dX6_rope_16 ?_
  refine lv_iload_n hx hb dX6_rope_19 rfl (lv_at hl 1 rfl) ?_
  obtain ⟨z4, hz4, hf⟩ := o_b hf
  refine k_iald hx hb hK hP 4 0 rfl rfl hz4 dX6_rope_20 ?_
  refine lv_goto (tgt := 26) hx hb dX6_rope_21 (by decide) ?_
  have e9 := Option.some.inj hf
  subst e9
  exact hJ _ _ _ hP hD hS (lv_sub hl [0, 1] rfl)

/-! RX6 ring(I)I -/
theorem iiX6_ring_X6 : ∀ w ∈ wsX60, w ∈ wsX6_ring := by decide +kernel
theorem mmX6_ring_1 : (Cond.fieldLink RX6 47 "BlindBells" "ringSearch" "LBlindBells$RingSearch;") ∈ wsX6_ring := by decide +kernel
theorem mmX6_ring_2 : (Cond.fieldLink RX6 12 "BlindBells" "valley" "LBlindBells$Valley;") ∈ wsX6_ring := by decide +kernel
theorem iiX6_ring_X0 : ∀ w ∈ wsX00, w ∈ wsX6_ring := by decide +kernel
theorem mmX6_ring_4 : (Cond.fieldLink RX6 167 "BlindBells$RingSearch" "path" "[I") ∈ wsX6_ring := by decide +kernel
theorem hdX6_ring : yX6_ring.cls = RX6 ∧ yX6_ring.cls ≠ "java/lang/invoke/MethodHandle" ∧ yX6_ring.cls ≠ "java/lang/invoke/VarHandle" ∧ (parseMethodDescriptor yX6_ring.desc).map (fun d => d.parameters.length) = some 1 := by decide +kernel
abbrev rmX6_ring : Room := { frames := 11, cells := 0, slots := 0, locals := 269 }
set_option maxHeartbeats 4000000 in
set_option maxRecDepth 100000 in
theorem tX6_ring (l : Launch) (G : GG) (a : Nat → Nat) (va : Nat → Nat) (ga : Nat → Nat) (a_draft : Nat) (a_images : Nat) (a_tale : Nat) (a_run : Nat) (a_ropeSearch : Nat) (a_woodSearch : Nat) (a_refusedBad : Int32) (a_refusedNo : Int32) (a_refusedFull : Int32) (va_villages : Int32) (va_woods : Int32) (va_needs : Int32) (va_signs : Int32) (va_temper : Nat → Int32) (va_friend : Nat → Int32) (va_rope : Nat → Int32) (va_hears : Nat → Int32) (va_shut : Nat → Int32) (va_woodBell : Nat → Int32) (va_woodVillage : Nat → Int32) (va_needVillage : Nat → Int32) (va_needWind : Nat → Int32) (va_needSeen : Nat → Int32) (va_sign : Nat → Int32) (ga_path : Nat → Int32) (ga_favoured : Nat → Int32) (ga_villages : Int32) (p0 : Int32) (out : Int32 × Int32 × (Nat → Int32) × (Nat → Int32) × Int32) (hf : fX6_ring a_refusedBad va_villages va_rope va_hears va_shut ga_path ga_favoured ga_villages p0 = some out) : cMi l G yX6_ring wsX6_ring rmX6_ring [.ref (a 0), .int p0] (flat [wX6 G a ((va 0)) a_draft a_images a_tale a_run a_ropeSearch ((ga 0)) a_woodSearch a_refusedBad a_refusedNo a_refusedFull, wX3 G va va_villages va_woods va_needs va_signs va_temper va_friend va_rope va_hears va_shut va_woodBell va_woodVillage va_needVillage va_needWind va_needSeen va_sign, wX0 G ga ga_path ga_favoured ga_villages]) out.1 (flat [wX6 G a ((va 0)) a_draft a_images a_tale a_run a_ropeSearch ((ga 0)) a_woodSearch out.2.1 a_refusedNo a_refusedFull, wX3 G va va_villages va_woods va_needs va_signs va_temper va_friend va_rope va_hears va_shut va_woodBell va_woodVillage va_needVillage va_needWind va_needSeen va_sign, wX0 G ga out.2.2.1 out.2.2.2.1 out.2.2.2.2]) := by
  intro sz
  refine met_of (cc := cX6_ring) (nL := 3) (ret := (some .int)) (Qc := fun A9 => QI G A9 out.1 (flat [wX6 G a ((va 0)) a_draft a_images a_tale a_run a_ropeSearch ((ga 0)) a_woodSearch out.2.1 a_refusedNo a_refusedFull, wX3 G va va_villages va_woods va_needs va_signs va_temper va_friend va_rope va_hears va_shut va_woodBell va_woodVillage va_needVillage va_needWind va_needSeen va_sign, wX0 G ga out.2.2.1 out.2.2.2.1 out.2.2.2.2])) (by decide) rfl (Nat.le_of_ble_eq_true rfl) ?_
  intro p e s m args below meth c A ls C hP hD hS hl
  obtain ⟨⟨hx, hb, hml, hown, hts⟩, hr, hlocks, hK, hN, hE, hA⟩ := id C
  have hl : lv_has ls 3 [(0, .ref (a 0)), (1, .int p0)] := hl
  unfold fX6_ring at hf
  refine lv_iload_n hx hb dX6_ring_0 rfl (lv_at hl 1 rfl) ?_
  refine lv_iconst (v := (-1)) hx hb dX6_ring_1 (by decide) ?_
  refine lv_icmp_ge (tgt := 10) hx hb dX6_ring_2 (by decide) (fun c1 => ?_) (fun c1 => ?_)
  · have hf := (o_i hf).1 c1
    refine lv_aload_n hx hb dX6_ring_10 rfl (lv_at hl 0 rfl) ?_
    refine va_get (D := G.1) (ci := 6) (v := .ref (ga 0)) (C := RX6) (T := TX6) (N := 11) hx hb hts iiX6_ring_X6 hown hK hP 0 rfl rfl 6 (by decide) (hts _ mmX6_ring_1) (fun _ h9 => h9) rfl dX6_ring_11 ?_
    refine lv_aload_n hx hb dX6_ring_14 rfl (lv_at hl 0 rfl) ?_
    refine va_get (D := G.1) (ci := 6) (v := .ref (va 0)) (C := RX6) (T := TX6) (N := 11) hx hb hts iiX6_ring_X6 hown hK hP 0 rfl rfl 0 (by decide) (hts _ mmX6_ring_2) (fun _ h9 => h9) rfl dX6_ring_15 ?_
    obtain ⟨g2, hg2, hf⟩ := o_b hf
    refine bVi (Bs' := [wX6 G a ((va 0)) a_draft a_images a_tale a_run a_ropeSearch ((ga 0)) a_woodSearch a_refusedBad a_refusedNo a_refusedFull, wX3 G va va_villages va_woods va_needs va_signs va_temper va_friend va_rope va_hears va_shut va_woodBell va_woodVillage va_needVillage va_needWind va_needSeen va_sign, wX0 G ga g2.2.1 g2.2.2.1 g2.2.2.2]) C hP hD hS (tX0_go l G ga va ga_path ga_favoured ga_villages va_villages va_woods va_needs va_signs va_temper va_friend va_rope va_hears va_shut va_woodBell va_woodVillage va_needVillage va_needWind va_needSeen va_sign g2 hg2) gX6_ring_X0_go rfl ⟨rfl, rfl⟩ hdX0_go ⟨Nat.le_of_ble_eq_true rfl, Nat.le_of_ble_eq_true rfl⟩ rfl hl.1 rfl (Nat.le_of_ble_eq_true rfl) ⟨Nat.le_of_ble_eq_true rfl, Nat.le_of_ble_eq_true rfl⟩ [2, 1] rfl rfl rfl rfl rfl (ci := 0) (q0 := 13) rfl rfl rfl dX6_ring_18 (fun H locs hP hD hS => ?_)
    have hP : va_P G.1 vwCl (flat [wX6 G a ((va 0)) a_draft a_images a_tale a_run a_ropeSearch ((ga 0)) a_woodSearch a_refusedBad a_refusedNo a_refusedFull, wX3 G va va_villages va_woods va_needs va_signs va_temper va_friend va_rope va_hears va_shut va_woodBell va_woodVillage va_needVillage va_needWind va_needSeen va_sign, wX0 G ga g2.2.1 g2.2.2.1 g2.2.2.2]) H := hP
    have hD : va_D A (flat [wX6 G a ((va 0)) a_draft a_images a_tale a_run a_ropeSearch ((ga 0)) a_woodSearch a_refusedBad a_refusedNo a_refusedFull, wX3 G va va_villages va_woods va_needs va_signs va_temper va_friend va_rope va_hears va_shut va_woodBell va_woodVillage va_needVillage va_needWind va_needSeen va_sign, wX0 G ga g2.2.1 g2.2.2.1 g2.2.2.2]) := hD
    refine lv_istore_n (lv' := [(2, .int g2.1), (0, .ref (a 0)), (1, .int p0)]) hx hb dX6_ring_21 rfl hl (by decide) rfl (fun ls hl => ?_)
    refine lv_iload_n hx hb dX6_ring_22 rfl (lv_at hl 2 rfl) ?_
    refine lv_iconst (v := (-1)) hx hb dX6_ring_23 (by decide) ?_
    refine lv_icmp_ne (tgt := 29) hx hb dX6_ring_24 (by decide) (fun c3 => ?_) (fun c3 => ?_)
    · have hf := (o_i hf).2 c3
      refine lv_iload_n hx hb dX6_ring_29 rfl (lv_at hl 2 rfl) ?_
      refine lv_iload_n hx hb dX6_ring_30 rfl (lv_at hl 0 rfl) ?_
      refine lv_icmp_ge (tgt := 46) hx hb dX6_ring_31 (by decide) (fun c4 => ?_) (fun c4 => ?_)
      · have hf := (o_i hf).1 c4
        refine lv_bipush (v := (-5)) hx hb dX6_ring_46 (by decide) ?_
        have e9 := Option.some.inj hf
        subst e9
        exact rt_i C hP hS rfl dX6_ring_48
      have hf := (o_i hf).2 c4
      refine lv_aload_n hx hb dX6_ring_34 rfl (lv_at hl 1 rfl) ?_
      refine va_get (D := G.1) (ci := 6) (v := .ref (ga 0)) (C := RX6) (T := TX6) (N := 11) hx hb hts iiX6_ring_X6 hown hK hP 0 rfl rfl 6 (by decide) (hts _ mmX6_ring_1) (fun _ h9 => h9) rfl dX6_ring_35 ?_
      refine va_get (D := G.1) (ci := 0) (v := .ref (ga 1)) (C := RX0) (T := TX0) (N := 3) hx hb hts iiX6_ring_X0 hown hK hP 13 rfl rfl 0 (by decide) (hts _ mmX6_ring_4) (fun _ h9 => h9) rfl dX6_ring_38 ?_
      refine lv_iload_n hx hb dX6_ring_41 rfl (lv_at hl 2 rfl) ?_
      obtain ⟨z5, hz5, hf⟩ := o_b hf
      refine k_iald hx hb hK hP 14 0 rfl rfl hz5 dX6_ring_42 ?_
      refine lv_goto (tgt := 48) hx hb dX6_ring_43 (by decide) ?_
      have e9 := Option.some.inj hf
      subst e9
      exact rt_i C hP hS rfl dX6_ring_48
    have hf := (o_i hf).1 c3
    refine lv_iload_n hx hb dX6_ring_27 rfl (lv_at hl 0 rfl) ?_
    have e9 := Option.some.inj hf
    subst e9
    exact rt_i C hP hS rfl dX6_ring_28
  have hf := (o_i hf).2 c1
  refine lv_aload_n hx hb dX6_ring_5 rfl (lv_at hl 0 rfl) ?_
  obtain ⟨g6, hg6, hf⟩ := o_b hf
  refine bVi (Bs' := [wX6 G a ((va 0)) a_draft a_images a_tale a_run a_ropeSearch ((ga 0)) a_woodSearch g6.2 a_refusedNo a_refusedFull, wX3 G va va_villages va_woods va_needs va_signs va_temper va_friend va_rope va_hears va_shut va_woodBell va_woodVillage va_needVillage va_needWind va_needSeen va_sign, wX0 G ga ga_path ga_favoured ga_villages]) C hP hD hS (tX6_badApart l G a ((va 0)) a_draft a_images a_tale a_run a_ropeSearch ((ga 0)) a_woodSearch a_refusedBad a_refusedNo a_refusedFull g6 hg6) gX6_ring_X6_badApart rfl ⟨rfl, rfl⟩ hdX6_badApart ⟨Nat.le_of_ble_eq_true rfl, Nat.le_of_ble_eq_true rfl⟩ rfl hl.1 rfl (Nat.le_of_ble_eq_true rfl) ⟨Nat.le_of_ble_eq_true rfl, Nat.le_of_ble_eq_true rfl⟩ [0] rfl rfl rfl rfl rfl (ci := 6) (q0 := 0) rfl rfl rfl dX6_ring_6 (fun H locs hP hD hS => ?_)
  have hP : va_P G.1 vwCl (flat [wX6 G a ((va 0)) a_draft a_images a_tale a_run a_ropeSearch ((ga 0)) a_woodSearch g6.2 a_refusedNo a_refusedFull, wX3 G va va_villages va_woods va_needs va_signs va_temper va_friend va_rope va_hears va_shut va_woodBell va_woodVillage va_needVillage va_needWind va_needSeen va_sign, wX0 G ga ga_path ga_favoured ga_villages]) H := hP
  have hD : va_D A (flat [wX6 G a ((va 0)) a_draft a_images a_tale a_run a_ropeSearch ((ga 0)) a_woodSearch g6.2 a_refusedNo a_refusedFull, wX3 G va va_villages va_woods va_needs va_signs va_temper va_friend va_rope va_hears va_shut va_woodBell va_woodVillage va_needVillage va_needWind va_needSeen va_sign, wX0 G ga ga_path ga_favoured ga_villages]) := hD
  have e9 := Option.some.inj hf
  subst e9
  exact rt_i C hP hS rfl dX6_ring_9

/-! RX6 word(III)I -/
theorem iiX6_word_X6 : ∀ w ∈ wsX60, w ∈ wsX6_word := by decide +kernel
theorem mmX6_word_1 : (Cond.fieldLink RX6 12 "BlindBells" "valley" "LBlindBells$Valley;") ∈ wsX6_word := by decide +kernel
theorem hdX6_word : yX6_word.cls = RX6 ∧ yX6_word.cls ≠ "java/lang/invoke/MethodHandle" ∧ yX6_word.cls ≠ "java/lang/invoke/VarHandle" ∧ (parseMethodDescriptor yX6_word.desc).map (fun d => d.parameters.length) = some 3 := by decide +kernel
abbrev rmX6_word : Room := { frames := 2, cells := 0, slots := 0, locals := 46 }
set_option maxHeartbeats 4000000 in
set_option maxRecDepth 100000 in
theorem lX6_word_52 {p : Program} {e : Env} {s : State} {m : MethodId} {args : Array Value} {below : List Frame} {meth : Method} {c : Code} {A : Nat → Prop} (l : Launch) (G : GG) (C : Cx p m c cX6_word 7 s args wsX6_word RX6 meth (some .int) G A) (a : Nat → Nat) (va : Nat → Nat) (a_draft : Nat) (a_images : Nat) (a_tale : Nat) (a_run : Nat) (a_ropeSearch : Nat) (a_ringSearch : Nat) (a_woodSearch : Nat) (a_refusedBad : Int32) (a_refusedNo : Int32) (a_refusedFull : Int32) (va_villages : Int32) (va_woods : Int32) (va_needs : Int32) (va_signs : Int32) (va_temper : Nat → Int32) (va_friend : Nat → Int32) (va_rope : Nat → Int32) (va_hears : Nat → Int32) (va_shut : Nat → Int32) (va_woodBell : Nat → Int32) (va_woodVillage : Nat → Int32) (va_needVillage : Nat → Int32) (va_needWind : Nat → Int32) (va_needSeen : Nat → Int32) (va_sign : Nat → Int32) (p0 : Int32) (p1 : Int32) (p2 : Int32) (out : Int32 × Int32 × Int32 × Int32) (kx : Int32 → Int32 → Int32 → Option (Int32 × Int32 × Int32 × Int32)) (HX : ∀ (x4_52 : Int32) (x5_52 : Int32) (x6_52 : Int32) (H : Heap) (locs : List Loc) (ls : Array Slot), va_P G.1 vwCl (flat [wX6 G a ((va 0)) a_draft a_images a_tale a_run a_ropeSearch a_ringSearch a_woodSearch a_refusedBad a_refusedNo a_refusedFull, wX3 G va va_villages va_woods va_needs va_signs va_temper va_friend va_rope va_hears va_shut va_woodBell va_woodVillage va_needVillage va_needWind va_needSeen va_sign]) H → va_D A (flat [wX6 G a ((va 0)) a_draft a_images a_tale a_run a_ropeSearch a_ringSearch a_woodSearch a_refusedBad a_refusedNo a_refusedFull, wX3 G va va_villages va_woods va_needs va_signs va_temper va_friend va_rope va_hears va_shut va_woodBell va_woodVillage va_needVillage va_needWind va_needSeen va_sign]) → va_S A s.heap H locs → lv_has ls 7 [(0, .ref (a 0)), (1, .int p0), (2, .int p1), (3, .int p2), (4, .int x4_52), (5, .int x5_52), (6, .int x6_52)] → kx x4_52 x5_52 x6_52 = some out → W p l e rmX6_word s m args below meth c H locs 0 0 (MQ below (QI G A out.1 (flat [wX6 G a ((va 0)) a_draft a_images a_tale a_run a_ropeSearch a_ringSearch a_woodSearch out.2.1 out.2.2.1 out.2.2.2, wX3 G va va_villages va_woods va_needs va_signs va_temper va_friend va_rope va_hears va_shut va_woodBell va_woodVillage va_needVillage va_needWind va_needSeen va_sign])) args s 0 0 A) (F0 m 88 ls [])) : ∀ (n : Nat) (x4_52 : Int32) (x5_52 : Int32) (x6_52 : Int32) (H : Heap) (locs : List Loc) (ls : Array Slot), va_P G.1 vwCl (flat [wX6 G a ((va 0)) a_draft a_images a_tale a_run a_ropeSearch a_ringSearch a_woodSearch a_refusedBad a_refusedNo a_refusedFull, wX3 G va va_villages va_woods va_needs va_signs va_temper va_friend va_rope va_hears va_shut va_woodBell va_woodVillage va_needVillage va_needWind va_needSeen va_sign]) H → va_D A (flat [wX6 G a ((va 0)) a_draft a_images a_tale a_run a_ropeSearch a_ringSearch a_woodSearch a_refusedBad a_refusedNo a_refusedFull, wX3 G va va_villages va_woods va_needs va_signs va_temper va_friend va_rope va_hears va_shut va_woodBell va_woodVillage va_needVillage va_needWind va_needSeen va_sign]) → va_S A s.heap H locs → lv_has ls 7 [(0, .ref (a 0)), (1, .int p0), (2, .int p1), (3, .int p2), (4, .int x4_52), (5, .int x5_52), (6, .int x6_52)] → fX6_word_52 p1 va_villages va_rope va_hears va_shut kx n x4_52 x5_52 x6_52 = some out → W p l e rmX6_word s m args below meth c H locs 0 0 (MQ below (QI G A out.1 (flat [wX6 G a ((va 0)) a_draft a_images a_tale a_run a_ropeSearch a_ringSearch a_woodSearch out.2.1 out.2.2.1 out.2.2.2, wX3 G va va_villages va_woods va_needs va_signs va_temper va_friend va_rope va_hears va_shut va_woodBell va_woodVillage va_needVillage va_needWind va_needSeen va_sign])) args s 0 0 A) (F0 m 52 ls []) := by
  obtain ⟨⟨hx, hb, hml, hown, hts⟩, hr, hlocks, hK, hN, hE, hA⟩ := id C
  intro n
  induction n with
  | zero =>
    intro x4_52 x5_52 x6_52 H locs ls hP hD hS hl hf
    exact absurd (show (none : Option (Int32 × Int32 × Int32 × Int32)) = some out from hf) (by intro q9; cases q9)
  | succ n ih =>
    intro x4_52 x5_52 x6_52 H locs ls hP hD hS hl hf
    rw [fX6_word_52] at hf
    refine lv_iload hx hb dX6_word_52 (lv_at hl 6 rfl) ?_
    refine lv_iload hx hb dX6_word_54 (lv_at hl 5 rfl) ?_
    refine lv_icmp_eq (tgt := 88) hx hb dX6_word_56 (by decide) (fun c10 => ?_) (fun c10 => ?_)
    · have hf := (o_i hf).1 c10
      exact HX _ _ _ _ _ _ hP hD hS (lv_sub hl [0, 1, 2, 3, 4, 5, 6] rfl) hf
    have hf := (o_i hf).2 c10
    refine lv_iload hx hb dX6_word_59 (lv_at hl 4 rfl) ?_
    refine lv_bipush (v := 6) hx hb dX6_word_61 (by decide) ?_
    refine lv_icmp_ge (tgt := 88) hx hb dX6_word_63 (by decide) (fun c11 => ?_) (fun c11 => ?_)
    · have hf := (o_i hf).1 c11
      exact HX _ _ _ _ _ _ hP hD hS (lv_sub hl [0, 1, 2, 3, 4, 5, 6] rfl) hf
    have hf := (o_i hf).2 c11
    refine lv_iinc (v := x4_52 + 1) (lv' := [(4, .int (x4_52 + 1)), (0, .ref (a 0)), (1, .int p0), (2, .int p1), (3, .int p2), (5, .int x5_52), (6, .int x6_52)]) hx hb dX6_word_66 hl (k := 4) rfl (congrArg (fun z => x4_52 + z) (by decide)) (by decide) rfl (fun ls hl => ?_)
    refine lv_iload hx hb dX6_word_69 (lv_at hl 6 rfl) ?_
    refine lv_istore (lv' := [(5, .int x6_52), (4, .int (x4_52 + 1)), (0, .ref (a 0)), (1, .int p0), (2, .int p1), (3, .int p2), (6, .int x6_52)]) hx hb dX6_word_71 hl (by decide) rfl (fun ls hl => ?_)
    refine lv_aload_n hx hb dX6_word_73 rfl (lv_at hl 2 rfl) ?_
    refine va_get (D := G.1) (ci := 6) (v := .ref (va 0)) (C := RX6) (T := TX6) (N := 11) hx hb hts iiX6_word_X6 hown hK hP 0 rfl rfl 0 (by decide) (hts _ mmX6_word_1) (fun _ h9 => h9) rfl dX6_word_74 ?_
    refine lv_iload hx hb dX6_word_77 (lv_at hl 0 rfl) ?_
    refine lv_iload_n hx hb dX6_word_79 rfl (lv_at hl 4 rfl) ?_
    obtain ⟨g12, hg12, hf⟩ := o_b hf
    refine bVi C hP hD hS (tX3_knowAfterRound l G va va_villages va_woods va_needs va_signs va_temper va_friend va_rope va_hears va_shut va_woodBell va_woodVillage va_needVillage va_needWind va_needSeen va_sign x6_52 p1 g12 hg12) gX6_word_X3_knowAfterRound rfl ⟨rfl, rfl⟩ hdX3_knowAfterRound ⟨Nat.le_of_ble_eq_true rfl, Nat.le_of_ble_eq_true rfl⟩ rfl hl.1 rfl (Nat.le_of_ble_eq_true rfl) ⟨Nat.le_of_ble_eq_true rfl, Nat.le_of_ble_eq_true rfl⟩ [1] rfl rfl rfl (setB_same _ _ _ rfl) rfl (ci := 3) (q0 := 1) rfl rfl rfl dX6_word_80 (fun H locs hP hD hS => ?_)
    refine lv_istore (lv' := [(6, .int g12), (5, .int x6_52), (4, .int (x4_52 + 1)), (0, .ref (a 0)), (1, .int p0), (2, .int p1), (3, .int p2)]) hx hb dX6_word_83 hl (by decide) rfl (fun ls hl => ?_)
    refine at_pc (pc' := 85) rfl ?_
    refine lv_goto (tgt := 52) hx hb dX6_word_85 (by decide) ?_
    exact ih _ _ _ _ _ _ hP hD hS (lv_sub hl [3, 4, 5, 6, 2, 1, 0] rfl) hf
set_option maxHeartbeats 4000000 in
set_option maxRecDepth 100000 in
theorem tX6_word (l : Launch) (G : GG) (a : Nat → Nat) (va : Nat → Nat) (a_draft : Nat) (a_images : Nat) (a_tale : Nat) (a_run : Nat) (a_ropeSearch : Nat) (a_ringSearch : Nat) (a_woodSearch : Nat) (a_refusedBad : Int32) (a_refusedNo : Int32) (a_refusedFull : Int32) (va_villages : Int32) (va_woods : Int32) (va_needs : Int32) (va_signs : Int32) (va_temper : Nat → Int32) (va_friend : Nat → Int32) (va_rope : Nat → Int32) (va_hears : Nat → Int32) (va_shut : Nat → Int32) (va_woodBell : Nat → Int32) (va_woodVillage : Nat → Int32) (va_needVillage : Nat → Int32) (va_needWind : Nat → Int32) (va_needSeen : Nat → Int32) (va_sign : Nat → Int32) (p0 : Int32) (p1 : Int32) (p2 : Int32) (out : Int32 × Int32 × Int32 × Int32) (hf : fX6_word a_refusedBad a_refusedNo a_refusedFull va_villages va_rope va_hears va_shut p0 p1 p2 = some out) : cMi l G yX6_word wsX6_word rmX6_word [.ref (a 0), .int p0, .int p1, .int p2] (flat [wX6 G a ((va 0)) a_draft a_images a_tale a_run a_ropeSearch a_ringSearch a_woodSearch a_refusedBad a_refusedNo a_refusedFull, wX3 G va va_villages va_woods va_needs va_signs va_temper va_friend va_rope va_hears va_shut va_woodBell va_woodVillage va_needVillage va_needWind va_needSeen va_sign]) out.1 (flat [wX6 G a ((va 0)) a_draft a_images a_tale a_run a_ropeSearch a_ringSearch a_woodSearch out.2.1 out.2.2.1 out.2.2.2, wX3 G va va_villages va_woods va_needs va_signs va_temper va_friend va_rope va_hears va_shut va_woodBell va_woodVillage va_needVillage va_needWind va_needSeen va_sign]) := by
  intro sz
  refine met_of (cc := cX6_word) (nL := 7) (ret := (some .int)) (Qc := fun A9 => QI G A9 out.1 (flat [wX6 G a ((va 0)) a_draft a_images a_tale a_run a_ropeSearch a_ringSearch a_woodSearch out.2.1 out.2.2.1 out.2.2.2, wX3 G va va_villages va_woods va_needs va_signs va_temper va_friend va_rope va_hears va_shut va_woodBell va_woodVillage va_needVillage va_needWind va_needSeen va_sign])) (by decide) rfl (Nat.le_of_ble_eq_true rfl) ?_
  intro p e s m args below meth c A ls C hP hD hS hl
  obtain ⟨⟨hx, hb, hml, hown, hts⟩, hr, hlocks, hK, hN, hE, hA⟩ := id C
  have hl : lv_has ls 7 [(0, .ref (a 0)), (1, .int p0), (2, .int p1), (3, .int p2)] := hl
  unfold fX6_word at hf
  refine lv_aload_n hx hb dX6_word_0 rfl (lv_at hl 0 rfl) ?_
  refine va_get (D := G.1) (ci := 6) (v := .ref (va 0)) (C := RX6) (T := TX6) (N := 11) hx hb hts iiX6_word_X6 hown hK hP 0 rfl rfl 0 (by decide) (hts _ mmX6_word_1) (fun _ h9 => h9) rfl dX6_word_1 ?_
  refine lv_iload_n hx hb dX6_word_4 rfl (lv_at hl 1 rfl) ?_
  obtain ⟨g1, hg1, hf⟩ := o_b hf
  refine bVi C hP hD hS (tX3_isVillage l G va va_villages va_woods va_needs va_signs va_temper va_friend va_rope va_hears va_shut va_woodBell va_woodVillage va_needVillage va_needWind va_needSeen va_sign p0 g1 hg1) gX6_word_X3_isVillage rfl ⟨rfl, rfl⟩ hdX3_isVillage ⟨Nat.le_of_ble_eq_true rfl, Nat.le_of_ble_eq_true rfl⟩ rfl hl.1 rfl (Nat.le_of_ble_eq_true rfl) ⟨Nat.le_of_ble_eq_true rfl, Nat.le_of_ble_eq_true rfl⟩ [1] rfl rfl rfl (setB_same _ _ _ rfl) rfl (ci := 3) (q0 := 1) rfl rfl rfl dX6_word_5 (fun H locs hP hD hS => ?_)
  refine lv_if_eq (tgt := 25) hx hb dX6_word_8 (by decide) (fun c2 => ?_) (fun c2 => ?_)
  · have hf := (o_i hf).1 c2
    refine lv_aload_n hx hb dX6_word_25 rfl (lv_at hl 0 rfl) ?_
    refine lv_bipush (v := (-2)) hx hb dX6_word_26 (by decide) ?_
    obtain ⟨g3, hg3, hf⟩ := o_b hf
    refine bVi (Bs' := [wX6 G a ((va 0)) a_draft a_images a_tale a_run a_ropeSearch a_ringSearch a_woodSearch g3.2.1 g3.2.2.1 g3.2.2.2, wX3 G va va_villages va_woods va_needs va_signs va_temper va_friend va_rope va_hears va_shut va_woodBell va_woodVillage va_needVillage va_needWind va_needSeen va_sign]) C hP hD hS (tX6_counted l G a ((va 0)) a_draft a_images a_tale a_run a_ropeSearch a_ringSearch a_woodSearch a_refusedBad a_refusedNo a_refusedFull ((-2)) g3 hg3) gX6_word_X6_counted rfl ⟨rfl, rfl⟩ hdX6_counted ⟨Nat.le_of_ble_eq_true rfl, Nat.le_of_ble_eq_true rfl⟩ rfl hl.1 rfl (Nat.le_of_ble_eq_true rfl) ⟨Nat.le_of_ble_eq_true rfl, Nat.le_of_ble_eq_true rfl⟩ [0] rfl rfl rfl rfl rfl (ci := 6) (q0 := 0) rfl rfl rfl dX6_word_28 (fun H locs hP hD hS => ?_)
    have hP : va_P G.1 vwCl (flat [wX6 G a ((va 0)) a_draft a_images a_tale a_run a_ropeSearch a_ringSearch a_woodSearch g3.2.1 g3.2.2.1 g3.2.2.2, wX3 G va va_villages va_woods va_needs va_signs va_temper va_friend va_rope va_hears va_shut va_woodBell va_woodVillage va_needVillage va_needWind va_needSeen va_sign]) H := hP
    have hD : va_D A (flat [wX6 G a ((va 0)) a_draft a_images a_tale a_run a_ropeSearch a_ringSearch a_woodSearch g3.2.1 g3.2.2.1 g3.2.2.2, wX3 G va va_villages va_woods va_needs va_signs va_temper va_friend va_rope va_hears va_shut va_woodBell va_woodVillage va_needVillage va_needWind va_needSeen va_sign]) := hD
    have e9 := Option.some.inj hf
    subst e9
    exact rt_i C hP hS rfl dX6_word_31
  have hf := (o_i hf).2 c2
  refine lv_iload_n hx hb dX6_word_11 rfl (lv_at hl 2 rfl) ?_
  obtain ⟨g4, hg4, hf⟩ := o_b hf
  refine bSi C hP hD hS (tX6_isWind l G p1 g4 hg4) gX6_word_X6_isWind rfl ⟨rfl, rfl⟩ hdX6_isWind ⟨Nat.le_of_ble_eq_true rfl, Nat.le_of_ble_eq_true rfl⟩ rfl hl.1 rfl (Nat.le_of_ble_eq_true rfl) ⟨Nat.le_of_ble_eq_true rfl, Nat.le_of_ble_eq_true rfl⟩ [] rfl rfl rfl (setB_same _ _ _ rfl) rfl dX6_word_12 (fun H locs hP hD hS => ?_)
  refine lv_if_eq (tgt := 25) hx hb dX6_word_15 (by decide) (fun c5 => ?_) (fun c5 => ?_)
  · have hf := (o_i hf).1 c5
    refine lv_aload_n hx hb dX6_word_25 rfl (lv_at hl 0 rfl) ?_
    refine lv_bipush (v := (-2)) hx hb dX6_word_26 (by decide) ?_
    obtain ⟨g6, hg6, hf⟩ := o_b hf
    refine bVi (Bs' := [wX6 G a ((va 0)) a_draft a_images a_tale a_run a_ropeSearch a_ringSearch a_woodSearch g6.2.1 g6.2.2.1 g6.2.2.2, wX3 G va va_villages va_woods va_needs va_signs va_temper va_friend va_rope va_hears va_shut va_woodBell va_woodVillage va_needVillage va_needWind va_needSeen va_sign]) C hP hD hS (tX6_counted l G a ((va 0)) a_draft a_images a_tale a_run a_ropeSearch a_ringSearch a_woodSearch a_refusedBad a_refusedNo a_refusedFull ((-2)) g6 hg6) gX6_word_X6_counted rfl ⟨rfl, rfl⟩ hdX6_counted ⟨Nat.le_of_ble_eq_true rfl, Nat.le_of_ble_eq_true rfl⟩ rfl hl.1 rfl (Nat.le_of_ble_eq_true rfl) ⟨Nat.le_of_ble_eq_true rfl, Nat.le_of_ble_eq_true rfl⟩ [0] rfl rfl rfl rfl rfl (ci := 6) (q0 := 0) rfl rfl rfl dX6_word_28 (fun H locs hP hD hS => ?_)
    have hP : va_P G.1 vwCl (flat [wX6 G a ((va 0)) a_draft a_images a_tale a_run a_ropeSearch a_ringSearch a_woodSearch g6.2.1 g6.2.2.1 g6.2.2.2, wX3 G va va_villages va_woods va_needs va_signs va_temper va_friend va_rope va_hears va_shut va_woodBell va_woodVillage va_needVillage va_needWind va_needSeen va_sign]) H := hP
    have hD : va_D A (flat [wX6 G a ((va 0)) a_draft a_images a_tale a_run a_ropeSearch a_ringSearch a_woodSearch g6.2.1 g6.2.2.1 g6.2.2.2, wX3 G va va_villages va_woods va_needs va_signs va_temper va_friend va_rope va_hears va_shut va_woodBell va_woodVillage va_needVillage va_needWind va_needSeen va_sign]) := hD
    have e9 := Option.some.inj hf
    subst e9
    exact rt_i C hP hS rfl dX6_word_31
  have hf := (o_i hf).2 c5
  refine lv_iload_n hx hb dX6_word_18 rfl (lv_at hl 3 rfl) ?_
  obtain ⟨g7, hg7, hf⟩ := o_b hf
  refine bSi C hP hD hS (tX6_isSide l G p2 g7 hg7) gX6_word_X6_isSide rfl ⟨rfl, rfl⟩ hdX6_isSide ⟨Nat.le_of_ble_eq_true rfl, Nat.le_of_ble_eq_true rfl⟩ rfl hl.1 rfl (Nat.le_of_ble_eq_true rfl) ⟨Nat.le_of_ble_eq_true rfl, Nat.le_of_ble_eq_true rfl⟩ [] rfl rfl rfl (setB_same _ _ _ rfl) rfl dX6_word_19 (fun H locs hP hD hS => ?_)
  refine lv_if_ne (tgt := 32) hx hb dX6_word_22 (by decide) (fun c8 => ?_) (fun c8 => ?_)
  · have hf := (o_i hf).2 c8
    refine lv_iconst (v := 0) hx hb dX6_word_32 (by decide) ?_
    refine lv_istore (lv' := [(4, .int 0), (0, .ref (a 0)), (1, .int p0), (2, .int p1), (3, .int p2)]) hx hb dX6_word_33 hl (by decide) rfl (fun ls hl => ?_)
    refine lv_iconst (v := 1) hx hb dX6_word_35 (by decide) ?_
    refine lv_iload_n hx hb dX6_word_36 rfl (lv_at hl 2 rfl) ?_
    refine lv_ishl hx hb dX6_word_37 ?_
    refine lv_istore (lv' := [(5, .int (1 <<< (p0 &&& 31))), (4, .int 0), (0, .ref (a 0)), (1, .int p0), (2, .int p1), (3, .int p2)]) hx hb dX6_word_38 hl (by decide) rfl (fun ls hl => ?_)
    refine lv_aload_n hx hb dX6_word_40 rfl (lv_at hl 2 rfl) ?_
    refine va_get (D := G.1) (ci := 6) (v := .ref (va 0)) (C := RX6) (T := TX6) (N := 11) hx hb hts iiX6_word_X6 hown hK hP 0 rfl rfl 0 (by decide) (hts _ mmX6_word_1) (fun _ h9 => h9) rfl dX6_word_41 ?_
    refine lv_iload hx hb dX6_word_44 (lv_at hl 0 rfl) ?_
    refine at_pc (pc' := 46) rfl ?_
    refine lv_iload_n hx hb dX6_word_46 rfl (lv_at hl 4 rfl) ?_
    obtain ⟨g9, hg9, hf⟩ := o_b hf
    refine bVi C hP hD hS (tX3_knowAfterRound l G va va_villages va_woods va_needs va_signs va_temper va_friend va_rope va_hears va_shut va_woodBell va_woodVillage va_needVillage va_needWind va_needSeen va_sign (1 <<< (p0 &&& 31)) p1 g9 hg9) gX6_word_X3_knowAfterRound rfl ⟨rfl, rfl⟩ hdX3_knowAfterRound ⟨Nat.le_of_ble_eq_true rfl, Nat.le_of_ble_eq_true rfl⟩ rfl hl.1 rfl (Nat.le_of_ble_eq_true rfl) ⟨Nat.le_of_ble_eq_true rfl, Nat.le_of_ble_eq_true rfl⟩ [1] rfl rfl rfl (setB_same _ _ _ rfl) rfl (ci := 3) (q0 := 1) rfl rfl rfl dX6_word_47 (fun H locs hP hD hS => ?_)
    refine lv_istore (lv' := [(6, .int g9), (5, .int (1 <<< (p0 &&& 31))), (4, .int 0), (0, .ref (a 0)), (1, .int p0), (2, .int p1), (3, .int p2)]) hx hb dX6_word_50 hl (by decide) rfl (fun ls hl => ?_)
    refine lX6_word_52 l G C a va a_draft a_images a_tale a_run a_ropeSearch a_ringSearch a_woodSearch a_refusedBad a_refusedNo a_refusedFull va_villages va_woods va_needs va_signs va_temper va_friend va_rope va_hears va_shut va_woodBell va_woodVillage va_needVillage va_needWind va_needSeen va_sign p0 p1 p2 out _ (fun x4_52_13 x5_52_14 x6_52_15 H locs ls hP hD hS hl hf => ?_) fu 0 (1 <<< (p0 &&& 31)) g9 _ _ _ hP hD hS (lv_sub hl [3, 4, 5, 6, 2, 1, 0] rfl) hf
    refine lv_iload_n hx hb dX6_word_88 rfl (lv_at hl 3 rfl) ?_
    refine lv_if_ne (tgt := 97) hx hb dX6_word_89 (by decide) (fun c16 => ?_) (fun c16 => ?_)
    · have hf := (o_i hf).2 c16
      refine lv_iload hx hb dX6_word_97 (lv_at hl 5 rfl) ?_
      have e9 := Option.some.inj hf
      subst e9
      exact rt_i C hP hS rfl dX6_word_99
    have hf := (o_i hf).1 c16
    refine lv_iload hx hb dX6_word_92 (lv_at hl 4 rfl) ?_
    refine lv_goto (tgt := 99) hx hb dX6_word_94 (by decide) ?_
    have e9 := Option.some.inj hf
    subst e9
    exact rt_i C hP hS rfl dX6_word_99
  have hf := (o_i hf).1 c8
  refine lv_aload_n hx hb dX6_word_25 rfl (lv_at hl 0 rfl) ?_
  refine lv_bipush (v := (-2)) hx hb dX6_word_26 (by decide) ?_
  obtain ⟨g17, hg17, hf⟩ := o_b hf
  refine bVi (Bs' := [wX6 G a ((va 0)) a_draft a_images a_tale a_run a_ropeSearch a_ringSearch a_woodSearch g17.2.1 g17.2.2.1 g17.2.2.2, wX3 G va va_villages va_woods va_needs va_signs va_temper va_friend va_rope va_hears va_shut va_woodBell va_woodVillage va_needVillage va_needWind va_needSeen va_sign]) C hP hD hS (tX6_counted l G a ((va 0)) a_draft a_images a_tale a_run a_ropeSearch a_ringSearch a_woodSearch a_refusedBad a_refusedNo a_refusedFull ((-2)) g17 hg17) gX6_word_X6_counted rfl ⟨rfl, rfl⟩ hdX6_counted ⟨Nat.le_of_ble_eq_true rfl, Nat.le_of_ble_eq_true rfl⟩ rfl hl.1 rfl (Nat.le_of_ble_eq_true rfl) ⟨Nat.le_of_ble_eq_true rfl, Nat.le_of_ble_eq_true rfl⟩ [0] rfl rfl rfl rfl rfl (ci := 6) (q0 := 0) rfl rfl rfl dX6_word_28 (fun H locs hP hD hS => ?_)
  have hP : va_P G.1 vwCl (flat [wX6 G a ((va 0)) a_draft a_images a_tale a_run a_ropeSearch a_ringSearch a_woodSearch g17.2.1 g17.2.2.1 g17.2.2.2, wX3 G va va_villages va_woods va_needs va_signs va_temper va_friend va_rope va_hears va_shut va_woodBell va_woodVillage va_needVillage va_needWind va_needSeen va_sign]) H := hP
  have hD : va_D A (flat [wX6 G a ((va 0)) a_draft a_images a_tale a_run a_ropeSearch a_ringSearch a_woodSearch g17.2.1 g17.2.2.1 g17.2.2.2, wX3 G va va_villages va_woods va_needs va_signs va_temper va_friend va_rope va_hears va_shut va_woodBell va_woodVillage va_needVillage va_needWind va_needSeen va_sign]) := hD
  have e9 := Option.some.inj hf
  subst e9
  exact rt_i C hP hS rfl dX6_word_31

/-! RX6 fell()I -/
theorem iiX6_fell_X6 : ∀ w ∈ wsX60, w ∈ wsX6_fell := by decide +kernel
theorem mmX6_fell_1 : (Cond.fieldLink RX6 54 "BlindBells" "woodSearch" "LBlindBells$WoodSearch;") ∈ wsX6_fell := by decide +kernel
theorem mmX6_fell_2 : (Cond.fieldLink RX6 12 "BlindBells" "valley" "LBlindBells$Valley;") ∈ wsX6_fell := by decide +kernel
theorem hdX6_fell : yX6_fell.cls = RX6 ∧ yX6_fell.cls ≠ "java/lang/invoke/MethodHandle" ∧ yX6_fell.cls ≠ "java/lang/invoke/VarHandle" ∧ (parseMethodDescriptor yX6_fell.desc).map (fun d => d.parameters.length) = some 0 := by decide +kernel
abbrev rmX6_fell : Room := { frames := 4, cells := 0, slots := 0, locals := 95 }
set_option maxHeartbeats 4000000 in
set_option maxRecDepth 100000 in
theorem tX6_fell (l : Launch) (G : GG) (a : Nat → Nat) (va : Nat → Nat) (wa : Nat → Nat) (a_draft : Nat) (a_images : Nat) (a_tale : Nat) (a_run : Nat) (a_ropeSearch : Nat) (a_ringSearch : Nat) (a_refusedBad : Int32) (a_refusedNo : Int32) (a_refusedFull : Int32) (va_villages : Int32) (va_woods : Int32) (va_needs : Int32) (va_signs : Int32) (va_temper : Nat → Int32) (va_friend : Nat → Int32) (va_rope : Nat → Int32) (va_hears : Nat → Int32) (va_shut : Nat → Int32) (va_woodBell : Nat → Int32) (va_woodVillage : Nat → Int32) (va_needVillage : Nat → Int32) (va_needWind : Nat → Int32) (va_needSeen : Nat → Int32) (va_sign : Nat → Int32) (wa_between : Nat → Int32) (out : Int32 × (Nat → Int32)) (hf : fX6_fell va_villages va_woods va_needs va_rope va_hears va_woodBell va_woodVillage va_needVillage va_needWind va_needSeen wa_between = some out) : cMi l G yX6_fell wsX6_fell rmX6_fell [.ref (a 0)] (flat [wX6 G a ((va 0)) a_draft a_images a_tale a_run a_ropeSearch a_ringSearch ((wa 0)) a_refusedBad a_refusedNo a_refusedFull, wX3 G va va_villages va_woods va_needs va_signs va_temper va_friend va_rope va_hears va_shut va_woodBell va_woodVillage va_needVillage va_needWind va_needSeen va_sign, wX5 G wa wa_between]) out.1 (flat [wX6 G a ((va 0)) a_draft a_images a_tale a_run a_ropeSearch a_ringSearch ((wa 0)) a_refusedBad a_refusedNo a_refusedFull, wX3 G va va_villages va_woods va_needs va_signs va_temper va_friend va_rope va_hears va_shut va_woodBell va_woodVillage va_needVillage va_needWind va_needSeen va_sign, wX5 G wa out.2]) := by
  intro sz
  refine met_of (cc := cX6_fell) (nL := 1) (ret := (some .int)) (Qc := fun A9 => QI G A9 out.1 (flat [wX6 G a ((va 0)) a_draft a_images a_tale a_run a_ropeSearch a_ringSearch ((wa 0)) a_refusedBad a_refusedNo a_refusedFull, wX3 G va va_villages va_woods va_needs va_signs va_temper va_friend va_rope va_hears va_shut va_woodBell va_woodVillage va_needVillage va_needWind va_needSeen va_sign, wX5 G wa out.2])) (by decide) rfl (Nat.le_of_ble_eq_true rfl) ?_
  intro p e s m args below meth c A ls C hP hD hS hl
  obtain ⟨⟨hx, hb, hml, hown, hts⟩, hr, hlocks, hK, hN, hE, hA⟩ := id C
  have hl : lv_has ls 1 [(0, .ref (a 0))] := hl
  unfold fX6_fell at hf
  refine lv_aload_n hx hb dX6_fell_0 rfl (lv_at hl 0 rfl) ?_
  refine va_get (D := G.1) (ci := 6) (v := .ref (wa 0)) (C := RX6) (T := TX6) (N := 11) hx hb hts iiX6_fell_X6 hown hK hP 0 rfl rfl 7 (by decide) (hts _ mmX6_fell_1) (fun _ h9 => h9) rfl dX6_fell_1 ?_
  refine lv_aload_n hx hb dX6_fell_4 rfl (lv_at hl 0 rfl) ?_
  refine va_get (D := G.1) (ci := 6) (v := .ref (va 0)) (C := RX6) (T := TX6) (N := 11) hx hb hts iiX6_fell_X6 hown hK hP 0 rfl rfl 0 (by decide) (hts _ mmX6_fell_2) (fun _ h9 => h9) rfl dX6_fell_5 ?_
  obtain ⟨g1, hg1, hf⟩ := o_b hf
  refine bVi (Bs' := [wX6 G a ((va 0)) a_draft a_images a_tale a_run a_ropeSearch a_ringSearch ((wa 0)) a_refusedBad a_refusedNo a_refusedFull, wX3 G va va_villages va_woods va_needs va_signs va_temper va_friend va_rope va_hears va_shut va_woodBell va_woodVillage va_needVillage va_needWind va_needSeen va_sign, wX5 G wa g1.2]) C hP hD hS (tX5_go l G wa va wa_between va_villages va_woods va_needs va_signs va_temper va_friend va_rope va_hears va_shut va_woodBell va_woodVillage va_needVillage va_needWind va_needSeen va_sign g1 hg1) gX6_fell_X5_go rfl ⟨rfl, rfl⟩ hdX5_go ⟨Nat.le_of_ble_eq_true rfl, Nat.le_of_ble_eq_true rfl⟩ rfl hl.1 rfl (Nat.le_of_ble_eq_true rfl) ⟨Nat.le_of_ble_eq_true rfl, Nat.le_of_ble_eq_true rfl⟩ [2, 1] rfl rfl rfl rfl rfl (ci := 5) (q0 := 13) rfl rfl rfl dX6_fell_8 (fun H locs hP hD hS => ?_)
  have hP : va_P G.1 vwCl (flat [wX6 G a ((va 0)) a_draft a_images a_tale a_run a_ropeSearch a_ringSearch ((wa 0)) a_refusedBad a_refusedNo a_refusedFull, wX3 G va va_villages va_woods va_needs va_signs va_temper va_friend va_rope va_hears va_shut va_woodBell va_woodVillage va_needVillage va_needWind va_needSeen va_sign, wX5 G wa g1.2]) H := hP
  have hD : va_D A (flat [wX6 G a ((va 0)) a_draft a_images a_tale a_run a_ropeSearch a_ringSearch ((wa 0)) a_refusedBad a_refusedNo a_refusedFull, wX3 G va va_villages va_woods va_needs va_signs va_temper va_friend va_rope va_hears va_shut va_woodBell va_woodVillage va_needVillage va_needWind va_needSeen va_sign, wX5 G wa g1.2]) := hD
  have e9 := Option.some.inj hf
  subst e9
  exact rt_i C hP hS rfl dX6_fell_11

/-! RX6 sign(I)I -/
theorem iiX6_sign_X6 : ∀ w ∈ wsX60, w ∈ wsX6_sign := by decide +kernel
theorem mmX6_sign_1 : (Cond.fieldLink RX6 12 "BlindBells" "valley" "LBlindBells$Valley;") ∈ wsX6_sign := by decide +kernel
theorem hdX6_sign : yX6_sign.cls = RX6 ∧ yX6_sign.cls ≠ "java/lang/invoke/MethodHandle" ∧ yX6_sign.cls ≠ "java/lang/invoke/VarHandle" ∧ (parseMethodDescriptor yX6_sign.desc).map (fun d => d.parameters.length) = some 1 := by decide +kernel
abbrev rmX6_sign : Room := { frames := 2, cells := 0, slots := 0, locals := 43 }
set_option maxHeartbeats 4000000 in
set_option maxRecDepth 100000 in
theorem tX6_sign (l : Launch) (G : GG) (a : Nat → Nat) (va : Nat → Nat) (a_draft : Nat) (a_images : Nat) (a_tale : Nat) (a_run : Nat) (a_ropeSearch : Nat) (a_ringSearch : Nat) (a_woodSearch : Nat) (a_refusedBad : Int32) (a_refusedNo : Int32) (a_refusedFull : Int32) (va_villages : Int32) (va_woods : Int32) (va_needs : Int32) (va_signs : Int32) (va_temper : Nat → Int32) (va_friend : Nat → Int32) (va_rope : Nat → Int32) (va_hears : Nat → Int32) (va_shut : Nat → Int32) (va_woodBell : Nat → Int32) (va_woodVillage : Nat → Int32) (va_needVillage : Nat → Int32) (va_needWind : Nat → Int32) (va_needSeen : Nat → Int32) (va_sign : Nat → Int32) (p0 : Int32) (out : Int32 × Int32 × Int32 × Int32 × Int32 × (Nat → Int32)) (hf : fX6_sign a_refusedBad a_refusedNo a_refusedFull va_signs va_sign p0 = some out) : cMi l G yX6_sign wsX6_sign rmX6_sign [.ref (a 0), .int p0] (flat [wX6 G a ((va 0)) a_draft a_images a_tale a_run a_ropeSearch a_ringSearch a_woodSearch a_refusedBad a_refusedNo a_refusedFull, wX3 G va va_villages va_woods va_needs va_signs va_temper va_friend va_rope va_hears va_shut va_woodBell va_woodVillage va_needVillage va_needWind va_needSeen va_sign]) out.1 (flat [wX6 G a ((va 0)) a_draft a_images a_tale a_run a_ropeSearch a_ringSearch a_woodSearch out.2.1 out.2.2.1 out.2.2.2.1, wX3 G va va_villages va_woods va_needs out.2.2.2.2.1 va_temper va_friend va_rope va_hears va_shut va_woodBell va_woodVillage va_needVillage va_needWind va_needSeen out.2.2.2.2.2]) := by
  intro sz
  refine met_of (cc := cX6_sign) (nL := 2) (ret := (some .int)) (Qc := fun A9 => QI G A9 out.1 (flat [wX6 G a ((va 0)) a_draft a_images a_tale a_run a_ropeSearch a_ringSearch a_woodSearch out.2.1 out.2.2.1 out.2.2.2.1, wX3 G va va_villages va_woods va_needs out.2.2.2.2.1 va_temper va_friend va_rope va_hears va_shut va_woodBell va_woodVillage va_needVillage va_needWind va_needSeen out.2.2.2.2.2])) (by decide) rfl (Nat.le_of_ble_eq_true rfl) ?_
  intro p e s m args below meth c A ls C hP hD hS hl
  obtain ⟨⟨hx, hb, hml, hown, hts⟩, hr, hlocks, hK, hN, hE, hA⟩ := id C
  have hl : lv_has ls 2 [(0, .ref (a 0)), (1, .int p0)] := hl
  unfold fX6_sign at hf
  refine lv_aload_n hx hb dX6_sign_0 rfl (lv_at hl 0 rfl) ?_
  refine lv_aload_n hx hb dX6_sign_1 rfl (lv_at hl 0 rfl) ?_
  refine va_get (D := G.1) (ci := 6) (v := .ref (va 0)) (C := RX6) (T := TX6) (N := 11) hx hb hts iiX6_sign_X6 hown hK hP 0 rfl rfl 0 (by decide) (hts _ mmX6_sign_1) (fun _ h9 => h9) rfl dX6_sign_2 ?_
  refine lv_iload_n hx hb dX6_sign_5 rfl (lv_at hl 1 rfl) ?_
  obtain ⟨g1, hg1, hf⟩ := o_b hf
  refine bVi (Bs' := [wX6 G a ((va 0)) a_draft a_images a_tale a_run a_ropeSearch a_ringSearch a_woodSearch a_refusedBad a_refusedNo a_refusedFull, wX3 G va va_villages va_woods va_needs g1.2.1 va_temper va_friend va_rope va_hears va_shut va_woodBell va_woodVillage va_needVillage va_needWind va_needSeen g1.2.2]) C hP hD hS (tX3_addSign l G va va_villages va_woods va_needs va_signs va_temper va_friend va_rope va_hears va_shut va_woodBell va_woodVillage va_needVillage va_needWind va_needSeen va_sign p0 g1 hg1) gX6_sign_X3_addSign rfl ⟨rfl, rfl⟩ hdX3_addSign ⟨Nat.le_of_ble_eq_true rfl, Nat.le_of_ble_eq_true rfl⟩ rfl hl.1 rfl (Nat.le_of_ble_eq_true rfl) ⟨Nat.le_of_ble_eq_true rfl, Nat.le_of_ble_eq_true rfl⟩ [1] rfl rfl rfl rfl rfl (ci := 3) (q0 := 1) rfl rfl rfl dX6_sign_6 (fun H locs hP hD hS => ?_)
  have hP : va_P G.1 vwCl (flat [wX6 G a ((va 0)) a_draft a_images a_tale a_run a_ropeSearch a_ringSearch a_woodSearch a_refusedBad a_refusedNo a_refusedFull, wX3 G va va_villages va_woods va_needs g1.2.1 va_temper va_friend va_rope va_hears va_shut va_woodBell va_woodVillage va_needVillage va_needWind va_needSeen g1.2.2]) H := hP
  have hD : va_D A (flat [wX6 G a ((va 0)) a_draft a_images a_tale a_run a_ropeSearch a_ringSearch a_woodSearch a_refusedBad a_refusedNo a_refusedFull, wX3 G va va_villages va_woods va_needs g1.2.1 va_temper va_friend va_rope va_hears va_shut va_woodBell va_woodVillage va_needVillage va_needWind va_needSeen g1.2.2]) := hD
  obtain ⟨g2, hg2, hf⟩ := o_b hf
  refine bVi (Bs' := [wX6 G a ((va 0)) a_draft a_images a_tale a_run a_ropeSearch a_ringSearch a_woodSearch g2.2.1 g2.2.2.1 g2.2.2.2, wX3 G va va_villages va_woods va_needs g1.2.1 va_temper va_friend va_rope va_hears va_shut va_woodBell va_woodVillage va_needVillage va_needWind va_needSeen g1.2.2]) C hP hD hS (tX6_counted l G a ((va 0)) a_draft a_images a_tale a_run a_ropeSearch a_ringSearch a_woodSearch a_refusedBad a_refusedNo a_refusedFull g1.1 g2 hg2) gX6_sign_X6_counted rfl ⟨rfl, rfl⟩ hdX6_counted ⟨Nat.le_of_ble_eq_true rfl, Nat.le_of_ble_eq_true rfl⟩ rfl hl.1 rfl (Nat.le_of_ble_eq_true rfl) ⟨Nat.le_of_ble_eq_true rfl, Nat.le_of_ble_eq_true rfl⟩ [0] rfl rfl rfl rfl rfl (ci := 6) (q0 := 0) rfl rfl rfl dX6_sign_9 (fun H locs hP hD hS => ?_)
  have hP : va_P G.1 vwCl (flat [wX6 G a ((va 0)) a_draft a_images a_tale a_run a_ropeSearch a_ringSearch a_woodSearch g2.2.1 g2.2.2.1 g2.2.2.2, wX3 G va va_villages va_woods va_needs g1.2.1 va_temper va_friend va_rope va_hears va_shut va_woodBell va_woodVillage va_needVillage va_needWind va_needSeen g1.2.2]) H := hP
  have hD : va_D A (flat [wX6 G a ((va 0)) a_draft a_images a_tale a_run a_ropeSearch a_ringSearch a_woodSearch g2.2.1 g2.2.2.1 g2.2.2.2, wX3 G va va_villages va_woods va_needs g1.2.1 va_temper va_friend va_rope va_hears va_shut va_woodBell va_woodVillage va_needVillage va_needWind va_needSeen g1.2.2]) := hD
  have e9 := Option.some.inj hf
  subst e9
  exact rt_i C hP hS rfl dX6_sign_12

/-! RX6 clearSigns()I -/
theorem iiX6_clearSigns_X6 : ∀ w ∈ wsX60, w ∈ wsX6_clearSigns := by decide +kernel
theorem mmX6_clearSigns_1 : (Cond.fieldLink RX6 12 "BlindBells" "valley" "LBlindBells$Valley;") ∈ wsX6_clearSigns := by decide +kernel
theorem iiX6_clearSigns_X3 : ∀ w ∈ wsX30, w ∈ wsX6_clearSigns := by decide +kernel
theorem mmX6_clearSigns_3 : (Cond.fieldLink RX6 177 "BlindBells$Valley" "signs" "I") ∈ wsX6_clearSigns := by decide +kernel
theorem hdX6_clearSigns : yX6_clearSigns.cls = RX6 ∧ yX6_clearSigns.cls ≠ "java/lang/invoke/MethodHandle" ∧ yX6_clearSigns.cls ≠ "java/lang/invoke/VarHandle" ∧ (parseMethodDescriptor yX6_clearSigns.desc).map (fun d => d.parameters.length) = some 0 := by decide +kernel
abbrev rmX6_clearSigns : Room := { frames := 2, cells := 0, slots := 0, locals := 46 }
set_option maxHeartbeats 4000000 in
set_option maxRecDepth 100000 in
theorem lX6_clearSigns_15 {p : Program} {e : Env} {s : State} {m : MethodId} {args : Array Value} {below : List Frame} {meth : Method} {c : Code} {A : Nat → Prop} (l : Launch) (G : GG) (C : Cx p m c cX6_clearSigns 4 s args wsX6_clearSigns RX6 meth (some .int) G A) (a : Nat → Nat) (va : Nat → Nat) (a_draft : Nat) (a_images : Nat) (a_tale : Nat) (a_run : Nat) (a_ropeSearch : Nat) (a_ringSearch : Nat) (a_woodSearch : Nat) (a_refusedBad : Int32) (a_refusedNo : Int32) (a_refusedFull : Int32) (va_villages : Int32) (va_woods : Int32) (va_needs : Int32) (va_signs : Int32) (va_temper : Nat → Int32) (va_friend : Nat → Int32) (va_rope : Nat → Int32) (va_hears : Nat → Int32) (va_shut : Nat → Int32) (va_woodBell : Nat → Int32) (va_woodVillage : Nat → Int32) (va_needVillage : Nat → Int32) (va_needWind : Nat → Int32) (va_needSeen : Nat → Int32) (va_sign : Nat → Int32) (x1_2 : Int32) (out : Int32) (kx : Int32 → Option (Int32)) (HX : ∀ (x2_15 : Int32) (H : Heap) (locs : List Loc) (ls : Array Slot), va_P G.1 vwCl (flat [wX6 G a ((va 0)) a_draft a_images a_tale a_run a_ropeSearch a_ringSearch a_woodSearch a_refusedBad a_refusedNo a_refusedFull, wX3 G va va_villages va_woods va_needs va_signs va_temper va_friend va_rope va_hears va_shut va_woodBell va_woodVillage va_needVillage va_needWind va_needSeen va_sign]) H → va_D A (flat [wX6 G a ((va 0)) a_draft a_images a_tale a_run a_ropeSearch a_ringSearch a_woodSearch a_refusedBad a_refusedNo a_refusedFull, wX3 G va va_villages va_woods va_needs va_signs va_temper va_friend va_rope va_hears va_shut va_woodBell va_woodVillage va_needVillage va_needWind va_needSeen va_sign]) → va_S A s.heap H locs → lv_has ls 4 [(0, .ref (a 0)), (1, .int x1_2), (2, .int x2_15)] → kx x2_15 = some out → W p l e rmX6_clearSigns s m args below meth c H locs 0 0 (MQ below (QI G A out (flat [wX6 G a ((va 0)) a_draft a_images a_tale a_run a_ropeSearch a_ringSearch a_woodSearch a_refusedBad a_refusedNo a_refusedFull, wX3 G va va_villages va_woods va_needs va_signs va_temper va_friend va_rope va_hears va_shut va_woodBell va_woodVillage va_needVillage va_needWind va_needSeen va_sign])) args s 0 0 A) (F0 m 60 ls [])) : ∀ (n : Nat) (x2_15 : Int32) (H : Heap) (locs : List Loc) (ls : Array Slot), va_P G.1 vwCl (flat [wX6 G a ((va 0)) a_draft a_images a_tale a_run a_ropeSearch a_ringSearch a_woodSearch a_refusedBad a_refusedNo a_refusedFull, wX3 G va va_villages va_woods va_needs va_signs va_temper va_friend va_rope va_hears va_shut va_woodBell va_woodVillage va_needVillage va_needWind va_needSeen va_sign]) H → va_D A (flat [wX6 G a ((va 0)) a_draft a_images a_tale a_run a_ropeSearch a_ringSearch a_woodSearch a_refusedBad a_refusedNo a_refusedFull, wX3 G va va_villages va_woods va_needs va_signs va_temper va_friend va_rope va_hears va_shut va_woodBell va_woodVillage va_needVillage va_needWind va_needSeen va_sign]) → va_S A s.heap H locs → lv_has ls 4 [(0, .ref (a 0)), (1, .int x1_2), (2, .int x2_15)] → fX6_clearSigns_15 va_signs va_sign x1_2 kx n x2_15 = some out → W p l e rmX6_clearSigns s m args below meth c H locs 0 0 (MQ below (QI G A out (flat [wX6 G a ((va 0)) a_draft a_images a_tale a_run a_ropeSearch a_ringSearch a_woodSearch a_refusedBad a_refusedNo a_refusedFull, wX3 G va va_villages va_woods va_needs va_signs va_temper va_friend va_rope va_hears va_shut va_woodBell va_woodVillage va_needVillage va_needWind va_needSeen va_sign])) args s 0 0 A) (F0 m 15 ls []) := by
  obtain ⟨⟨hx, hb, hml, hown, hts⟩, hr, hlocks, hK, hN, hE, hA⟩ := id C
  intro n
  induction n with
  | zero =>
    intro x2_15 H locs ls hP hD hS hl hf
    exact absurd (show (none : Option (Int32)) = some out from hf) (by intro q9; cases q9)
  | succ n ih =>
    intro x2_15 H locs ls hP hD hS hl hf
    rw [fX6_clearSigns_15] at hf
    refine lv_iload_n hx hb dX6_clearSigns_15 rfl (lv_at hl 2 rfl) ?_
    refine lv_aload_n hx hb dX6_clearSigns_16 rfl (lv_at hl 0 rfl) ?_
    refine va_get (D := G.1) (ci := 6) (v := .ref (va 0)) (C := RX6) (T := TX6) (N := 11) hx hb hts iiX6_clearSigns_X6 hown hK hP 0 rfl rfl 0 (by decide) (hts _ mmX6_clearSigns_1) (fun _ h9 => h9) rfl dX6_clearSigns_17 ?_
    refine va_get (D := G.1) (ci := 3) (v := .int va_signs) (C := RX3) (T := TX3) (N := 15) hx hb hts iiX6_clearSigns_X3 hown hK hP 1 rfl rfl 3 (by decide) (hts _ mmX6_clearSigns_3) (fun _ h9 => h9) rfl dX6_clearSigns_20 ?_
    refine lv_icmp_ge (tgt := 60) hx hb dX6_clearSigns_23 (by decide) (fun c2 => ?_) (fun c2 => ?_)
    · have hf := (o_i hf).1 c2
      exact HX _ _ _ _ hP hD hS (lv_sub hl [0, 1, 2] rfl) hf
    have hf := (o_i hf).2 c2
    refine lv_aload_n hx hb dX6_clearSigns_26 rfl (lv_at hl 0 rfl) ?_
    refine va_get (D := G.1) (ci := 6) (v := .ref (va 0)) (C := RX6) (T := TX6) (N := 11) hx hb hts iiX6_clearSigns_X6 hown hK hP 0 rfl rfl 0 (by decide) (hts _ mmX6_clearSigns_1) (fun _ h9 => h9) rfl dX6_clearSigns_27 ?_
    refine lv_iload_n hx hb dX6_clearSigns_30 rfl (lv_at hl 1 rfl) ?_
    refine lv_iload_n hx hb dX6_clearSigns_31 rfl (lv_at hl 2 rfl) ?_
    obtain ⟨g3, hg3, hf⟩ := o_b hf
    refine bVi C hP hD hS (tX3_firstTakenFor l G va va_villages va_woods va_needs va_signs va_temper va_friend va_rope va_hears va_shut va_woodBell va_woodVillage va_needVillage va_needWind va_needSeen va_sign x1_2 x2_15 g3 hg3) gX6_clearSigns_X3_firstTakenFor rfl ⟨rfl, rfl⟩ hdX3_firstTakenFor ⟨Nat.le_of_ble_eq_true rfl, Nat.le_of_ble_eq_true rfl⟩ rfl hl.1 rfl (Nat.le_of_ble_eq_true rfl) ⟨Nat.le_of_ble_eq_true rfl, Nat.le_of_ble_eq_true rfl⟩ [1] rfl rfl rfl (setB_same _ _ _ rfl) rfl (ci := 3) (q0 := 1) rfl rfl rfl dX6_clearSigns_32 (fun H locs hP hD hS => ?_)
    refine lv_istore_n (lv' := [(3, .int g3), (0, .ref (a 0)), (1, .int x1_2), (2, .int x2_15)]) hx hb dX6_clearSigns_35 rfl hl (by decide) rfl (fun ls hl => ?_)
    refine lv_iload_n hx hb dX6_clearSigns_36 rfl (lv_at hl 0 rfl) ?_
    refine lv_iconst (v := (-1)) hx hb dX6_clearSigns_37 (by decide) ?_
    refine lv_icmp_eq (tgt := 54) hx hb dX6_clearSigns_38 (by decide) (fun c4 => ?_) (fun c4 => ?_)
    · have hf := (o_i hf).1 c4
      refine lv_iinc (v := x2_15 + 1) (lv' := [(2, .int (x2_15 + 1)), (3, .int g3), (0, .ref (a 0)), (1, .int x1_2)]) hx hb dX6_clearSigns_54 hl (k := 3) rfl (congrArg (fun z => x2_15 + z) (by decide)) (by decide) rfl (fun ls hl => ?_)
      refine lv_goto (tgt := 15) hx hb dX6_clearSigns_57 (by decide) ?_
      exact ih _ _ _ _ hP hD hS (lv_sub hl [2, 3, 0] rfl) hf
    have hf := (o_i hf).2 c4
    refine lv_sipush (v := 1000) hx hb dX6_clearSigns_41 (by decide) ?_
    refine lv_iload_n hx hb dX6_clearSigns_44 rfl (lv_at hl 2 rfl) ?_
    refine lv_imul hx hb dX6_clearSigns_45 ?_
    refine lv_bipush (v := 100) hx hb dX6_clearSigns_46 (by decide) ?_
    refine lv_iload_n hx hb dX6_clearSigns_48 rfl (lv_at hl 3 rfl) ?_
    refine lv_imul hx hb dX6_clearSigns_49 ?_
    refine lv_iadd hx hb dX6_clearSigns_50 ?_
    refine lv_iload_n hx hb dX6_clearSigns_51 rfl (lv_at hl 0 rfl) ?_
    refine lv_iadd hx hb dX6_clearSigns_52 ?_
    refine at_pc (pc' := 53) rfl ?_
    have e9 := Option.some.inj hf
    subst e9
    exact rt_i C hP hS rfl dX6_clearSigns_53
set_option maxHeartbeats 4000000 in
set_option maxRecDepth 100000 in
theorem lX6_clearSigns_2 {p : Program} {e : Env} {s : State} {m : MethodId} {args : Array Value} {below : List Frame} {meth : Method} {c : Code} {A : Nat → Prop} (l : Launch) (G : GG) (C : Cx p m c cX6_clearSigns 4 s args wsX6_clearSigns RX6 meth (some .int) G A) (a : Nat → Nat) (va : Nat → Nat) (a_draft : Nat) (a_images : Nat) (a_tale : Nat) (a_run : Nat) (a_ropeSearch : Nat) (a_ringSearch : Nat) (a_woodSearch : Nat) (a_refusedBad : Int32) (a_refusedNo : Int32) (a_refusedFull : Int32) (va_villages : Int32) (va_woods : Int32) (va_needs : Int32) (va_signs : Int32) (va_temper : Nat → Int32) (va_friend : Nat → Int32) (va_rope : Nat → Int32) (va_hears : Nat → Int32) (va_shut : Nat → Int32) (va_woodBell : Nat → Int32) (va_woodVillage : Nat → Int32) (va_needVillage : Nat → Int32) (va_needWind : Nat → Int32) (va_needSeen : Nat → Int32) (va_sign : Nat → Int32)  (out : Int32) (kx : Int32 → Option (Int32)) (HX : ∀ (x1_2 : Int32) (H : Heap) (locs : List Loc) (ls : Array Slot), va_P G.1 vwCl (flat [wX6 G a ((va 0)) a_draft a_images a_tale a_run a_ropeSearch a_ringSearch a_woodSearch a_refusedBad a_refusedNo a_refusedFull, wX3 G va va_villages va_woods va_needs va_signs va_temper va_friend va_rope va_hears va_shut va_woodBell va_woodVillage va_needVillage va_needWind va_needSeen va_sign]) H → va_D A (flat [wX6 G a ((va 0)) a_draft a_images a_tale a_run a_ropeSearch a_ringSearch a_woodSearch a_refusedBad a_refusedNo a_refusedFull, wX3 G va va_villages va_woods va_needs va_signs va_temper va_friend va_rope va_hears va_shut va_woodBell va_woodVillage va_needVillage va_needWind va_needSeen va_sign]) → va_S A s.heap H locs → lv_has ls 4 [(0, .ref (a 0)), (1, .int x1_2)] → kx x1_2 = some out → W p l e rmX6_clearSigns s m args below meth c H locs 0 0 (MQ below (QI G A out (flat [wX6 G a ((va 0)) a_draft a_images a_tale a_run a_ropeSearch a_ringSearch a_woodSearch a_refusedBad a_refusedNo a_refusedFull, wX3 G va va_villages va_woods va_needs va_signs va_temper va_friend va_rope va_hears va_shut va_woodBell va_woodVillage va_needVillage va_needWind va_needSeen va_sign])) args s 0 0 A) (F0 m 66 ls [])) : ∀ (n : Nat) (x1_2 : Int32) (H : Heap) (locs : List Loc) (ls : Array Slot), va_P G.1 vwCl (flat [wX6 G a ((va 0)) a_draft a_images a_tale a_run a_ropeSearch a_ringSearch a_woodSearch a_refusedBad a_refusedNo a_refusedFull, wX3 G va va_villages va_woods va_needs va_signs va_temper va_friend va_rope va_hears va_shut va_woodBell va_woodVillage va_needVillage va_needWind va_needSeen va_sign]) H → va_D A (flat [wX6 G a ((va 0)) a_draft a_images a_tale a_run a_ropeSearch a_ringSearch a_woodSearch a_refusedBad a_refusedNo a_refusedFull, wX3 G va va_villages va_woods va_needs va_signs va_temper va_friend va_rope va_hears va_shut va_woodBell va_woodVillage va_needVillage va_needWind va_needSeen va_sign]) → va_S A s.heap H locs → lv_has ls 4 [(0, .ref (a 0)), (1, .int x1_2)] → fX6_clearSigns_2 va_signs va_sign kx n x1_2 = some out → W p l e rmX6_clearSigns s m args below meth c H locs 0 0 (MQ below (QI G A out (flat [wX6 G a ((va 0)) a_draft a_images a_tale a_run a_ropeSearch a_ringSearch a_woodSearch a_refusedBad a_refusedNo a_refusedFull, wX3 G va va_villages va_woods va_needs va_signs va_temper va_friend va_rope va_hears va_shut va_woodBell va_woodVillage va_needVillage va_needWind va_needSeen va_sign])) args s 0 0 A) (F0 m 2 ls []) := by
  obtain ⟨⟨hx, hb, hml, hown, hts⟩, hr, hlocks, hK, hN, hE, hA⟩ := id C
  intro n
  induction n with
  | zero =>
    intro x1_2 H locs ls hP hD hS hl hf
    exact absurd (show (none : Option (Int32)) = some out from hf) (by intro q9; cases q9)
  | succ n ih =>
    intro x1_2 H locs ls hP hD hS hl hf
    rw [fX6_clearSigns_2] at hf
    refine lv_iload_n hx hb dX6_clearSigns_2 rfl (lv_at hl 1 rfl) ?_
    refine lv_aload_n hx hb dX6_clearSigns_3 rfl (lv_at hl 0 rfl) ?_
    refine va_get (D := G.1) (ci := 6) (v := .ref (va 0)) (C := RX6) (T := TX6) (N := 11) hx hb hts iiX6_clearSigns_X6 hown hK hP 0 rfl rfl 0 (by decide) (hts _ mmX6_clearSigns_1) (fun _ h9 => h9) rfl dX6_clearSigns_4 ?_
    refine va_get (D := G.1) (ci := 3) (v := .int va_signs) (C := RX3) (T := TX3) (N := 15) hx hb hts iiX6_clearSigns_X3 hown hK hP 1 rfl rfl 3 (by decide) (hts _ mmX6_clearSigns_3) (fun _ h9 => h9) rfl dX6_clearSigns_7 ?_
    refine lv_icmp_ge (tgt := 66) hx hb dX6_clearSigns_10 (by decide) (fun c1 => ?_) (fun c1 => ?_)
    · have hf := (o_i hf).1 c1
      exact HX _ _ _ _ hP hD hS (lv_sub hl [0, 1] rfl) hf
    have hf := (o_i hf).2 c1
    refine lv_iconst (v := 0) hx hb dX6_clearSigns_13 (by decide) ?_
    refine lv_istore_n (lv' := [(2, .int 0), (0, .ref (a 0)), (1, .int x1_2)]) hx hb dX6_clearSigns_14 rfl hl (by decide) rfl (fun ls hl => ?_)
    refine lX6_clearSigns_15 l G C a va a_draft a_images a_tale a_run a_ropeSearch a_ringSearch a_woodSearch a_refusedBad a_refusedNo a_refusedFull va_villages va_woods va_needs va_signs va_temper va_friend va_rope va_hears va_shut va_woodBell va_woodVillage va_needVillage va_needWind va_needSeen va_sign x1_2 out _ (fun x2_15_5 H locs ls hP hD hS hl hf => ?_) fu 0 _ _ _ hP hD hS (lv_sub hl [1, 2, 0] rfl) hf
    refine lv_iinc (v := x1_2 + 1) (lv' := [(1, .int (x1_2 + 1)), (0, .ref (a 0)), (2, .int x2_15_5)]) hx hb dX6_clearSigns_60 hl (k := 1) rfl (congrArg (fun z => x1_2 + z) (by decide)) (by decide) rfl (fun ls hl => ?_)
    refine lv_goto (tgt := 2) hx hb dX6_clearSigns_63 (by decide) ?_
    exact ih _ _ _ _ hP hD hS (lv_sub hl [1, 0] rfl) hf
set_option maxHeartbeats 4000000 in
set_option maxRecDepth 100000 in
theorem tX6_clearSigns (l : Launch) (G : GG) (a : Nat → Nat) (va : Nat → Nat) (a_draft : Nat) (a_images : Nat) (a_tale : Nat) (a_run : Nat) (a_ropeSearch : Nat) (a_ringSearch : Nat) (a_woodSearch : Nat) (a_refusedBad : Int32) (a_refusedNo : Int32) (a_refusedFull : Int32) (va_villages : Int32) (va_woods : Int32) (va_needs : Int32) (va_signs : Int32) (va_temper : Nat → Int32) (va_friend : Nat → Int32) (va_rope : Nat → Int32) (va_hears : Nat → Int32) (va_shut : Nat → Int32) (va_woodBell : Nat → Int32) (va_woodVillage : Nat → Int32) (va_needVillage : Nat → Int32) (va_needWind : Nat → Int32) (va_needSeen : Nat → Int32) (va_sign : Nat → Int32) (out : Int32) (hf : fX6_clearSigns va_signs va_sign = some out) : cMi l G yX6_clearSigns wsX6_clearSigns rmX6_clearSigns [.ref (a 0)] (flat [wX6 G a ((va 0)) a_draft a_images a_tale a_run a_ropeSearch a_ringSearch a_woodSearch a_refusedBad a_refusedNo a_refusedFull, wX3 G va va_villages va_woods va_needs va_signs va_temper va_friend va_rope va_hears va_shut va_woodBell va_woodVillage va_needVillage va_needWind va_needSeen va_sign]) out (flat [wX6 G a ((va 0)) a_draft a_images a_tale a_run a_ropeSearch a_ringSearch a_woodSearch a_refusedBad a_refusedNo a_refusedFull, wX3 G va va_villages va_woods va_needs va_signs va_temper va_friend va_rope va_hears va_shut va_woodBell va_woodVillage va_needVillage va_needWind va_needSeen va_sign]) := by
  intro sz
  refine met_of (cc := cX6_clearSigns) (nL := 4) (ret := (some .int)) (Qc := fun A9 => QI G A9 out (flat [wX6 G a ((va 0)) a_draft a_images a_tale a_run a_ropeSearch a_ringSearch a_woodSearch a_refusedBad a_refusedNo a_refusedFull, wX3 G va va_villages va_woods va_needs va_signs va_temper va_friend va_rope va_hears va_shut va_woodBell va_woodVillage va_needVillage va_needWind va_needSeen va_sign])) (by decide) rfl (Nat.le_of_ble_eq_true rfl) ?_
  intro p e s m args below meth c A ls C hP hD hS hl
  obtain ⟨⟨hx, hb, hml, hown, hts⟩, hr, hlocks, hK, hN, hE, hA⟩ := id C
  have hl : lv_has ls 4 [(0, .ref (a 0))] := hl
  unfold fX6_clearSigns at hf
  refine lv_iconst (v := 0) hx hb dX6_clearSigns_0 (by decide) ?_
  refine lv_istore_n (lv' := [(1, .int 0), (0, .ref (a 0))]) hx hb dX6_clearSigns_1 rfl hl (by decide) rfl (fun ls hl => ?_)
  refine lX6_clearSigns_2 l G C a va a_draft a_images a_tale a_run a_ropeSearch a_ringSearch a_woodSearch a_refusedBad a_refusedNo a_refusedFull va_villages va_woods va_needs va_signs va_temper va_friend va_rope va_hears va_shut va_woodBell va_woodVillage va_needVillage va_needWind va_needSeen va_sign out _ (fun x1_2_6 H locs ls hP hD hS hl hf => ?_) fu 0 _ _ _ hP hD hS (lv_sub hl [1, 0] rfl) hf
  refine lv_iconst (v := (-1)) hx hb dX6_clearSigns_66 (by decide) ?_
  have e9 := Option.some.inj hf
  subst e9
  exact rt_i C hP hS rfl dX6_clearSigns_67

/-! RX6 came(III)I -/
theorem iiX6_came_X6 : ∀ w ∈ wsX60, w ∈ wsX6_came := by decide +kernel
theorem mmX6_came_1 : (Cond.fieldLink RX6 12 "BlindBells" "valley" "LBlindBells$Valley;") ∈ wsX6_came := by decide +kernel
theorem hdX6_came : yX6_came.cls = RX6 ∧ yX6_came.cls ≠ "java/lang/invoke/MethodHandle" ∧ yX6_came.cls ≠ "java/lang/invoke/VarHandle" ∧ (parseMethodDescriptor yX6_came.desc).map (fun d => d.parameters.length) = some 3 := by decide +kernel
abbrev rmX6_came : Room := { frames := 2, cells := 0, slots := 0, locals := 48 }
set_option maxHeartbeats 4000000 in
set_option maxRecDepth 100000 in
theorem tX6_came (l : Launch) (G : GG) (a : Nat → Nat) (va : Nat → Nat) (a_draft : Nat) (a_images : Nat) (a_tale : Nat) (a_run : Nat) (a_ropeSearch : Nat) (a_ringSearch : Nat) (a_woodSearch : Nat) (a_refusedBad : Int32) (a_refusedNo : Int32) (a_refusedFull : Int32) (va_villages : Int32) (va_woods : Int32) (va_needs : Int32) (va_signs : Int32) (va_temper : Nat → Int32) (va_friend : Nat → Int32) (va_rope : Nat → Int32) (va_hears : Nat → Int32) (va_shut : Nat → Int32) (va_woodBell : Nat → Int32) (va_woodVillage : Nat → Int32) (va_needVillage : Nat → Int32) (va_needWind : Nat → Int32) (va_needSeen : Nat → Int32) (va_sign : Nat → Int32) (p0 : Int32) (p1 : Int32) (p2 : Int32) (out : Int32 × Int32 × Int32 × Int32) (hf : fX6_came a_refusedBad a_refusedNo a_refusedFull va_villages va_hears va_shut p0 p1 p2 = some out) : cMi l G yX6_came wsX6_came rmX6_came [.ref (a 0), .int p0, .int p1, .int p2] (flat [wX6 G a ((va 0)) a_draft a_images a_tale a_run a_ropeSearch a_ringSearch a_woodSearch a_refusedBad a_refusedNo a_refusedFull, wX3 G va va_villages va_woods va_needs va_signs va_temper va_friend va_rope va_hears va_shut va_woodBell va_woodVillage va_needVillage va_needWind va_needSeen va_sign]) out.1 (flat [wX6 G a ((va 0)) a_draft a_images a_tale a_run a_ropeSearch a_ringSearch a_woodSearch out.2.1 out.2.2.1 out.2.2.2, wX3 G va va_villages va_woods va_needs va_signs va_temper va_friend va_rope va_hears va_shut va_woodBell va_woodVillage va_needVillage va_needWind va_needSeen va_sign]) := by
  intro sz
  refine met_of (cc := cX6_came) (nL := 4) (ret := (some .int)) (Qc := fun A9 => QI G A9 out.1 (flat [wX6 G a ((va 0)) a_draft a_images a_tale a_run a_ropeSearch a_ringSearch a_woodSearch out.2.1 out.2.2.1 out.2.2.2, wX3 G va va_villages va_woods va_needs va_signs va_temper va_friend va_rope va_hears va_shut va_woodBell va_woodVillage va_needVillage va_needWind va_needSeen va_sign])) (by decide) rfl (Nat.le_of_ble_eq_true rfl) ?_
  intro p e s m args below meth c A ls C hP hD hS hl
  obtain ⟨⟨hx, hb, hml, hown, hts⟩, hr, hlocks, hK, hN, hE, hA⟩ := id C
  have hl : lv_has ls 4 [(0, .ref (a 0)), (1, .int p0), (2, .int p1), (3, .int p2)] := hl
  unfold fX6_came at hf
  refine lv_aload_n hx hb dX6_came_0 rfl (lv_at hl 0 rfl) ?_
  refine lv_aload_n hx hb dX6_came_1 rfl (lv_at hl 0 rfl) ?_
  refine va_get (D := G.1) (ci := 6) (v := .ref (va 0)) (C := RX6) (T := TX6) (N := 11) hx hb hts iiX6_came_X6 hown hK hP 0 rfl rfl 0 (by decide) (hts _ mmX6_came_1) (fun _ h9 => h9) rfl dX6_came_2 ?_
  refine lv_iload_n hx hb dX6_came_5 rfl (lv_at hl 1 rfl) ?_
  refine lv_iload_n hx hb dX6_came_6 rfl (lv_at hl 2 rfl) ?_
  refine lv_iload_n hx hb dX6_came_7 rfl (lv_at hl 3 rfl) ?_
  obtain ⟨g1, hg1, hf⟩ := o_b hf
  refine bVi C hP hD hS (tX3_canCome l G va va_villages va_woods va_needs va_signs va_temper va_friend va_rope va_hears va_shut va_woodBell va_woodVillage va_needVillage va_needWind va_needSeen va_sign p0 p1 p2 g1 hg1) gX6_came_X3_canCome rfl ⟨rfl, rfl⟩ hdX3_canCome ⟨Nat.le_of_ble_eq_true rfl, Nat.le_of_ble_eq_true rfl⟩ rfl hl.1 rfl (Nat.le_of_ble_eq_true rfl) ⟨Nat.le_of_ble_eq_true rfl, Nat.le_of_ble_eq_true rfl⟩ [1] rfl rfl rfl (setB_same _ _ _ rfl) rfl (ci := 3) (q0 := 1) rfl rfl rfl dX6_came_8 (fun H locs hP hD hS => ?_)
  obtain ⟨f3, hf3, hf⟩ := o_b hf
  have hJ : ∀ (H : Heap) (locs : List Loc) (ls : Array Slot), va_P G.1 vwCl (flat [wX6 G a ((va 0)) a_draft a_images a_tale a_run a_ropeSearch a_ringSearch a_woodSearch a_refusedBad a_refusedNo a_refusedFull, wX3 G va va_villages va_woods va_needs va_signs va_temper va_friend va_rope va_hears va_shut va_woodBell va_woodVillage va_needVillage va_needWind va_needSeen va_sign]) H → va_D A (flat [wX6 G a ((va 0)) a_draft a_images a_tale a_run a_ropeSearch a_ringSearch a_woodSearch a_refusedBad a_refusedNo a_refusedFull, wX3 G va va_villages va_woods va_needs va_signs va_temper va_friend va_rope va_hears va_shut va_woodBell va_woodVillage va_needVillage va_needWind va_needSeen va_sign]) → va_S A s.heap H locs → lv_has ls 4 [(0, .ref (a 0)), (1, .int p0), (2, .int p1), (3, .int p2)] → W p l e rmX6_came s m args below meth c H locs 0 0 (MQ below (QI G A out.1 (flat [wX6 G a ((va 0)) a_draft a_images a_tale a_run a_ropeSearch a_ringSearch a_woodSearch out.2.1 out.2.2.1 out.2.2.2, wX3 G va va_villages va_woods va_needs va_signs va_temper va_friend va_rope va_hears va_shut va_woodBell va_woodVillage va_needVillage va_needWind va_needSeen va_sign])) args s 0 0 A) (F0 m 29 ls [.int f3, .ref (a 0)]) := by
    intro H locs ls hP hD hS hl
    obtain ⟨g5, hg5, hf⟩ := o_b hf
    refine bVi (Bs' := [wX6 G a ((va 0)) a_draft a_images a_tale a_run a_ropeSearch a_ringSearch a_woodSearch g5.2.1 g5.2.2.1 g5.2.2.2, wX3 G va va_villages va_woods va_needs va_signs va_temper va_friend va_rope va_hears va_shut va_woodBell va_woodVillage va_needVillage va_needWind va_needSeen va_sign]) C hP hD hS (tX6_counted l G a ((va 0)) a_draft a_images a_tale a_run a_ropeSearch a_ringSearch a_woodSearch a_refusedBad a_refusedNo a_refusedFull f3 g5 hg5) gX6_came_X6_counted rfl ⟨rfl, rfl⟩ hdX6_counted ⟨Nat.le_of_ble_eq_true rfl, Nat.le_of_ble_eq_true rfl⟩ rfl hl.1 rfl (Nat.le_of_ble_eq_true rfl) ⟨Nat.le_of_ble_eq_true rfl, Nat.le_of_ble_eq_true rfl⟩ [0] rfl rfl rfl rfl rfl (ci := 6) (q0 := 0) rfl rfl rfl dX6_came_29 (fun H locs hP hD hS => ?_)
    have hP : va_P G.1 vwCl (flat [wX6 G a ((va 0)) a_draft a_images a_tale a_run a_ropeSearch a_ringSearch a_woodSearch g5.2.1 g5.2.2.1 g5.2.2.2, wX3 G va va_villages va_woods va_needs va_signs va_temper va_friend va_rope va_hears va_shut va_woodBell va_woodVillage va_needVillage va_needWind va_needSeen va_sign]) H := hP
    have hD : va_D A (flat [wX6 G a ((va 0)) a_draft a_images a_tale a_run a_ropeSearch a_ringSearch a_woodSearch g5.2.1 g5.2.2.1 g5.2.2.2, wX3 G va va_villages va_woods va_needs va_signs va_temper va_friend va_rope va_hears va_shut va_woodBell va_woodVillage va_needVillage va_needWind va_needSeen va_sign]) := hD
    have e9 := Option.some.inj hf
    subst e9
    exact rt_i C hP hS rfl dX6_came_32
  clear hf
  have hf := hf3
  refine lv_if_eq (tgt := 27) hx hb dX6_came_11 (by decide) (fun c2 => ?_) (fun c2 => ?_)
  · have hf := (o_i hf).1 c2
    refine lv_bipush (v := (-2)) hx hb dX6_came_27 (by decide) ?_
    have e9 := Option.some.inj hf
    subst e9
    exact hJ _ _ _ hP hD hS (lv_sub hl [0, 1, 2, 3] rfl)
  have hf := (o_i hf).2 c2
  refine lv_aload_n hx hb dX6_came_14 rfl (lv_at hl 0 rfl) ?_
  refine va_get (D := G.1) (ci := 6) (v := .ref (va 0)) (C := RX6) (T := TX6) (N := 11) hx hb hts iiX6_came_X6 hown hK hP 0 rfl rfl 0 (by decide) (hts _ mmX6_came_1) (fun _ h9 => h9) rfl dX6_came_15 ?_
  refine lv_iload_n hx hb dX6_came_18 rfl (lv_at hl 1 rfl) ?_
  refine lv_iload_n hx hb dX6_came_19 rfl (lv_at hl 2 rfl) ?_
  refine lv_iload_n hx hb dX6_came_20 rfl (lv_at hl 3 rfl) ?_
  obtain ⟨g4, hg4, hf⟩ := o_b hf
  refine bVi C hP hD hS (tX3_bellsFrom l G va va_villages va_woods va_needs va_signs va_temper va_friend va_rope va_hears va_shut va_woodBell va_woodVillage va_needVillage va_needWind va_needSeen va_sign p0 p1 p2 g4 hg4) gX6_came_X3_bellsFrom rfl ⟨rfl, rfl⟩ hdX3_bellsFrom ⟨Nat.le_of_ble_eq_true rfl, Nat.le_of_ble_eq_true rfl⟩ rfl hl.1 rfl (Nat.le_of_ble_eq_true rfl) ⟨Nat.le_of_ble_eq_true rfl, Nat.le_of_ble_eq_true rfl⟩ [1] rfl rfl rfl (setB_same _ _ _ rfl) rfl (ci := 3) (q0 := 1) rfl rfl rfl dX6_came_21 (fun H locs hP hD hS => ?_)
  refine lv_goto (tgt := 29) hx hb dX6_came_24 (by decide) ?_
  have e9 := Option.some.inj hf
  subst e9
  exact hJ _ _ _ hP hD hS (lv_sub hl [0, 1, 2, 3] rfl)

/-! RX6 ask(III)I -/
theorem iiX6_ask_X6 : ∀ w ∈ wsX60, w ∈ wsX6_ask := by decide +kernel
theorem mmX6_ask_1 : (Cond.fieldLink RX6 12 "BlindBells" "valley" "LBlindBells$Valley;") ∈ wsX6_ask := by decide +kernel
theorem hdX6_ask : yX6_ask.cls = RX6 ∧ yX6_ask.cls ≠ "java/lang/invoke/MethodHandle" ∧ yX6_ask.cls ≠ "java/lang/invoke/VarHandle" ∧ (parseMethodDescriptor yX6_ask.desc).map (fun d => d.parameters.length) = some 3 := by decide +kernel
abbrev rmX6_ask : Room := { frames := 4, cells := 0, slots := 0, locals := 98 }
set_option maxHeartbeats 4000000 in
set_option maxRecDepth 100000 in
theorem tX6_ask (l : Launch) (G : GG) (a : Nat → Nat) (va : Nat → Nat) (a_draft : Nat) (a_images : Nat) (a_tale : Nat) (a_run : Nat) (a_ropeSearch : Nat) (a_ringSearch : Nat) (a_woodSearch : Nat) (a_refusedBad : Int32) (a_refusedNo : Int32) (a_refusedFull : Int32) (va_villages : Int32) (va_woods : Int32) (va_needs : Int32) (va_signs : Int32) (va_temper : Nat → Int32) (va_friend : Nat → Int32) (va_rope : Nat → Int32) (va_hears : Nat → Int32) (va_shut : Nat → Int32) (va_woodBell : Nat → Int32) (va_woodVillage : Nat → Int32) (va_needVillage : Nat → Int32) (va_needWind : Nat → Int32) (va_needSeen : Nat → Int32) (va_sign : Nat → Int32) (p0 : Int32) (p1 : Int32) (p2 : Int32) (out : Int32 × Int32 × Int32 × Int32) (hf : fX6_ask a_refusedBad a_refusedNo a_refusedFull va_villages va_hears va_shut p0 p1 p2 = some out) : cMi l G yX6_ask wsX6_ask rmX6_ask [.ref (a 0), .int p0, .int p1, .int p2] (flat [wX6 G a ((va 0)) a_draft a_images a_tale a_run a_ropeSearch a_ringSearch a_woodSearch a_refusedBad a_refusedNo a_refusedFull, wX3 G va va_villages va_woods va_needs va_signs va_temper va_friend va_rope va_hears va_shut va_woodBell va_woodVillage va_needVillage va_needWind va_needSeen va_sign]) out.1 (flat [wX6 G a ((va 0)) a_draft a_images a_tale a_run a_ropeSearch a_ringSearch a_woodSearch out.2.1 out.2.2.1 out.2.2.2, wX3 G va va_villages va_woods va_needs va_signs va_temper va_friend va_rope va_hears va_shut va_woodBell va_woodVillage va_needVillage va_needWind va_needSeen va_sign]) := by
  intro sz
  refine met_of (cc := cX6_ask) (nL := 5) (ret := (some .int)) (Qc := fun A9 => QI G A9 out.1 (flat [wX6 G a ((va 0)) a_draft a_images a_tale a_run a_ropeSearch a_ringSearch a_woodSearch out.2.1 out.2.2.1 out.2.2.2, wX3 G va va_villages va_woods va_needs va_signs va_temper va_friend va_rope va_hears va_shut va_woodBell va_woodVillage va_needVillage va_needWind va_needSeen va_sign])) (by decide) rfl (Nat.le_of_ble_eq_true rfl) ?_
  intro p e s m args below meth c A ls C hP hD hS hl
  obtain ⟨⟨hx, hb, hml, hown, hts⟩, hr, hlocks, hK, hN, hE, hA⟩ := id C
  have hl : lv_has ls 5 [(0, .ref (a 0)), (1, .int p0), (2, .int p1), (3, .int p2)] := hl
  unfold fX6_ask at hf
  refine lv_aload_n hx hb dX6_ask_0 rfl (lv_at hl 0 rfl) ?_
  refine va_get (D := G.1) (ci := 6) (v := .ref (va 0)) (C := RX6) (T := TX6) (N := 11) hx hb hts iiX6_ask_X6 hown hK hP 0 rfl rfl 0 (by decide) (hts _ mmX6_ask_1) (fun _ h9 => h9) rfl dX6_ask_1 ?_
  refine lv_iload_n hx hb dX6_ask_4 rfl (lv_at hl 1 rfl) ?_
  refine lv_iload_n hx hb dX6_ask_5 rfl (lv_at hl 2 rfl) ?_
  refine lv_iload_n hx hb dX6_ask_6 rfl (lv_at hl 3 rfl) ?_
  obtain ⟨g1, hg1, hf⟩ := o_b hf
  refine bVi C hP hD hS (tX3_canCome l G va va_villages va_woods va_needs va_signs va_temper va_friend va_rope va_hears va_shut va_woodBell va_woodVillage va_needVillage va_needWind va_needSeen va_sign p0 p1 p2 g1 hg1) gX6_ask_X3_canCome rfl ⟨rfl, rfl⟩ hdX3_canCome ⟨Nat.le_of_ble_eq_true rfl, Nat.le_of_ble_eq_true rfl⟩ rfl hl.1 rfl (Nat.le_of_ble_eq_true rfl) ⟨Nat.le_of_ble_eq_true rfl, Nat.le_of_ble_eq_true rfl⟩ [1] rfl rfl rfl (setB_same _ _ _ rfl) rfl (ci := 3) (q0 := 1) rfl rfl rfl dX6_ask_7 (fun H locs hP hD hS => ?_)
  refine lv_if_ne (tgt := 20) hx hb dX6_ask_10 (by decide) (fun c2 => ?_) (fun c2 => ?_)
  · have hf := (o_i hf).2 c2
    refine lv_aload_n hx hb dX6_ask_20 rfl (lv_at hl 0 rfl) ?_
    refine va_get (D := G.1) (ci := 6) (v := .ref (va 0)) (C := RX6) (T := TX6) (N := 11) hx hb hts iiX6_ask_X6 hown hK hP 0 rfl rfl 0 (by decide) (hts _ mmX6_ask_1) (fun _ h9 => h9) rfl dX6_ask_21 ?_
    refine lv_iload_n hx hb dX6_ask_24 rfl (lv_at hl 1 rfl) ?_
    refine lv_iload_n hx hb dX6_ask_25 rfl (lv_at hl 2 rfl) ?_
    refine lv_iload_n hx hb dX6_ask_26 rfl (lv_at hl 3 rfl) ?_
    obtain ⟨g3, hg3, hf⟩ := o_b hf
    refine bVi C hP hD hS (tX3_bellsFrom l G va va_villages va_woods va_needs va_signs va_temper va_friend va_rope va_hears va_shut va_woodBell va_woodVillage va_needVillage va_needWind va_needSeen va_sign p0 p1 p2 g3 hg3) gX6_ask_X3_bellsFrom rfl ⟨rfl, rfl⟩ hdX3_bellsFrom ⟨Nat.le_of_ble_eq_true rfl, Nat.le_of_ble_eq_true rfl⟩ rfl hl.1 rfl (Nat.le_of_ble_eq_true rfl) ⟨Nat.le_of_ble_eq_true rfl, Nat.le_of_ble_eq_true rfl⟩ [1] rfl rfl rfl (setB_same _ _ _ rfl) rfl (ci := 3) (q0 := 1) rfl rfl rfl dX6_ask_27 (fun H locs hP hD hS => ?_)
    refine lv_istore (lv' := [(4, .int g3), (0, .ref (a 0)), (1, .int p0), (2, .int p1), (3, .int p2)]) hx hb dX6_ask_30 hl (by decide) rfl (fun ls hl => ?_)
    refine lv_aload_n hx hb dX6_ask_32 rfl (lv_at hl 1 rfl) ?_
    refine va_get (D := G.1) (ci := 6) (v := .ref (va 0)) (C := RX6) (T := TX6) (N := 11) hx hb hts iiX6_ask_X6 hown hK hP 0 rfl rfl 0 (by decide) (hts _ mmX6_ask_1) (fun _ h9 => h9) rfl dX6_ask_33 ?_
    refine at_pc (pc' := 36) rfl ?_
    refine lv_iload_n hx hb dX6_ask_36 rfl (lv_at hl 2 rfl) ?_
    refine lv_iload hx hb dX6_ask_37 (lv_at hl 0 rfl) ?_
    refine lv_iload_n hx hb dX6_ask_39 rfl (lv_at hl 3 rfl) ?_
    refine lv_iload_n hx hb dX6_ask_40 rfl (lv_at hl 4 rfl) ?_
    refine lv_ior hx hb dX6_ask_41 ?_
    obtain ⟨g4, hg4, hf⟩ := o_b hf
    refine bVi C hP hD hS (tX3_partsMostEvenly l G va va_villages va_woods va_needs va_signs va_temper va_friend va_rope va_hears va_shut va_woodBell va_woodVillage va_needVillage va_needWind va_needSeen va_sign p0 g3 (p1 ||| p2) g4 hg4) gX6_ask_X3_partsMostEvenly rfl ⟨rfl, rfl⟩ hdX3_partsMostEvenly ⟨Nat.le_of_ble_eq_true rfl, Nat.le_of_ble_eq_true rfl⟩ rfl hl.1 rfl (Nat.le_of_ble_eq_true rfl) ⟨Nat.le_of_ble_eq_true rfl, Nat.le_of_ble_eq_true rfl⟩ [1] rfl rfl rfl (setB_same _ _ _ rfl) rfl (ci := 3) (q0 := 1) rfl rfl rfl dX6_ask_42 (fun H locs hP hD hS => ?_)
    have e9 := Option.some.inj hf
    subst e9
    exact rt_i C hP hS rfl dX6_ask_45
  have hf := (o_i hf).1 c2
  refine lv_aload_n hx hb dX6_ask_13 rfl (lv_at hl 0 rfl) ?_
  refine lv_bipush (v := (-2)) hx hb dX6_ask_14 (by decide) ?_
  obtain ⟨g5, hg5, hf⟩ := o_b hf
  refine bVi (Bs' := [wX6 G a ((va 0)) a_draft a_images a_tale a_run a_ropeSearch a_ringSearch a_woodSearch g5.2.1 g5.2.2.1 g5.2.2.2, wX3 G va va_villages va_woods va_needs va_signs va_temper va_friend va_rope va_hears va_shut va_woodBell va_woodVillage va_needVillage va_needWind va_needSeen va_sign]) C hP hD hS (tX6_counted l G a ((va 0)) a_draft a_images a_tale a_run a_ropeSearch a_ringSearch a_woodSearch a_refusedBad a_refusedNo a_refusedFull ((-2)) g5 hg5) gX6_ask_X6_counted rfl ⟨rfl, rfl⟩ hdX6_counted ⟨Nat.le_of_ble_eq_true rfl, Nat.le_of_ble_eq_true rfl⟩ rfl hl.1 rfl (Nat.le_of_ble_eq_true rfl) ⟨Nat.le_of_ble_eq_true rfl, Nat.le_of_ble_eq_true rfl⟩ [0] rfl rfl rfl rfl rfl (ci := 6) (q0 := 0) rfl rfl rfl dX6_ask_16 (fun H locs hP hD hS => ?_)
  have hP : va_P G.1 vwCl (flat [wX6 G a ((va 0)) a_draft a_images a_tale a_run a_ropeSearch a_ringSearch a_woodSearch g5.2.1 g5.2.2.1 g5.2.2.2, wX3 G va va_villages va_woods va_needs va_signs va_temper va_friend va_rope va_hears va_shut va_woodBell va_woodVillage va_needVillage va_needWind va_needSeen va_sign]) H := hP
  have hD : va_D A (flat [wX6 G a ((va 0)) a_draft a_images a_tale a_run a_ropeSearch a_ringSearch a_woodSearch g5.2.1 g5.2.2.1 g5.2.2.2, wX3 G va va_villages va_woods va_needs va_signs va_temper va_friend va_rope va_hears va_shut va_woodBell va_woodVillage va_needVillage va_needWind va_needSeen va_sign]) := hD
  have e9 := Option.some.inj hf
  subst e9
  exact rt_i C hP hS rfl dX6_ask_19

/-! RX6 status(I)I -/
theorem iiX6_status_X6 : ∀ w ∈ wsX60, w ∈ wsX6_status := by decide +kernel
theorem mmX6_status_1 : (Cond.fieldLink RX6 193 "BlindBells" "refusedBad" "I") ∈ wsX6_status := by decide +kernel
theorem mmX6_status_2 : (Cond.fieldLink RX6 196 "BlindBells" "refusedNo" "I") ∈ wsX6_status := by decide +kernel
theorem mmX6_status_3 : (Cond.fieldLink RX6 199 "BlindBells" "refusedFull" "I") ∈ wsX6_status := by decide +kernel
theorem hdX6_status : yX6_status.cls = RX6 ∧ yX6_status.cls ≠ "java/lang/invoke/MethodHandle" ∧ yX6_status.cls ≠ "java/lang/invoke/VarHandle" ∧ (parseMethodDescriptor yX6_status.desc).map (fun d => d.parameters.length) = some 1 := by decide +kernel
abbrev rmX6_status : Room := { frames := 0, cells := 0, slots := 0, locals := 0 }
set_option maxHeartbeats 4000000 in
set_option maxRecDepth 100000 in
theorem tX6_status (l : Launch) (G : GG) (a : Nat → Nat) (a_valley : Nat) (a_draft : Nat) (a_images : Nat) (a_tale : Nat) (a_run : Nat) (a_ropeSearch : Nat) (a_ringSearch : Nat) (a_woodSearch : Nat) (a_refusedBad : Int32) (a_refusedNo : Int32) (a_refusedFull : Int32) (p0 : Int32) (out : Int32 × Int32) (hf : fX6_status a_refusedBad a_refusedNo a_refusedFull p0 = some out) : cMi l G yX6_status wsX6_status rmX6_status [.ref (a 0), .int p0] (flat [wX6 G a a_valley a_draft a_images a_tale a_run a_ropeSearch a_ringSearch a_woodSearch a_refusedBad a_refusedNo a_refusedFull]) out.1 (flat [wX6 G a a_valley a_draft a_images a_tale a_run a_ropeSearch a_ringSearch a_woodSearch out.2 a_refusedNo a_refusedFull]) := by
  intro sz
  refine met_of (cc := cX6_status) (nL := 2) (ret := (some .int)) (Qc := fun A9 => QI G A9 out.1 (flat [wX6 G a a_valley a_draft a_images a_tale a_run a_ropeSearch a_ringSearch a_woodSearch out.2 a_refusedNo a_refusedFull])) (by decide) rfl (Nat.le_of_ble_eq_true rfl) ?_
  intro p e s m args below meth c A ls C hP hD hS hl
  obtain ⟨⟨hx, hb, hml, hown, hts⟩, hr, hlocks, hK, hN, hE, hA⟩ := id C
  have hl : lv_has ls 2 [(0, .ref (a 0)), (1, .int p0)] := hl
  unfold fX6_status at hf
  refine lv_iload_n hx hb dX6_status_0 rfl (lv_at hl 1 rfl) ?_
  by_cases c1 : p0 = 0
  · have hf := (o_i hf).1 c1
    refine lv_tableIn (tgt := 28) hx hb dX6_status_1 (by rw [c1]; decide) (by rw [c1]; decide) (off := 27) (by rw [c1]; rfl) (by decide) ?_
    refine lv_aload_n hx hb dX6_status_28 rfl (lv_at hl 0 rfl) ?_
    refine va_get (D := G.1) (ci := 6) (v := .int a_refusedBad) (C := RX6) (T := TX6) (N := 11) hx hb hts iiX6_status_X6 hown hK hP 0 rfl rfl 8 (by decide) (hts _ mmX6_status_1) (fun _ h9 => h9) rfl dX6_status_29 ?_
    have e9 := Option.some.inj hf
    subst e9
    exact rt_i C hP hS rfl dX6_status_32
  have hf := (o_i hf).2 c1
  by_cases c2 : p0 = 1
  · have hf := (o_i hf).1 c2
    refine lv_tableIn (tgt := 33) hx hb dX6_status_1 (by rw [c2]; decide) (by rw [c2]; decide) (off := 32) (by rw [c2]; rfl) (by decide) ?_
    refine lv_aload_n hx hb dX6_status_33 rfl (lv_at hl 0 rfl) ?_
    refine va_get (D := G.1) (ci := 6) (v := .int a_refusedNo) (C := RX6) (T := TX6) (N := 11) hx hb hts iiX6_status_X6 hown hK hP 0 rfl rfl 9 (by decide) (hts _ mmX6_status_2) (fun _ h9 => h9) rfl dX6_status_34 ?_
    have e9 := Option.some.inj hf
    subst e9
    exact rt_i C hP hS rfl dX6_status_37
  have hf := (o_i hf).2 c2
  by_cases c3 : p0 = 2
  · have hf := (o_i hf).1 c3
    refine lv_tableIn (tgt := 38) hx hb dX6_status_1 (by rw [c3]; decide) (by rw [c3]; decide) (off := 37) (by rw [c3]; rfl) (by decide) ?_
    refine lv_aload_n hx hb dX6_status_38 rfl (lv_at hl 0 rfl) ?_
    refine va_get (D := G.1) (ci := 6) (v := .int a_refusedFull) (C := RX6) (T := TX6) (N := 11) hx hb hts iiX6_status_X6 hown hK hP 0 rfl rfl 10 (by decide) (hts _ mmX6_status_3) (fun _ h9 => h9) rfl dX6_status_39 ?_
    have e9 := Option.some.inj hf
    subst e9
    exact rt_i C hP hS rfl dX6_status_42
  have hf := (o_i hf).2 c3
  refine lv_tableOut (tgt := 43) hx hb dX6_status_1 (by have q0 := lv_neT c1 (a := 0) rfl; have q1 := lv_neT c2 (a := 1) rfl; have q2 := lv_neT c3 (a := 2) rfl; omega) (by decide) ?_
  refine lv_aload_n hx hb dX6_status_43 rfl (lv_at hl 0 rfl) ?_
  refine lv_dup hx hb dX6_status_44 rfl ?_
  refine va_get (D := G.1) (ci := 6) (v := .int a_refusedBad) (C := RX6) (T := TX6) (N := 11) hx hb hts iiX6_status_X6 hown hK hP 0 rfl rfl 8 (by decide) (hts _ mmX6_status_1) (fun _ h9 => h9) rfl dX6_status_45 ?_
  refine lv_iconst (v := 1) hx hb dX6_status_48 (by decide) ?_
  refine lv_iadd hx hb dX6_status_49 ?_
  refine va_put (D := G.1) (ci := 6) (v := .int (a_refusedBad + 1)) (ty := .int) (C := RX6) (T := TX6) (N := 11) hx hb hts iiX6_status_X6 tyX6 tyX6_ok nmX6 hown hK hP hD hS 0 rfl rfl 8 (by decide) (hts _ mmX6_status_1) (fun _ h9 => h9) rfl (by decide +kernel) rfl rfl (Nat.le_of_ble_eq_true rfl) dX6_status_50 (fun H locs hP hD hS => ?_)
  have hP : va_P G.1 vwCl (flat [wX6 G a a_valley a_draft a_images a_tale a_run a_ropeSearch a_ringSearch a_woodSearch (a_refusedBad + 1) a_refusedNo a_refusedFull]) H := hP
  have hD : va_D A (flat [wX6 G a a_valley a_draft a_images a_tale a_run a_ropeSearch a_ringSearch a_woodSearch (a_refusedBad + 1) a_refusedNo a_refusedFull]) := hD
  refine lv_iconst (v := (-1)) hx hb dX6_status_53 (by decide) ?_
  have e9 := Option.some.inj hf
  subst e9
  exact rt_i C hP hS rfl dX6_status_54

/-! RX6 howMany(I)I -/
theorem iiX6_howMany_X6 : ∀ w ∈ wsX60, w ∈ wsX6_howMany := by decide +kernel
theorem mmX6_howMany_1 : (Cond.fieldLink RX6 12 "BlindBells" "valley" "LBlindBells$Valley;") ∈ wsX6_howMany := by decide +kernel
theorem iiX6_howMany_X3 : ∀ w ∈ wsX30, w ∈ wsX6_howMany := by decide +kernel
theorem mmX6_howMany_3 : (Cond.fieldLink RX6 58 "BlindBells$Valley" "villages" "I") ∈ wsX6_howMany := by decide +kernel
theorem mmX6_howMany_4 : (Cond.fieldLink RX6 213 "BlindBells$Valley" "woods" "I") ∈ wsX6_howMany := by decide +kernel
theorem mmX6_howMany_5 : (Cond.fieldLink RX6 119 "BlindBells$Valley" "needs" "I") ∈ wsX6_howMany := by decide +kernel
theorem mmX6_howMany_6 : (Cond.fieldLink RX6 177 "BlindBells$Valley" "signs" "I") ∈ wsX6_howMany := by decide +kernel
theorem mmX6_howMany_7 : (Cond.fieldLink RX6 26 "BlindBells" "tale" "LBlindBells$Tale;") ∈ wsX6_howMany := by decide +kernel
theorem iiX6_howMany_X2 : ∀ w ∈ wsX20, w ∈ wsX6_howMany := by decide +kernel
theorem mmX6_howMany_9 : (Cond.fieldLink RX6 216 "BlindBells$Tale" "length" "I") ∈ wsX6_howMany := by decide +kernel
theorem hdX6_howMany : yX6_howMany.cls = RX6 ∧ yX6_howMany.cls ≠ "java/lang/invoke/MethodHandle" ∧ yX6_howMany.cls ≠ "java/lang/invoke/VarHandle" ∧ (parseMethodDescriptor yX6_howMany.desc).map (fun d => d.parameters.length) = some 1 := by decide +kernel
abbrev rmX6_howMany : Room := { frames := 0, cells := 0, slots := 0, locals := 0 }
set_option maxHeartbeats 4000000 in
set_option maxRecDepth 100000 in
theorem tX6_howMany (l : Launch) (G : GG) (a : Nat → Nat) (va : Nat → Nat) (ta : Nat → Nat) (a_draft : Nat) (a_images : Nat) (a_run : Nat) (a_ropeSearch : Nat) (a_ringSearch : Nat) (a_woodSearch : Nat) (a_refusedBad : Int32) (a_refusedNo : Int32) (a_refusedFull : Int32) (va_villages : Int32) (va_woods : Int32) (va_needs : Int32) (va_signs : Int32) (va_temper : Nat → Int32) (va_friend : Nat → Int32) (va_rope : Nat → Int32) (va_hears : Nat → Int32) (va_shut : Nat → Int32) (va_woodBell : Nat → Int32) (va_woodVillage : Nat → Int32) (va_needVillage : Nat → Int32) (va_needWind : Nat → Int32) (va_needSeen : Nat → Int32) (va_sign : Nat → Int32) (ta_length : Int32) (ta_text : Nat → Int32) (ta_number : Nat → Int32) (ta_word : Int32) (ta_numbers : Int32) (ta_items : Int32) (ta_refused : Int32) (p0 : Int32) (out : Int32) (hf : fX6_howMany va_villages va_woods va_needs va_signs ta_length p0 = some out) : cMi l G yX6_howMany wsX6_howMany rmX6_howMany [.ref (a 0), .int p0] (flat [wX6 G a ((va 0)) a_draft a_images ((ta 0)) a_run a_ropeSearch a_ringSearch a_woodSearch a_refusedBad a_refusedNo a_refusedFull, wX3 G va va_villages va_woods va_needs va_signs va_temper va_friend va_rope va_hears va_shut va_woodBell va_woodVillage va_needVillage va_needWind va_needSeen va_sign, wX2 G ta ta_length ta_text ta_number ta_word ta_numbers ta_items ta_refused]) out (flat [wX6 G a ((va 0)) a_draft a_images ((ta 0)) a_run a_ropeSearch a_ringSearch a_woodSearch a_refusedBad a_refusedNo a_refusedFull, wX3 G va va_villages va_woods va_needs va_signs va_temper va_friend va_rope va_hears va_shut va_woodBell va_woodVillage va_needVillage va_needWind va_needSeen va_sign, wX2 G ta ta_length ta_text ta_number ta_word ta_numbers ta_items ta_refused]) := by
  intro sz
  refine met_of (cc := cX6_howMany) (nL := 2) (ret := (some .int)) (Qc := fun A9 => QI G A9 out (flat [wX6 G a ((va 0)) a_draft a_images ((ta 0)) a_run a_ropeSearch a_ringSearch a_woodSearch a_refusedBad a_refusedNo a_refusedFull, wX3 G va va_villages va_woods va_needs va_signs va_temper va_friend va_rope va_hears va_shut va_woodBell va_woodVillage va_needVillage va_needWind va_needSeen va_sign, wX2 G ta ta_length ta_text ta_number ta_word ta_numbers ta_items ta_refused])) (by decide) rfl (Nat.le_of_ble_eq_true rfl) ?_
  intro p e s m args below meth c A ls C hP hD hS hl
  obtain ⟨⟨hx, hb, hml, hown, hts⟩, hr, hlocks, hK, hN, hE, hA⟩ := id C
  have hl : lv_has ls 2 [(0, .ref (a 0)), (1, .int p0)] := hl
  unfold fX6_howMany at hf
  refine lv_iload_n hx hb dX6_howMany_0 rfl (lv_at hl 1 rfl) ?_
  by_cases c1 : p0 = 0
  · have hf := (o_i hf).1 c1
    refine lv_tableIn (tgt := 36) hx hb dX6_howMany_1 (by rw [c1]; decide) (by rw [c1]; decide) (off := 35) (by rw [c1]; rfl) (by decide) ?_
    refine lv_aload_n hx hb dX6_howMany_36 rfl (lv_at hl 0 rfl) ?_
    refine va_get (D := G.1) (ci := 6) (v := .ref (va 0)) (C := RX6) (T := TX6) (N := 11) hx hb hts iiX6_howMany_X6 hown hK hP 0 rfl rfl 0 (by decide) (hts _ mmX6_howMany_1) (fun _ h9 => h9) rfl dX6_howMany_37 ?_
    refine va_get (D := G.1) (ci := 3) (v := .int va_villages) (C := RX3) (T := TX3) (N := 15) hx hb hts iiX6_howMany_X3 hown hK hP 1 rfl rfl 0 (by decide) (hts _ mmX6_howMany_3) (fun _ h9 => h9) rfl dX6_howMany_40 ?_
    have e9 := Option.some.inj hf
    subst e9
    exact rt_i C hP hS rfl dX6_howMany_43
  have hf := (o_i hf).2 c1
  by_cases c2 : p0 = 1
  · have hf := (o_i hf).1 c2
    refine lv_tableIn (tgt := 44) hx hb dX6_howMany_1 (by rw [c2]; decide) (by rw [c2]; decide) (off := 43) (by rw [c2]; rfl) (by decide) ?_
    refine lv_aload_n hx hb dX6_howMany_44 rfl (lv_at hl 0 rfl) ?_
    refine va_get (D := G.1) (ci := 6) (v := .ref (va 0)) (C := RX6) (T := TX6) (N := 11) hx hb hts iiX6_howMany_X6 hown hK hP 0 rfl rfl 0 (by decide) (hts _ mmX6_howMany_1) (fun _ h9 => h9) rfl dX6_howMany_45 ?_
    refine va_get (D := G.1) (ci := 3) (v := .int va_woods) (C := RX3) (T := TX3) (N := 15) hx hb hts iiX6_howMany_X3 hown hK hP 1 rfl rfl 1 (by decide) (hts _ mmX6_howMany_4) (fun _ h9 => h9) rfl dX6_howMany_48 ?_
    have e9 := Option.some.inj hf
    subst e9
    exact rt_i C hP hS rfl dX6_howMany_51
  have hf := (o_i hf).2 c2
  by_cases c3 : p0 = 2
  · have hf := (o_i hf).1 c3
    refine lv_tableIn (tgt := 52) hx hb dX6_howMany_1 (by rw [c3]; decide) (by rw [c3]; decide) (off := 51) (by rw [c3]; rfl) (by decide) ?_
    refine lv_aload_n hx hb dX6_howMany_52 rfl (lv_at hl 0 rfl) ?_
    refine va_get (D := G.1) (ci := 6) (v := .ref (va 0)) (C := RX6) (T := TX6) (N := 11) hx hb hts iiX6_howMany_X6 hown hK hP 0 rfl rfl 0 (by decide) (hts _ mmX6_howMany_1) (fun _ h9 => h9) rfl dX6_howMany_53 ?_
    refine va_get (D := G.1) (ci := 3) (v := .int va_needs) (C := RX3) (T := TX3) (N := 15) hx hb hts iiX6_howMany_X3 hown hK hP 1 rfl rfl 2 (by decide) (hts _ mmX6_howMany_5) (fun _ h9 => h9) rfl dX6_howMany_56 ?_
    have e9 := Option.some.inj hf
    subst e9
    exact rt_i C hP hS rfl dX6_howMany_59
  have hf := (o_i hf).2 c3
  by_cases c4 : p0 = 3
  · have hf := (o_i hf).1 c4
    refine lv_tableIn (tgt := 60) hx hb dX6_howMany_1 (by rw [c4]; decide) (by rw [c4]; decide) (off := 59) (by rw [c4]; rfl) (by decide) ?_
    refine lv_aload_n hx hb dX6_howMany_60 rfl (lv_at hl 0 rfl) ?_
    refine va_get (D := G.1) (ci := 6) (v := .ref (va 0)) (C := RX6) (T := TX6) (N := 11) hx hb hts iiX6_howMany_X6 hown hK hP 0 rfl rfl 0 (by decide) (hts _ mmX6_howMany_1) (fun _ h9 => h9) rfl dX6_howMany_61 ?_
    refine va_get (D := G.1) (ci := 3) (v := .int va_signs) (C := RX3) (T := TX3) (N := 15) hx hb hts iiX6_howMany_X3 hown hK hP 1 rfl rfl 3 (by decide) (hts _ mmX6_howMany_6) (fun _ h9 => h9) rfl dX6_howMany_64 ?_
    have e9 := Option.some.inj hf
    subst e9
    exact rt_i C hP hS rfl dX6_howMany_67
  have hf := (o_i hf).2 c4
  by_cases c5 : p0 = 4
  · have hf := (o_i hf).1 c5
    refine lv_tableIn (tgt := 68) hx hb dX6_howMany_1 (by rw [c5]; decide) (by rw [c5]; decide) (off := 67) (by rw [c5]; rfl) (by decide) ?_
    refine lv_aload_n hx hb dX6_howMany_68 rfl (lv_at hl 0 rfl) ?_
    refine va_get (D := G.1) (ci := 6) (v := .ref (ta 0)) (C := RX6) (T := TX6) (N := 11) hx hb hts iiX6_howMany_X6 hown hK hP 0 rfl rfl 3 (by decide) (hts _ mmX6_howMany_7) (fun _ h9 => h9) rfl dX6_howMany_69 ?_
    refine va_get (D := G.1) (ci := 2) (v := .int ta_length) (C := RX2) (T := TX2) (N := 7) hx hb hts iiX6_howMany_X2 hown hK hP 13 rfl rfl 0 (by decide) (hts _ mmX6_howMany_9) (fun _ h9 => h9) rfl dX6_howMany_72 ?_
    have e9 := Option.some.inj hf
    subst e9
    exact rt_i C hP hS rfl dX6_howMany_75
  have hf := (o_i hf).2 c5
  refine lv_tableOut (tgt := 76) hx hb dX6_howMany_1 (by have q0 := lv_neT c1 (a := 0) rfl; have q1 := lv_neT c2 (a := 1) rfl; have q2 := lv_neT c3 (a := 2) rfl; have q3 := lv_neT c4 (a := 3) rfl; have q4 := lv_neT c5 (a := 4) rfl; omega) (by decide) ?_
  refine lv_bipush (v := (-2)) hx hb dX6_howMany_76 (by decide) ?_
  have e9 := Option.some.inj hf
  subst e9
  exact rt_i C hP hS rfl dX6_howMany_78

/-! RX6 count(I)I -/
theorem hdX6_count : yX6_count.cls = RX6 ∧ yX6_count.cls ≠ "java/lang/invoke/MethodHandle" ∧ yX6_count.cls ≠ "java/lang/invoke/VarHandle" ∧ (parseMethodDescriptor yX6_count.desc).map (fun d => d.parameters.length) = some 1 := by decide +kernel
abbrev rmX6_count : Room := { frames := 1, cells := 0, slots := 0, locals := 21 }
set_option maxHeartbeats 4000000 in
set_option maxRecDepth 100000 in
theorem tX6_count (l : Launch) (G : GG) (a : Nat → Nat) (va : Nat → Nat) (ta : Nat → Nat) (a_draft : Nat) (a_images : Nat) (a_run : Nat) (a_ropeSearch : Nat) (a_ringSearch : Nat) (a_woodSearch : Nat) (a_refusedBad : Int32) (a_refusedNo : Int32) (a_refusedFull : Int32) (va_villages : Int32) (va_woods : Int32) (va_needs : Int32) (va_signs : Int32) (va_temper : Nat → Int32) (va_friend : Nat → Int32) (va_rope : Nat → Int32) (va_hears : Nat → Int32) (va_shut : Nat → Int32) (va_woodBell : Nat → Int32) (va_woodVillage : Nat → Int32) (va_needVillage : Nat → Int32) (va_needWind : Nat → Int32) (va_needSeen : Nat → Int32) (va_sign : Nat → Int32) (ta_length : Int32) (ta_text : Nat → Int32) (ta_number : Nat → Int32) (ta_word : Int32) (ta_numbers : Int32) (ta_items : Int32) (ta_refused : Int32) (p0 : Int32) (out : Int32 × Int32 × Int32 × Int32) (hf : fX6_count a_refusedBad a_refusedNo a_refusedFull va_villages va_woods va_needs va_signs ta_length p0 = some out) : cMi l G yX6_count wsX6_count rmX6_count [.ref (a 0), .int p0] (flat [wX6 G a ((va 0)) a_draft a_images ((ta 0)) a_run a_ropeSearch a_ringSearch a_woodSearch a_refusedBad a_refusedNo a_refusedFull, wX3 G va va_villages va_woods va_needs va_signs va_temper va_friend va_rope va_hears va_shut va_woodBell va_woodVillage va_needVillage va_needWind va_needSeen va_sign, wX2 G ta ta_length ta_text ta_number ta_word ta_numbers ta_items ta_refused]) out.1 (flat [wX6 G a ((va 0)) a_draft a_images ((ta 0)) a_run a_ropeSearch a_ringSearch a_woodSearch out.2.1 out.2.2.1 out.2.2.2, wX3 G va va_villages va_woods va_needs va_signs va_temper va_friend va_rope va_hears va_shut va_woodBell va_woodVillage va_needVillage va_needWind va_needSeen va_sign, wX2 G ta ta_length ta_text ta_number ta_word ta_numbers ta_items ta_refused]) := by
  intro sz
  refine met_of (cc := cX6_count) (nL := 2) (ret := (some .int)) (Qc := fun A9 => QI G A9 out.1 (flat [wX6 G a ((va 0)) a_draft a_images ((ta 0)) a_run a_ropeSearch a_ringSearch a_woodSearch out.2.1 out.2.2.1 out.2.2.2, wX3 G va va_villages va_woods va_needs va_signs va_temper va_friend va_rope va_hears va_shut va_woodBell va_woodVillage va_needVillage va_needWind va_needSeen va_sign, wX2 G ta ta_length ta_text ta_number ta_word ta_numbers ta_items ta_refused])) (by decide) rfl (Nat.le_of_ble_eq_true rfl) ?_
  intro p e s m args below meth c A ls C hP hD hS hl
  obtain ⟨⟨hx, hb, hml, hown, hts⟩, hr, hlocks, hK, hN, hE, hA⟩ := id C
  have hl : lv_has ls 2 [(0, .ref (a 0)), (1, .int p0)] := hl
  unfold fX6_count at hf
  refine lv_aload_n hx hb dX6_count_0 rfl (lv_at hl 0 rfl) ?_
  refine lv_aload_n hx hb dX6_count_1 rfl (lv_at hl 0 rfl) ?_
  refine lv_iload_n hx hb dX6_count_2 rfl (lv_at hl 1 rfl) ?_
  obtain ⟨g1, hg1, hf⟩ := o_b hf
  refine bVi C hP hD hS (tX6_howMany l G a va ta a_draft a_images a_run a_ropeSearch a_ringSearch a_woodSearch a_refusedBad a_refusedNo a_refusedFull va_villages va_woods va_needs va_signs va_temper va_friend va_rope va_hears va_shut va_woodBell va_woodVillage va_needVillage va_needWind va_needSeen va_sign ta_length ta_text ta_number ta_word ta_numbers ta_items ta_refused p0 g1 hg1) gX6_count_X6_howMany rfl ⟨rfl, rfl⟩ hdX6_howMany ⟨Nat.le_of_ble_eq_true rfl, Nat.le_of_ble_eq_true rfl⟩ rfl hl.1 rfl (Nat.le_of_ble_eq_true rfl) ⟨Nat.le_of_ble_eq_true rfl, Nat.le_of_ble_eq_true rfl⟩ [0, 1, 2] rfl rfl rfl (setB_same _ _ _ rfl) rfl (ci := 6) (q0 := 0) rfl rfl rfl dX6_count_3 (fun H locs hP hD hS => ?_)
  obtain ⟨g2, hg2, hf⟩ := o_b hf
  refine bVi (Bs' := [wX6 G a ((va 0)) a_draft a_images ((ta 0)) a_run a_ropeSearch a_ringSearch a_woodSearch g2.2.1 g2.2.2.1 g2.2.2.2, wX3 G va va_villages va_woods va_needs va_signs va_temper va_friend va_rope va_hears va_shut va_woodBell va_woodVillage va_needVillage va_needWind va_needSeen va_sign, wX2 G ta ta_length ta_text ta_number ta_word ta_numbers ta_items ta_refused]) C hP hD hS (tX6_counted l G a ((va 0)) a_draft a_images ((ta 0)) a_run a_ropeSearch a_ringSearch a_woodSearch a_refusedBad a_refusedNo a_refusedFull g1 g2 hg2) gX6_count_X6_counted rfl ⟨rfl, rfl⟩ hdX6_counted ⟨Nat.le_of_ble_eq_true rfl, Nat.le_of_ble_eq_true rfl⟩ rfl hl.1 rfl (Nat.le_of_ble_eq_true rfl) ⟨Nat.le_of_ble_eq_true rfl, Nat.le_of_ble_eq_true rfl⟩ [0] rfl rfl rfl rfl rfl (ci := 6) (q0 := 0) rfl rfl rfl dX6_count_6 (fun H locs hP hD hS => ?_)
  have hP : va_P G.1 vwCl (flat [wX6 G a ((va 0)) a_draft a_images ((ta 0)) a_run a_ropeSearch a_ringSearch a_woodSearch g2.2.1 g2.2.2.1 g2.2.2.2, wX3 G va va_villages va_woods va_needs va_signs va_temper va_friend va_rope va_hears va_shut va_woodBell va_woodVillage va_needVillage va_needWind va_needSeen va_sign, wX2 G ta ta_length ta_text ta_number ta_word ta_numbers ta_items ta_refused]) H := hP
  have hD : va_D A (flat [wX6 G a ((va 0)) a_draft a_images ((ta 0)) a_run a_ropeSearch a_ringSearch a_woodSearch g2.2.1 g2.2.2.1 g2.2.2.2, wX3 G va va_villages va_woods va_needs va_signs va_temper va_friend va_rope va_hears va_shut va_woodBell va_woodVillage va_needVillage va_needWind va_needSeen va_sign, wX2 G ta ta_length ta_text ta_number ta_word ta_numbers ta_items ta_refused]) := hD
  have e9 := Option.some.inj hf
  subst e9
  exact rt_i C hP hS rfl dX6_count_9

/-! RX6 digest()J -/
theorem mmX6_digest_0 : (Cond.constantLong RX6 205 (727)) ∈ wsX6_digest := by decide +kernel
theorem mmX6_digest_1 : (Cond.constantLong RX6 207 (31)) ∈ wsX6_digest := by decide +kernel
theorem iiX6_digest_X6 : ∀ w ∈ wsX60, w ∈ wsX6_digest := by decide +kernel
theorem mmX6_digest_3 : (Cond.fieldLink RX6 12 "BlindBells" "valley" "LBlindBells$Valley;") ∈ wsX6_digest := by decide +kernel
theorem hdX6_digest : yX6_digest.cls = RX6 ∧ yX6_digest.cls ≠ "java/lang/invoke/MethodHandle" ∧ yX6_digest.cls ≠ "java/lang/invoke/VarHandle" ∧ (parseMethodDescriptor yX6_digest.desc).map (fun d => d.parameters.length) = some 0 := by decide +kernel
abbrev rmX6_digest : Room := { frames := 1, cells := 0, slots := 0, locals := 26 }
set_option maxHeartbeats 4000000 in
set_option maxRecDepth 100000 in
theorem lX6_digest_6 {p : Program} {e : Env} {s : State} {m : MethodId} {args : Array Value} {below : List Frame} {meth : Method} {c : Code} {A : Nat → Prop} (l : Launch) (G : GG) (C : Cx p m c cX6_digest 4 s args wsX6_digest RX6 meth (some .long) G A) (a : Nat → Nat) (va : Nat → Nat) (ta : Nat → Nat) (a_draft : Nat) (a_images : Nat) (a_run : Nat) (a_ropeSearch : Nat) (a_ringSearch : Nat) (a_woodSearch : Nat) (a_refusedBad : Int32) (a_refusedNo : Int32) (a_refusedFull : Int32) (va_villages : Int32) (va_woods : Int32) (va_needs : Int32) (va_signs : Int32) (va_temper : Nat → Int32) (va_friend : Nat → Int32) (va_rope : Nat → Int32) (va_hears : Nat → Int32) (va_shut : Nat → Int32) (va_woodBell : Nat → Int32) (va_woodVillage : Nat → Int32) (va_needVillage : Nat → Int32) (va_needWind : Nat → Int32) (va_needSeen : Nat → Int32) (va_sign : Nat → Int32) (ta_length : Int32) (ta_text : Nat → Int32) (ta_number : Nat → Int32) (ta_word : Int32) (ta_numbers : Int32) (ta_items : Int32) (ta_refused : Int32)  (out : Int64) (kx : Int64 → Int32 → Option (Int64)) (HX : ∀ (x1_6 : Int64) (x3_6 : Int32) (H : Heap) (locs : List Loc) (ls : Array Slot), va_P G.1 vwCl (flat [wX6 G a ((va 0)) a_draft a_images ((ta 0)) a_run a_ropeSearch a_ringSearch a_woodSearch a_refusedBad a_refusedNo a_refusedFull, wX3 G va va_villages va_woods va_needs va_signs va_temper va_friend va_rope va_hears va_shut va_woodBell va_woodVillage va_needVillage va_needWind va_needSeen va_sign, wX2 G ta ta_length ta_text ta_number ta_word ta_numbers ta_items ta_refused]) H → va_D A (flat [wX6 G a ((va 0)) a_draft a_images ((ta 0)) a_run a_ropeSearch a_ringSearch a_woodSearch a_refusedBad a_refusedNo a_refusedFull, wX3 G va va_villages va_woods va_needs va_signs va_temper va_friend va_rope va_hears va_shut va_woodBell va_woodVillage va_needVillage va_needWind va_needSeen va_sign, wX2 G ta ta_length ta_text ta_number ta_word ta_numbers ta_items ta_refused]) → va_S A s.heap H locs → lv_has ls 4 [(0, .ref (a 0)), (1, .long x1_6), (3, .int x3_6)] → kx x1_6 x3_6 = some out → W p l e rmX6_digest s m args below meth c H locs 0 0 (MQ below (QL G A out (flat [wX6 G a ((va 0)) a_draft a_images ((ta 0)) a_run a_ropeSearch a_ringSearch a_woodSearch a_refusedBad a_refusedNo a_refusedFull, wX3 G va va_villages va_woods va_needs va_signs va_temper va_friend va_rope va_hears va_shut va_woodBell va_woodVillage va_needVillage va_needWind va_needSeen va_sign, wX2 G ta ta_length ta_text ta_number ta_word ta_numbers ta_items ta_refused])) args s 0 0 A) (F0 m 30 ls [])) : ∀ (n : Nat) (x1_6 : Int64) (x3_6 : Int32) (H : Heap) (locs : List Loc) (ls : Array Slot), va_P G.1 vwCl (flat [wX6 G a ((va 0)) a_draft a_images ((ta 0)) a_run a_ropeSearch a_ringSearch a_woodSearch a_refusedBad a_refusedNo a_refusedFull, wX3 G va va_villages va_woods va_needs va_signs va_temper va_friend va_rope va_hears va_shut va_woodBell va_woodVillage va_needVillage va_needWind va_needSeen va_sign, wX2 G ta ta_length ta_text ta_number ta_word ta_numbers ta_items ta_refused]) H → va_D A (flat [wX6 G a ((va 0)) a_draft a_images ((ta 0)) a_run a_ropeSearch a_ringSearch a_woodSearch a_refusedBad a_refusedNo a_refusedFull, wX3 G va va_villages va_woods va_needs va_signs va_temper va_friend va_rope va_hears va_shut va_woodBell va_woodVillage va_needVillage va_needWind va_needSeen va_sign, wX2 G ta ta_length ta_text ta_number ta_word ta_numbers ta_items ta_refused]) → va_S A s.heap H locs → lv_has ls 4 [(0, .ref (a 0)), (1, .long x1_6), (3, .int x3_6)] → fX6_digest_6 va_villages va_woods va_needs va_signs ta_length kx n x1_6 x3_6 = some out → W p l e rmX6_digest s m args below meth c H locs 0 0 (MQ below (QL G A out (flat [wX6 G a ((va 0)) a_draft a_images ((ta 0)) a_run a_ropeSearch a_ringSearch a_woodSearch a_refusedBad a_refusedNo a_refusedFull, wX3 G va va_villages va_woods va_needs va_signs va_temper va_friend va_rope va_hears va_shut va_woodBell va_woodVillage va_needVillage va_needWind va_needSeen va_sign, wX2 G ta ta_length ta_text ta_number ta_word ta_numbers ta_items ta_refused])) args s 0 0 A) (F0 m 6 ls []) := by
  obtain ⟨⟨hx, hb, hml, hown, hts⟩, hr, hlocks, hK, hN, hE, hA⟩ := id C
  intro n
  induction n with
  | zero =>
    intro x1_6 x3_6 H locs ls hP hD hS hl hf
    exact absurd (show (none : Option (Int64)) = some out from hf) (by intro q9; cases q9)
  | succ n ih =>
    intro x1_6 x3_6 H locs ls hP hD hS hl hf
    rw [fX6_digest_6] at hf
    refine lv_iload_n hx hb dX6_digest_6 rfl (lv_at hl 2 rfl) ?_
    refine lv_iconst (v := 4) hx hb dX6_digest_7 (by decide) ?_
    refine lv_icmp_gt (tgt := 30) hx hb dX6_digest_8 (by decide) (fun c1 => ?_) (fun c1 => ?_)
    · have hf := (o_i hf).1 c1
      exact HX _ _ _ _ _ hP hD hS (lv_sub hl [0, 1, 2] rfl) hf
    have hf := (o_i hf).2 c1
    refine lv_ldc2 (v := 31) hx hb hown (hts _ mmX6_digest_1) dX6_digest_11 ?_
    refine lv_lload_n hx hb dX6_digest_14 rfl (lv_at hl 1 rfl) ?_
    refine lv_lmul hx hb dX6_digest_15 ?_
    refine lv_aload_n hx hb dX6_digest_16 rfl (lv_at hl 0 rfl) ?_
    refine lv_iload_n hx hb dX6_digest_17 rfl (lv_at hl 2 rfl) ?_
    obtain ⟨g2, hg2, hf⟩ := o_b hf
    refine bVi C hP hD hS (tX6_howMany l G a va ta a_draft a_images a_run a_ropeSearch a_ringSearch a_woodSearch a_refusedBad a_refusedNo a_refusedFull va_villages va_woods va_needs va_signs va_temper va_friend va_rope va_hears va_shut va_woodBell va_woodVillage va_needVillage va_needWind va_needSeen va_sign ta_length ta_text ta_number ta_word ta_numbers ta_items ta_refused x3_6 g2 hg2) gX6_digest_X6_howMany rfl ⟨rfl, rfl⟩ hdX6_howMany ⟨Nat.le_of_ble_eq_true rfl, Nat.le_of_ble_eq_true rfl⟩ rfl hl.1 rfl (Nat.le_of_ble_eq_true rfl) ⟨Nat.le_of_ble_eq_true rfl, Nat.le_of_ble_eq_true rfl⟩ [0, 1, 2] rfl rfl rfl (setB_same _ _ _ rfl) rfl (ci := 6) (q0 := 0) rfl rfl rfl dX6_digest_18 (fun H locs hP hD hS => ?_)
    refine lv_i2l (v := g2.toInt64) hx hb dX6_digest_21 rfl ?_
    refine lv_ladd hx hb dX6_digest_22 ?_
    refine lv_lstore_n (lv' := [(1, .long ((31 * x1_6) + g2.toInt64)), (0, .ref (a 0)), (3, .int x3_6)]) hx hb dX6_digest_23 rfl hl (by decide) rfl (fun ls hl => ?_)
    refine at_pc (pc' := 24) rfl ?_
    refine lv_iinc (v := x3_6 + 1) (lv' := [(3, .int (x3_6 + 1)), (1, .long ((31 * x1_6) + g2.toInt64)), (0, .ref (a 0))]) hx hb dX6_digest_24 hl (k := 2) rfl (congrArg (fun z => x3_6 + z) (by decide)) (by decide) rfl (fun ls hl => ?_)
    refine lv_goto (tgt := 6) hx hb dX6_digest_27 (by decide) ?_
    exact ih _ _ _ _ _ hP hD hS (lv_sub hl [2, 1, 0] rfl) hf
set_option maxHeartbeats 4000000 in
set_option maxRecDepth 100000 in
theorem tX6_digest (l : Launch) (G : GG) (a : Nat → Nat) (va : Nat → Nat) (ta : Nat → Nat) (a_draft : Nat) (a_images : Nat) (a_run : Nat) (a_ropeSearch : Nat) (a_ringSearch : Nat) (a_woodSearch : Nat) (a_refusedBad : Int32) (a_refusedNo : Int32) (a_refusedFull : Int32) (va_villages : Int32) (va_woods : Int32) (va_needs : Int32) (va_signs : Int32) (va_temper : Nat → Int32) (va_friend : Nat → Int32) (va_rope : Nat → Int32) (va_hears : Nat → Int32) (va_shut : Nat → Int32) (va_woodBell : Nat → Int32) (va_woodVillage : Nat → Int32) (va_needVillage : Nat → Int32) (va_needWind : Nat → Int32) (va_needSeen : Nat → Int32) (va_sign : Nat → Int32) (ta_length : Int32) (ta_text : Nat → Int32) (ta_number : Nat → Int32) (ta_word : Int32) (ta_numbers : Int32) (ta_items : Int32) (ta_refused : Int32) (out : Int64) (hf : fX6_digest va_villages va_woods va_needs va_signs va_temper va_friend va_rope va_hears va_woodBell va_woodVillage va_needVillage va_needWind va_needSeen va_sign ta_length = some out) : cMl l G yX6_digest wsX6_digest rmX6_digest [.ref (a 0)] (flat [wX6 G a ((va 0)) a_draft a_images ((ta 0)) a_run a_ropeSearch a_ringSearch a_woodSearch a_refusedBad a_refusedNo a_refusedFull, wX3 G va va_villages va_woods va_needs va_signs va_temper va_friend va_rope va_hears va_shut va_woodBell va_woodVillage va_needVillage va_needWind va_needSeen va_sign, wX2 G ta ta_length ta_text ta_number ta_word ta_numbers ta_items ta_refused]) out (flat [wX6 G a ((va 0)) a_draft a_images ((ta 0)) a_run a_ropeSearch a_ringSearch a_woodSearch a_refusedBad a_refusedNo a_refusedFull, wX3 G va va_villages va_woods va_needs va_signs va_temper va_friend va_rope va_hears va_shut va_woodBell va_woodVillage va_needVillage va_needWind va_needSeen va_sign, wX2 G ta ta_length ta_text ta_number ta_word ta_numbers ta_items ta_refused]) := by
  intro sz
  refine met_of (cc := cX6_digest) (nL := 4) (ret := (some .long)) (Qc := fun A9 => QL G A9 out (flat [wX6 G a ((va 0)) a_draft a_images ((ta 0)) a_run a_ropeSearch a_ringSearch a_woodSearch a_refusedBad a_refusedNo a_refusedFull, wX3 G va va_villages va_woods va_needs va_signs va_temper va_friend va_rope va_hears va_shut va_woodBell va_woodVillage va_needVillage va_needWind va_needSeen va_sign, wX2 G ta ta_length ta_text ta_number ta_word ta_numbers ta_items ta_refused])) (by decide) rfl (Nat.le_of_ble_eq_true rfl) ?_
  intro p e s m args below meth c A ls C hP hD hS hl
  obtain ⟨⟨hx, hb, hml, hown, hts⟩, hr, hlocks, hK, hN, hE, hA⟩ := id C
  have hl : lv_has ls 4 [(0, .ref (a 0))] := hl
  unfold fX6_digest at hf
  refine lv_ldc2 (v := 727) hx hb hown (hts _ mmX6_digest_0) dX6_digest_0 ?_
  refine lv_lstore_n (lv' := [(1, .long 727), (0, .ref (a 0))]) hx hb dX6_digest_3 rfl hl (by decide) rfl (fun ls hl => ?_)
  refine lv_iconst (v := 0) hx hb dX6_digest_4 (by decide) ?_
  refine lv_istore_n (lv' := [(3, .int 0), (1, .long 727), (0, .ref (a 0))]) hx hb dX6_digest_5 rfl hl (by decide) rfl (fun ls hl => ?_)
  refine lX6_digest_6 l G C a va ta a_draft a_images a_run a_ropeSearch a_ringSearch a_woodSearch a_refusedBad a_refusedNo a_refusedFull va_villages va_woods va_needs va_signs va_temper va_friend va_rope va_hears va_shut va_woodBell va_woodVillage va_needVillage va_needWind va_needSeen va_sign ta_length ta_text ta_number ta_word ta_numbers ta_items ta_refused out _ (fun x1_6_3 x3_6_4 H locs ls hP hD hS hl hf => ?_) fu 727 0 _ _ _ hP hD hS (lv_sub hl [2, 1, 0] rfl) hf
  refine lv_aload_n hx hb dX6_digest_30 rfl (lv_at hl 0 rfl) ?_
  refine va_get (D := G.1) (ci := 6) (v := .ref (va 0)) (C := RX6) (T := TX6) (N := 11) hx hb hts iiX6_digest_X6 hown hK hP 0 rfl rfl 0 (by decide) (hts _ mmX6_digest_3) (fun _ h9 => h9) rfl dX6_digest_31 ?_
  refine lv_lload_n hx hb dX6_digest_34 rfl (lv_at hl 1 rfl) ?_
  obtain ⟨g5, hg5, hf⟩ := o_b hf
  refine bVl C hP hD hS (tX3_digestFrom l G va va_villages va_woods va_needs va_signs va_temper va_friend va_rope va_hears va_shut va_woodBell va_woodVillage va_needVillage va_needWind va_needSeen va_sign x1_6_3 g5 hg5) gX6_digest_X3_digestFrom rfl ⟨rfl, rfl⟩ hdX3_digestFrom ⟨Nat.le_of_ble_eq_true rfl, Nat.le_of_ble_eq_true rfl⟩ rfl hl.1 rfl (Nat.le_of_ble_eq_true rfl) ⟨Nat.le_of_ble_eq_true rfl, Nat.le_of_ble_eq_true rfl⟩ [1] rfl rfl rfl (setB_same _ _ _ rfl) rfl (ci := 3) (q0 := 1) rfl rfl rfl dX6_digest_35 (fun H locs hP hD hS => ?_)
  have e9 := Option.some.inj hf
  subst e9
  exact rt_l C hP hS rfl dX6_digest_38
