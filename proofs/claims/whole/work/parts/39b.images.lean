/-! X6: images -/
abbrev wI (G : GG) (ia : Nat) (f : Nat → Option Nat) : va_W := [(ia, .inl (gV G, 2, .inr (.inr (.inr (.inr f)))))]
theorem iiX6_image_X6 : ∀ w ∈ u_ws RX6 TX6 11, w ∈ wsX6_image := by decide +kernel
theorem iiX6_image_X3 : ∀ w ∈ u_ws RX3 TX3 15, w ∈ wsX6_image := by decide +kernel
theorem mmX6_image_im : (Cond.fieldLink RX6 19 "BlindBells" "images" "[LBlindBells$Valley;") ∈ wsX6_image := by decide +kernel
theorem mmX6_image_va : (Cond.fieldLink RX6 12 "BlindBells" "valley" "LBlindBells$Valley;") ∈ wsX6_image := by decide +kernel
theorem iiX6_from_X6 : ∀ w ∈ u_ws RX6 TX6 11, w ∈ wsX6_from := by decide +kernel
theorem mmX6_from_im : (Cond.fieldLink RX6 19 "BlindBells" "images" "[LBlindBells$Valley;") ∈ wsX6_from := by decide +kernel
theorem mmX6_from_va : (Cond.fieldLink RX6 12 "BlindBells" "valley" "LBlindBells$Valley;") ∈ wsX6_from := by decide +kernel
theorem hdX6_image : yX6_image.cls = RX6 ∧ yX6_image.cls ≠ "java/lang/invoke/MethodHandle" ∧ yX6_image.cls ≠ "java/lang/invoke/VarHandle" ∧ (parseMethodDescriptor yX6_image.desc).map (fun d => d.parameters.length) = some 1 := by decide +kernel
theorem hdX6_from : yX6_from.cls = RX6 ∧ yX6_from.cls ≠ "java/lang/invoke/MethodHandle" ∧ yX6_from.cls ≠ "java/lang/invoke/VarHandle" ∧ (parseMethodDescriptor yX6_from.desc).map (fun d => d.parameters.length) = some 1 := by decide +kernel
abbrev rmX6_image : Room := { frames := 4, cells := 0, slots := 0, locals := 120 }
abbrev rmX6_imageN : Room := { frames := 4, cells := 12, slots := 121, locals := 120 }
abbrev rmX6_from : Room := { frames := 4, cells := 0, slots := 0, locals := 120 }
theorem vfX3 : ∀ j, j < 15 → defaultValue (tyX3 j) = vp_V [.int 0, .int 0, .int 0, .int 0, .null, .null, .null, .null, .null, .null, .null, .null, .null, .null, .null] j := by
  intro j hj
  rcases (show j = 0 ∨ j = 1 ∨ j = 2 ∨ j = 3 ∨ j = 4 ∨ j = 5 ∨ j = 6 ∨ j = 7 ∨ j = 8 ∨ j = 9 ∨ j = 10 ∨ j = 11 ∨ j = 12 ∨ j = 13 ∨ j = 14 by omega) with rfl | rfl | rfl | rfl | rfl | rfl | rfl | rfl | rfl | rfl | rfl | rfl | rfl | rfl | rfl <;> rfl
set_option maxHeartbeats 4000000 in
set_option maxRecDepth 100000 in
theorem tX6_image_bad (l : Launch) (G : GG) (a : Nat → Nat) (vr dr ia tr nr orr gr wr : Nat) (rb rn rf : Int32) (i : Int32) (h0 : i < 0 ∨ ¬ i < 2) (out : Int32 × Int32 × Int32 × Int32) (hf : fX6_counted rb rn rf (-2) = some out) : cMi l G yX6_image wsX6_image rmX6_image [.ref (a 0), .int i] (flat [wX6 G a vr dr ia tr nr orr gr wr rb rn rf]) out.1 (flat [wX6 G a vr dr ia tr nr orr gr wr out.2.1 out.2.2.1 out.2.2.2]) := by
  intro sz
  refine met_of (y := yX6_image) (av := [.ref (a 0), .int i]) (cc := cX6_image) (nL := 2) (ret := (some .int)) (Qc := fun A9 => QI G A9 out.1 (flat [wX6 G a vr dr ia tr nr orr gr wr out.2.1 out.2.2.1 out.2.2.2])) (by decide) rfl (Nat.le_of_ble_eq_true rfl) ?_
  intro p e s m args below meth c A ls C hP hD hS hl
  obtain ⟨⟨hx, hb, hml, hown, hts⟩, hr, hlocks, hK, hN, hE, hA⟩ := id C
  have hl : lv_has ls 2 [(0, .ref (a 0)), (1, .int i)] := hl
  refine lv_iload_n hx hb dX6_image_0 rfl (lv_at hl 1 rfl) ?_
  have fin : ∀ (H : Heap) (locs : List Loc), va_P G.1 vwCl (flat [wX6 G a vr dr ia tr nr orr gr wr rb rn rf]) H → va_D A (flat [wX6 G a vr dr ia tr nr orr gr wr rb rn rf]) → va_S A s.heap H locs → W p l e rmX6_image s m args below meth c H locs 0 0 (MQ below (QI G A out.1 (flat [wX6 G a vr dr ia tr nr orr gr wr out.2.1 out.2.2.1 out.2.2.2])) args s 0 0 A) (F0 m 9 ls []) := by
    intro H locs hP hD hS
    refine lv_aload_n hx hb dX6_image_9 rfl (lv_at hl 0 rfl) ?_
    refine lv_bipush (v := -2) hx hb dX6_image_10 (by decide) ?_
    refine bVi (Bs' := [wX6 G a vr dr ia tr nr orr gr wr out.2.1 out.2.2.1 out.2.2.2]) C hP hD hS (tX6_counted l G a vr dr ia tr nr orr gr wr rb rn rf (-2) out hf) gX6_image_X6_counted rfl ⟨rfl, rfl⟩ hdX6_counted ⟨Nat.le_of_ble_eq_true rfl, Nat.le_of_ble_eq_true rfl⟩ rfl hl.1 rfl (Nat.le_of_ble_eq_true rfl) ⟨Nat.le_of_ble_eq_true rfl, Nat.le_of_ble_eq_true rfl⟩ [0] rfl rfl rfl rfl rfl (ci := 6) (q0 := 0) rfl rfl rfl dX6_image_12 (fun H locs hP hD hS => ?_)
    exact rt_i C hP hS rfl dX6_image_15
  refine lv_if_lt (tgt := 9) hx hb dX6_image_1 (by decide) (fun c1 => fin _ _ hP hD hS) (fun c1 => ?_)
  refine lv_iload_n hx hb dX6_image_4 rfl (lv_at hl 1 rfl) ?_
  refine lv_iconst (v := 2) hx hb dX6_image_5 (by decide) ?_
  exact lv_icmp_lt (tgt := 16) hx hb dX6_image_6 (by decide) (fun c2 => absurd c2 (h0.resolve_left c1)) (fun c2 => fin _ _ hP hD hS)
set_option maxHeartbeats 4000000 in
set_option maxRecDepth 100000 in
theorem tX6_from_bad (l : Launch) (G : GG) (a : Nat → Nat) (vr dr ia tr nr orr gr wr : Nat) (rb rn rf : Int32) (i : Int32) (h0 : i < 0 ∨ ¬ i < 2) (out : Int32 × Int32 × Int32 × Int32) (hf : fX6_counted rb rn rf (-2) = some out) : cMi l G yX6_from wsX6_from rmX6_from [.ref (a 0), .int i] (flat [wX6 G a vr dr ia tr nr orr gr wr rb rn rf]) out.1 (flat [wX6 G a vr dr ia tr nr orr gr wr out.2.1 out.2.2.1 out.2.2.2]) := by
  intro sz
  refine met_of (y := yX6_from) (av := [.ref (a 0), .int i]) (cc := cX6_from) (nL := 2) (ret := (some .int)) (Qc := fun A9 => QI G A9 out.1 (flat [wX6 G a vr dr ia tr nr orr gr wr out.2.1 out.2.2.1 out.2.2.2])) (by decide) rfl (Nat.le_of_ble_eq_true rfl) ?_
  intro p e s m args below meth c A ls C hP hD hS hl
  obtain ⟨⟨hx, hb, hml, hown, hts⟩, hr, hlocks, hK, hN, hE, hA⟩ := id C
  have hl : lv_has ls 2 [(0, .ref (a 0)), (1, .int i)] := hl
  refine lv_iload_n hx hb dX6_from_0 rfl (lv_at hl 1 rfl) ?_
  have fin : ∀ (H : Heap) (locs : List Loc), va_P G.1 vwCl (flat [wX6 G a vr dr ia tr nr orr gr wr rb rn rf]) H → va_D A (flat [wX6 G a vr dr ia tr nr orr gr wr rb rn rf]) → va_S A s.heap H locs → W p l e rmX6_from s m args below meth c H locs 0 0 (MQ below (QI G A out.1 (flat [wX6 G a vr dr ia tr nr orr gr wr out.2.1 out.2.2.1 out.2.2.2])) args s 0 0 A) (F0 m 9 ls []) := by
    intro H locs hP hD hS
    refine lv_aload_n hx hb dX6_from_9 rfl (lv_at hl 0 rfl) ?_
    refine lv_bipush (v := -2) hx hb dX6_from_10 (by decide) ?_
    refine bVi (Bs' := [wX6 G a vr dr ia tr nr orr gr wr out.2.1 out.2.2.1 out.2.2.2]) C hP hD hS (tX6_counted l G a vr dr ia tr nr orr gr wr rb rn rf (-2) out hf) gX6_from_X6_counted rfl ⟨rfl, rfl⟩ hdX6_counted ⟨Nat.le_of_ble_eq_true rfl, Nat.le_of_ble_eq_true rfl⟩ rfl hl.1 rfl (Nat.le_of_ble_eq_true rfl) ⟨Nat.le_of_ble_eq_true rfl, Nat.le_of_ble_eq_true rfl⟩ [0] rfl rfl rfl rfl rfl (ci := 6) (q0 := 0) rfl rfl rfl dX6_from_12 (fun H locs hP hD hS => ?_)
    exact rt_i C hP hS rfl dX6_from_15
  refine lv_if_lt (tgt := 9) hx hb dX6_from_1 (by decide) (fun c1 => fin _ _ hP hD hS) (fun c1 => ?_)
  refine lv_iload_n hx hb dX6_from_4 rfl (lv_at hl 1 rfl) ?_
  refine lv_iconst (v := 2) hx hb dX6_from_5 (by decide) ?_
  exact lv_icmp_lt (tgt := 16) hx hb dX6_from_6 (by decide) (fun c2 => absurd c2 (h0.resolve_left c1)) (fun c2 => fin _ _ hP hD hS)
set_option maxHeartbeats 4000000 in
set_option maxRecDepth 100000 in
theorem tX6_from_none (l : Launch) (G : GG) (a : Nat → Nat) (vr dr ia tr nr orr gr wr : Nat) (rb rn rf : Int32) (f : Nat → Option Nat) (i : Int32) (h0 : ¬ i < 0) (h2 : i < 2) (hin : vp_in i 2) (hfi : f i.toNatClampNeg = none) (out : Int32 × Int32 × Int32 × Int32) (hf : fX6_counted rb rn rf (-3) = some out) : cMi l G yX6_from wsX6_from rmX6_from [.ref (a 0), .int i] (flat [wX6 G a vr dr ia tr nr orr gr wr rb rn rf, wI G ia f]) out.1 (flat [wX6 G a vr dr ia tr nr orr gr wr out.2.1 out.2.2.1 out.2.2.2, wI G ia f]) := by
  intro sz
  refine met_of (y := yX6_from) (av := [.ref (a 0), .int i]) (cc := cX6_from) (nL := 2) (ret := (some .int)) (Qc := fun A9 => QI G A9 out.1 (flat [wX6 G a vr dr ia tr nr orr gr wr out.2.1 out.2.2.1 out.2.2.2, wI G ia f])) (by decide) rfl (Nat.le_of_ble_eq_true rfl) ?_
  intro p e s m args below meth c A ls C hP hD hS hl
  obtain ⟨⟨hx, hb, hml, hown, hts⟩, hr, hlocks, hK, hN, hE, hA⟩ := id C
  have hl : lv_has ls 2 [(0, .ref (a 0)), (1, .int i)] := hl
  refine lv_iload_n hx hb dX6_from_0 rfl (lv_at hl 1 rfl) ?_
  refine lv_if_lt (tgt := 9) hx hb dX6_from_1 (by decide) (fun c1 => absurd c1 h0) (fun c1 => ?_)
  refine lv_iload_n hx hb dX6_from_4 rfl (lv_at hl 1 rfl) ?_
  refine lv_iconst (v := 2) hx hb dX6_from_5 (by decide) ?_
  refine lv_icmp_lt (tgt := 16) hx hb dX6_from_6 (by decide) (fun c2 => ?_) (fun c2 => absurd h2 c2)
  refine lv_aload_n hx hb dX6_from_16 rfl (lv_at hl 0 rfl) ?_
  refine va_get (D := G.1) (ci := 6) (v := .ref ia) (C := RX6) (T := TX6) (N := 11) hx hb hts iiX6_from_X6 hown hK hP 0 rfl rfl 2 (by decide) (hts _ mmX6_from_im) (fun _ h9 => h9) rfl dX6_from_17 ?_
  refine lv_iload_n hx hb dX6_from_20 rfl (lv_at hl 1 rfl) ?_
  refine va_aldq (C := "BlindBells$Valley") hx hb hK hP 1 3 rfl rfl hin dX6_from_21 ?_
  rw [hfi]
  refine lv_ifnonnullN hx hb dX6_from_22 ?_
  refine lv_aload_n hx hb dX6_from_25 rfl (lv_at hl 0 rfl) ?_
  refine lv_bipush (v := -3) hx hb dX6_from_26 (by decide) ?_
  refine bVi (Bs' := [wX6 G a vr dr ia tr nr orr gr wr out.2.1 out.2.2.1 out.2.2.2, wI G ia f]) C hP hD hS (tX6_counted l G a vr dr ia tr nr orr gr wr rb rn rf (-3) out hf) gX6_from_X6_counted rfl ⟨rfl, rfl⟩ hdX6_counted ⟨Nat.le_of_ble_eq_true rfl, Nat.le_of_ble_eq_true rfl⟩ rfl hl.1 rfl (Nat.le_of_ble_eq_true rfl) ⟨Nat.le_of_ble_eq_true rfl, Nat.le_of_ble_eq_true rfl⟩ [0] rfl rfl rfl rfl rfl (ci := 6) (q0 := 0) rfl rfl rfl dX6_from_28 (fun H locs hP hD hS => ?_)
  exact rt_i C hP hS rfl dX6_from_31
set_option maxHeartbeats 4000000 in
set_option maxRecDepth 100000 in
theorem tX6_image_some (l : Launch) (G : GG) (a va ib : Nat → Nat) (dr ia tr nr orr gr wr : Nat) (rb rn rf : Int32) (f : Nat → Option Nat) (v_villages : Int32) (v_woods : Int32) (v_needs : Int32) (v_signs : Int32) (v_temper : Nat → Int32) (v_friend : Nat → Int32) (v_rope : Nat → Int32) (v_hears : Nat → Int32) (v_shut : Nat → Int32) (v_woodBell : Nat → Int32) (v_woodVillage : Nat → Int32) (v_needVillage : Nat → Int32) (v_needWind : Nat → Int32) (v_needSeen : Nat → Int32) (v_sign : Nat → Int32) (b_villages : Int32) (b_woods : Int32) (b_needs : Int32) (b_signs : Int32) (b_temper : Nat → Int32) (b_friend : Nat → Int32) (b_rope : Nat → Int32) (b_hears : Nat → Int32) (b_shut : Nat → Int32) (b_woodBell : Nat → Int32) (b_woodVillage : Nat → Int32) (b_needVillage : Nat → Int32) (b_needWind : Nat → Int32) (b_needSeen : Nat → Int32) (b_sign : Nat → Int32) (i : Int32) (h0 : ¬ i < 0) (h2 : i < 2) (hin : vp_in i 2) (hfi : f i.toNatClampNeg = some (ib 0)) : cMi l G yX6_image wsX6_image rmX6_image [.ref (a 0), .int i] (flat [wX6 G a (va 0) dr ia tr nr orr gr wr rb rn rf, wX3 G va v_villages v_woods v_needs v_signs v_temper v_friend v_rope v_hears v_shut v_woodBell v_woodVillage v_needVillage v_needWind v_needSeen v_sign, wI G ia f, wX3 G ib b_villages b_woods b_needs b_signs b_temper b_friend b_rope b_hears b_shut b_woodBell b_woodVillage b_needVillage b_needWind b_needSeen b_sign]) 1 (flat [wX6 G a (va 0) dr ia tr nr orr gr wr rb rn rf, wX3 G va v_villages v_woods v_needs v_signs v_temper v_friend v_rope v_hears v_shut v_woodBell v_woodVillage v_needVillage v_needWind v_needSeen v_sign, wI G ia f, wX3 G ib v_villages v_woods v_needs v_signs (cpI 6 v_temper b_temper) (cpI 6 v_friend b_friend) (cpI 6 v_rope b_rope) (cpI 24 v_hears b_hears) (cpI 6 v_shut b_shut) (cpI 8 v_woodBell b_woodBell) (cpI 8 v_woodVillage b_woodVillage) (cpI 12 v_needVillage b_needVillage) (cpI 12 v_needWind b_needWind) (cpI 12 v_needSeen b_needSeen) (cpI 6 v_sign b_sign)]) := by
  intro sz
  refine met_of (y := yX6_image) (av := [.ref (a 0), .int i]) (cc := cX6_image) (nL := 2) (ret := (some .int)) (Qc := fun A9 => QI G A9 1 (flat [wX6 G a (va 0) dr ia tr nr orr gr wr rb rn rf, wX3 G va v_villages v_woods v_needs v_signs v_temper v_friend v_rope v_hears v_shut v_woodBell v_woodVillage v_needVillage v_needWind v_needSeen v_sign, wI G ia f, wX3 G ib v_villages v_woods v_needs v_signs (cpI 6 v_temper b_temper) (cpI 6 v_friend b_friend) (cpI 6 v_rope b_rope) (cpI 24 v_hears b_hears) (cpI 6 v_shut b_shut) (cpI 8 v_woodBell b_woodBell) (cpI 8 v_woodVillage b_woodVillage) (cpI 12 v_needVillage b_needVillage) (cpI 12 v_needWind b_needWind) (cpI 12 v_needSeen b_needSeen) (cpI 6 v_sign b_sign)])) (by decide) rfl (Nat.le_of_ble_eq_true rfl) ?_
  intro p e s m args below meth c A ls C hP hD hS hl
  obtain ⟨⟨hx, hb, hml, hown, hts⟩, hr, hlocks, hK, hN, hE, hA⟩ := id C
  have hl : lv_has ls 2 [(0, .ref (a 0)), (1, .int i)] := hl
  refine lv_iload_n hx hb dX6_image_0 rfl (lv_at hl 1 rfl) ?_
  refine lv_if_lt (tgt := 9) hx hb dX6_image_1 (by decide) (fun c1 => absurd c1 h0) (fun c1 => ?_)
  refine lv_iload_n hx hb dX6_image_4 rfl (lv_at hl 1 rfl) ?_
  refine lv_iconst (v := 2) hx hb dX6_image_5 (by decide) ?_
  refine lv_icmp_lt (tgt := 16) hx hb dX6_image_6 (by decide) (fun c2 => ?_) (fun c2 => absurd h2 c2)
  refine lv_aload_n hx hb dX6_image_16 rfl (lv_at hl 0 rfl) ?_
  refine va_get (D := G.1) (ci := 6) (v := .ref ia) (C := RX6) (T := TX6) (N := 11) hx hb hts iiX6_image_X6 hown hK hP 0 rfl rfl 2 (by decide) (hts _ mmX6_image_im) (fun _ h9 => h9) rfl dX6_image_17 ?_
  refine lv_iload_n hx hb dX6_image_20 rfl (lv_at hl 1 rfl) ?_
  refine va_aldq (C := "BlindBells$Valley") hx hb hK hP 13 3 rfl rfl hin dX6_image_21 ?_
  rw [hfi]
  refine lv_ifnonnull (tgt := 38) hx hb dX6_image_22 (by decide) ?_
  refine lv_aload_n hx hb dX6_image_38 rfl (lv_at hl 0 rfl) ?_
  refine va_get (D := G.1) (ci := 6) (v := .ref ia) (C := RX6) (T := TX6) (N := 11) hx hb hts iiX6_image_X6 hown hK hP 0 rfl rfl 2 (by decide) (hts _ mmX6_image_im) (fun _ h9 => h9) rfl dX6_image_39 ?_
  refine lv_iload_n hx hb dX6_image_42 rfl (lv_at hl 1 rfl) ?_
  refine va_aldq (C := "BlindBells$Valley") hx hb hK hP 13 3 rfl rfl hin dX6_image_43 ?_
  rw [hfi]
  refine lv_aload_n hx hb dX6_image_44 rfl (lv_at hl 0 rfl) ?_
  refine va_get (D := G.1) (ci := 6) (v := .ref (va 0)) (C := RX6) (T := TX6) (N := 11) hx hb hts iiX6_image_X6 hown hK hP 0 rfl rfl 0 (by decide) (hts _ mmX6_image_va) (fun _ h9 => h9) rfl dX6_image_45 ?_
  refine bVv (Bs' := [wX6 G a (va 0) dr ia tr nr orr gr wr rb rn rf, wX3 G va v_villages v_woods v_needs v_signs v_temper v_friend v_rope v_hears v_shut v_woodBell v_woodVillage v_needVillage v_needWind v_needSeen v_sign, wI G ia f, wX3 G ib v_villages v_woods v_needs v_signs (cpI 6 v_temper b_temper) (cpI 6 v_friend b_friend) (cpI 6 v_rope b_rope) (cpI 24 v_hears b_hears) (cpI 6 v_shut b_shut) (cpI 8 v_woodBell b_woodBell) (cpI 8 v_woodVillage b_woodVillage) (cpI 12 v_needVillage b_needVillage) (cpI 12 v_needWind b_needWind) (cpI 12 v_needSeen b_needSeen) (cpI 6 v_sign b_sign)]) C hP hD hS (tX3_copy l G ib va b_villages b_woods b_needs b_signs b_temper b_friend b_rope b_hears b_shut b_woodBell b_woodVillage b_needVillage b_needWind b_needSeen b_sign v_villages v_woods v_needs v_signs v_temper v_friend v_rope v_hears v_shut v_woodBell v_woodVillage v_needVillage v_needWind v_needSeen v_sign (v_villages, v_woods, v_needs, v_signs, cpI 6 v_temper b_temper, cpI 6 v_friend b_friend, cpI 6 v_rope b_rope, cpI 24 v_hears b_hears, cpI 6 v_shut b_shut, cpI 8 v_woodBell b_woodBell, cpI 8 v_woodVillage b_woodVillage, cpI 12 v_needVillage b_needVillage, cpI 12 v_needWind b_needWind, cpI 12 v_needSeen b_needSeen, cpI 6 v_sign b_sign) rfl) gX6_image_X3_copy rfl ⟨rfl, rfl⟩ hdX3_copy ⟨Nat.le_of_ble_eq_true rfl, Nat.le_of_ble_eq_true rfl⟩ rfl hl.1 rfl (Nat.le_of_ble_eq_true rfl) ⟨Nat.le_of_ble_eq_true rfl, Nat.le_of_ble_eq_true rfl⟩ [3, 1] rfl rfl rfl rfl rfl (ci := 3) (q0 := 14) rfl rfl rfl dX6_image_48 (fun H locs hP hD hS => ?_)
  refine lv_iconst (v := 1) hx hb dX6_image_51 (by decide) ?_
  exact rt_i C hP hS rfl dX6_image_52
set_option maxHeartbeats 4000000 in
set_option maxRecDepth 100000 in
theorem tX6_from_some (l : Launch) (G : GG) (a va ib : Nat → Nat) (dr ia tr nr orr gr wr : Nat) (rb rn rf : Int32) (f : Nat → Option Nat) (v_villages : Int32) (v_woods : Int32) (v_needs : Int32) (v_signs : Int32) (v_temper : Nat → Int32) (v_friend : Nat → Int32) (v_rope : Nat → Int32) (v_hears : Nat → Int32) (v_shut : Nat → Int32) (v_woodBell : Nat → Int32) (v_woodVillage : Nat → Int32) (v_needVillage : Nat → Int32) (v_needWind : Nat → Int32) (v_needSeen : Nat → Int32) (v_sign : Nat → Int32) (b_villages : Int32) (b_woods : Int32) (b_needs : Int32) (b_signs : Int32) (b_temper : Nat → Int32) (b_friend : Nat → Int32) (b_rope : Nat → Int32) (b_hears : Nat → Int32) (b_shut : Nat → Int32) (b_woodBell : Nat → Int32) (b_woodVillage : Nat → Int32) (b_needVillage : Nat → Int32) (b_needWind : Nat → Int32) (b_needSeen : Nat → Int32) (b_sign : Nat → Int32) (i : Int32) (h0 : ¬ i < 0) (h2 : i < 2) (hin : vp_in i 2) (hfi : f i.toNatClampNeg = some (ib 0)) : cMi l G yX6_from wsX6_from rmX6_from [.ref (a 0), .int i] (flat [wX6 G a (va 0) dr ia tr nr orr gr wr rb rn rf, wX3 G va v_villages v_woods v_needs v_signs v_temper v_friend v_rope v_hears v_shut v_woodBell v_woodVillage v_needVillage v_needWind v_needSeen v_sign, wI G ia f, wX3 G ib b_villages b_woods b_needs b_signs b_temper b_friend b_rope b_hears b_shut b_woodBell b_woodVillage b_needVillage b_needWind b_needSeen b_sign]) 1 (flat [wX6 G a (va 0) dr ia tr nr orr gr wr rb rn rf, wX3 G va b_villages b_woods b_needs b_signs (cpI 6 b_temper v_temper) (cpI 6 b_friend v_friend) (cpI 6 b_rope v_rope) (cpI 24 b_hears v_hears) (cpI 6 b_shut v_shut) (cpI 8 b_woodBell v_woodBell) (cpI 8 b_woodVillage v_woodVillage) (cpI 12 b_needVillage v_needVillage) (cpI 12 b_needWind v_needWind) (cpI 12 b_needSeen v_needSeen) (cpI 6 b_sign v_sign), wI G ia f, wX3 G ib b_villages b_woods b_needs b_signs b_temper b_friend b_rope b_hears b_shut b_woodBell b_woodVillage b_needVillage b_needWind b_needSeen b_sign]) := by
  intro sz
  refine met_of (y := yX6_from) (av := [.ref (a 0), .int i]) (cc := cX6_from) (nL := 2) (ret := (some .int)) (Qc := fun A9 => QI G A9 1 (flat [wX6 G a (va 0) dr ia tr nr orr gr wr rb rn rf, wX3 G va b_villages b_woods b_needs b_signs (cpI 6 b_temper v_temper) (cpI 6 b_friend v_friend) (cpI 6 b_rope v_rope) (cpI 24 b_hears v_hears) (cpI 6 b_shut v_shut) (cpI 8 b_woodBell v_woodBell) (cpI 8 b_woodVillage v_woodVillage) (cpI 12 b_needVillage v_needVillage) (cpI 12 b_needWind v_needWind) (cpI 12 b_needSeen v_needSeen) (cpI 6 b_sign v_sign), wI G ia f, wX3 G ib b_villages b_woods b_needs b_signs b_temper b_friend b_rope b_hears b_shut b_woodBell b_woodVillage b_needVillage b_needWind b_needSeen b_sign])) (by decide) rfl (Nat.le_of_ble_eq_true rfl) ?_
  intro p e s m args below meth c A ls C hP hD hS hl
  obtain ⟨⟨hx, hb, hml, hown, hts⟩, hr, hlocks, hK, hN, hE, hA⟩ := id C
  have hl : lv_has ls 2 [(0, .ref (a 0)), (1, .int i)] := hl
  refine lv_iload_n hx hb dX6_from_0 rfl (lv_at hl 1 rfl) ?_
  refine lv_if_lt (tgt := 9) hx hb dX6_from_1 (by decide) (fun c1 => absurd c1 h0) (fun c1 => ?_)
  refine lv_iload_n hx hb dX6_from_4 rfl (lv_at hl 1 rfl) ?_
  refine lv_iconst (v := 2) hx hb dX6_from_5 (by decide) ?_
  refine lv_icmp_lt (tgt := 16) hx hb dX6_from_6 (by decide) (fun c2 => ?_) (fun c2 => absurd h2 c2)
  refine lv_aload_n hx hb dX6_from_16 rfl (lv_at hl 0 rfl) ?_
  refine va_get (D := G.1) (ci := 6) (v := .ref ia) (C := RX6) (T := TX6) (N := 11) hx hb hts iiX6_from_X6 hown hK hP 0 rfl rfl 2 (by decide) (hts _ mmX6_from_im) (fun _ h9 => h9) rfl dX6_from_17 ?_
  refine lv_iload_n hx hb dX6_from_20 rfl (lv_at hl 1 rfl) ?_
  refine va_aldq (C := "BlindBells$Valley") hx hb hK hP 13 3 rfl rfl hin dX6_from_21 ?_
  rw [hfi]
  refine lv_ifnonnull (tgt := 32) hx hb dX6_from_22 (by decide) ?_
  refine lv_aload_n hx hb dX6_from_32 rfl (lv_at hl 0 rfl) ?_
  refine va_get (D := G.1) (ci := 6) (v := .ref (va 0)) (C := RX6) (T := TX6) (N := 11) hx hb hts iiX6_from_X6 hown hK hP 0 rfl rfl 0 (by decide) (hts _ mmX6_from_va) (fun _ h9 => h9) rfl dX6_from_33 ?_
  refine lv_aload_n hx hb dX6_from_36 rfl (lv_at hl 0 rfl) ?_
  refine va_get (D := G.1) (ci := 6) (v := .ref ia) (C := RX6) (T := TX6) (N := 11) hx hb hts iiX6_from_X6 hown hK hP 0 rfl rfl 2 (by decide) (hts _ mmX6_from_im) (fun _ h9 => h9) rfl dX6_from_37 ?_
  refine lv_iload_n hx hb dX6_from_40 rfl (lv_at hl 1 rfl) ?_
  refine va_aldq (C := "BlindBells$Valley") hx hb hK hP 13 3 rfl rfl hin dX6_from_41 ?_
  rw [hfi]
  refine bVv (Bs' := [wX6 G a (va 0) dr ia tr nr orr gr wr rb rn rf, wX3 G va b_villages b_woods b_needs b_signs (cpI 6 b_temper v_temper) (cpI 6 b_friend v_friend) (cpI 6 b_rope v_rope) (cpI 24 b_hears v_hears) (cpI 6 b_shut v_shut) (cpI 8 b_woodBell v_woodBell) (cpI 8 b_woodVillage v_woodVillage) (cpI 12 b_needVillage v_needVillage) (cpI 12 b_needWind v_needWind) (cpI 12 b_needSeen v_needSeen) (cpI 6 b_sign v_sign), wI G ia f, wX3 G ib b_villages b_woods b_needs b_signs b_temper b_friend b_rope b_hears b_shut b_woodBell b_woodVillage b_needVillage b_needWind b_needSeen b_sign]) C hP hD hS (tX3_copy l G va ib v_villages v_woods v_needs v_signs v_temper v_friend v_rope v_hears v_shut v_woodBell v_woodVillage v_needVillage v_needWind v_needSeen v_sign b_villages b_woods b_needs b_signs b_temper b_friend b_rope b_hears b_shut b_woodBell b_woodVillage b_needVillage b_needWind b_needSeen b_sign (b_villages, b_woods, b_needs, b_signs, cpI 6 b_temper v_temper, cpI 6 b_friend v_friend, cpI 6 b_rope v_rope, cpI 24 b_hears v_hears, cpI 6 b_shut v_shut, cpI 8 b_woodBell v_woodBell, cpI 8 b_woodVillage v_woodVillage, cpI 12 b_needVillage v_needVillage, cpI 12 b_needWind v_needWind, cpI 12 b_needSeen v_needSeen, cpI 6 b_sign v_sign) rfl) gX6_from_X3_copy rfl ⟨rfl, rfl⟩ hdX3_copy ⟨Nat.le_of_ble_eq_true rfl, Nat.le_of_ble_eq_true rfl⟩ rfl hl.1 rfl (Nat.le_of_ble_eq_true rfl) ⟨Nat.le_of_ble_eq_true rfl, Nat.le_of_ble_eq_true rfl⟩ [1, 3] rfl rfl rfl rfl rfl (ci := 3) (q0 := 1) rfl rfl rfl dX6_from_42 (fun H locs hP hD hS => ?_)
  refine lv_iconst (v := 1) hx hb dX6_from_45 (by decide) ?_
  exact rt_i C hP hS rfl dX6_from_46
set_option maxHeartbeats 4000000 in
set_option maxRecDepth 100000 in
theorem tX6_image_none (l : Launch) (G : GG) (a va : Nat → Nat) (dr ia tr nr orr gr wr : Nat) (rb rn rf : Int32) (f : Nat → Option Nat) (v_villages : Int32) (v_woods : Int32) (v_needs : Int32) (v_signs : Int32) (v_temper : Nat → Int32) (v_friend : Nat → Int32) (v_rope : Nat → Int32) (v_hears : Nat → Int32) (v_shut : Nat → Int32) (v_woodBell : Nat → Int32) (v_woodVillage : Nat → Int32) (v_needVillage : Nat → Int32) (v_needWind : Nat → Int32) (v_needSeen : Nat → Int32) (v_sign : Nat → Int32) (i : Int32) (h0 : ¬ i < 0) (h2 : i < 2) (hin : vp_in i 2) (hfi : f i.toNatClampNeg = none) (sz : Nat) : Met l yX6_image wsX6_image rmX6_imageN (va_Pc [.ref (a 0), .int i] (cPre G (flat [wX6 G a (va 0) dr ia tr nr orr gr wr rb rn rf, wX3 G va v_villages v_woods v_needs v_signs v_temper v_friend v_rope v_hears v_shut v_woodBell v_woodVillage v_needVillage v_needWind v_needSeen v_sign, wI G ia f]) sz)) ((fun (A9 : Nat → Prop) => va_Qi (fun (r : Int32) (_ : (Nat → Nat) × (Nat → Int32) × (Nat → Int32) × (Nat → Int32) × (Nat → Int32) × (Nat → Int32)) => r = 1) (fun (u : (Nat → Nat) × (Nat → Int32) × (Nat → Int32) × (Nat → Int32) × (Nat → Int32) × (Nat → Int32)) t => va_P G.1 vwCl ((fun (u : (Nat → Nat) × (Nat → Int32) × (Nat → Int32) × (Nat → Int32) × (Nat → Int32) × (Nat → Int32)) => flat [wX6 G a (va 0) dr ia tr nr orr gr wr rb rn rf, wX3 G va v_villages v_woods v_needs v_signs v_temper v_friend v_rope v_hears v_shut v_woodBell v_woodVillage v_needVillage v_needWind v_needSeen v_sign, wI G ia (va_up f i.toNatClampNeg (some (u.1 0))), wX3 G u.1 v_villages v_woods v_needs v_signs (cpI 6 v_temper u.2.1) (cpI 6 v_friend u.2.2.1) (cpI 6 v_rope u.2.2.2.1) (cpI 24 v_hears u.2.2.2.2.1) (cpI 6 v_shut u.2.2.2.2.2) (cpI 8 v_woodBell (fun _ => 0)) (cpI 8 v_woodVillage (fun _ => 0)) (cpI 12 v_needVillage (fun _ => 0)) (cpI 12 v_needWind (fun _ => 0)) (cpI 12 v_needSeen (fun _ => 0)) (cpI 6 v_sign (fun _ => 0))]) u) t.heap ∧ va_D A9 ((fun (u : (Nat → Nat) × (Nat → Int32) × (Nat → Int32) × (Nat → Int32) × (Nat → Int32) × (Nat → Int32)) => flat [wX6 G a (va 0) dr ia tr nr orr gr wr rb rn rf, wX3 G va v_villages v_woods v_needs v_signs v_temper v_friend v_rope v_hears v_shut v_woodBell v_woodVillage v_needVillage v_needWind v_needSeen v_sign, wI G ia (va_up f i.toNatClampNeg (some (u.1 0))), wX3 G u.1 v_villages v_woods v_needs v_signs (cpI 6 v_temper u.2.1) (cpI 6 v_friend u.2.2.1) (cpI 6 v_rope u.2.2.2.1) (cpI 24 v_hears u.2.2.2.2.1) (cpI 6 v_shut u.2.2.2.2.2) (cpI 8 v_woodBell (fun _ => 0)) (cpI 8 v_woodVillage (fun _ => 0)) (cpI 12 v_needVillage (fun _ => 0)) (cpI 12 v_needWind (fun _ => 0)) (cpI 12 v_needSeen (fun _ => 0)) (cpI 6 v_sign (fun _ => 0))]) u)) A9) (va_A (flat [wX6 G a (va 0) dr ia tr nr orr gr wr rb rn rf, wX3 G va v_villages v_woods v_needs v_signs v_temper v_friend v_rope v_hears v_shut v_woodBell v_woodVillage v_needVillage v_needWind v_needSeen v_sign, wI G ia f]) sz)) 12 121 (va_A (flat [wX6 G a (va 0) dr ia tr nr orr gr wr rb rn rf, wX3 G va v_villages v_woods v_needs v_signs v_temper v_friend v_rope v_hears v_shut v_woodBell v_woodVillage v_needVillage v_needWind v_needSeen v_sign, wI G ia f]) sz) := by
  refine met_ofN (y := yX6_image) (av := [.ref (a 0), .int i]) (cc := cX6_image) (nL := 2) (ret := (some .int)) (Qc := fun A9 => va_Qi (fun (r : Int32) (_ : (Nat → Nat) × (Nat → Int32) × (Nat → Int32) × (Nat → Int32) × (Nat → Int32) × (Nat → Int32)) => r = 1) (fun (u : (Nat → Nat) × (Nat → Int32) × (Nat → Int32) × (Nat → Int32) × (Nat → Int32) × (Nat → Int32)) t => va_P G.1 vwCl ((fun (u : (Nat → Nat) × (Nat → Int32) × (Nat → Int32) × (Nat → Int32) × (Nat → Int32) × (Nat → Int32)) => flat [wX6 G a (va 0) dr ia tr nr orr gr wr rb rn rf, wX3 G va v_villages v_woods v_needs v_signs v_temper v_friend v_rope v_hears v_shut v_woodBell v_woodVillage v_needVillage v_needWind v_needSeen v_sign, wI G ia (va_up f i.toNatClampNeg (some (u.1 0))), wX3 G u.1 v_villages v_woods v_needs v_signs (cpI 6 v_temper u.2.1) (cpI 6 v_friend u.2.2.1) (cpI 6 v_rope u.2.2.2.1) (cpI 24 v_hears u.2.2.2.2.1) (cpI 6 v_shut u.2.2.2.2.2) (cpI 8 v_woodBell (fun _ => 0)) (cpI 8 v_woodVillage (fun _ => 0)) (cpI 12 v_needVillage (fun _ => 0)) (cpI 12 v_needWind (fun _ => 0)) (cpI 12 v_needSeen (fun _ => 0)) (cpI 6 v_sign (fun _ => 0))]) u) t.heap ∧ va_D A9 ((fun (u : (Nat → Nat) × (Nat → Int32) × (Nat → Int32) × (Nat → Int32) × (Nat → Int32) × (Nat → Int32)) => flat [wX6 G a (va 0) dr ia tr nr orr gr wr rb rn rf, wX3 G va v_villages v_woods v_needs v_signs v_temper v_friend v_rope v_hears v_shut v_woodBell v_woodVillage v_needVillage v_needWind v_needSeen v_sign, wI G ia (va_up f i.toNatClampNeg (some (u.1 0))), wX3 G u.1 v_villages v_woods v_needs v_signs (cpI 6 v_temper u.2.1) (cpI 6 v_friend u.2.2.1) (cpI 6 v_rope u.2.2.2.1) (cpI 24 v_hears u.2.2.2.2.1) (cpI 6 v_shut u.2.2.2.2.2) (cpI 8 v_woodBell (fun _ => 0)) (cpI 8 v_woodVillage (fun _ => 0)) (cpI 12 v_needVillage (fun _ => 0)) (cpI 12 v_needWind (fun _ => 0)) (cpI 12 v_needSeen (fun _ => 0)) (cpI 6 v_sign (fun _ => 0))]) u)) A9) (by decide) rfl (Nat.le_of_ble_eq_true rfl) ?_
  intro p e s m args below meth c A ls C hmn hAA hP hD hS hl
  obtain ⟨⟨hx, hb, hml, hown, hts⟩, hr, hlocks, hK, hN, hE, hA⟩ := id C
  have hl : lv_has ls 2 [(0, .ref (a 0)), (1, .int i)] := hl
  refine lv_iload_n hx hb dX6_image_0 rfl (lv_at hl 1 rfl) ?_
  refine lv_if_lt (tgt := 9) hx hb dX6_image_1 (by decide) (fun c1 => absurd c1 h0) (fun c1 => ?_)
  refine lv_iload_n hx hb dX6_image_4 rfl (lv_at hl 1 rfl) ?_
  refine lv_iconst (v := 2) hx hb dX6_image_5 (by decide) ?_
  refine lv_icmp_lt (tgt := 16) hx hb dX6_image_6 (by decide) (fun c2 => ?_) (fun c2 => absurd h2 c2)
  refine lv_aload_n hx hb dX6_image_16 rfl (lv_at hl 0 rfl) ?_
  refine va_get (D := G.1) (ci := 6) (v := .ref ia) (C := RX6) (T := TX6) (N := 11) hx hb hts iiX6_image_X6 hown hK hP 0 rfl rfl 2 (by decide) (hts _ mmX6_image_im) (fun _ h9 => h9) rfl dX6_image_17 ?_
  refine lv_iload_n hx hb dX6_image_20 rfl (lv_at hl 1 rfl) ?_
  refine va_aldq (C := "BlindBells$Valley") hx hb hK hP 13 3 rfl rfl hin dX6_image_21 ?_
  rw [hfi]
  refine lv_ifnonnullN hx hb dX6_image_22 ?_
  refine lv_aload_n hx hb dX6_image_25 rfl (lv_at hl 0 rfl) ?_
  refine va_get (D := G.1) (ci := 6) (v := .ref ia) (C := RX6) (T := TX6) (N := 11) hx hb hts iiX6_image_X6 hown hK hP 0 rfl rfl 2 (by decide) (hts _ mmX6_image_im) (fun _ h9 => h9) rfl dX6_image_26 ?_
  refine lv_iload_n hx hb dX6_image_29 rfl (lv_at hl 1 rfl) ?_
  refine va_new (ci := 3) (fs := [.int 0, .int 0, .int 0, .int 0, .null, .null, .null, .null, .null, .null, .null, .null, .null, .null, .null]) (C := RX3) (T := TX3) (N := 15) hx hb hts iiX6_image_X3 tyX3 tyX3_ok hown (hts (.classLink RX6 9 RX3) (by decide +kernel)) (hts (.instantiable RX3 15) (by decide +kernel)) (hts (.initialized RX3) (by decide +kernel)) hK hP hD hS hA rfl vfX3 (Nat.le_of_ble_eq_true rfl) (Nat.le_of_ble_eq_true rfl) dX6_image_30 (fun q H hPq hDq hSq => ?_)
  refine W.widen (k := 1) (n := 15) (by decide) (by decide) ?_
  refine lv_dup hx hb dX6_image_33 rfl ?_
  refine kI C hPq hDq hSq (tX3_init l G q) gX6_image_X3_init (hts (.methodLink RX6 11 yX3_init) (by decide +kernel)) (hts (.instanceMethod yX3_init) (by decide +kernel)) (hts (.initialized RX3) (by decide +kernel)) rfl ⟨rfl, rfl⟩ rfl hdX3_init ⟨Nat.le_of_ble_eq_true rfl, Nat.le_of_ble_eq_true rfl⟩ hl.1 (Nat.le_of_ble_eq_true rfl) ⟨Nat.le_of_ble_eq_true rfl, Nat.le_of_ble_eq_true rfl⟩ dX6_image_34 (fun u H locs hu hP hD hS => ?_)
  obtain ⟨rfl, hu2⟩ := hu
  have hP : va_P G.1 vwCl (flat [wX6 G a (va 0) dr ia tr nr orr gr wr rb rn rf, wX3 G va v_villages v_woods v_needs v_signs v_temper v_friend v_rope v_hears v_shut v_woodBell v_woodVillage v_needVillage v_needWind v_needSeen v_sign, wI G ia f, wX3 G u.1 4 0 0 0 u.2.1 u.2.2.1 u.2.2.2.1 u.2.2.2.2.1 u.2.2.2.2.2 (fun _ => 0) (fun _ => 0) (fun _ => 0) (fun _ => 0) (fun _ => 0) (fun _ => 0)]) H := hP
  have hD : va_D A (flat [wX6 G a (va 0) dr ia tr nr orr gr wr rb rn rf, wX3 G va v_villages v_woods v_needs v_signs v_temper v_friend v_rope v_hears v_shut v_woodBell v_woodVillage v_needVillage v_needWind v_needSeen v_sign, wI G ia f, wX3 G u.1 4 0 0 0 u.2.1 u.2.2.1 u.2.2.2.1 u.2.2.2.2.1 u.2.2.2.2.2 (fun _ => 0) (fun _ => 0) (fun _ => 0) (fun _ => 0) (fun _ => 0) (fun _ => 0)]) := hD
  refine W.widen (k := 12) (n := 121) (by decide) (by decide) ?_
  refine va_astq (r := (RX3, TX3, 15)) hx hb hK hP hD hS 13 3 14 3 rfl rfl rfl rfl hin dX6_image_37 (fun H locs hP hD hS => ?_)
  have hP : va_P G.1 vwCl (flat [wX6 G a (va 0) dr ia tr nr orr gr wr rb rn rf, wX3 G va v_villages v_woods v_needs v_signs v_temper v_friend v_rope v_hears v_shut v_woodBell v_woodVillage v_needVillage v_needWind v_needSeen v_sign, wI G ia (va_up f i.toNatClampNeg (some (u.1 0))), wX3 G u.1 4 0 0 0 u.2.1 u.2.2.1 u.2.2.2.1 u.2.2.2.2.1 u.2.2.2.2.2 (fun _ => 0) (fun _ => 0) (fun _ => 0) (fun _ => 0) (fun _ => 0) (fun _ => 0)]) H := hP
  have hD : va_D A (flat [wX6 G a (va 0) dr ia tr nr orr gr wr rb rn rf, wX3 G va v_villages v_woods v_needs v_signs v_temper v_friend v_rope v_hears v_shut v_woodBell v_woodVillage v_needVillage v_needWind v_needSeen v_sign, wI G ia (va_up f i.toNatClampNeg (some (u.1 0))), wX3 G u.1 4 0 0 0 u.2.1 u.2.2.1 u.2.2.2.1 u.2.2.2.2.1 u.2.2.2.2.2 (fun _ => 0) (fun _ => 0) (fun _ => 0) (fun _ => 0) (fun _ => 0) (fun _ => 0)]) := hD
  refine lv_aload_n hx hb dX6_image_38 rfl (lv_at hl 0 rfl) ?_
  refine va_get (D := G.1) (ci := 6) (v := .ref ia) (C := RX6) (T := TX6) (N := 11) hx hb hts iiX6_image_X6 hown hK hP 0 rfl rfl 2 (by decide) (hts _ mmX6_image_im) (fun _ h9 => h9) rfl dX6_image_39 ?_
  refine lv_iload_n hx hb dX6_image_42 rfl (lv_at hl 1 rfl) ?_
  refine va_aldq (C := "BlindBells$Valley") hx hb hK hP 13 3 rfl rfl hin dX6_image_43 ?_
  rw [va_up_self]
  refine lv_aload_n hx hb dX6_image_44 rfl (lv_at hl 0 rfl) ?_
  refine va_get (D := G.1) (ci := 6) (v := .ref (va 0)) (C := RX6) (T := TX6) (N := 11) hx hb hts iiX6_image_X6 hown hK hP 0 rfl rfl 0 (by decide) (hts _ mmX6_image_va) (fun _ h9 => h9) rfl dX6_image_45 ?_
  refine bVv (Bs' := [wX6 G a (va 0) dr ia tr nr orr gr wr rb rn rf, wX3 G va v_villages v_woods v_needs v_signs v_temper v_friend v_rope v_hears v_shut v_woodBell v_woodVillage v_needVillage v_needWind v_needSeen v_sign, wI G ia (va_up f i.toNatClampNeg (some (u.1 0))), wX3 G u.1 v_villages v_woods v_needs v_signs (cpI 6 v_temper u.2.1) (cpI 6 v_friend u.2.2.1) (cpI 6 v_rope u.2.2.2.1) (cpI 24 v_hears u.2.2.2.2.1) (cpI 6 v_shut u.2.2.2.2.2) (cpI 8 v_woodBell (fun _ => 0)) (cpI 8 v_woodVillage (fun _ => 0)) (cpI 12 v_needVillage (fun _ => 0)) (cpI 12 v_needWind (fun _ => 0)) (cpI 12 v_needSeen (fun _ => 0)) (cpI 6 v_sign (fun _ => 0))]) C hP hD hS (tX3_copy l G u.1 va 4 0 0 0 u.2.1 u.2.2.1 u.2.2.2.1 u.2.2.2.2.1 u.2.2.2.2.2 (fun _ => 0) (fun _ => 0) (fun _ => 0) (fun _ => 0) (fun _ => 0) (fun _ => 0) v_villages v_woods v_needs v_signs v_temper v_friend v_rope v_hears v_shut v_woodBell v_woodVillage v_needVillage v_needWind v_needSeen v_sign (v_villages, v_woods, v_needs, v_signs, cpI 6 v_temper u.2.1, cpI 6 v_friend u.2.2.1, cpI 6 v_rope u.2.2.2.1, cpI 24 v_hears u.2.2.2.2.1, cpI 6 v_shut u.2.2.2.2.2, cpI 8 v_woodBell (fun _ => 0), cpI 8 v_woodVillage (fun _ => 0), cpI 12 v_needVillage (fun _ => 0), cpI 12 v_needWind (fun _ => 0), cpI 12 v_needSeen (fun _ => 0), cpI 6 v_sign (fun _ => 0)) rfl) gX6_image_X3_copy rfl ⟨rfl, rfl⟩ hdX3_copy ⟨Nat.le_of_ble_eq_true rfl, Nat.le_of_ble_eq_true rfl⟩ rfl hl.1 rfl (Nat.le_of_ble_eq_true rfl) ⟨Nat.le_of_ble_eq_true rfl, Nat.le_of_ble_eq_true rfl⟩ [3, 1] rfl rfl rfl rfl rfl (ci := 3) (q0 := 14) rfl rfl rfl dX6_image_48 (fun H locs hP hD hS => ?_)
  refine lv_iconst (v := 1) hx hb dX6_image_51 (by decide) ?_
  exact W.iret hx hb hr (fun t ht hW => ⟨⟨1, u, rfl, rfl, by rw [ht]; exact hP, hD⟩, hS.F ht⟩) hS.2.2 dX6_image_52 hlocks
