/-! RX6 has(II)Z -/
theorem hdX6_has : yX6_has.cls ≠ "java/lang/invoke/MethodHandle" ∧ yX6_has.cls ≠ "java/lang/invoke/VarHandle" ∧ (parseMethodDescriptor yX6_has.desc).map (fun d => d.parameters.length) = some 2 := by decide +kernel
abbrev rmX6_has : Room := { frames := 0, cells := 0, slots := 0, locals := 0 }
def fX6_has (p0 : Int32) (p1 : Int32) : Option (Int32) := (if ((p0 >>> (p1 &&& 31)) &&& 1) = 0 then some 0 else some 1)
set_option maxHeartbeats 4000000 in
set_option maxRecDepth 100000 in
theorem tX6_has (l : Launch) (G : GG) (p0 : Int32) (p1 : Int32) (out : Int32) (hf : fX6_has p0 p1 = some out) : cMi l G yX6_has wsX6_has rmX6_has [.int p0, .int p1] (([] : va_W)) out (([] : va_W)) := by
  intro sz
  refine met_of (cc := cX6_has) (nL := 2) (ret := (some .boolean)) (Qc := fun A9 => QI G A9 out (([] : va_W))) (by decide) rfl (Nat.le_of_ble_eq_true rfl) ?_
  intro p e s m args below meth c A ls C hP hD hS hl
  obtain ⟨⟨hx, hb, hml, hown, hts⟩, hr, hlocks, hK, hN, hE, hA⟩ := id C
  have hl : lv_has ls 2 [(0, .int p0), (1, .int p1)] := hl
  unfold fX6_has at hf
  refine lv_iload_n hx hb dX6_has_0 rfl (lv_at hl 0 rfl) ?_
  refine lv_iload_n hx hb dX6_has_1 rfl (lv_at hl 1 rfl) ?_
  refine lv_ishr hx hb dX6_has_2 ?_
  refine lv_iconst (v := 1) hx hb dX6_has_3 (by decide) ?_
  refine lv_iand hx hb dX6_has_4 ?_
  refine lv_if_eq (tgt := 12) hx hb dX6_has_5 (by decide) (fun c1 => ?_) (fun c1 => ?_)
  · have hf := (o_i hf).1 c1
    refine lv_iconst (v := 0) hx hb dX6_has_12 (by decide) ?_
    have e9 := o_s hf
    subst e9
    exact rt_z C hP hS rfl rfl dX6_has_13
  have hf := (o_i hf).2 c1
  refine lv_iconst (v := 1) hx hb dX6_has_8 (by decide) ?_
  refine lv_goto (tgt := 13) hx hb dX6_has_9 (by decide) ?_
  have e9 := o_s hf
  subst e9
  exact rt_z C hP hS rfl rfl dX6_has_13

/-! RX6 pair(II)I -/
theorem hdX6_pair : yX6_pair.cls ≠ "java/lang/invoke/MethodHandle" ∧ yX6_pair.cls ≠ "java/lang/invoke/VarHandle" ∧ (parseMethodDescriptor yX6_pair.desc).map (fun d => d.parameters.length) = some 2 := by decide +kernel
abbrev rmX6_pair : Room := { frames := 0, cells := 0, slots := 0, locals := 0 }
def fX6_pair (p0 : Int32) (p1 : Int32) : Option (Int32) := some ((p0 * 6) + p1)
set_option maxHeartbeats 4000000 in
set_option maxRecDepth 100000 in
theorem tX6_pair (l : Launch) (G : GG) (p0 : Int32) (p1 : Int32) (out : Int32) (hf : fX6_pair p0 p1 = some out) : cMi l G yX6_pair wsX6_pair rmX6_pair [.int p0, .int p1] (([] : va_W)) out (([] : va_W)) := by
  intro sz
  refine met_of (cc := cX6_pair) (nL := 2) (ret := (some .int)) (Qc := fun A9 => QI G A9 out (([] : va_W))) (by decide) rfl (Nat.le_of_ble_eq_true rfl) ?_
  intro p e s m args below meth c A ls C hP hD hS hl
  obtain ⟨⟨hx, hb, hml, hown, hts⟩, hr, hlocks, hK, hN, hE, hA⟩ := id C
  have hl : lv_has ls 2 [(0, .int p0), (1, .int p1)] := hl
  unfold fX6_pair at hf
  refine lv_iload_n hx hb dX6_pair_0 rfl (lv_at hl 0 rfl) ?_
  refine lv_bipush (v := 6) hx hb dX6_pair_1 (by decide) ?_
  refine lv_imul hx hb dX6_pair_3 ?_
  refine lv_iload_n hx hb dX6_pair_4 rfl (lv_at hl 1 rfl) ?_
  refine lv_iadd hx hb dX6_pair_5 ?_
  have e9 := o_s hf
  subst e9
  exact rt_i C hP hS rfl dX6_pair_6

/-! RX6 isWind(I)Z -/
theorem hdX6_isWind : yX6_isWind.cls ≠ "java/lang/invoke/MethodHandle" ∧ yX6_isWind.cls ≠ "java/lang/invoke/VarHandle" ∧ (parseMethodDescriptor yX6_isWind.desc).map (fun d => d.parameters.length) = some 1 := by decide +kernel
abbrev rmX6_isWind : Room := { frames := 0, cells := 0, slots := 0, locals := 0 }
def fX6_isWind (p0 : Int32) : Option (Int32) := (if p0 < 0 then some 0 else (if 4 ≤ p0 then some 0 else some 1))
set_option maxHeartbeats 4000000 in
set_option maxRecDepth 100000 in
theorem tX6_isWind (l : Launch) (G : GG) (p0 : Int32) (out : Int32) (hf : fX6_isWind p0 = some out) : cMi l G yX6_isWind wsX6_isWind rmX6_isWind [.int p0] (([] : va_W)) out (([] : va_W)) := by
  intro sz
  refine met_of (cc := cX6_isWind) (nL := 1) (ret := (some .boolean)) (Qc := fun A9 => QI G A9 out (([] : va_W))) (by decide) rfl (Nat.le_of_ble_eq_true rfl) ?_
  intro p e s m args below meth c A ls C hP hD hS hl
  obtain ⟨⟨hx, hb, hml, hown, hts⟩, hr, hlocks, hK, hN, hE, hA⟩ := id C
  have hl : lv_has ls 1 [(0, .int p0)] := hl
  unfold fX6_isWind at hf
  refine lv_iload_n hx hb dX6_isWind_0 rfl (lv_at hl 0 rfl) ?_
  refine lv_if_lt (tgt := 13) hx hb dX6_isWind_1 (by decide) (fun c1 => ?_) (fun c1 => ?_)
  · have hf := (o_i hf).1 c1
    refine lv_iconst (v := 0) hx hb dX6_isWind_13 (by decide) ?_
    have e9 := o_s hf
    subst e9
    exact rt_z C hP hS rfl rfl dX6_isWind_14
  have hf := (o_i hf).2 c1
  refine lv_iload_n hx hb dX6_isWind_4 rfl (lv_at hl 0 rfl) ?_
  refine lv_iconst (v := 4) hx hb dX6_isWind_5 (by decide) ?_
  refine lv_icmp_ge (tgt := 13) hx hb dX6_isWind_6 (by decide) (fun c2 => ?_) (fun c2 => ?_)
  · have hf := (o_i hf).1 c2
    refine lv_iconst (v := 0) hx hb dX6_isWind_13 (by decide) ?_
    have e9 := o_s hf
    subst e9
    exact rt_z C hP hS rfl rfl dX6_isWind_14
  have hf := (o_i hf).2 c2
  refine lv_iconst (v := 1) hx hb dX6_isWind_9 (by decide) ?_
  refine lv_goto (tgt := 14) hx hb dX6_isWind_10 (by decide) ?_
  have e9 := o_s hf
  subst e9
  exact rt_z C hP hS rfl rfl dX6_isWind_14

/-! RX3 isVillage(I)Z -/
theorem iiX3_isVillage_X3 : ∀ w ∈ wsX30, w ∈ wsX3_isVillage := by decide +kernel
theorem mmX3_isVillage_1 : (Cond.fieldLink RX3 49 "BlindBells$Valley" "villages" "I") ∈ wsX3_isVillage := by decide +kernel
theorem hdX3_isVillage : yX3_isVillage.cls = RX3 ∧ yX3_isVillage.cls ≠ "java/lang/invoke/MethodHandle" ∧ yX3_isVillage.cls ≠ "java/lang/invoke/VarHandle" ∧ (parseMethodDescriptor yX3_isVillage.desc).map (fun d => d.parameters.length) = some 1 := by decide +kernel
abbrev rmX3_isVillage : Room := { frames := 0, cells := 0, slots := 0, locals := 0 }
def fX3_isVillage (a_villages : Int32) (p0 : Int32) : Option (Int32) := (if p0 < 0 then some 0 else (if a_villages ≤ p0 then some 0 else some 1))
set_option maxHeartbeats 4000000 in
set_option maxRecDepth 100000 in
theorem tX3_isVillage (l : Launch) (G : GG) (a : Nat → Nat) (a_villages : Int32) (a_woods : Int32) (a_needs : Int32) (a_signs : Int32) (a_temper : Nat → Int32) (a_friend : Nat → Int32) (a_rope : Nat → Int32) (a_hears : Nat → Int32) (a_shut : Nat → Int32) (a_woodBell : Nat → Int32) (a_woodVillage : Nat → Int32) (a_needVillage : Nat → Int32) (a_needWind : Nat → Int32) (a_needSeen : Nat → Int32) (a_sign : Nat → Int32) (p0 : Int32) (out : Int32) (hf : fX3_isVillage a_villages p0 = some out) : cMi l G yX3_isVillage wsX3_isVillage rmX3_isVillage [.ref (a 0), .int p0] (wX3 G a a_villages a_woods a_needs a_signs a_temper a_friend a_rope a_hears a_shut a_woodBell a_woodVillage a_needVillage a_needWind a_needSeen a_sign) out (wX3 G a a_villages a_woods a_needs a_signs a_temper a_friend a_rope a_hears a_shut a_woodBell a_woodVillage a_needVillage a_needWind a_needSeen a_sign) := by
  intro sz
  refine met_of (cc := cX3_isVillage) (nL := 2) (ret := (some .boolean)) (Qc := fun A9 => QI G A9 out (wX3 G a a_villages a_woods a_needs a_signs a_temper a_friend a_rope a_hears a_shut a_woodBell a_woodVillage a_needVillage a_needWind a_needSeen a_sign)) (by decide) rfl (Nat.le_of_ble_eq_true rfl) ?_
  intro p e s m args below meth c A ls C hP hD hS hl
  obtain ⟨⟨hx, hb, hml, hown, hts⟩, hr, hlocks, hK, hN, hE, hA⟩ := id C
  have hl : lv_has ls 2 [(0, .ref (a 0)), (1, .int p0)] := hl
  unfold fX3_isVillage at hf
  refine lv_iload_n hx hb dX3_isVillage_0 rfl (lv_at hl 1 rfl) ?_
  refine lv_if_lt (tgt := 16) hx hb dX3_isVillage_1 (by decide) (fun c1 => ?_) (fun c1 => ?_)
  · have hf := (o_i hf).1 c1
    refine lv_iconst (v := 0) hx hb dX3_isVillage_16 (by decide) ?_
    have e9 := o_s hf
    subst e9
    exact rt_z C hP hS rfl rfl dX3_isVillage_17
  have hf := (o_i hf).2 c1
  refine lv_iload_n hx hb dX3_isVillage_4 rfl (lv_at hl 1 rfl) ?_
  refine lv_aload_n hx hb dX3_isVillage_5 rfl (lv_at hl 0 rfl) ?_
  refine va_get (D := G.1) (ci := 3) (v := .int a_villages) (C := RX3) (T := TX3) (N := 15) hx hb hts iiX3_isVillage_X3 hown hK hP 0 rfl rfl 0 (by decide) (hts _ mmX3_isVillage_1) (fun _ h9 => h9) rfl dX3_isVillage_6 ?_
  refine lv_icmp_ge (tgt := 16) hx hb dX3_isVillage_9 (by decide) (fun c2 => ?_) (fun c2 => ?_)
  · have hf := (o_i hf).1 c2
    refine lv_iconst (v := 0) hx hb dX3_isVillage_16 (by decide) ?_
    have e9 := o_s hf
    subst e9
    exact rt_z C hP hS rfl rfl dX3_isVillage_17
  have hf := (o_i hf).2 c2
  refine lv_iconst (v := 1) hx hb dX3_isVillage_12 (by decide) ?_
  refine lv_goto (tgt := 17) hx hb dX3_isVillage_13 (by decide) ?_
  have e9 := o_s hf
  subst e9
  exact rt_z C hP hS rfl rfl dX3_isVillage_17

/-! RX3 areTwo(II)Z -/
theorem hdX3_areTwo : yX3_areTwo.cls = RX3 ∧ yX3_areTwo.cls ≠ "java/lang/invoke/MethodHandle" ∧ yX3_areTwo.cls ≠ "java/lang/invoke/VarHandle" ∧ (parseMethodDescriptor yX3_areTwo.desc).map (fun d => d.parameters.length) = some 2 := by decide +kernel
abbrev rmX3_areTwo : Room := { frames := 1, cells := 0, slots := 0, locals := 21 }
def fX3_areTwo (a_villages : Int32) (p0 : Int32) (p1 : Int32) : Option (Int32) := (fX3_isVillage a_villages p0).bind (fun g1 => (if g1 = 0 then some 0 else (fX3_isVillage a_villages p1).bind (fun g3 => (if g3 = 0 then some 0 else (if p0 = p1 then some 0 else some 1)))))
set_option maxHeartbeats 4000000 in
set_option maxRecDepth 100000 in
theorem tX3_areTwo (l : Launch) (G : GG) (a : Nat → Nat) (a_villages : Int32) (a_woods : Int32) (a_needs : Int32) (a_signs : Int32) (a_temper : Nat → Int32) (a_friend : Nat → Int32) (a_rope : Nat → Int32) (a_hears : Nat → Int32) (a_shut : Nat → Int32) (a_woodBell : Nat → Int32) (a_woodVillage : Nat → Int32) (a_needVillage : Nat → Int32) (a_needWind : Nat → Int32) (a_needSeen : Nat → Int32) (a_sign : Nat → Int32) (p0 : Int32) (p1 : Int32) (out : Int32) (hf : fX3_areTwo a_villages p0 p1 = some out) : cMi l G yX3_areTwo wsX3_areTwo rmX3_areTwo [.ref (a 0), .int p0, .int p1] (wX3 G a a_villages a_woods a_needs a_signs a_temper a_friend a_rope a_hears a_shut a_woodBell a_woodVillage a_needVillage a_needWind a_needSeen a_sign) out (wX3 G a a_villages a_woods a_needs a_signs a_temper a_friend a_rope a_hears a_shut a_woodBell a_woodVillage a_needVillage a_needWind a_needSeen a_sign) := by
  intro sz
  refine met_of (cc := cX3_areTwo) (nL := 3) (ret := (some .boolean)) (Qc := fun A9 => QI G A9 out (wX3 G a a_villages a_woods a_needs a_signs a_temper a_friend a_rope a_hears a_shut a_woodBell a_woodVillage a_needVillage a_needWind a_needSeen a_sign)) (by decide) rfl (Nat.le_of_ble_eq_true rfl) ?_
  intro p e s m args below meth c A ls C hP hD hS hl
  obtain ⟨⟨hx, hb, hml, hown, hts⟩, hr, hlocks, hK, hN, hE, hA⟩ := id C
  have hl : lv_has ls 3 [(0, .ref (a 0)), (1, .int p0), (2, .int p1)] := hl
  unfold fX3_areTwo at hf
  refine lv_aload_n hx hb dX3_areTwo_0 rfl (lv_at hl 0 rfl) ?_
  refine lv_iload_n hx hb dX3_areTwo_1 rfl (lv_at hl 1 rfl) ?_
  obtain ⟨g1, hg1, hf⟩ := o_b hf
  refine kVi C hP hD hS (tX3_isVillage l G a a_villages a_woods a_needs a_signs a_temper a_friend a_rope a_hears a_shut a_woodBell a_woodVillage a_needVillage a_needWind a_needSeen a_sign p0 g1 hg1) gX3_areTwo_X3_isVillage rfl ⟨rfl, rfl⟩ hdX3_isVillage ⟨Nat.le_of_ble_eq_true rfl, Nat.le_of_ble_eq_true rfl⟩ rfl hl.1 rfl (Nat.le_of_ble_eq_true rfl) ⟨Nat.le_of_ble_eq_true rfl, Nat.le_of_ble_eq_true rfl⟩ [0, 1, 2, 3, 4, 5, 6, 7, 8, 9, 10, 11] rfl rfl rfl (setM_same _ _ _ rfl) (ci := 3) (q0 := 0) rfl rfl rfl dX3_areTwo_2 (fun H locs hP hD hS => ?_)
  refine lv_if_eq (tgt := 25) hx hb dX3_areTwo_5 (by decide) (fun c2 => ?_) (fun c2 => ?_)
  · have hf := (o_i hf).1 c2
    refine lv_iconst (v := 0) hx hb dX3_areTwo_25 (by decide) ?_
    have e9 := o_s hf
    subst e9
    exact rt_z C hP hS rfl rfl dX3_areTwo_26
  have hf := (o_i hf).2 c2
  refine lv_aload_n hx hb dX3_areTwo_8 rfl (lv_at hl 0 rfl) ?_
  refine lv_iload_n hx hb dX3_areTwo_9 rfl (lv_at hl 2 rfl) ?_
  obtain ⟨g3, hg3, hf⟩ := o_b hf
  refine kVi C hP hD hS (tX3_isVillage l G a a_villages a_woods a_needs a_signs a_temper a_friend a_rope a_hears a_shut a_woodBell a_woodVillage a_needVillage a_needWind a_needSeen a_sign p1 g3 hg3) gX3_areTwo_X3_isVillage rfl ⟨rfl, rfl⟩ hdX3_isVillage ⟨Nat.le_of_ble_eq_true rfl, Nat.le_of_ble_eq_true rfl⟩ rfl hl.1 rfl (Nat.le_of_ble_eq_true rfl) ⟨Nat.le_of_ble_eq_true rfl, Nat.le_of_ble_eq_true rfl⟩ [0, 1, 2, 3, 4, 5, 6, 7, 8, 9, 10, 11] rfl rfl rfl (setM_same _ _ _ rfl) (ci := 3) (q0 := 0) rfl rfl rfl dX3_areTwo_10 (fun H locs hP hD hS => ?_)
  refine lv_if_eq (tgt := 25) hx hb dX3_areTwo_13 (by decide) (fun c4 => ?_) (fun c4 => ?_)
  · have hf := (o_i hf).1 c4
    refine lv_iconst (v := 0) hx hb dX3_areTwo_25 (by decide) ?_
    have e9 := o_s hf
    subst e9
    exact rt_z C hP hS rfl rfl dX3_areTwo_26
  have hf := (o_i hf).2 c4
  refine lv_iload_n hx hb dX3_areTwo_16 rfl (lv_at hl 1 rfl) ?_
  refine lv_iload_n hx hb dX3_areTwo_17 rfl (lv_at hl 2 rfl) ?_
  refine lv_icmp_eq (tgt := 25) hx hb dX3_areTwo_18 (by decide) (fun c5 => ?_) (fun c5 => ?_)
  · have hf := (o_i hf).1 c5
    refine lv_iconst (v := 0) hx hb dX3_areTwo_25 (by decide) ?_
    have e9 := o_s hf
    subst e9
    exact rt_z C hP hS rfl rfl dX3_areTwo_26
  have hf := (o_i hf).2 c5
  refine lv_iconst (v := 1) hx hb dX3_areTwo_21 (by decide) ?_
  refine lv_goto (tgt := 26) hx hb dX3_areTwo_22 (by decide) ?_
  have e9 := o_s hf
  subst e9
  exact rt_z C hP hS rfl rfl dX3_areTwo_26

/-! RX3 heardIn(II)I -/
theorem iiX3_heardIn_X3 : ∀ w ∈ wsX30, w ∈ wsX3_heardIn := by decide +kernel
theorem mmX3_heardIn_1 : (Cond.fieldLink RX3 21 "BlindBells$Valley" "hears" "[I") ∈ wsX3_heardIn := by decide +kernel
theorem mmX3_heardIn_2 : (Cond.fieldLink RX3 24 "BlindBells$Valley" "shut" "[I") ∈ wsX3_heardIn := by decide +kernel
theorem hdX3_heardIn : yX3_heardIn.cls = RX3 ∧ yX3_heardIn.cls ≠ "java/lang/invoke/MethodHandle" ∧ yX3_heardIn.cls ≠ "java/lang/invoke/VarHandle" ∧ (parseMethodDescriptor yX3_heardIn.desc).map (fun d => d.parameters.length) = some 2 := by decide +kernel
abbrev rmX3_heardIn : Room := { frames := 0, cells := 0, slots := 0, locals := 0 }
def fX3_heardIn (a_hears : Nat → Int32) (a_shut : Nat → Int32) (p0 : Int32) (p1 : Int32) : Option (Int32) := (rdI 24 a_hears ((p0 * 4) + p1)).bind (fun z1 => (rdI 6 a_shut p0).bind (fun z2 => some (z1 &&& (z2 ^^^ ((-1))))))
set_option maxHeartbeats 4000000 in
set_option maxRecDepth 100000 in
theorem tX3_heardIn (l : Launch) (G : GG) (a : Nat → Nat) (a_villages : Int32) (a_woods : Int32) (a_needs : Int32) (a_signs : Int32) (a_temper : Nat → Int32) (a_friend : Nat → Int32) (a_rope : Nat → Int32) (a_hears : Nat → Int32) (a_shut : Nat → Int32) (a_woodBell : Nat → Int32) (a_woodVillage : Nat → Int32) (a_needVillage : Nat → Int32) (a_needWind : Nat → Int32) (a_needSeen : Nat → Int32) (a_sign : Nat → Int32) (p0 : Int32) (p1 : Int32) (out : Int32) (hf : fX3_heardIn a_hears a_shut p0 p1 = some out) : cMi l G yX3_heardIn wsX3_heardIn rmX3_heardIn [.ref (a 0), .int p0, .int p1] (wX3 G a a_villages a_woods a_needs a_signs a_temper a_friend a_rope a_hears a_shut a_woodBell a_woodVillage a_needVillage a_needWind a_needSeen a_sign) out (wX3 G a a_villages a_woods a_needs a_signs a_temper a_friend a_rope a_hears a_shut a_woodBell a_woodVillage a_needVillage a_needWind a_needSeen a_sign) := by
  intro sz
  refine met_of (cc := cX3_heardIn) (nL := 3) (ret := (some .int)) (Qc := fun A9 => QI G A9 out (wX3 G a a_villages a_woods a_needs a_signs a_temper a_friend a_rope a_hears a_shut a_woodBell a_woodVillage a_needVillage a_needWind a_needSeen a_sign)) (by decide) rfl (Nat.le_of_ble_eq_true rfl) ?_
  intro p e s m args below meth c A ls C hP hD hS hl
  obtain ⟨⟨hx, hb, hml, hown, hts⟩, hr, hlocks, hK, hN, hE, hA⟩ := id C
  have hl : lv_has ls 3 [(0, .ref (a 0)), (1, .int p0), (2, .int p1)] := hl
  unfold fX3_heardIn at hf
  refine lv_aload_n hx hb dX3_heardIn_0 rfl (lv_at hl 0 rfl) ?_
  refine va_get (D := G.1) (ci := 3) (v := .ref (a 4)) (C := RX3) (T := TX3) (N := 15) hx hb hts iiX3_heardIn_X3 hown hK hP 0 rfl rfl 7 (by decide) (hts _ mmX3_heardIn_1) (fun _ h9 => h9) rfl dX3_heardIn_1 ?_
  refine lv_iload_n hx hb dX3_heardIn_4 rfl (lv_at hl 1 rfl) ?_
  refine lv_iconst (v := 4) hx hb dX3_heardIn_5 (by decide) ?_
  refine lv_imul hx hb dX3_heardIn_6 ?_
  refine lv_iload_n hx hb dX3_heardIn_7 rfl (lv_at hl 2 rfl) ?_
  refine lv_iadd hx hb dX3_heardIn_8 ?_
  obtain ⟨z1, hz1, hf⟩ := o_b hf
  refine k_iald hx hb hK hP 4 0 rfl rfl hz1 dX3_heardIn_9 ?_
  refine lv_aload_n hx hb dX3_heardIn_10 rfl (lv_at hl 0 rfl) ?_
  refine at_pc (pc' := 11) rfl ?_
  refine va_get (D := G.1) (ci := 3) (v := .ref (a 5)) (C := RX3) (T := TX3) (N := 15) hx hb hts iiX3_heardIn_X3 hown hK hP 0 rfl rfl 8 (by decide) (hts _ mmX3_heardIn_2) (fun _ h9 => h9) rfl dX3_heardIn_11 ?_
  refine lv_iload_n hx hb dX3_heardIn_14 rfl (lv_at hl 1 rfl) ?_
  obtain ⟨z2, hz2, hf⟩ := o_b hf
  refine k_iald hx hb hK hP 5 0 rfl rfl hz2 dX3_heardIn_15 ?_
  refine lv_iconst (v := (-1)) hx hb dX3_heardIn_16 (by decide) ?_
  refine lv_ixor hx hb dX3_heardIn_17 ?_
  refine lv_iand hx hb dX3_heardIn_18 ?_
  have e9 := o_s hf
  subst e9
  exact rt_i C hP hS rfl dX3_heardIn_19

/-! RX3 heardInAnyWind(I)I -/
theorem hdX3_heardInAnyWind : yX3_heardInAnyWind.cls = RX3 ∧ yX3_heardInAnyWind.cls ≠ "java/lang/invoke/MethodHandle" ∧ yX3_heardInAnyWind.cls ≠ "java/lang/invoke/VarHandle" ∧ (parseMethodDescriptor yX3_heardInAnyWind.desc).map (fun d => d.parameters.length) = some 1 := by decide +kernel
abbrev rmX3_heardInAnyWind : Room := { frames := 1, cells := 0, slots := 0, locals := 22 }
def fX3_heardInAnyWind_4 (p0 : Int32) (a_hears : Nat → Int32) (a_shut : Nat → Int32) (kx : Int32 → Int32 → Option (Int32)) : Nat → Int32 → Int32 → Option (Int32)
  | 0, _, _ => none
  | n + 1, x2_4, x3_4 => (if 4 ≤ x3_4 then (kx x2_4 x3_4) else (fX3_heardIn a_hears a_shut p0 x3_4).bind (fun g2 => (fX3_heardInAnyWind_4 p0 a_hears a_shut kx n (x2_4 ||| g2) (x3_4 + 1))))
def fX3_heardInAnyWind (a_hears : Nat → Int32) (a_shut : Nat → Int32) (p0 : Int32) : Option (Int32) := (fX3_heardInAnyWind_4 p0 a_hears a_shut (fun x2_4_3 x3_4_4 => some x2_4_3) fu 0 0 )
set_option maxHeartbeats 4000000 in
set_option maxRecDepth 100000 in
theorem lX3_heardInAnyWind_4 {p : Program} {e : Env} {s : State} {m : MethodId} {args : Array Value} {below : List Frame} {meth : Method} {c : Code} {A : Nat → Prop} (l : Launch) (G : GG) (C : Cx p m c cX3_heardInAnyWind 4 s args wsX3_heardInAnyWind RX3 meth (some .int) G A) (a : Nat → Nat) (a_villages : Int32) (a_woods : Int32) (a_needs : Int32) (a_signs : Int32) (a_temper : Nat → Int32) (a_friend : Nat → Int32) (a_rope : Nat → Int32) (a_hears : Nat → Int32) (a_shut : Nat → Int32) (a_woodBell : Nat → Int32) (a_woodVillage : Nat → Int32) (a_needVillage : Nat → Int32) (a_needWind : Nat → Int32) (a_needSeen : Nat → Int32) (a_sign : Nat → Int32) (p0 : Int32) (out : Int32) (kx : Int32 → Int32 → Option (Int32)) (HX : ∀ (x2_4 : Int32) (x3_4 : Int32) (H : Heap) (locs : List Loc) (ls : Array Slot), va_P G.1 vwCl (wX3 G a a_villages a_woods a_needs a_signs a_temper a_friend a_rope a_hears a_shut a_woodBell a_woodVillage a_needVillage a_needWind a_needSeen a_sign) H → va_D A (wX3 G a a_villages a_woods a_needs a_signs a_temper a_friend a_rope a_hears a_shut a_woodBell a_woodVillage a_needVillage a_needWind a_needSeen a_sign) → va_S A s.heap H locs → lv_has ls 4 [(0, .ref (a 0)), (1, .int p0), (2, .int x2_4), (3, .int x3_4)] → kx x2_4 x3_4 = some out → W p l e rmX3_heardInAnyWind s m args below meth c H locs 0 0 (MQ below (QI G A out (wX3 G a a_villages a_woods a_needs a_signs a_temper a_friend a_rope a_hears a_shut a_woodBell a_woodVillage a_needVillage a_needWind a_needSeen a_sign)) args s 0 0 A) (F0 m 24 ls [])) : ∀ (n : Nat) (x2_4 : Int32) (x3_4 : Int32) (H : Heap) (locs : List Loc) (ls : Array Slot), va_P G.1 vwCl (wX3 G a a_villages a_woods a_needs a_signs a_temper a_friend a_rope a_hears a_shut a_woodBell a_woodVillage a_needVillage a_needWind a_needSeen a_sign) H → va_D A (wX3 G a a_villages a_woods a_needs a_signs a_temper a_friend a_rope a_hears a_shut a_woodBell a_woodVillage a_needVillage a_needWind a_needSeen a_sign) → va_S A s.heap H locs → lv_has ls 4 [(0, .ref (a 0)), (1, .int p0), (2, .int x2_4), (3, .int x3_4)] → fX3_heardInAnyWind_4 p0 a_hears a_shut kx n x2_4 x3_4 = some out → W p l e rmX3_heardInAnyWind s m args below meth c H locs 0 0 (MQ below (QI G A out (wX3 G a a_villages a_woods a_needs a_signs a_temper a_friend a_rope a_hears a_shut a_woodBell a_woodVillage a_needVillage a_needWind a_needSeen a_sign)) args s 0 0 A) (F0 m 4 ls []) := by
  obtain ⟨⟨hx, hb, hml, hown, hts⟩, hr, hlocks, hK, hN, hE, hA⟩ := id C
  intro n
  induction n with
  | zero =>
    intro x2_4 x3_4 H locs ls hP hD hS hl hf
    exact absurd (show (none : Option (Int32)) = some out from hf) (by intro q9; cases q9)
  | succ n ih =>
    intro x2_4 x3_4 H locs ls hP hD hS hl hf
    rw [fX3_heardInAnyWind_4] at hf
    refine lv_iload_n hx hb dX3_heardInAnyWind_4 rfl (lv_at hl 3 rfl) ?_
    refine lv_iconst (v := 4) hx hb dX3_heardInAnyWind_5 (by decide) ?_
    refine lv_icmp_ge (tgt := 24) hx hb dX3_heardInAnyWind_6 (by decide) (fun c1 => ?_) (fun c1 => ?_)
    · have hf := (o_i hf).1 c1
      exact HX _ _ _ _ _ hP hD hS (lv_sub hl [0, 1, 2, 3] rfl) hf
    have hf := (o_i hf).2 c1
    refine lv_iload_n hx hb dX3_heardInAnyWind_9 rfl (lv_at hl 2 rfl) ?_
    refine lv_aload_n hx hb dX3_heardInAnyWind_10 rfl (lv_at hl 0 rfl) ?_
    refine lv_iload_n hx hb dX3_heardInAnyWind_11 rfl (lv_at hl 1 rfl) ?_
    refine lv_iload_n hx hb dX3_heardInAnyWind_12 rfl (lv_at hl 3 rfl) ?_
    obtain ⟨g2, hg2, hf⟩ := o_b hf
    refine kVi C hP hD hS (tX3_heardIn l G a a_villages a_woods a_needs a_signs a_temper a_friend a_rope a_hears a_shut a_woodBell a_woodVillage a_needVillage a_needWind a_needSeen a_sign p0 x3_4 g2 hg2) gX3_heardInAnyWind_X3_heardIn rfl ⟨rfl, rfl⟩ hdX3_heardIn ⟨Nat.le_of_ble_eq_true rfl, Nat.le_of_ble_eq_true rfl⟩ rfl hl.1 rfl (Nat.le_of_ble_eq_true rfl) ⟨Nat.le_of_ble_eq_true rfl, Nat.le_of_ble_eq_true rfl⟩ [0, 1, 2, 3, 4, 5, 6, 7, 8, 9, 10, 11] rfl rfl rfl (setM_same _ _ _ rfl) (ci := 3) (q0 := 0) rfl rfl rfl dX3_heardInAnyWind_13 (fun H locs hP hD hS => ?_)
    refine lv_ior hx hb dX3_heardInAnyWind_16 ?_
    refine lv_istore_n (lv' := [(2, .int (x2_4 ||| g2)), (0, .ref (a 0)), (1, .int p0), (3, .int x3_4)]) hx hb dX3_heardInAnyWind_17 rfl hl (by decide) rfl (fun ls hl => ?_)
    refine lv_iinc (v := x3_4 + 1) (lv' := [(3, .int (x3_4 + 1)), (2, .int (x2_4 ||| g2)), (0, .ref (a 0)), (1, .int p0)]) hx hb dX3_heardInAnyWind_18 hl (k := 3) rfl (congrArg (fun z => x3_4 + z) (by decide)) (by decide) rfl (fun ls hl => ?_)
    refine lv_goto (tgt := 4) hx hb dX3_heardInAnyWind_21 (by decide) ?_
    exact ih _ _ _ _ _ hP hD hS (lv_sub hl [2, 3, 1, 0] rfl) hf
set_option maxHeartbeats 4000000 in
set_option maxRecDepth 100000 in
theorem tX3_heardInAnyWind (l : Launch) (G : GG) (a : Nat → Nat) (a_villages : Int32) (a_woods : Int32) (a_needs : Int32) (a_signs : Int32) (a_temper : Nat → Int32) (a_friend : Nat → Int32) (a_rope : Nat → Int32) (a_hears : Nat → Int32) (a_shut : Nat → Int32) (a_woodBell : Nat → Int32) (a_woodVillage : Nat → Int32) (a_needVillage : Nat → Int32) (a_needWind : Nat → Int32) (a_needSeen : Nat → Int32) (a_sign : Nat → Int32) (p0 : Int32) (out : Int32) (hf : fX3_heardInAnyWind a_hears a_shut p0 = some out) : cMi l G yX3_heardInAnyWind wsX3_heardInAnyWind rmX3_heardInAnyWind [.ref (a 0), .int p0] (wX3 G a a_villages a_woods a_needs a_signs a_temper a_friend a_rope a_hears a_shut a_woodBell a_woodVillage a_needVillage a_needWind a_needSeen a_sign) out (wX3 G a a_villages a_woods a_needs a_signs a_temper a_friend a_rope a_hears a_shut a_woodBell a_woodVillage a_needVillage a_needWind a_needSeen a_sign) := by
  intro sz
  refine met_of (cc := cX3_heardInAnyWind) (nL := 4) (ret := (some .int)) (Qc := fun A9 => QI G A9 out (wX3 G a a_villages a_woods a_needs a_signs a_temper a_friend a_rope a_hears a_shut a_woodBell a_woodVillage a_needVillage a_needWind a_needSeen a_sign)) (by decide) rfl (Nat.le_of_ble_eq_true rfl) ?_
  intro p e s m args below meth c A ls C hP hD hS hl
  obtain ⟨⟨hx, hb, hml, hown, hts⟩, hr, hlocks, hK, hN, hE, hA⟩ := id C
  have hl : lv_has ls 4 [(0, .ref (a 0)), (1, .int p0)] := hl
  unfold fX3_heardInAnyWind at hf
  refine lv_iconst (v := 0) hx hb dX3_heardInAnyWind_0 (by decide) ?_
  refine lv_istore_n (lv' := [(2, .int 0), (0, .ref (a 0)), (1, .int p0)]) hx hb dX3_heardInAnyWind_1 rfl hl (by decide) rfl (fun ls hl => ?_)
  refine lv_iconst (v := 0) hx hb dX3_heardInAnyWind_2 (by decide) ?_
  refine lv_istore_n (lv' := [(3, .int 0), (2, .int 0), (0, .ref (a 0)), (1, .int p0)]) hx hb dX3_heardInAnyWind_3 rfl hl (by decide) rfl (fun ls hl => ?_)
  refine lX3_heardInAnyWind_4 l G C a a_villages a_woods a_needs a_signs a_temper a_friend a_rope a_hears a_shut a_woodBell a_woodVillage a_needVillage a_needWind a_needSeen a_sign p0 out _ (fun x2_4_3 x3_4_4 H locs ls hP hD hS hl hf => ?_) fu 0 0 _ _ _ hP hD hS (lv_sub hl [2, 3, 1, 0] rfl) hf
  refine lv_iload_n hx hb dX3_heardInAnyWind_24 rfl (lv_at hl 2 rfl) ?_
  have e9 := o_s hf
  subst e9
  exact rt_i C hP hS rfl dX3_heardInAnyWind_25

