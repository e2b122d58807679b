/-! RX3 heardIn(II)I -/
theorem iiX3_heardIn_X3 : ∀ w ∈ wsX30, w ∈ wsX3_heardIn := by decide +kernel
theorem mmX3_heardIn_1 : (Cond.fieldLink RX3 21 "BlindBells$Valley" "hears" "[I") ∈ wsX3_heardIn := by decide +kernel
theorem mmX3_heardIn_2 : (Cond.fieldLink RX3 24 "BlindBells$Valley" "shut" "[I") ∈ wsX3_heardIn := by decide +kernel
theorem hdX3_heardIn : yX3_heardIn.cls = RX3 ∧ yX3_heardIn.cls ≠ "java/lang/invoke/MethodHandle" ∧ yX3_heardIn.cls ≠ "java/lang/invoke/VarHandle" ∧ (parseMethodDescriptor yX3_heardIn.desc).map (fun d => d.parameters.length) = some 2 := by decide +kernel
abbrev rmX3_heardIn : Room := { frames := 0, cells := 0, slots := 0, locals := 0 }
set_option maxHeartbeats 4000000 in
set_option maxRecDepth 100000 in
theorem tX3_heardIn (l : Launch) (G : GG) (a : Nat → Nat) (a_villages : Int32) (a_woods : Int32) (a_needs : Int32) (a_signs : Int32) (a_temper : Nat → Int32) (a_friend : Nat → Int32) (a_rope : Nat → Int32) (a_hears : Nat → Int32) (a_shut : Nat → Int32) (a_woodBell : Nat → Int32) (a_woodVillage : Nat → Int32) (a_needVillage : Nat → Int32) (a_needWind : Nat → Int32) (a_needSeen : Nat → Int32) (a_sign : Nat → Int32) (p0 : Int32) (p1 : Int32) (out : Int32) (hf : fX3_heardIn a_hears a_shut p0 p1 = some out) : cMi l G yX3_heardIn wsX3_heardIn rmX3_heardIn [.ref (a 0), .int p0, .int p1] (flat [wX3 G a a_villages a_woods a_needs a_signs a_temper a_friend a_rope a_hears a_shut a_woodBell a_woodVillage a_needVillage a_needWind a_needSeen a_sign]) out (flat [wX3 G a a_villages a_woods a_needs a_signs a_temper a_friend a_rope a_hears a_shut a_woodBell a_woodVillage a_needVillage a_needWind a_needSeen a_sign]) := by
  intro sz
  refine met_of (cc := cX3_heardIn) (nL := 3) (ret := (some .int)) (Qc := fun A9 => QI G A9 out (flat [wX3 G a a_villages a_woods a_needs a_signs a_temper a_friend a_rope a_hears a_shut a_woodBell a_woodVillage a_needVillage a_needWind a_needSeen a_sign])) (by decide) rfl (Nat.le_of_ble_eq_true rfl) ?_
  intro p e s m args below meth c A ls C hP hD hS hl
  obtain ⟨⟨hx, hb, hml, hown, hts⟩, hr, hlocks, hK, hN, hE, hA⟩ := id C
  have hl : lv_has ls 3 [(0, .ref (a 0)), (1, .int p0), (2, .int p1)] := hl
  unfold fX3_heardIn at hf
  refine lv_aload_n hx hb dX3_heardIn_0 rfl (lv_at hl 0 rfl) ?_
  refine va_get (D := G.1) (ci := 3) (v := .ref (a 4)) (C := RX3) (T := TX3) (N := 15) hx hb hts iiX3_heardIn_X3 hown hK hP 0 rfl rfl 7 (by decide) (hts _ mmX3_heardIn_1) (fun _ h9 => h9) rfl dX3_heardIn_1 ?_
  refine lv_iload_n hx hb dX3_heardIn_4 rfl (lv_at hl 1 rfl) ?_
  refine lv_iconst (v := 4) hx hb dX3_heardIn_5 (by decide) ?_
  refine lv_imul hx hb dX3_heardIn_6 ?_
  refine lv_iload_n hx hb dX3_heardIn_7 rfl (lv_at hl 2 rfl) ?_
  refine lv_iadd hx hb dX3_heardIn_8 ?_
  obtain ⟨z1, hz1, hf⟩ := o_b hf
  refine k_iald hx hb hK hP 4 0 rfl rfl hz1 dX3_heardIn_9 ?_
  refine lv_aload_n hx hb dX3_heardIn_10 rfl (lv_at hl 0 rfl) ?_
  refine at_pc (pc' := 11) rfl ?_
  refine va_get (D := G.1) (ci := 3) (v := .ref (a 5)) (C := RX3) (T := TX3) (N := 15) hx hb hts iiX3_heardIn_X3 hown hK hP 0 rfl rfl 8 (by decide) (hts _ mmX3_heardIn_2) (fun _ h9 => h9) rfl dX3_heardIn_11 ?_
  refine lv_iload_n hx hb dX3_heardIn_14 rfl (lv_at hl 1 rfl) ?_
  obtain ⟨z2, hz2, hf⟩ := o_b hf
  refine k_iald hx hb hK hP 5 0 rfl rfl hz2 dX3_heardIn_15 ?_
  refine lv_iconst (v := (-1)) hx hb dX3_heardIn_16 (by decide) ?_
  refine lv_ixor hx hb dX3_heardIn_17 ?_
  refine lv_iand hx hb dX3_heardIn_18 ?_
  have e9 := Option.some.inj hf
  subst e9
  exact rt_i C hP hS rfl dX3_heardIn_19

/-! RX3 heardInAnyWind(I)I -/
theorem hdX3_heardInAnyWind : yX3_heardInAnyWind.cls = RX3 ∧ yX3_heardInAnyWind.cls ≠ "java/lang/invoke/MethodHandle" ∧ yX3_heardInAnyWind.cls ≠ "java/lang/invoke/VarHandle" ∧ (parseMethodDescriptor yX3_heardInAnyWind.desc).map (fun d => d.parameters.length) = some 1 := by decide +kernel
abbrev rmX3_heardInAnyWind : Room := { frames := 1, cells := 0, slots := 0, locals := 22 }
set_option maxHeartbeats 4000000 in
set_option maxRecDepth 100000 in
theorem lX3_heardInAnyWind_4 {p : Program} {e : Env} {s : State} {m : MethodId} {args : Array Value} {below : List Frame} {meth : Method} {c : Code} {A : Nat → Prop} (l : Launch) (G : GG) (C : Cx p m c cX3_heardInAnyWind 4 s args wsX3_heardInAnyWind RX3 meth (some .int) G A) (a : Nat → Nat) (a_villages : Int32) (a_woods : Int32) (a_needs : Int32) (a_signs : Int32) (a_temper : Nat → Int32) (a_friend : Nat → Int32) (a_rope : Nat → Int32) (a_hears : Nat → Int32) (a_shut : Nat → Int32) (a_woodBell : Nat → Int32) (a_woodVillage : Nat → Int32) (a_needVillage : Nat → Int32) (a_needWind : Nat → Int32) (a_needSeen : Nat → Int32) (a_sign : Nat → Int32) (p0 : Int32) (out : Int32) (kx : Int32 → Int32 → Option (Int32)) (HX : ∀ (x2_4 : Int32) (x3_4 : Int32) (H : Heap) (locs : List Loc) (ls : Array Slot), va_P G.1 vwCl (flat [wX3 G a a_villages a_woods a_needs a_signs a_temper a_friend a_rope a_hears a_shut a_woodBell a_woodVillage a_needVillage a_needWind a_needSeen a_sign]) H → va_D A (flat [wX3 G a a_villages a_woods a_needs a_signs a_temper a_friend a_rope a_hears a_shut a_woodBell a_woodVillage a_needVillage a_needWind a_needSeen a_sign]) → va_S A s.heap H locs → lv_has ls 4 [(0, .ref (a 0)), (1, .int p0), (2, .int x2_4), (3, .int x3_4)] → kx x2_4 x3_4 = some out → W p l e rmX3_heardInAnyWind s m args below meth c H locs 0 0 (MQ below (QI G A out (flat [wX3 G a a_villages a_woods a_needs a_signs a_temper a_friend a_rope a_hears a_shut a_woodBell a_woodVillage a_needVillage a_needWind a_needSeen a_sign])) args s 0 0 A) (F0 m 24 ls [])) : ∀ (n : Nat) (x2_4 : Int32) (x3_4 : Int32) (H : Heap) (locs : List Loc) (ls : Array Slot), va_P G.1 vwCl (flat [wX3 G a a_villages a_woods a_needs a_signs a_temper a_friend a_rope a_hears a_shut a_woodBell a_woodVillage a_needVillage a_needWind a_needSeen a_sign]) H → va_D A (flat [wX3 G a a_villages a_woods a_needs a_signs a_temper a_friend a_rope a_hears a_shut a_woodBell a_woodVillage a_needVillage a_needWind a_needSeen a_sign]) → va_S A s.heap H locs → lv_has ls 4 [(0, .ref (a 0)), (1, .int p0), (2, .int x2_4), (3, .int x3_4)] → fX3_heardInAnyWind_4 p0 a_hears a_shut kx n x2_4 x3_4 = some out → W p l e rmX3_heardInAnyWind s m args below meth c H locs 0 0 (MQ below (QI G A out (flat [wX3 G a a_villages a_woods a_needs a_signs a_temper a_friend a_rope a_hears a_shut a_woodBell a_woodVillage a_needVillage a_needWind a_needSeen a_sign])) args s 0 0 A) (F0 m 4 ls []) := by
  obtain ⟨⟨hx, hb, hml, hown, hts⟩, hr, hlocks, hK, hN, hE, hA⟩ := id C
  intro n
  induction n with
  | zero =>
    intro x2_4 x3_4 H locs ls hP hD hS hl hf
    exact absurd (show (none : Option (Int32)) = some out from hf) (by intro q9; cases q9)
  | succ n ih =>
    intro x2_4 x3_4 H locs ls hP hD hS hl hf
    rw [fX3_heardInAnyWind_4] at hf
    refine lv_iload_n hx hb dX3_heardInAnyWind_4 rfl (lv_at hl 3 rfl) ?_
    refine lv_iconst (v := 4) hx hb dX3_heardInAnyWind_5 (by decide) ?_
    refine lv_icmp_ge (tgt := 24) hx hb dX3_heardInAnyWind_6 (by decide) (fun c1 => ?_) (fun c1 => ?_)
    · have hf := (o_i hf).1 c1
      exact HX _ _ _ _ _ hP hD hS (lv_sub hl [0, 1, 2, 3] rfl) hf
    have hf := (o_i hf).2 c1
    refine lv_iload_n hx hb dX3_heardInAnyWind_9 rfl (lv_at hl 2 rfl) ?_
    refine lv_aload_n hx hb dX3_heardInAnyWind_10 rfl (lv_at hl 0 rfl) ?_
    refine lv_iload_n hx hb dX3_heardInAnyWind_11 rfl (lv_at hl 1 rfl) ?_
    refine lv_iload_n hx hb dX3_heardInAnyWind_12 rfl (lv_at hl 3 rfl) ?_
    obtain ⟨g2, hg2, hf⟩ := o_b hf
    refine bVi C hP hD hS (tX3_heardIn l G a a_villages a_woods a_needs a_signs a_temper a_friend a_rope a_hears a_shut a_woodBell a_woodVillage a_needVillage a_needWind a_needSeen a_sign p0 x3_4 g2 hg2) gX3_heardInAnyWind_X3_heardIn rfl ⟨rfl, rfl⟩ hdX3_heardIn ⟨Nat.le_of_ble_eq_true rfl, Nat.le_of_ble_eq_true rfl⟩ rfl hl.1 rfl (Nat.le_of_ble_eq_true rfl) ⟨Nat.le_of_ble_eq_true rfl, Nat.le_of_ble_eq_true rfl⟩ [0] rfl rfl rfl (setB_same _ _ _ rfl) rfl (ci := 3) (q0 := 0) rfl rfl rfl dX3_heardInAnyWind_13 (fun H locs hP hD hS => ?_)
    refine lv_ior hx hb dX3_heardInAnyWind_16 ?_
    refine lv_istore_n (lv' := [(2, .int (x2_4 ||| g2)), (0, .ref (a 0)), (1, .int p0), (3, .int x3_4)]) hx hb dX3_heardInAnyWind_17 rfl hl (by decide) rfl (fun ls hl => ?_)
    refine lv_iinc (v := x3_4 + 1) (lv' := [(3, .int (x3_4 + 1)), (2, .int (x2_4 ||| g2)), (0, .ref (a 0)), (1, .int p0)]) hx hb dX3_heardInAnyWind_18 hl (k := 3) rfl (congrArg (fun z => x3_4 + z) (by decide)) (by decide) rfl (fun ls hl => ?_)
    refine lv_goto (tgt := 4) hx hb dX3_heardInAnyWind_21 (by decide) ?_
    exact ih _ _ _ _ _ hP hD hS (lv_sub hl [2, 3, 1, 0] rfl) hf
set_option maxHeartbeats 4000000 in
set_option maxRecDepth 100000 in
theorem tX3_heardInAnyWind (l : Launch) (G : GG) (a : Nat → Nat) (a_villages : Int32) (a_woods : Int32) (a_needs : Int32) (a_signs : Int32) (a_temper : Nat → Int32) (a_friend : Nat → Int32) (a_rope : Nat → Int32) (a_hears : Nat → Int32) (a_shut : Nat → Int32) (a_woodBell : Nat → Int32) (a_woodVillage : Nat → Int32) (a_needVillage : Nat → Int32) (a_needWind : Nat → Int32) (a_needSeen : Nat → Int32) (a_sign : Nat → Int32) (p0 : Int32) (out : Int32) (hf : fX3_heardInAnyWind a_hears a_shut p0 = some out) : cMi l G yX3_heardInAnyWind wsX3_heardInAnyWind rmX3_heardInAnyWind [.ref (a 0), .int p0] (flat [wX3 G a a_villages a_woods a_needs a_signs a_temper a_friend a_rope a_hears a_shut a_woodBell a_woodVillage a_needVillage a_needWind a_needSeen a_sign]) out (flat [wX3 G a a_villages a_woods a_needs a_signs a_temper a_friend a_rope a_hears a_shut a_woodBell a_woodVillage a_needVillage a_needWind a_needSeen a_sign]) := by
  intro sz
  refine met_of (cc := cX3_heardInAnyWind) (nL := 4) (ret := (some .int)) (Qc := fun A9 => QI G A9 out (flat [wX3 G a a_villages a_woods a_needs a_signs a_temper a_friend a_rope a_hears a_shut a_woodBell a_woodVillage a_needVillage a_needWind a_needSeen a_sign])) (by decide) rfl (Nat.le_of_ble_eq_true rfl) ?_
  intro p e s m args below meth c A ls C hP hD hS hl
  obtain ⟨⟨hx, hb, hml, hown, hts⟩, hr, hlocks, hK, hN, hE, hA⟩ := id C
  have hl : lv_has ls 4 [(0, .ref (a 0)), (1, .int p0)] := hl
  unfold fX3_heardInAnyWind at hf
  refine lv_iconst (v := 0) hx hb dX3_heardInAnyWind_0 (by decide) ?_
  refine lv_istore_n (lv' := [(2, .int 0), (0, .ref (a 0)), (1, .int p0)]) hx hb dX3_heardInAnyWind_1 rfl hl (by decide) rfl (fun ls hl => ?_)
  refine lv_iconst (v := 0) hx hb dX3_heardInAnyWind_2 (by decide) ?_
  refine lv_istore_n (lv' := [(3, .int 0), (2, .int 0), (0, .ref (a 0)), (1, .int p0)]) hx hb dX3_heardInAnyWind_3 rfl hl (by decide) rfl (fun ls hl => ?_)
  refine lX3_heardInAnyWind_4 l G C a a_villages a_woods a_needs a_signs a_temper a_friend a_rope a_hears a_shut a_woodBell a_woodVillage a_needVillage a_needWind a_needSeen a_sign p0 out _ (fun x2_4_3 x3_4_4 H locs ls hP hD hS hl hf => ?_) fu 0 0 _ _ _ hP hD hS (lv_sub hl [2, 3, 1, 0] rfl) hf
  refine lv_iload_n hx hb dX3_heardInAnyWind_24 rfl (lv_at hl 2 rfl) ?_
  have e9 := Option.some.inj hf
  subst e9
  exact rt_i C hP hS rfl dX3_heardInAnyWind_25

/-! RX6 has(II)Z -/
theorem hdX6_has : yX6_has.cls ≠ "java/lang/invoke/MethodHandle" ∧ yX6_has.cls ≠ "java/lang/invoke/VarHandle" ∧ (parseMethodDescriptor yX6_has.desc).map (fun d => d.parameters.length) = some 2 := by decide +kernel
abbrev rmX6_has : Room := { frames := 0, cells := 0, slots := 0, locals := 0 }
set_option maxHeartbeats 4000000 in
set_option maxRecDepth 100000 in
theorem tX6_has (l : Launch) (G : GG) (p0 : Int32) (p1 : Int32) (out : Int32) (hf : fX6_has p0 p1 = some out) : cMi l G yX6_has wsX6_has rmX6_has [.int p0, .int p1] (flat []) out (flat []) := by
  intro sz
  refine met_of (cc := cX6_has) (nL := 2) (ret := (some .boolean)) (Qc := fun A9 => QI G A9 out (flat [])) (by decide) rfl (Nat.le_of_ble_eq_true rfl) ?_
  intro p e s m args below meth c A ls C hP hD hS hl
  obtain ⟨⟨hx, hb, hml, hown, hts⟩, hr, hlocks, hK, hN, hE, hA⟩ := id C
  have hl : lv_has ls 2 [(0, .int p0), (1, .int p1)] := hl
  unfold fX6_has at hf
  refine lv_iload_n hx hb dX6_has_0 rfl (lv_at hl 0 rfl) ?_
  refine lv_iload_n hx hb dX6_has_1 rfl (lv_at hl 1 rfl) ?_
  refine lv_ishr hx hb dX6_has_2 ?_
  refine lv_iconst (v := 1) hx hb dX6_has_3 (by decide) ?_
  refine lv_iand hx hb dX6_has_4 ?_
  refine lv_if_eq (tgt := 12) hx hb dX6_has_5 (by decide) (fun c1 => ?_) (fun c1 => ?_)
  · have hf := (o_i hf).1 c1
    refine lv_iconst (v := 0) hx hb dX6_has_12 (by decide) ?_
    have e9 := Option.some.inj hf
    subst e9
    exact rt_z C hP hS rfl rfl dX6_has_13
  have hf := (o_i hf).2 c1
  refine lv_iconst (v := 1) hx hb dX6_has_8 (by decide) ?_
  refine lv_goto (tgt := 13) hx hb dX6_has_9 (by decide) ?_
  have e9 := Option.some.inj hf
  subst e9
  exact rt_z C hP hS rfl rfl dX6_has_13

/-! RX6 pair(II)I -/
theorem hdX6_pair : yX6_pair.cls ≠ "java/lang/invoke/MethodHandle" ∧ yX6_pair.cls ≠ "java/lang/invoke/VarHandle" ∧ (parseMethodDescriptor yX6_pair.desc).map (fun d => d.parameters.length) = some 2 := by decide +kernel
abbrev rmX6_pair : Room := { frames := 0, cells := 0, slots := 0, locals := 0 }
set_option maxHeartbeats 4000000 in
set_option maxRecDepth 100000 in
theorem tX6_pair (l : Launch) (G : GG) (p0 : Int32) (p1 : Int32) (out : Int32) (hf : fX6_pair p0 p1 = some out) : cMi l G yX6_pair wsX6_pair rmX6_pair [.int p0, .int p1] (flat []) out (flat []) := by
  intro sz
  refine met_of (cc := cX6_pair) (nL := 2) (ret := (some .int)) (Qc := fun A9 => QI G A9 out (flat [])) (by decide) rfl (Nat.le_of_ble_eq_true rfl) ?_
  intro p e s m args below meth c A ls C hP hD hS hl
  obtain ⟨⟨hx, hb, hml, hown, hts⟩, hr, hlocks, hK, hN, hE, hA⟩ := id C
  have hl : lv_has ls 2 [(0, .int p0), (1, .int p1)] := hl
  unfold fX6_pair at hf
  refine lv_iload_n hx hb dX6_pair_0 rfl (lv_at hl 0 rfl) ?_
  refine lv_bipush (v := 6) hx hb dX6_pair_1 (by decide) ?_
  refine lv_imul hx hb dX6_pair_3 ?_
  refine lv_iload_n hx hb dX6_pair_4 rfl (lv_at hl 1 rfl) ?_
  refine lv_iadd hx hb dX6_pair_5 ?_
  have e9 := Option.some.inj hf
  subst e9
  exact rt_i C hP hS rfl dX6_pair_6

/-! RJ6 bitCount(I)I -/
theorem mmJ6_bitCount_0f7a4_0 : (Cond.constant RJ6 265 (1431655765)) ∈ wsJ6_bitCount_0f7a4 := by decide +kernel
theorem mmJ6_bitCount_0f7a4_1 : (Cond.constant RJ6 266 (858993459)) ∈ wsJ6_bitCount_0f7a4 := by decide +kernel
theorem mmJ6_bitCount_0f7a4_2 : (Cond.constant RJ6 267 (252645135)) ∈ wsJ6_bitCount_0f7a4 := by decide +kernel
theorem hdJ6_bitCount_0f7a4 : yJ6_bitCount_0f7a4.cls ≠ "java/lang/invoke/MethodHandle" ∧ yJ6_bitCount_0f7a4.cls ≠ "java/lang/invoke/VarHandle" ∧ (parseMethodDescriptor yJ6_bitCount_0f7a4.desc).map (fun d => d.parameters.length) = some 1 := by decide +kernel
abbrev rmJ6_bitCount_0f7a4 : Room := { frames := 0, cells := 0, slots := 0, locals := 0 }
set_option maxHeartbeats 4000000 in
set_option maxRecDepth 100000 in
theorem tJ6_bitCount_0f7a4 (l : Launch) (G : GG) (p0 : Int32) (out : Int32) (hf : fJ6_bitCount_0f7a4 p0 = some out) : cMi l G yJ6_bitCount_0f7a4 wsJ6_bitCount_0f7a4 rmJ6_bitCount_0f7a4 [.int p0] (flat []) out (flat []) := by
  intro sz
  refine met_of (cc := cJ6_bitCount_0f7a4) (nL := 1) (ret := (some .int)) (Qc := fun A9 => QI G A9 out (flat [])) (by decide) rfl (Nat.le_of_ble_eq_true rfl) ?_
  intro p e s m args below meth c A ls C hP hD hS hl
  obtain ⟨⟨hx, hb, hml, hown, hts⟩, hr, hlocks, hK, hN, hE, hA⟩ := id C
  have hl : lv_has ls 1 [(0, .int p0)] := hl
  unfold fJ6_bitCount_0f7a4 at hf
  refine lv_iload_n hx hb dJ6_bitCount_0f7a4_0 rfl (lv_at hl 0 rfl) ?_
  refine lv_iload_n hx hb dJ6_bitCount_0f7a4_1 rfl (lv_at hl 0 rfl) ?_
  refine lv_iconst (v := 1) hx hb dJ6_bitCount_0f7a4_2 (by decide) ?_
  refine lv_iushr (v := (p0.toUInt32 >>> ((1 : Int32).toUInt32 &&& Int32.toUInt32 31)).toInt32) hx hb dJ6_bitCount_0f7a4_3 rfl ?_
  refine lv_ldcw (v := 1431655765) hx hb hown (hts _ mmJ6_bitCount_0f7a4_0) dJ6_bitCount_0f7a4_4 ?_
  refine lv_iand hx hb dJ6_bitCount_0f7a4_7 ?_
  refine lv_isub hx hb dJ6_bitCount_0f7a4_8 ?_
  refine lv_istore_n (lv' := [(0, .int (p0 - (((p0.toUInt32 >>> ((1 : Int32).toUInt32 &&& Int32.toUInt32 31)).toInt32) &&& 1431655765)))]) hx hb dJ6_bitCount_0f7a4_9 rfl hl (by decide) rfl (fun ls hl => ?_)
  refine lv_iload_n hx hb dJ6_bitCount_0f7a4_10 rfl (lv_at hl 0 rfl) ?_
  refine at_pc (pc' := 11) rfl ?_
  refine lv_ldcw (v := 858993459) hx hb hown (hts _ mmJ6_bitCount_0f7a4_1) dJ6_bitCount_0f7a4_11 ?_
  refine lv_iand hx hb dJ6_bitCount_0f7a4_14 ?_
  refine lv_iload_n hx hb dJ6_bitCount_0f7a4_15 rfl (lv_at hl 0 rfl) ?_
  refine lv_iconst (v := 2) hx hb dJ6_bitCount_0f7a4_16 (by decide) ?_
  refine lv_iushr (v := ((p0 - (((p0.toUInt32 >>> ((1 : Int32).toUInt32 &&& Int32.toUInt32 31)).toInt32) &&& 1431655765)).toUInt32 >>> ((2 : Int32).toUInt32 &&& Int32.toUInt32 31)).toInt32) hx hb dJ6_bitCount_0f7a4_17 rfl ?_
  refine lv_ldcw (v := 858993459) hx hb hown (hts _ mmJ6_bitCount_0f7a4_1) dJ6_bitCount_0f7a4_18 ?_
  refine lv_iand hx hb dJ6_bitCount_0f7a4_21 ?_
  refine lv_iadd hx hb dJ6_bitCount_0f7a4_22 ?_
  refine lv_istore_n (lv' := [(0, .int (((p0 - (((p0.toUInt32 >>> ((1 : Int32).toUInt32 &&& Int32.toUInt32 31)).toInt32) &&& 1431655765)) &&& 858993459) + ((((p0 - (((p0.toUInt32 >>> ((1 : Int32).toUInt32 &&& Int32.toUInt32 31)).toInt32) &&& 1431655765)).toUInt32 >>> ((2 : Int32).toUInt32 &&& Int32.toUInt32 31)).toInt32) &&& 858993459)))]) hx hb dJ6_bitCount_0f7a4_23 rfl hl (by decide) rfl (fun ls hl => ?_)
  refine lv_iload_n hx hb dJ6_bitCount_0f7a4_24 rfl (lv_at hl 0 rfl) ?_
  refine at_pc (pc' := 25) rfl ?_
  refine lv_iload_n hx hb dJ6_bitCount_0f7a4_25 rfl (lv_at hl 0 rfl) ?_
  refine lv_iconst (v := 4) hx hb dJ6_bitCount_0f7a4_26 (by decide) ?_
  refine lv_iushr (v := ((((p0 - (((p0.toUInt32 >>> ((1 : Int32).toUInt32 &&& Int32.toUInt32 31)).toInt32) &&& 1431655765)) &&& 858993459) + ((((p0 - (((p0.toUInt32 >>> ((1 : Int32).toUInt32 &&& Int32.toUInt32 31)).toInt32) &&& 1431655765)).toUInt32 >>> ((2 : Int32).toUInt32 &&& Int32.toUInt32 31)).toInt32) &&& 858993459)).toUInt32 >>> ((4 : Int32).toUInt32 &&& Int32.toUInt32 31)).toInt32) hx hb dJ6_bitCount_0f7a4_27 rfl ?_
  refine lv_iadd hx hb dJ6_bitCount_0f7a4_28 ?_
  refine lv_ldcw (v := 252645135) hx hb hown (hts _ mmJ6_bitCount_0f7a4_2) dJ6_bitCount_0f7a4_29 ?_
  refine lv_iand hx hb dJ6_bitCount_0f7a4_32 ?_
  refine lv_istore_n (lv' := [(0, .int (((((p0 - (((p0.toUInt32 >>> ((1 : Int32).toUInt32 &&& Int32.toUInt32 31)).toInt32) &&& 1431655765)) &&& 858993459) + ((((p0 - (((p0.toUInt32 >>> ((1 : Int32).toUInt32 &&& Int32.toUInt32 31)).toInt32) &&& 1431655765)).toUInt32 >>> ((2 : Int32).toUInt32 &&& Int32.toUInt32 31)).toInt32) &&& 858993459)) + (((((p0 - (((p0.toUInt32 >>> ((1 : Int32).toUInt32 &&& Int32.toUInt32 31)).toInt32) &&& 1431655765)) &&& 858993459) + ((((p0 - (((p0.toUInt32 >>> ((1 : Int32).toUInt32 &&& Int32.toUInt32 31)).toInt32) &&& 1431655765)).toUInt32 >>> ((2 : Int32).toUInt32 &&& Int32.toUInt32 31)).toInt32) &&& 858993459)).toUInt32 >>> ((4 : Int32).toUInt32 &&& Int32.toUInt32 31)).toInt32)) &&& 252645135))]) hx hb dJ6_bitCount_0f7a4_33 rfl hl (by decide) rfl (fun ls hl => ?_)
  refine lv_iload_n hx hb dJ6_bitCount_0f7a4_34 rfl (lv_at hl 0 rfl) ?_
  refine lv_iload_n hx hb dJ6_bitCount_0f7a4_35 rfl (lv_at hl 0 rfl) ?_
  refine lv_bipush (v := 8) hx hb dJ6_bitCount_0f7a4_36 (by decide) ?_
  refine at_pc (pc' := 38) rfl ?_
  refine lv_iushr (v := ((((((p0 - (((p0.toUInt32 >>> ((1 : Int32).toUInt32 &&& Int32.toUInt32 31)).toInt32) &&& 1431655765)) &&& 858993459) + ((((p0 - (((p0.toUInt32 >>> ((1 : Int32).toUInt32 &&& Int32.toUInt32 31)).toInt32) &&& 1431655765)).toUInt32 >>> ((2 : Int32).toUInt32 &&& Int32.toUInt32 31)).toInt32) &&& 858993459)) + (((((p0 - (((p0.toUInt32 >>> ((1 : Int32).toUInt32 &&& Int32.toUInt32 31)).toInt32) &&& 1431655765)) &&& 858993459) + ((((p0 - (((p0.toUInt32 >>> ((1 : Int32).toUInt32 &&& Int32.toUInt32 31)).toInt32) &&& 1431655765)).toUInt32 >>> ((2 : Int32).toUInt32 &&& Int32.toUInt32 31)).toInt32) &&& 858993459)).toUInt32 >>> ((4 : Int32).toUInt32 &&& Int32.toUInt32 31)).toInt32)) &&& 252645135).toUInt32 >>> ((8 : Int32).toUInt32 &&& Int32.toUInt32 31)).toInt32) hx hb dJ6_bitCount_0f7a4_38 rfl ?_
  refine lv_iadd hx hb dJ6_bitCount_0f7a4_39 ?_
  refine lv_istore_n (lv' := [(0, .int ((((((p0 - (((p0.toUInt32 >>> ((1 : Int32).toUInt32 &&& Int32.toUInt32 31)).toInt32) &&& 1431655765)) &&& 858993459) + ((((p0 - (((p0.toUInt32 >>> ((1 : Int32).toUInt32 &&& Int32.toUInt32 31)).toInt32) &&& 1431655765)).toUInt32 >>> ((2 : Int32).toUInt32 &&& Int32.toUInt32 31)).toInt32) &&& 858993459)) + (((((p0 - (((p0.toUInt32 >>> ((1 : Int32).toUInt32 &&& Int32.toUInt32 31)).toInt32) &&& 1431655765)) &&& 858993459) + ((((p0 - (((p0.toUInt32 >>> ((1 : Int32).toUInt32 &&& Int32.toUInt32 31)).toInt32) &&& 1431655765)).toUInt32 >>> ((2 : Int32).toUInt32 &&& Int32.toUInt32 31)).toInt32) &&& 858993459)).toUInt32 >>> ((4 : Int32).toUInt32 &&& Int32.toUInt32 31)).toInt32)) &&& 252645135) + (((((((p0 - (((p0.toUInt32 >>> ((1 : Int32).toUInt32 &&& Int32.toUInt32 31)).toInt32) &&& 1431655765)) &&& 858993459) + ((((p0 - (((p0.toUInt32 >>> ((1 : Int32).toUInt32 &&& Int32.toUInt32 31)).toInt32) &&& 1431655765)).toUInt32 >>> ((2 : Int32).toUInt32 &&& Int32.toUInt32 31)).toInt32) &&& 858993459)) + (((((p0 - (((p0.toUInt32 >>> ((1 : Int32).toUInt32 &&& Int32.toUInt32 31)).toInt32) &&& 1431655765)) &&& 858993459) + ((((p0 - (((p0.toUInt32 >>> ((1 : Int32).toUInt32 &&& Int32.toUInt32 31)).toInt32) &&& 1431655765)).toUInt32 >>> ((2 : Int32).toUInt32 &&& Int32.toUInt32 31)).toInt32) &&& 858993459)).toUInt32 >>> ((4 : Int32).toUInt32 &&& Int32.toUInt32 31)).toInt32)) &&& 252645135).toUInt32 >>> ((8 : Int32).toUInt32 &&& Int32.toUInt32 31)).toInt32)))]) hx hb dJ6_bitCount_0f7a4_40 rfl hl (by decide) rfl (fun ls hl => ?_)
  refine lv_iload_n hx hb dJ6_bitCount_0f7a4_41 rfl (lv_at hl 0 rfl) ?_
  refine lv_iload_n hx hb dJ6_bitCount_0f7a4_42 rfl (lv_at hl 0 rfl) ?_
  refine lv_bipush (v := 16) hx hb dJ6_bitCount_0f7a4_43 (by decide) ?_
  refine lv_iushr (v := (((((((p0 - (((p0.toUInt32 >>> ((1 : Int32).toUInt32 &&& Int32.toUInt32 31)).toInt32) &&& 1431655765)) &&& 858993459) + ((((p0 - (((p0.toUInt32 >>> ((1 : Int32).toUInt32 &&& Int32.toUInt32 31)).toInt32) &&& 1431655765)).toUInt32 >>> ((2 : Int32).toUInt32 &&& Int32.toUInt32 31)).toInt32) &&& 858993459)) + (((((p0 - (((p0.toUInt32 >>> ((1 : Int32).toUInt32 &&& Int32.toUInt32 31)).toInt32) &&& 1431655765)) &&& 858993459) + ((((p0 - (((p0.toUInt32 >>> ((1 : Int32).toUInt32 &&& Int32.toUInt32 31)).toInt32) &&& 1431655765)).toUInt32 >>> ((2 : Int32).toUInt32 &&& Int32.toUInt32 31)).toInt32) &&& 858993459)).toUInt32 >>> ((4 : Int32).toUInt32 &&& Int32.toUInt32 31)).toInt32)) &&& 252645135) + (((((((p0 - (((p0.toUInt32 >>> ((1 : Int32).toUInt32 &&& Int32.toUInt32 31)).toInt32) &&& 1431655765)) &&& 858993459) + ((((p0 - (((p0.toUInt32 >>> ((1 : Int32).toUInt32 &&& Int32.toUInt32 31)).toInt32) &&& 1431655765)).toUInt32 >>> ((2 : Int32).toUInt32 &&& Int32.toUInt32 31)).toInt32) &&& 858993459)) + (((((p0 - (((p0.toUInt32 >>> ((1 : Int32).toUInt32 &&& Int32.toUInt32 31)).toInt32) &&& 1431655765)) &&& 858993459) + ((((p0 - (((p0.toUInt32 >>> ((1 : Int32).toUInt32 &&& Int32.toUInt32 31)).toInt32) &&& 1431655765)).toUInt32 >>> ((2 : Int32).toUInt32 &&& Int32.toUInt32 31)).toInt32) &&& 858993459)).toUInt32 >>> ((4 : Int32).toUInt32 &&& Int32.toUInt32 31)).toInt32)) &&& 252645135).toUInt32 >>> ((8 : Int32).toUInt32 &&& Int32.toUInt32 31)).toInt32)).toUInt32 >>> ((16 : Int32).toUInt32 &&& Int32.toUInt32 31)).toInt32) hx hb dJ6_bitCount_0f7a4_45 rfl ?_
  refine lv_iadd hx hb dJ6_bitCount_0f7a4_46 ?_
  refine lv_istore_n (lv' := [(0, .int (((((((p0 - (((p0.toUInt32 >>> ((1 : Int32).toUInt32 &&& Int32.toUInt32 31)).toInt32) &&& 1431655765)) &&& 858993459) + ((((p0 - (((p0.toUInt32 >>> ((1 : Int32).toUInt32 &&& Int32.toUInt32 31)).toInt32) &&& 1431655765)).toUInt32 >>> ((2 : Int32).toUInt32 &&& Int32.toUInt32 31)).toInt32) &&& 858993459)) + (((((p0 - (((p0.toUInt32 >>> ((1 : Int32).toUInt32 &&& Int32.toUInt32 31)).toInt32) &&& 1431655765)) &&& 858993459) + ((((p0 - (((p0.toUInt32 >>> ((1 : Int32).toUInt32 &&& Int32.toUInt32 31)).toInt32) &&& 1431655765)).toUInt32 >>> ((2 : Int32).toUInt32 &&& Int32.toUInt32 31)).toInt32) &&& 858993459)).toUInt32 >>> ((4 : Int32).toUInt32 &&& Int32.toUInt32 31)).toInt32)) &&& 252645135) + (((((((p0 - (((p0.toUInt32 >>> ((1 : Int32).toUInt32 &&& Int32.toUInt32 31)).toInt32) &&& 1431655765)) &&& 858993459) + ((((p0 - (((p0.toUInt32 >>> ((1 : Int32).toUInt32 &&& Int32.toUInt32 31)).toInt32) &&& 1431655765)).toUInt32 >>> ((2 : Int32).toUInt32 &&& Int32.toUInt32 31)).toInt32) &&& 858993459)) + (((((p0 - (((p0.toUInt32 >>> ((1 : Int32).toUInt32 &&& Int32.toUInt32 31)).toInt32) &&& 1431655765)) &&& 858993459) + ((((p0 - (((p0.toUInt32 >>> ((1 : Int32).toUInt32 &&& Int32.toUInt32 31)).toInt32) &&& 1431655765)).toUInt32 >>> ((2 : Int32).toUInt32 &&& Int32.toUInt32 31)).toInt32) &&& 858993459)).toUInt32 >>> ((4 : Int32).toUInt32 &&& Int32.toUInt32 31)).toInt32)) &&& 252645135).toUInt32 >>> ((8 : Int32).toUInt32 &&& Int32.toUInt32 31)).toInt32)) + ((((((((p0 - (((p0.toUInt32 >>> ((1 : Int32).toUInt32 &&& Int32.toUInt32 31)).toInt32) &&& 1431655765)) &&& 858993459) + ((((p0 - (((p0.toUInt32 >>> ((1 : Int32).toUInt32 &&& Int32.toUInt32 31)).toInt32) &&& 1431655765)).toUInt32 >>> ((2 : Int32).toUInt32 &&& Int32.toUInt32 31)).toInt32) &&& 858993459)) + (((((p0 - (((p0.toUInt32 >>> ((1 : Int32).toUInt32 &&& Int32.toUInt32 31)).toInt32) &&& 1431655765)) &&& 858993459) + ((((p0 - (((p0.toUInt32 >>> ((1 : Int32).toUInt32 &&& Int32.toUInt32 31)).toInt32) &&& 1431655765)).toUInt32 >>> ((2 : Int32).toUInt32 &&& Int32.toUInt32 31)).toInt32) &&& 858993459)).toUInt32 >>> ((4 : Int32).toUInt32 &&& Int32.toUInt32 31)).toInt32)) &&& 252645135) + (((((((p0 - (((p0.toUInt32 >>> ((1 : Int32).toUInt32 &&& Int32.toUInt32 31)).toInt32) &&& 1431655765)) &&& 858993459) + ((((p0 - (((p0.toUInt32 >>> ((1 : Int32).toUInt32 &&& Int32.toUInt32 31)).toInt32) &&& 1431655765)).toUInt32 >>> ((2 : Int32).toUInt32 &&& Int32.toUInt32 31)).toInt32) &&& 858993459)) + (((((p0 - (((p0.toUInt32 >>> ((1 : Int32).toUInt32 &&& Int32.toUInt32 31)).toInt32) &&& 1431655765)) &&& 858993459) + ((((p0 - (((p0.toUInt32 >>> ((1 : Int32).toUInt32 &&& Int32.toUInt32 31)).toInt32) &&& 1431655765)).toUInt32 >>> ((2 : Int32).toUInt32 &&& Int32.toUInt32 31)).toInt32) &&& 858993459)).toUInt32 >>> ((4 : Int32).toUInt32 &&& Int32.toUInt32 31)).toInt32)) &&& 252645135).toUInt32 >>> ((8 : Int32).toUInt32 &&& Int32.toUInt32 31)).toInt32)).toUInt32 >>> ((16 : Int32).toUInt32 &&& Int32.toUInt32 31)).toInt32)))]) hx hb dJ6_bitCount_0f7a4_47 rfl hl (by decide) rfl (fun ls hl => ?_)
  refine lv_iload_n hx hb dJ6_bitCount_0f7a4_48 rfl (lv_at hl 0 rfl) ?_
  refine at_pc (pc' := 49) rfl ?_
  refine lv_bipush (v := 63) hx hb dJ6_bitCount_0f7a4_49 (by decide) ?_
  refine lv_iand hx hb dJ6_bitCount_0f7a4_51 ?_
  have e9 := Option.some.inj hf
  subst e9
  exact rt_i C hP hS rfl dJ6_bitCount_0f7a4_52

/-! RJ7 fill([II)V -/
theorem hdJ7_fill_53178 : yJ7_fill_53178.cls ≠ "java/lang/invoke/MethodHandle" ∧ yJ7_fill_53178.cls ≠ "java/lang/invoke/VarHandle" ∧ (parseMethodDescriptor yJ7_fill_53178.desc).map (fun d => d.parameters.length) = some 2 := by decide +kernel
abbrev rmJ7_fill_53178 : Room := { frames := 0, cells := 0, slots := 0, locals := 0 }
set_option maxHeartbeats 4000000 in
set_option maxRecDepth 100000 in
theorem lJ7_fill_53178_5 {p : Program} {e : Env} {s : State} {m : MethodId} {args : Array Value} {below : List Frame} {meth : Method} {c : Code} {A : Nat → Prop} (l : Launch) (G : GG) (C : Cx p m c cJ7_fill_53178 4 s args wsJ7_fill_53178 RJ7 meth none G A) (x : Nat) (x_len : Nat) (x_c : Nat → Int32) (p1 : Int32) (out : (Nat → Int32)) (kx : Int32 → (Nat → Int32) → Option ((Nat → Int32))) (HX : ∀ (x2_5 : Int32) (x_c_5 : Nat → Int32) (H : Heap) (locs : List Loc) (ls : Array Slot), va_P G.1 vwCl (flat [[(x, .inl (gI G, x_len, .inl x_c_5))]]) H → va_D A (flat [[(x, .inl (gI G, x_len, .inl x_c_5))]]) → va_S A s.heap H locs → lv_has ls 4 [(0, .ref x), (1, .int p1), (2, .int x2_5), (3, .int (Int32.ofNat x_len))] → kx x2_5 x_c_5 = some out → W p l e rmJ7_fill_53178 s m args below meth c H locs 0 0 (MQ below (QV G A (flat [[(x, .inl (gI G, x_len, .inl out))]])) args s 0 0 A) (F0 m 20 ls [])) : ∀ (n : Nat) (x2_5 : Int32) (x_c_5 : Nat → Int32) (H : Heap) (locs : List Loc) (ls : Array Slot), va_P G.1 vwCl (flat [[(x, .inl (gI G, x_len, .inl x_c_5))]]) H → va_D A (flat [[(x, .inl (gI G, x_len, .inl x_c_5))]]) → va_S A s.heap H locs → lv_has ls 4 [(0, .ref x), (1, .int p1), (2, .int x2_5), (3, .int (Int32.ofNat x_len))] → fJ7_fill_53178_5 p1 x_len kx n x2_5 x_c_5 = some out → W p l e rmJ7_fill_53178 s m args below meth c H locs 0 0 (MQ below (QV G A (flat [[(x, .inl (gI G, x_len, .inl out))]])) args s 0 0 A) (F0 m 5 ls []) := by
  obtain ⟨⟨hx, hb, hml, hown, hts⟩, hr, hlocks, hK, hN, hE, hA⟩ := id C
  intro n
  induction n with
  | zero =>
    intro x2_5 x_c_5 H locs ls hP hD hS hl hf
    exact absurd (show (none : Option ((Nat → Int32))) = some out from hf) (by intro q9; cases q9)
  | succ n ih =>
    intro x2_5 x_c_5 H locs ls hP hD hS hl hf
    rw [fJ7_fill_53178_5] at hf
    refine lv_iload_n hx hb dJ7_fill_53178_5 rfl (lv_at hl 2 rfl) ?_
    refine lv_iload_n hx hb dJ7_fill_53178_6 rfl (lv_at hl 3 rfl) ?_
    refine lv_icmp_ge (tgt := 20) hx hb dJ7_fill_53178_7 (by decide) (fun c1 => ?_) (fun c1 => ?_)
    · have hf := (o_i hf).1 c1
      exact HX _ _ _ _ _ hP hD hS (lv_sub hl [0, 1, 2, 3] rfl) hf
    have hf := (o_i hf).2 c1
    refine lv_aload_n hx hb dJ7_fill_53178_10 rfl (lv_at hl 0 rfl) ?_
    refine lv_iload_n hx hb dJ7_fill_53178_11 rfl (lv_at hl 2 rfl) ?_
    refine lv_iload_n hx hb dJ7_fill_53178_12 rfl (lv_at hl 1 rfl) ?_
    obtain ⟨u2, hu2, hf⟩ := o_b hf
    refine k_iast hx hb hK hP hD hS 0 0 rfl rfl hu2 dJ7_fill_53178_13 (fun H locs hP hD hS => ?_)
    have hP : va_P G.1 vwCl (flat [[(x, .inl (gI G, x_len, .inl u2))]]) H := hP
    have hD : va_D A (flat [[(x, .inl (gI G, x_len, .inl u2))]]) := hD
    refine lv_iinc (v := x2_5 + 1) (lv' := [(2, .int (x2_5 + 1)), (0, .ref x), (1, .int p1), (3, .int (Int32.ofNat x_len))]) hx hb dJ7_fill_53178_14 hl (k := 2) rfl (congrArg (fun z => x2_5 + z) (by decide)) (by decide) rfl (fun ls hl => ?_)
    refine lv_goto (tgt := 5) hx hb dJ7_fill_53178_17 (by decide) ?_
    exact ih _ _ _ _ _ hP hD hS (lv_sub hl [1, 2, 0, 3] rfl) hf
set_option maxHeartbeats 4000000 in
set_option maxRecDepth 100000 in
theorem tJ7_fill_53178 (l : Launch) (G : GG) (x : Nat) (x_len : Nat) (x_c : Nat → Int32) (p1 : Int32) (out : (Nat → Int32)) (hf : fJ7_fill_53178 x_len x_c p1 = some out) : cMv l G yJ7_fill_53178 wsJ7_fill_53178 rmJ7_fill_53178 [.ref x, .int p1] (flat [[(x, .inl (gI G, x_len, .inl x_c))]]) (flat [[(x, .inl (gI G, x_len, .inl out))]]) := by
  intro sz
  refine met_of (cc := cJ7_fill_53178) (nL := 4) (ret := none) (Qc := fun A9 => QV G A9 (flat [[(x, .inl (gI G, x_len, .inl out))]])) (by decide) rfl (Nat.le_of_ble_eq_true rfl) ?_
  intro p e s m args below meth c A ls C hP hD hS hl
  obtain ⟨⟨hx, hb, hml, hown, hts⟩, hr, hlocks, hK, hN, hE, hA⟩ := id C
  have hl : lv_has ls 4 [(0, .ref x), (1, .int p1)] := hl
  unfold fJ7_fill_53178 at hf
  refine lv_iconst (v := 0) hx hb dJ7_fill_53178_0 (by decide) ?_
  refine lv_istore_n (lv' := [(2, .int 0), (0, .ref x), (1, .int p1)]) hx hb dJ7_fill_53178_1 rfl hl (by decide) rfl (fun ls hl => ?_)
  refine lv_aload_n hx hb dJ7_fill_53178_2 rfl (lv_at hl 1 rfl) ?_
  refine va_alen hx hb hK hP 0 0 rfl rfl (v := Int32.ofNat x_len) rfl dJ7_fill_53178_3 ?_
  refine lv_istore_n (lv' := [(3, .int (Int32.ofNat x_len)), (2, .int 0), (0, .ref x), (1, .int p1)]) hx hb dJ7_fill_53178_4 rfl hl (by decide) rfl (fun ls hl => ?_)
  refine lJ7_fill_53178_5 l G C x x_len x_c p1 out _ (fun x2_5_3 x_c_5_4 H locs ls hP hD hS hl hf => ?_) fu 0 x_c _ _ _ hP hD hS (lv_sub hl [2, 3, 1, 0] rfl) hf
  have e9 := Option.some.inj hf
  subst e9
  exact rt_v C hP hS dJ7_fill_53178_20

/-! RX3 settle(I)Z -/
theorem iiX3_settle_X3 : ∀ w ∈ wsX30, w ∈ wsX3_settle := by decide +kernel
theorem mmX3_settle_1 : (Cond.fieldLink RX3 49 "BlindBells$Valley" "villages" "I") ∈ wsX3_settle := by decide +kernel
theorem mmX3_settle_2 : (Cond.fieldLink RX3 53 "BlindBells$Valley" "woods" "I") ∈ wsX3_settle := by decide +kernel
theorem mmX3_settle_3 : (Cond.fieldLink RX3 56 "BlindBells$Valley" "needs" "I") ∈ wsX3_settle := by decide +kernel
theorem mmX3_settle_4 : (Cond.fieldLink RX3 59 "BlindBells$Valley" "signs" "I") ∈ wsX3_settle := by decide +kernel
theorem mmX3_settle_5 : (Cond.fieldLink RX3 9 "BlindBells$Valley" "temper" "[I") ∈ wsX3_settle := by decide +kernel
theorem mmX3_settle_6 : (Cond.fieldLink RX3 21 "BlindBells$Valley" "hears" "[I") ∈ wsX3_settle := by decide +kernel
theorem mmX3_settle_7 : (Cond.fieldLink RX3 24 "BlindBells$Valley" "shut" "[I") ∈ wsX3_settle := by decide +kernel
theorem mmX3_settle_8 : (Cond.fieldLink RX3 15 "BlindBells$Valley" "friend" "[I") ∈ wsX3_settle := by decide +kernel
theorem mmX3_settle_9 : (Cond.fieldLink RX3 18 "BlindBells$Valley" "rope" "[I") ∈ wsX3_settle := by decide +kernel
theorem hdX3_settle : yX3_settle.cls = RX3 ∧ yX3_settle.cls ≠ "java/lang/invoke/MethodHandle" ∧ yX3_settle.cls ≠ "java/lang/invoke/VarHandle" ∧ (parseMethodDescriptor yX3_settle.desc).map (fun d => d.parameters.length) = some 1 := by decide +kernel
abbrev rmX3_settle : Room := { frames := 1, cells := 0, slots := 0, locals := 23 }
set_option maxHeartbeats 4000000 in
set_option maxRecDepth 100000 in
theorem lX3_settle_59 {p : Program} {e : Env} {s : State} {m : MethodId} {args : Array Value} {below : List Frame} {meth : Method} {c : Code} {A : Nat → Prop} (l : Launch) (G : GG) (C : Cx p m c cX3_settle 3 s args wsX3_settle RX3 meth (some .boolean) G A) (a : Nat → Nat) (a_villages : Int32) (a_woods : Int32) (a_needs : Int32) (a_signs : Int32) (a_temper : Nat → Int32) (a_friend : Nat → Int32) (a_rope : Nat → Int32) (a_hears : Nat → Int32) (a_shut : Nat → Int32) (a_woodBell : Nat → Int32) (a_woodVillage : Nat → Int32) (a_needVillage : Nat → Int32) (a_needWind : Nat → Int32) (a_needSeen : Nat → Int32) (a_sign : Nat → Int32) (p0 : Int32) (g3 : (Nat → Int32)) (g4 : (Nat → Int32)) (g5 : (Nat → Int32)) (out : Int32 × Int32 × Int32 × Int32 × Int32 × (Nat → Int32) × (Nat → Int32) × (Nat → Int32) × (Nat → Int32) × (Nat → Int32)) (kx : Int32 → (Nat → Int32) → (Nat → Int32) → Option (Int32 × Int32 × Int32 × Int32 × Int32 × (Nat → Int32) × (Nat → Int32) × (Nat → Int32) × (Nat → Int32) × (Nat → Int32))) (HX : ∀ (x2_59 : Int32) (a_friend_59 : Nat → Int32) (a_rope_59 : Nat → Int32) (H : Heap) (locs : List Loc) (ls : Array Slot), va_P G.1 vwCl (flat [wX3 G a p0 0 0 0 g3 a_friend_59 a_rope_59 g4 g5 a_woodBell a_woodVillage a_needVillage a_needWind a_needSeen a_sign]) H → va_D A (flat [wX3 G a p0 0 0 0 g3 a_friend_59 a_rope_59 g4 g5 a_woodBell a_woodVillage a_needVillage a_needWind a_needSeen a_sign]) → va_S A s.heap H locs → lv_has ls 3 [(0, .ref (a 0)), (1, .int p0), (2, .int x2_59)] → kx x2_59 a_friend_59 a_rope_59 = some out → W p l e rmX3_settle s m args below meth c H locs 0 0 (MQ below (QI G A out.1 (flat [wX3 G a out.2.1 out.2.2.1 out.2.2.2.1 out.2.2.2.2.1 out.2.2.2.2.2.1 out.2.2.2.2.2.2.1 out.2.2.2.2.2.2.2.1 out.2.2.2.2.2.2.2.2.1 out.2.2.2.2.2.2.2.2.2 a_woodBell a_woodVillage a_needVillage a_needWind a_needSeen a_sign])) args s 0 0 A) (F0 m 85 ls [])) : ∀ (n : Nat) (x2_59 : Int32) (a_friend_59 : Nat → Int32) (a_rope_59 : Nat → Int32) (H : Heap) (locs : List Loc) (ls : Array Slot), va_P G.1 vwCl (flat [wX3 G a p0 0 0 0 g3 a_friend_59 a_rope_59 g4 g5 a_woodBell a_woodVillage a_needVillage a_needWind a_needSeen a_sign]) H → va_D A (flat [wX3 G a p0 0 0 0 g3 a_friend_59 a_rope_59 g4 g5 a_woodBell a_woodVillage a_needVillage a_needWind a_needSeen a_sign]) → va_S A s.heap H locs → lv_has ls 3 [(0, .ref (a 0)), (1, .int p0), (2, .int x2_59)] → fX3_settle_59  kx n x2_59 a_friend_59 a_rope_59 = some out → W p l e rmX3_settle s m args below meth c H locs 0 0 (MQ below (QI G A out.1 (flat [wX3 G a out.2.1 out.2.2.1 out.2.2.2.1 out.2.2.2.2.1 out.2.2.2.2.2.1 out.2.2.2.2.2.2.1 out.2.2.2.2.2.2.2.1 out.2.2.2.2.2.2.2.2.1 out.2.2.2.2.2.2.2.2.2 a_woodBell a_woodVillage a_needVillage a_needWind a_needSeen a_sign])) args s 0 0 A) (F0 m 59 ls []) := by
  obtain ⟨⟨hx, hb, hml, hown, hts⟩, hr, hlocks, hK, hN, hE, hA⟩ := id C
  intro n
  induction n with
  | zero =>
    intro x2_59 a_friend_59 a_rope_59 H locs ls hP hD hS hl hf
    exact absurd (show (none : Option (Int32 × Int32 × Int32 × Int32 × Int32 × (Nat → Int32) × (Nat → Int32) × (Nat → Int32) × (Nat → Int32) × (Nat → Int32))) = some out from hf) (by intro q9; cases q9)
  | succ n ih =>
    intro x2_59 a_friend_59 a_rope_59 H locs ls hP hD hS hl hf
    rw [fX3_settle_59] at hf
    refine lv_iload_n hx hb dX3_settle_59 rfl (lv_at hl 2 rfl) ?_
    refine lv_bipush (v := 6) hx hb dX3_settle_60 (by decide) ?_
    refine lv_icmp_ge (tgt := 85) hx hb dX3_settle_62 (by decide) (fun c6 => ?_) (fun c6 => ?_)
    · have hf := (o_i hf).1 c6
      exact HX _ _ _ _ _ _ hP hD hS (lv_sub hl [0, 1, 2] rfl) hf
    have hf := (o_i hf).2 c6
    refine lv_aload_n hx hb dX3_settle_65 rfl (lv_at hl 0 rfl) ?_
    refine va_get (D := G.1) (ci := 3) (v := .ref (a 2)) (C := RX3) (T := TX3) (N := 15) hx hb hts iiX3_settle_X3 hown hK hP 0 rfl rfl 5 (by decide) (hts _ mmX3_settle_8) (fun _ h9 => h9) rfl dX3_settle_66 ?_
    refine lv_iload_n hx hb dX3_settle_69 rfl (lv_at hl 2 rfl) ?_
    refine lv_iload_n hx hb dX3_settle_70 rfl (lv_at hl 2 rfl) ?_
    obtain ⟨u7, hu7, hf⟩ := o_b hf
    refine k_iast hx hb hK hP hD hS 2 0 rfl rfl hu7 dX3_settle_71 (fun H locs hP hD hS => ?_)
    have hP : va_P G.1 vwCl (flat [wX3 G a p0 0 0 0 g3 u7 a_rope_59 g4 g5 a_woodBell a_woodVillage a_needVillage a_needWind a_needSeen a_sign]) H := hP
    have hD : va_D A (flat [wX3 G a p0 0 0 0 g3 u7 a_rope_59 g4 g5 a_woodBell a_woodVillage a_needVillage a_needWind a_needSeen a_sign]) := hD
    refine lv_aload_n hx hb dX3_settle_72 rfl (lv_at hl 0 rfl) ?_
    refine va_get (D := G.1) (ci := 3) (v := .ref (a 3)) (C := RX3) (T := TX3) (N := 15) hx hb hts iiX3_settle_X3 hown hK hP 0 rfl rfl 6 (by decide) (hts _ mmX3_settle_9) (fun _ h9 => h9) rfl dX3_settle_73 ?_
    refine lv_iload_n hx hb dX3_settle_76 rfl (lv_at hl 2 rfl) ?_
    refine lv_iload_n hx hb dX3_settle_77 rfl (lv_at hl 2 rfl) ?_
    refine at_pc (pc' := 78) rfl ?_
    obtain ⟨u8, hu8, hf⟩ := o_b hf
    refine k_iast hx hb hK hP hD hS 3 0 rfl rfl hu8 dX3_settle_78 (fun H locs hP hD hS => ?_)
    have hP : va_P G.1 vwCl (flat [wX3 G a p0 0 0 0 g3 u7 u8 g4 g5 a_woodBell a_woodVillage a_needVillage a_needWind a_needSeen a_sign]) H := hP
    have hD : va_D A (flat [wX3 G a p0 0 0 0 g3 u7 u8 g4 g5 a_woodBell a_woodVillage a_needVillage a_needWind a_needSeen a_sign]) := hD
    refine lv_iinc (v := x2_59 + 1) (lv' := [(2, .int (x2_59 + 1)), (0, .ref (a 0)), (1, .int p0)]) hx hb dX3_settle_79 hl (k := 2) rfl (congrArg (fun z => x2_59 + z) (by decide)) (by decide) rfl (fun ls hl => ?_)
    refine lv_goto (tgt := 59) hx hb dX3_settle_82 (by decide) ?_
    exact ih _ _ _ _ _ _ hP hD hS (lv_sub hl [1, 2, 0] rfl) hf
set_option maxHeartbeats 4000000 in
set_option maxRecDepth 100000 in
theorem tX3_settle (l : Launch) (G : GG) (a : Nat → Nat) (a_villages : Int32) (a_woods : Int32) (a_needs : Int32) (a_signs : Int32) (a_temper : Nat → Int32) (a_friend : Nat → Int32) (a_rope : Nat → Int32) (a_hears : Nat → Int32) (a_shut : Nat → Int32) (a_woodBell : Nat → Int32) (a_woodVillage : Nat → Int32) (a_needVillage : Nat → Int32) (a_needWind : Nat → Int32) (a_needSeen : Nat → Int32) (a_sign : Nat → Int32) (p0 : Int32) (out : Int32 × Int32 × Int32 × Int32 × Int32 × (Nat → Int32) × (Nat → Int32) × (Nat → Int32) × (Nat → Int32) × (Nat → Int32)) (hf : fX3_settle a_villages a_woods a_needs a_signs a_temper a_friend a_rope a_hears a_shut p0 = some out) : cMi l G yX3_settle wsX3_settle rmX3_settle [.ref (a 0), .int p0] (flat [wX3 G a a_villages a_woods a_needs a_signs a_temper a_friend a_rope a_hears a_shut a_woodBell a_woodVillage a_needVillage a_needWind a_needSeen a_sign]) out.1 (flat [wX3 G a out.2.1 out.2.2.1 out.2.2.2.1 out.2.2.2.2.1 out.2.2.2.2.2.1 out.2.2.2.2.2.2.1 out.2.2.2.2.2.2.2.1 out.2.2.2.2.2.2.2.2.1 out.2.2.2.2.2.2.2.2.2 a_woodBell a_woodVillage a_needVillage a_needWind a_needSeen a_sign]) := by
  intro sz
  refine met_of (cc := cX3_settle) (nL := 3) (ret := (some .boolean)) (Qc := fun A9 => QI G A9 out.1 (flat [wX3 G a out.2.1 out.2.2.1 out.2.2.2.1 out.2.2.2.2.1 out.2.2.2.2.2.1 out.2.2.2.2.2.2.1 out.2.2.2.2.2.2.2.1 out.2.2.2.2.2.2.2.2.1 out.2.2.2.2.2.2.2.2.2 a_woodBell a_woodVillage a_needVillage a_needWind a_needSeen a_sign])) (by decide) rfl (Nat.le_of_ble_eq_true rfl) ?_
  intro p e s m args below meth c A ls C hP hD hS hl
  obtain ⟨⟨hx, hb, hml, hown, hts⟩, hr, hlocks, hK, hN, hE, hA⟩ := id C
  have hl : lv_has ls 3 [(0, .ref (a 0)), (1, .int p0)] := hl
  unfold fX3_settle at hf
  refine lv_iload_n hx hb dX3_settle_0 rfl (lv_at hl 1 rfl) ?_
  refine lv_iconst (v := 2) hx hb dX3_settle_1 (by decide) ?_
  refine lv_icmp_lt (tgt := 11) hx hb dX3_settle_2 (by decide) (fun c1 => ?_) (fun c1 => ?_)
  · have hf := (o_i hf).1 c1
    refine lv_iconst (v := 0) hx hb dX3_settle_11 (by decide) ?_
    have e9 := Option.some.inj hf
    subst e9
    exact rt_z C hP hS rfl rfl dX3_settle_12
  have hf := (o_i hf).2 c1
  refine lv_iload_n hx hb dX3_settle_5 rfl (lv_at hl 1 rfl) ?_
  refine lv_bipush (v := 6) hx hb dX3_settle_6 (by decide) ?_
  refine lv_icmp_le (tgt := 13) hx hb dX3_settle_8 (by decide) (fun c2 => ?_) (fun c2 => ?_)
  · have hf := (o_i hf).1 c2
    refine lv_aload_n hx hb dX3_settle_13 rfl (lv_at hl 0 rfl) ?_
    refine lv_iload_n hx hb dX3_settle_14 rfl (lv_at hl 1 rfl) ?_
    refine va_put (D := G.1) (ci := 3) (v := .int p0) (ty := .int) (C := RX3) (T := TX3) (N := 15) hx hb hts iiX3_settle_X3 tyX3 tyX3_ok nmX3 hown hK hP hD hS 0 rfl rfl 0 (by decide) (hts _ mmX3_settle_1) (fun _ h9 => h9) rfl (by decide +kernel) rfl rfl (Nat.le_of_ble_eq_true rfl) dX3_settle_15 (fun H locs hP hD hS => ?_)
    have hP : va_P G.1 vwCl (flat [wX3 G a p0 a_woods a_needs a_signs a_temper a_friend a_rope a_hears a_shut a_woodBell a_woodVillage a_needVillage a_needWind a_needSeen a_sign]) H := hP
    have hD : va_D A (flat [wX3 G a p0 a_woods a_needs a_signs a_temper a_friend a_rope a_hears a_shut a_woodBell a_woodVillage a_needVillage a_needWind a_needSeen a_sign]) := hD
    refine lv_aload_n hx hb dX3_settle_18 rfl (lv_at hl 0 rfl) ?_
    refine lv_iconst (v := 0) hx hb dX3_settle_19 (by decide) ?_
    refine va_put (D := G.1) (ci := 3) (v := .int 0) (ty := .int) (C := RX3) (T := TX3) (N := 15) hx hb hts iiX3_settle_X3 tyX3 tyX3_ok nmX3 hown hK hP hD hS 0 rfl rfl 1 (by decide) (hts _ mmX3_settle_2) (fun _ h9 => h9) rfl (by decide +kernel) rfl rfl (Nat.le_of_ble_eq_true rfl) dX3_settle_20 (fun H locs hP hD hS => ?_)
    have hP : va_P G.1 vwCl (flat [wX3 G a p0 0 a_needs a_signs a_temper a_friend a_rope a_hears a_shut a_woodBell a_woodVillage a_needVillage a_needWind a_needSeen a_sign]) H := hP
    have hD : va_D A (flat [wX3 G a p0 0 a_needs a_signs a_temper a_friend a_rope a_hears a_shut a_woodBell a_woodVillage a_needVillage a_needWind a_needSeen a_sign]) := hD
    refine lv_aload_n hx hb dX3_settle_23 rfl (lv_at hl 0 rfl) ?_
    refine lv_iconst (v := 0) hx hb dX3_settle_24 (by decide) ?_
    refine va_put (D := G.1) (ci := 3) (v := .int 0) (ty := .int) (C := RX3) (T := TX3) (N := 15) hx hb hts iiX3_settle_X3 tyX3 tyX3_ok nmX3 hown hK hP hD hS 0 rfl rfl 2 (by decide) (hts _ mmX3_settle_3) (fun _ h9 => h9) rfl (by decide +kernel) rfl rfl (Nat.le_of_ble_eq_true rfl) dX3_settle_25 (fun H locs hP hD hS => ?_)
    have hP : va_P G.1 vwCl (flat [wX3 G a p0 0 0 a_signs a_temper a_friend a_rope a_hears a_shut a_woodBell a_woodVillage a_needVillage a_needWind a_needSeen a_sign]) H := hP
    have hD : va_D A (flat [wX3 G a p0 0 0 a_signs a_temper a_friend a_rope a_hears a_shut a_woodBell a_woodVillage a_needVillage a_needWind a_needSeen a_sign]) := hD
    refine at_pc (pc' := 28) rfl ?_
    refine lv_aload_n hx hb dX3_settle_28 rfl (lv_at hl 0 rfl) ?_
    refine lv_iconst (v := 0) hx hb dX3_settle_29 (by decide) ?_
    refine va_put (D := G.1) (ci := 3) (v := .int 0) (ty := .int) (C := RX3) (T := TX3) (N := 15) hx hb hts iiX3_settle_X3 tyX3 tyX3_ok nmX3 hown hK hP hD hS 0 rfl rfl 3 (by decide) (hts _ mmX3_settle_4) (fun _ h9 => h9) rfl (by decide +kernel) rfl rfl (Nat.le_of_ble_eq_true rfl) dX3_settle_30 (fun H locs hP hD hS => ?_)
    have hP : va_P G.1 vwCl (flat [wX3 G a p0 0 0 0 a_temper a_friend a_rope a_hears a_shut a_woodBell a_woodVillage a_needVillage a_needWind a_needSeen a_sign]) H := hP
    have hD : va_D A (flat [wX3 G a p0 0 0 0 a_temper a_friend a_rope a_hears a_shut a_woodBell a_woodVillage a_needVillage a_needWind a_needSeen a_sign]) := hD
    refine lv_aload_n hx hb dX3_settle_33 rfl (lv_at hl 0 rfl) ?_
    refine va_get (D := G.1) (ci := 3) (v := .ref (a 1)) (C := RX3) (T := TX3) (N := 15) hx hb hts iiX3_settle_X3 hown hK hP 0 rfl rfl 4 (by decide) (hts _ mmX3_settle_5) (fun _ h9 => h9) rfl dX3_settle_34 ?_
    refine lv_iconst (v := 0) hx hb dX3_settle_37 (by decide) ?_
    obtain ⟨g3, hg3, hf⟩ := o_b hf
    refine kSv (ws' := flat [wX3 G a p0 0 0 0 g3 a_friend a_rope a_hears a_shut a_woodBell a_woodVillage a_needVillage a_needWind a_needSeen a_sign]) C hP hD hS (tJ7_fill_53178 l G (a 1) 6 a_temper 0 g3 hg3) gX3_settle_J7_fill_53178 rfl ⟨rfl, rfl⟩ hdJ7_fill_53178 ⟨Nat.le_of_ble_eq_true rfl, Nat.le_of_ble_eq_true rfl⟩ rfl hl.1 rfl (Nat.le_of_ble_eq_true rfl) ⟨Nat.le_of_ble_eq_true rfl, Nat.le_of_ble_eq_true rfl⟩ [1] rfl rfl rfl rfl dX3_settle_38 (fun H locs hP hD hS => ?_)
    have hP : va_P G.1 vwCl (flat [wX3 G a p0 0 0 0 g3 a_friend a_rope a_hears a_shut a_woodBell a_woodVillage a_needVillage a_needWind a_needSeen a_sign]) H := hP
    have hD : va_D A (flat [wX3 G a p0 0 0 0 g3 a_friend a_rope a_hears a_shut a_woodBell a_woodVillage a_needVillage a_needWind a_needSeen a_sign]) := hD
    refine lv_aload_n hx hb dX3_settle_41 rfl (lv_at hl 0 rfl) ?_
    refine va_get (D := G.1) (ci := 3) (v := .ref (a 4)) (C := RX3) (T := TX3) (N := 15) hx hb hts iiX3_settle_X3 hown hK hP 0 rfl rfl 7 (by decide) (hts _ mmX3_settle_6) (fun _ h9 => h9) rfl dX3_settle_42 ?_
    refine lv_iconst (v := 0) hx hb dX3_settle_45 (by decide) ?_
    refine at_pc (pc' := 46) rfl ?_
    obtain ⟨g4, hg4, hf⟩ := o_b hf
    refine kSv (ws' := flat [wX3 G a p0 0 0 0 g3 a_friend a_rope g4 a_shut a_woodBell a_woodVillage a_needVillage a_needWind a_needSeen a_sign]) C hP hD hS (tJ7_fill_53178 l G (a 4) 24 a_hears 0 g4 hg4) gX3_settle_J7_fill_53178 rfl ⟨rfl, rfl⟩ hdJ7_fill_53178 ⟨Nat.le_of_ble_eq_true rfl, Nat.le_of_ble_eq_true rfl⟩ rfl hl.1 rfl (Nat.le_of_ble_eq_true rfl) ⟨Nat.le_of_ble_eq_true rfl, Nat.le_of_ble_eq_true rfl⟩ [4] rfl rfl rfl rfl dX3_settle_46 (fun H locs hP hD hS => ?_)
    have hP : va_P G.1 vwCl (flat [wX3 G a p0 0 0 0 g3 a_friend a_rope g4 a_shut a_woodBell a_woodVillage a_needVillage a_needWind a_needSeen a_sign]) H := hP
    have hD : va_D A (flat [wX3 G a p0 0 0 0 g3 a_friend a_rope g4 a_shut a_woodBell a_woodVillage a_needVillage a_needWind a_needSeen a_sign]) := hD
    refine lv_aload_n hx hb dX3_settle_49 rfl (lv_at hl 0 rfl) ?_
    refine va_get (D := G.1) (ci := 3) (v := .ref (a 5)) (C := RX3) (T := TX3) (N := 15) hx hb hts iiX3_settle_X3 hown hK hP 0 rfl rfl 8 (by decide) (hts _ mmX3_settle_7) (fun _ h9 => h9) rfl dX3_settle_50 ?_
    refine lv_iconst (v := 0) hx hb dX3_settle_53 (by decide) ?_
    obtain ⟨g5, hg5, hf⟩ := o_b hf
    refine kSv (ws' := flat [wX3 G a p0 0 0 0 g3 a_friend a_rope g4 g5 a_woodBell a_woodVillage a_needVillage a_needWind a_needSeen a_sign]) C hP hD hS (tJ7_fill_53178 l G (a 5) 6 a_shut 0 g5 hg5) gX3_settle_J7_fill_53178 rfl ⟨rfl, rfl⟩ hdJ7_fill_53178 ⟨Nat.le_of_ble_eq_true rfl, Nat.le_of_ble_eq_true rfl⟩ rfl hl.1 rfl (Nat.le_of_ble_eq_true rfl) ⟨Nat.le_of_ble_eq_true rfl, Nat.le_of_ble_eq_true rfl⟩ [5] rfl rfl rfl rfl dX3_settle_54 (fun H locs hP hD hS => ?_)
    have hP : va_P G.1 vwCl (flat [wX3 G a p0 0 0 0 g3 a_friend a_rope g4 g5 a_woodBell a_woodVillage a_needVillage a_needWind a_needSeen a_sign]) H := hP
    have hD : va_D A (flat [wX3 G a p0 0 0 0 g3 a_friend a_rope g4 g5 a_woodBell a_woodVillage a_needVillage a_needWind a_needSeen a_sign]) := hD
    refine lv_iconst (v := 0) hx hb dX3_settle_57 (by decide) ?_
    refine lv_istore_n (lv' := [(2, .int 0), (0, .ref (a 0)), (1, .int p0)]) hx hb dX3_settle_58 rfl hl (by decide) rfl (fun ls hl => ?_)
    refine lX3_settle_59 l G C a a_villages a_woods a_needs a_signs a_temper a_friend a_rope a_hears a_shut a_woodBell a_woodVillage a_needVillage a_needWind a_needSeen a_sign p0 g3 g4 g5 out _ (fun x2_59_9 a_friend_59_10 a_rope_59_11 H locs ls hP hD hS hl hf => ?_) fu 0 a_friend a_rope _ _ _ hP hD hS (lv_sub hl [1, 2, 0] rfl) hf
    refine lv_iconst (v := 1) hx hb dX3_settle_85 (by decide) ?_
    have e9 := Option.some.inj hf
    subst e9
    exact rt_z C hP hS rfl rfl dX3_settle_86
  have hf := (o_i hf).2 c2
  refine lv_iconst (v := 0) hx hb dX3_settle_11 (by decide) ?_
  have e9 := Option.some.inj hf
  subst e9
  exact rt_z C hP hS rfl rfl dX3_settle_12

/-! RX3 isVillage(I)Z -/
theorem iiX3_isVillage_X3 : ∀ w ∈ wsX30, w ∈ wsX3_isVillage := by decide +kernel
theorem mmX3_isVillage_1 : (Cond.fieldLink RX3 49 "BlindBells$Valley" "villages" "I") ∈ wsX3_isVillage := by decide +kernel
theorem hdX3_isVillage : yX3_isVillage.cls = RX3 ∧ yX3_isVillage.cls ≠ "java/lang/invoke/MethodHandle" ∧ yX3_isVillage.cls ≠ "java/lang/invoke/VarHandle" ∧ (parseMethodDescriptor yX3_isVillage.desc).map (fun d => d.parameters.length) = some 1 := by decide +kernel
abbrev rmX3_isVillage : Room := { frames := 0, cells := 0, slots := 0, locals := 0 }
set_option maxHeartbeats 4000000 in
set_option maxRecDepth 100000 in
theorem tX3_isVillage (l : Launch) (G : GG) (a : Nat → Nat) (a_villages : Int32) (a_woods : Int32) (a_needs : Int32) (a_signs : Int32) (a_temper : Nat → Int32) (a_friend : Nat → Int32) (a_rope : Nat → Int32) (a_hears : Nat → Int32) (a_shut : Nat → Int32) (a_woodBell : Nat → Int32) (a_woodVillage : Nat → Int32) (a_needVillage : Nat → Int32) (a_needWind : Nat → Int32) (a_needSeen : Nat → Int32) (a_sign : Nat → Int32) (p0 : Int32) (out : Int32) (hf : fX3_isVillage a_villages p0 = some out) : cMi l G yX3_isVillage wsX3_isVillage rmX3_isVillage [.ref (a 0), .int p0] (flat [wX3 G a a_villages a_woods a_needs a_signs a_temper a_friend a_rope a_hears a_shut a_woodBell a_woodVillage a_needVillage a_needWind a_needSeen a_sign]) out (flat [wX3 G a a_villages a_woods a_needs a_signs a_temper a_friend a_rope a_hears a_shut a_woodBell a_woodVillage a_needVillage a_needWind a_needSeen a_sign]) := by
  intro sz
  refine met_of (cc := cX3_isVillage) (nL := 2) (ret := (some .boolean)) (Qc := fun A9 => QI G A9 out (flat [wX3 G a a_villages a_woods a_needs a_signs a_temper a_friend a_rope a_hears a_shut a_woodBell a_woodVillage a_needVillage a_needWind a_needSeen a_sign])) (by decide) rfl (Nat.le_of_ble_eq_true rfl) ?_
  intro p e s m args below meth c A ls C hP hD hS hl
  obtain ⟨⟨hx, hb, hml, hown, hts⟩, hr, hlocks, hK, hN, hE, hA⟩ := id C
  have hl : lv_has ls 2 [(0, .ref (a 0)), (1, .int p0)] := hl
  unfold fX3_isVillage at hf
  refine lv_iload_n hx hb dX3_isVillage_0 rfl (lv_at hl 1 rfl) ?_
  refine lv_if_lt (tgt := 16) hx hb dX3_isVillage_1 (by decide) (fun c1 => ?_) (fun c1 => ?_)
  · have hf := (o_i hf).1 c1
    refine lv_iconst (v := 0) hx hb dX3_isVillage_16 (by decide) ?_
    have e9 := Option.some.inj hf
    subst e9
    exact rt_z C hP hS rfl rfl dX3_isVillage_17
  have hf := (o_i hf).2 c1
  refine lv_iload_n hx hb dX3_isVillage_4 rfl (lv_at hl 1 rfl) ?_
  refine lv_aload_n hx hb dX3_isVillage_5 rfl (lv_at hl 0 rfl) ?_
  refine va_get (D := G.1) (ci := 3) (v := .int a_villages) (C := RX3) (T := TX3) (N := 15) hx hb hts iiX3_isVillage_X3 hown hK hP 0 rfl rfl 0 (by decide) (hts _ mmX3_isVillage_1) (fun _ h9 => h9) rfl dX3_isVillage_6 ?_
  refine lv_icmp_ge (tgt := 16) hx hb dX3_isVillage_9 (by decide) (fun c2 => ?_) (fun c2 => ?_)
  · have hf := (o_i hf).1 c2
    refine lv_iconst (v := 0) hx hb dX3_isVillage_16 (by decide) ?_
    have e9 := Option.some.inj hf
    subst e9
    exact rt_z C hP hS rfl rfl dX3_isVillage_17
  have hf := (o_i hf).2 c2
  refine lv_iconst (v := 1) hx hb dX3_isVillage_12 (by decide) ?_
  refine lv_goto (tgt := 17) hx hb dX3_isVillage_13 (by decide) ?_
  have e9 := Option.some.inj hf
  subst e9
  exact rt_z C hP hS rfl rfl dX3_isVillage_17

/-! RX3 areTwo(II)Z -/
theorem hdX3_areTwo : yX3_areTwo.cls = RX3 ∧ yX3_areTwo.cls ≠ "java/lang/invoke/MethodHandle" ∧ yX3_areTwo.cls ≠ "java/lang/invoke/VarHandle" ∧ (parseMethodDescriptor yX3_areTwo.desc).map (fun d => d.parameters.length) = some 2 := by decide +kernel
abbrev rmX3_areTwo : Room := { frames := 1, cells := 0, slots := 0, locals := 21 }
set_option maxHeartbeats 4000000 in
set_option maxRecDepth 100000 in
theorem tX3_areTwo (l : Launch) (G : GG) (a : Nat → Nat) (a_villages : Int32) (a_woods : Int32) (a_needs : Int32) (a_signs : Int32) (a_temper : Nat → Int32) (a_friend : Nat → Int32) (a_rope : Nat → Int32) (a_hears : Nat → Int32) (a_shut : Nat → Int32) (a_woodBell : Nat → Int32) (a_woodVillage : Nat → Int32) (a_needVillage : Nat → Int32) (a_needWind : Nat → Int32) (a_needSeen : Nat → Int32) (a_sign : Nat → Int32) (p0 : Int32) (p1 : Int32) (out : Int32) (hf : fX3_areTwo a_villages p0 p1 = some out) : cMi l G yX3_areTwo wsX3_areTwo rmX3_areTwo [.ref (a 0), .int p0, .int p1] (flat [wX3 G a a_villages a_woods a_needs a_signs a_temper a_friend a_rope a_hears a_shut a_woodBell a_woodVillage a_needVillage a_needWind a_needSeen a_sign]) out (flat [wX3 G a a_villages a_woods a_needs a_signs a_temper a_friend a_rope a_hears a_shut a_woodBell a_woodVillage a_needVillage a_needWind a_needSeen a_sign]) := by
  intro sz
  refine met_of (cc := cX3_areTwo) (nL := 3) (ret := (some .boolean)) (Qc := fun A9 => QI G A9 out (flat [wX3 G a a_villages a_woods a_needs a_signs a_temper a_friend a_rope a_hears a_shut a_woodBell a_woodVillage a_needVillage a_needWind a_needSeen a_sign])) (by decide) rfl (Nat.le_of_ble_eq_true rfl) ?_
  intro p e s m args below meth c A ls C hP hD hS hl
  obtain ⟨⟨hx, hb, hml, hown, hts⟩, hr, hlocks, hK, hN, hE, hA⟩ := id C
  have hl : lv_has ls 3 [(0, .ref (a 0)), (1, .int p0), (2, .int p1)] := hl
  unfold fX3_areTwo at hf
  refine lv_aload_n hx hb dX3_areTwo_0 rfl (lv_at hl 0 rfl) ?_
  refine lv_iload_n hx hb dX3_areTwo_1 rfl (lv_at hl 1 rfl) ?_
  obtain ⟨g1, hg1, hf⟩ := o_b hf
  refine bVi C hP hD hS (tX3_isVillage l G a a_villages a_woods a_needs a_signs a_temper a_friend a_rope a_hears a_shut a_woodBell a_woodVillage a_needVillage a_needWind a_needSeen a_sign p0 g1 hg1) gX3_areTwo_X3_isVillage rfl ⟨rfl, rfl⟩ hdX3_isVillage ⟨Nat.le_of_ble_eq_true rfl, Nat.le_of_ble_eq_true rfl⟩ rfl hl.1 rfl (Nat.le_of_ble_eq_true rfl) ⟨Nat.le_of_ble_eq_true rfl, Nat.le_of_ble_eq_true rfl⟩ [0] rfl rfl rfl (setB_same _ _ _ rfl) rfl (ci := 3) (q0 := 0) rfl rfl rfl dX3_areTwo_2 (fun H locs hP hD hS => ?_)
  refine lv_if_eq (tgt := 25) hx hb dX3_areTwo_5 (by decide) (fun c2 => ?_) (fun c2 => ?_)
  · have hf := (o_i hf).1 c2
    refine lv_iconst (v := 0) hx hb dX3_areTwo_25 (by decide) ?_
    have e9 := Option.some.inj hf
    subst e9
    exact rt_z C hP hS rfl rfl dX3_areTwo_26
  have hf := (o_i hf).2 c2
  refine lv_aload_n hx hb dX3_areTwo_8 rfl (lv_at hl 0 rfl) ?_
  refine lv_iload_n hx hb dX3_areTwo_9 rfl (lv_at hl 2 rfl) ?_
  obtain ⟨g3, hg3, hf⟩ := o_b hf
  refine bVi C hP hD hS (tX3_isVillage l G a a_villages a_woods a_needs a_signs a_temper a_friend a_rope a_hears a_shut a_woodBell a_woodVillage a_needVillage a_needWind a_needSeen a_sign p1 g3 hg3) gX3_areTwo_X3_isVillage rfl ⟨rfl, rfl⟩ hdX3_isVillage ⟨Nat.le_of_ble_eq_true rfl, Nat.le_of_ble_eq_true rfl⟩ rfl hl.1 rfl (Nat.le_of_ble_eq_true rfl) ⟨Nat.le_of_ble_eq_true rfl, Nat.le_of_ble_eq_true rfl⟩ [0] rfl rfl rfl (setB_same _ _ _ rfl) rfl (ci := 3) (q0 := 0) rfl rfl rfl dX3_areTwo_10 (fun H locs hP hD hS => ?_)
  refine lv_if_eq (tgt := 25) hx hb dX3_areTwo_13 (by decide) (fun c4 => ?_) (fun c4 => ?_)
  · have hf := (o_i hf).1 c4
    refine lv_iconst (v := 0) hx hb dX3_areTwo_25 (by decide) ?_
    have e9 := Option.some.inj hf
    subst e9
    exact rt_z C hP hS rfl rfl dX3_areTwo_26
  have hf := (o_i hf).2 c4
  refine lv_iload_n hx hb dX3_areTwo_16 rfl (lv_at hl 1 rfl) ?_
  refine lv_iload_n hx hb dX3_areTwo_17 rfl (lv_at hl 2 rfl) ?_
  refine lv_icmp_eq (tgt := 25) hx hb dX3_areTwo_18 (by decide) (fun c5 => ?_) (fun c5 => ?_)
  · have hf := (o_i hf).1 c5
    refine lv_iconst (v := 0) hx hb dX3_areTwo_25 (by decide) ?_
    have e9 := Option.some.inj hf
    subst e9
    exact rt_z C hP hS rfl rfl dX3_areTwo_26
  have hf := (o_i hf).2 c5
  refine lv_iconst (v := 1) hx hb dX3_areTwo_21 (by decide) ?_
  refine lv_goto (tgt := 26) hx hb dX3_areTwo_22 (by decide) ?_
  have e9 := Option.some.inj hf
  subst e9
  exact rt_z C hP hS rfl rfl dX3_areTwo_26

/-! RX6 isWind(I)Z -/
theorem hdX6_isWind : yX6_isWind.cls ≠ "java/lang/invoke/MethodHandle" ∧ yX6_isWind.cls ≠ "java/lang/invoke/VarHandle" ∧ (parseMethodDescriptor yX6_isWind.desc).map (fun d => d.parameters.length) = some 1 := by decide +kernel
abbrev rmX6_isWind : Room := { frames := 0, cells := 0, slots := 0, locals := 0 }
set_option maxHeartbeats 4000000 in
set_option maxRecDepth 100000 in
theorem tX6_isWind (l : Launch) (G : GG) (p0 : Int32) (out : Int32) (hf : fX6_isWind p0 = some out) : cMi l G yX6_isWind wsX6_isWind rmX6_isWind [.int p0] (flat []) out (flat []) := by
  intro sz
  refine met_of (cc := cX6_isWind) (nL := 1) (ret := (some .boolean)) (Qc := fun A9 => QI G A9 out (flat [])) (by decide) rfl (Nat.le_of_ble_eq_true rfl) ?_
  intro p e s m args below meth c A ls C hP hD hS hl
  obtain ⟨⟨hx, hb, hml, hown, hts⟩, hr, hlocks, hK, hN, hE, hA⟩ := id C
  have hl : lv_has ls 1 [(0, .int p0)] := hl
  unfold fX6_isWind at hf
  refine lv_iload_n hx hb dX6_isWind_0 rfl (lv_at hl 0 rfl) ?_
  refine lv_if_lt (tgt := 13) hx hb dX6_isWind_1 (by decide) (fun c1 => ?_) (fun c1 => ?_)
  · have hf := (o_i hf).1 c1
    refine lv_iconst (v := 0) hx hb dX6_isWind_13 (by decide) ?_
    have e9 := Option.some.inj hf
    subst e9
    exact rt_z C hP hS rfl rfl dX6_isWind_14
  have hf := (o_i hf).2 c1
  refine lv_iload_n hx hb dX6_isWind_4 rfl (lv_at hl 0 rfl) ?_
  refine lv_iconst (v := 4) hx hb dX6_isWind_5 (by decide) ?_
  refine lv_icmp_ge (tgt := 13) hx hb dX6_isWind_6 (by decide) (fun c2 => ?_) (fun c2 => ?_)
  · have hf := (o_i hf).1 c2
    refine lv_iconst (v := 0) hx hb dX6_isWind_13 (by decide) ?_
    have e9 := Option.some.inj hf
    subst e9
    exact rt_z C hP hS rfl rfl dX6_isWind_14
  have hf := (o_i hf).2 c2
  refine lv_iconst (v := 1) hx hb dX6_isWind_9 (by decide) ?_
  refine lv_goto (tgt := 14) hx hb dX6_isWind_10 (by decide) ?_
  have e9 := Option.some.inj hf
  subst e9
  exact rt_z C hP hS rfl rfl dX6_isWind_14

/-! RX3 setHears(IIIZ)I -/
theorem mmX3_setHears_0 : (Cond.static yX6_isWind) ∈ wsX3_setHears := by decide +kernel
theorem mmX3_setHears_1 : (Cond.initialized RX6) ∈ wsX3_setHears := by decide +kernel
theorem iiX3_setHears_X3 : ∀ w ∈ wsX30, w ∈ wsX3_setHears := by decide +kernel
theorem mmX3_setHears_3 : (Cond.fieldLink RX3 21 "BlindBells$Valley" "hears" "[I") ∈ wsX3_setHears := by decide +kernel
theorem mmX3_setHears_4 : (Cond.static yX6_has) ∈ wsX3_setHears := by decide +kernel
theorem hdX3_setHears : yX3_setHears.cls = RX3 ∧ yX3_setHears.cls ≠ "java/lang/invoke/MethodHandle" ∧ yX3_setHears.cls ≠ "java/lang/invoke/VarHandle" ∧ (parseMethodDescriptor yX3_setHears.desc).map (fun d => d.parameters.length) = some 4 := by decide +kernel
abbrev rmX3_setHears : Room := { frames := 2, cells := 0, slots := 0, locals := 43 }
set_option maxHeartbeats 4000000 in
set_option maxRecDepth 100000 in
theorem tX3_setHears (l : Launch) (G : GG) (a : Nat → Nat) (a_villages : Int32) (a_woods : Int32) (a_needs : Int32) (a_signs : Int32) (a_temper : Nat → Int32) (a_friend : Nat → Int32) (a_rope : Nat → Int32) (a_hears : Nat → Int32) (a_shut : Nat → Int32) (a_woodBell : Nat → Int32) (a_woodVillage : Nat → Int32) (a_needVillage : Nat → Int32) (a_needWind : Nat → Int32) (a_needSeen : Nat → Int32) (a_sign : Nat → Int32) (p0 : Int32) (p1 : Int32) (p2 : Int32) (p3 : Int32) (out : Int32 × (Nat → Int32)) (hf : fX3_setHears a_villages a_hears p0 p1 p2 p3 = some out) : cMi l G yX3_setHears wsX3_setHears rmX3_setHears [.ref (a 0), .int p0, .int p1, .int p2, .int p3] (flat [wX3 G a a_villages a_woods a_needs a_signs a_temper a_friend a_rope a_hears a_shut a_woodBell a_woodVillage a_needVillage a_needWind a_needSeen a_sign]) out.1 (flat [wX3 G a a_villages a_woods a_needs a_signs a_temper a_friend a_rope out.2 a_shut a_woodBell a_woodVillage a_needVillage a_needWind a_needSeen a_sign]) := by
  intro sz
  refine met_of (cc := cX3_setHears) (nL := 6) (ret := (some .int)) (Qc := fun A9 => QI G A9 out.1 (flat [wX3 G a a_villages a_woods a_needs a_signs a_temper a_friend a_rope out.2 a_shut a_woodBell a_woodVillage a_needVillage a_needWind a_needSeen a_sign])) (by decide) rfl (Nat.le_of_ble_eq_true rfl) ?_
  intro p e s m args below meth c A ls C hP hD hS hl
  obtain ⟨⟨hx, hb, hml, hown, hts⟩, hr, hlocks, hK, hN, hE, hA⟩ := id C
  have hl : lv_has ls 6 [(0, .ref (a 0)), (1, .int p0), (2, .int p1), (3, .int p2), (4, .int p3)] := hl
  unfold fX3_setHears at hf
  refine lv_aload_n hx hb dX3_setHears_0 rfl (lv_at hl 0 rfl) ?_
  refine lv_iload_n hx hb dX3_setHears_1 rfl (lv_at hl 1 rfl) ?_
  refine lv_iload_n hx hb dX3_setHears_2 rfl (lv_at hl 3 rfl) ?_
  obtain ⟨g1, hg1, hf⟩ := o_b hf
  refine bVi C hP hD hS (tX3_areTwo l G a a_villages a_woods a_needs a_signs a_temper a_friend a_rope a_hears a_shut a_woodBell a_woodVillage a_needVillage a_needWind a_needSeen a_sign p0 p2 g1 hg1) gX3_setHears_X3_areTwo rfl ⟨rfl, rfl⟩ hdX3_areTwo ⟨Nat.le_of_ble_eq_true rfl, Nat.le_of_ble_eq_true rfl⟩ rfl hl.1 rfl (Nat.le_of_ble_eq_true rfl) ⟨Nat.le_of_ble_eq_true rfl, Nat.le_of_ble_eq_true rfl⟩ [0] rfl rfl rfl (setB_same _ _ _ rfl) rfl (ci := 3) (q0 := 0) rfl rfl rfl dX3_setHears_3 (fun H locs hP hD hS => ?_)
  refine lv_if_eq (tgt := 16) hx hb dX3_setHears_6 (by decide) (fun c2 => ?_) (fun c2 => ?_)
  · have hf := (o_i hf).1 c2
    refine lv_bipush (v := (-2)) hx hb dX3_setHears_16 (by decide) ?_
    have e9 := Option.some.inj hf
    subst e9
    exact rt_i C hP hS rfl dX3_setHears_18
  have hf := (o_i hf).2 c2
  refine lv_iload_n hx hb dX3_setHears_9 rfl (lv_at hl 2 rfl) ?_
  obtain ⟨g3, hg3, hf⟩ := o_b hf
  refine bNi C hP hD hS (tX6_isWind l G p1 g3 hg3) gX3_setHears_X6_isWind_n81 (nw8 hN) (hts _ mmX3_setHears_0) (hts _ mmX3_setHears_1) rfl ⟨rfl, rfl⟩ hdX6_isWind ⟨Nat.le_of_ble_eq_true rfl, Nat.le_of_ble_eq_true rfl⟩ rfl hl.1 rfl (Nat.le_of_ble_eq_true rfl) ⟨Nat.le_of_ble_eq_true rfl, Nat.le_of_ble_eq_true rfl⟩ [] rfl rfl rfl (setB_same _ _ _ rfl) rfl dX3_setHears_10 (fun H locs hP hD hS => ?_)
  refine lv_if_ne (tgt := 19) hx hb dX3_setHears_13 (by decide) (fun c4 => ?_) (fun c4 => ?_)
  · have hf := (o_i hf).2 c4
    refine lv_iload_n hx hb dX3_setHears_19 rfl (lv_at hl 1 rfl) ?_
    refine lv_iconst (v := 4) hx hb dX3_setHears_20 (by decide) ?_
    refine lv_imul hx hb dX3_setHears_21 ?_
    refine lv_iload_n hx hb dX3_setHears_22 rfl (lv_at hl 2 rfl) ?_
    refine lv_iadd hx hb dX3_setHears_23 ?_
    refine lv_istore (lv' := [(5, .int ((p0 * 4) + p1)), (0, .ref (a 0)), (1, .int p0), (2, .int p1), (3, .int p2), (4, .int p3)]) hx hb dX3_setHears_24 hl (by decide) rfl (fun ls hl => ?_)
    refine lv_aload_n hx hb dX3_setHears_26 rfl (lv_at hl 1 rfl) ?_
    refine va_get (D := G.1) (ci := 3) (v := .ref (a 4)) (C := RX3) (T := TX3) (N := 15) hx hb hts iiX3_setHears_X3 hown hK hP 0 rfl rfl 7 (by decide) (hts _ mmX3_setHears_3) (fun _ h9 => h9) rfl dX3_setHears_27 ?_
    refine lv_iload hx hb dX3_setHears_30 (lv_at hl 0 rfl) ?_
    refine at_pc (pc' := 32) rfl ?_
    obtain ⟨z5, hz5, hf⟩ := o_b hf
    refine k_iald hx hb hK hP 4 0 rfl rfl hz5 dX3_setHears_32 ?_
    refine lv_iload_n hx hb dX3_setHears_33 rfl (lv_at hl 4 rfl) ?_
    obtain ⟨g6, hg6, hf⟩ := o_b hf
    refine bNi C hP hD hS (tX6_has l G z5 p2 g6 hg6) gX3_setHears_X6_has_n84 (nw9 hN) (hts _ mmX3_setHears_4) (hts _ mmX3_setHears_1) rfl ⟨rfl, rfl⟩ hdX6_has ⟨Nat.le_of_ble_eq_true rfl, Nat.le_of_ble_eq_true rfl⟩ rfl hl.1 rfl (Nat.le_of_ble_eq_true rfl) ⟨Nat.le_of_ble_eq_true rfl, Nat.le_of_ble_eq_true rfl⟩ [] rfl rfl rfl (setB_same _ _ _ rfl) rfl dX3_setHears_34 (fun H locs hP hD hS => ?_)
    refine lv_iload hx hb dX3_setHears_37 (lv_at hl 5 rfl) ?_
    refine lv_icmp_ne (tgt := 45) hx hb dX3_setHears_39 (by decide) (fun c7 => ?_) (fun c7 => ?_)
    · have hf := (o_i hf).2 c7
      refine lv_aload_n hx hb dX3_setHears_45 rfl (lv_at hl 1 rfl) ?_
      refine va_get (D := G.1) (ci := 3) (v := .ref (a 4)) (C := RX3) (T := TX3) (N := 15) hx hb hts iiX3_setHears_X3 hown hK hP 0 rfl rfl 7 (by decide) (hts _ mmX3_setHears_3) (fun _ h9 => h9) rfl dX3_setHears_46 ?_
      refine lv_iload hx hb dX3_setHears_49 (lv_at hl 0 rfl) ?_
      refine lv_dup2_11 hx hb dX3_setHears_51 rfl rfl ?_
      obtain ⟨z8, hz8, hf⟩ := o_b hf
      refine k_iald hx hb hK hP 4 0 rfl rfl hz8 dX3_setHears_52 ?_
      refine lv_iconst (v := 1) hx hb dX3_setHears_53 (by decide) ?_
      refine lv_iload_n hx hb dX3_setHears_54 rfl (lv_at hl 4 rfl) ?_
      refine lv_ishl hx hb dX3_setHears_55 ?_
      refine lv_ixor hx hb dX3_setHears_56 ?_
      refine at_pc (pc' := 57) rfl ?_
      obtain ⟨u9, hu9, hf⟩ := o_b hf
      refine k_iast hx hb hK hP hD hS 4 0 rfl rfl hu9 dX3_setHears_57 (fun H locs hP hD hS => ?_)
      have hP : va_P G.1 vwCl (flat [wX3 G a a_villages a_woods a_needs a_signs a_temper a_friend a_rope u9 a_shut a_woodBell a_woodVillage a_needVillage a_needWind a_needSeen a_sign]) H := hP
      have hD : va_D A (flat [wX3 G a a_villages a_woods a_needs a_signs a_temper a_friend a_rope u9 a_shut a_woodBell a_woodVillage a_needVillage a_needWind a_needSeen a_sign]) := hD
      refine lv_iconst (v := 1) hx hb dX3_setHears_58 (by decide) ?_
      have e9 := Option.some.inj hf
      subst e9
      exact rt_i C hP hS rfl dX3_setHears_59
    have hf := (o_i hf).1 c7
    refine lv_bipush (v := (-3)) hx hb dX3_setHears_42 (by decide) ?_
    have e9 := Option.some.inj hf
    subst e9
    exact rt_i C hP hS rfl dX3_setHears_44
  have hf := (o_i hf).1 c4
  refine lv_bipush (v := (-2)) hx hb dX3_setHears_16 (by decide) ?_
  have e9 := Option.some.inj hf
  subst e9
  exact rt_i C hP hS rfl dX3_setHears_18

/-! RX3 addWood(II)I -/
theorem iiX3_addWood_X3 : ∀ w ∈ wsX30, w ∈ wsX3_addWood := by decide +kernel
theorem mmX3_addWood_1 : (Cond.fieldLink RX3 53 "BlindBells$Valley" "woods" "I") ∈ wsX3_addWood := by decide +kernel
theorem mmX3_addWood_2 : (Cond.fieldLink RX3 27 "BlindBells$Valley" "woodBell" "[I") ∈ wsX3_addWood := by decide +kernel
theorem mmX3_addWood_3 : (Cond.fieldLink RX3 30 "BlindBells$Valley" "woodVillage" "[I") ∈ wsX3_addWood := by decide +kernel
theorem mmX3_addWood_4 : (Cond.fieldLink RX3 24 "BlindBells$Valley" "shut" "[I") ∈ wsX3_addWood := by decide +kernel
theorem hdX3_addWood : yX3_addWood.cls = RX3 ∧ yX3_addWood.cls ≠ "java/lang/invoke/MethodHandle" ∧ yX3_addWood.cls ≠ "java/lang/invoke/VarHandle" ∧ (parseMethodDescriptor yX3_addWood.desc).map (fun d => d.parameters.length) = some 2 := by decide +kernel
abbrev rmX3_addWood : Room := { frames := 2, cells := 0, slots := 0, locals := 43 }
set_option maxHeartbeats 4000000 in
set_option maxRecDepth 100000 in
theorem tX3_addWood (l : Launch) (G : GG) (a : Nat → Nat) (a_villages : Int32) (a_woods : Int32) (a_needs : Int32) (a_signs : Int32) (a_temper : Nat → Int32) (a_friend : Nat → Int32) (a_rope : Nat → Int32) (a_hears : Nat → Int32) (a_shut : Nat → Int32) (a_woodBell : Nat → Int32) (a_woodVillage : Nat → Int32) (a_needVillage : Nat → Int32) (a_needWind : Nat → Int32) (a_needSeen : Nat → Int32) (a_sign : Nat → Int32) (p0 : Int32) (p1 : Int32) (out : Int32 × Int32 × (Nat → Int32) × (Nat → Int32) × (Nat → Int32)) (hf : fX3_addWood a_villages a_woods a_shut a_woodBell a_woodVillage p0 p1 = some out) : cMi l G yX3_addWood wsX3_addWood rmX3_addWood [.ref (a 0), .int p0, .int p1] (flat [wX3 G a a_villages a_woods a_needs a_signs a_temper a_friend a_rope a_hears a_shut a_woodBell a_woodVillage a_needVillage a_needWind a_needSeen a_sign]) out.1 (flat [wX3 G a a_villages out.2.1 a_needs a_signs a_temper a_friend a_rope a_hears out.2.2.1 out.2.2.2.1 out.2.2.2.2 a_needVillage a_needWind a_needSeen a_sign]) := by
  intro sz
  refine met_of (cc := cX3_addWood) (nL := 3) (ret := (some .int)) (Qc := fun A9 => QI G A9 out.1 (flat [wX3 G a a_villages out.2.1 a_needs a_signs a_temper a_friend a_rope a_hears out.2.2.1 out.2.2.2.1 out.2.2.2.2 a_needVillage a_needWind a_needSeen a_sign])) (by decide) rfl (Nat.le_of_ble_eq_true rfl) ?_
  intro p e s m args below meth c A ls C hP hD hS hl
  obtain ⟨⟨hx, hb, hml, hown, hts⟩, hr, hlocks, hK, hN, hE, hA⟩ := id C
  have hl : lv_has ls 3 [(0, .ref (a 0)), (1, .int p0), (2, .int p1)] := hl
  unfold fX3_addWood at hf
  refine lv_aload_n hx hb dX3_addWood_0 rfl (lv_at hl 0 rfl) ?_
  refine lv_iload_n hx hb dX3_addWood_1 rfl (lv_at hl 1 rfl) ?_
  refine lv_iload_n hx hb dX3_addWood_2 rfl (lv_at hl 2 rfl) ?_
  obtain ⟨g1, hg1, hf⟩ := o_b hf
  refine bVi C hP hD hS (tX3_areTwo l G a a_villages a_woods a_needs a_signs a_temper a_friend a_rope a_hears a_shut a_woodBell a_woodVillage a_needVillage a_needWind a_needSeen a_sign p0 p1 g1 hg1) gX3_addWood_X3_areTwo rfl ⟨rfl, rfl⟩ hdX3_areTwo ⟨Nat.le_of_ble_eq_true rfl, Nat.le_of_ble_eq_true rfl⟩ rfl hl.1 rfl (Nat.le_of_ble_eq_true rfl) ⟨Nat.le_of_ble_eq_true rfl, Nat.le_of_ble_eq_true rfl⟩ [0] rfl rfl rfl (setB_same _ _ _ rfl) rfl (ci := 3) (q0 := 0) rfl rfl rfl dX3_addWood_3 (fun H locs hP hD hS => ?_)
  refine lv_if_ne (tgt := 12) hx hb dX3_addWood_6 (by decide) (fun c2 => ?_) (fun c2 => ?_)
  · have hf := (o_i hf).2 c2
    refine lv_aload_n hx hb dX3_addWood_12 rfl (lv_at hl 0 rfl) ?_
    refine va_get (D := G.1) (ci := 3) (v := .int a_woods) (C := RX3) (T := TX3) (N := 15) hx hb hts iiX3_addWood_X3 hown hK hP 0 rfl rfl 1 (by decide) (hts _ mmX3_addWood_1) (fun _ h9 => h9) rfl dX3_addWood_13 ?_
    refine lv_bipush (v := 8) hx hb dX3_addWood_16 (by decide) ?_
    refine lv_icmp_lt (tgt := 24) hx hb dX3_addWood_18 (by decide) (fun c3 => ?_) (fun c3 => ?_)
    · have hf := (o_i hf).1 c3
      refine lv_aload_n hx hb dX3_addWood_24 rfl (lv_at hl 0 rfl) ?_
      refine va_get (D := G.1) (ci := 3) (v := .ref (a 6)) (C := RX3) (T := TX3) (N := 15) hx hb hts iiX3_addWood_X3 hown hK hP 0 rfl rfl 9 (by decide) (hts _ mmX3_addWood_2) (fun _ h9 => h9) rfl dX3_addWood_25 ?_
      refine lv_aload_n hx hb dX3_addWood_28 rfl (lv_at hl 0 rfl) ?_
      refine va_get (D := G.1) (ci := 3) (v := .int a_woods) (C := RX3) (T := TX3) (N := 15) hx hb hts iiX3_addWood_X3 hown hK hP 0 rfl rfl 1 (by decide) (hts _ mmX3_addWood_1) (fun _ h9 => h9) rfl dX3_addWood_29 ?_
      refine lv_iload_n hx hb dX3_addWood_32 rfl (lv_at hl 1 rfl) ?_
      obtain ⟨u4, hu4, hf⟩ := o_b hf
      refine k_iast hx hb hK hP hD hS 6 0 rfl rfl hu4 dX3_addWood_33 (fun H locs hP hD hS => ?_)
      have hP : va_P G.1 vwCl (flat [wX3 G a a_villages a_woods a_needs a_signs a_temper a_friend a_rope a_hears a_shut u4 a_woodVillage a_needVillage a_needWind a_needSeen a_sign]) H := hP
      have hD : va_D A (flat [wX3 G a a_villages a_woods a_needs a_signs a_temper a_friend a_rope a_hears a_shut u4 a_woodVillage a_needVillage a_needWind a_needSeen a_sign]) := hD
      refine lv_aload_n hx hb dX3_addWood_34 rfl (lv_at hl 0 rfl) ?_
      refine va_get (D := G.1) (ci := 3) (v := .ref (a 7)) (C := RX3) (T := TX3) (N := 15) hx hb hts iiX3_addWood_X3 hown hK hP 0 rfl rfl 10 (by decide) (hts _ mmX3_addWood_3) (fun _ h9 => h9) rfl dX3_addWood_35 ?_
      refine lv_aload_n hx hb dX3_addWood_38 rfl (lv_at hl 0 rfl) ?_
      refine at_pc (pc' := 39) rfl ?_
      refine va_get (D := G.1) (ci := 3) (v := .int a_woods) (C := RX3) (T := TX3) (N := 15) hx hb hts iiX3_addWood_X3 hown hK hP 0 rfl rfl 1 (by decide) (hts _ mmX3_addWood_1) (fun _ h9 => h9) rfl dX3_addWood_39 ?_
      refine lv_iload_n hx hb dX3_addWood_42 rfl (lv_at hl 2 rfl) ?_
      obtain ⟨u5, hu5, hf⟩ := o_b hf
      refine k_iast hx hb hK hP hD hS 7 0 rfl rfl hu5 dX3_addWood_43 (fun H locs hP hD hS => ?_)
      have hP : va_P G.1 vwCl (flat [wX3 G a a_villages a_woods a_needs a_signs a_temper a_friend a_rope a_hears a_shut u4 u5 a_needVillage a_needWind a_needSeen a_sign]) H := hP
      have hD : va_D A (flat [wX3 G a a_villages a_woods a_needs a_signs a_temper a_friend a_rope a_hears a_shut u4 u5 a_needVillage a_needWind a_needSeen a_sign]) := hD
      refine lv_aload_n hx hb dX3_addWood_44 rfl (lv_at hl 0 rfl) ?_
      refine va_get (D := G.1) (ci := 3) (v := .ref (a 5)) (C := RX3) (T := TX3) (N := 15) hx hb hts iiX3_addWood_X3 hown hK hP 0 rfl rfl 8 (by decide) (hts _ mmX3_addWood_4) (fun _ h9 => h9) rfl dX3_addWood_45 ?_
      refine lv_iload_n hx hb dX3_addWood_48 rfl (lv_at hl 1 rfl) ?_
      refine lv_dup2_11 hx hb dX3_addWood_49 rfl rfl ?_
      obtain ⟨z6, hz6, hf⟩ := o_b hf
      refine k_iald hx hb hK hP 5 0 rfl rfl hz6 dX3_addWood_50 ?_
      refine lv_iconst (v := 1) hx hb dX3_addWood_51 (by decide) ?_
      refine lv_iload_n hx hb dX3_addWood_52 rfl (lv_at hl 2 rfl) ?_
      refine at_pc (pc' := 53) rfl ?_
      refine lv_ishl hx hb dX3_addWood_53 ?_
      refine lv_ior hx hb dX3_addWood_54 ?_
      obtain ⟨u7, hu7, hf⟩ := o_b hf
      refine k_iast hx hb hK hP hD hS 5 0 rfl rfl hu7 dX3_addWood_55 (fun H locs hP hD hS => ?_)
      have hP : va_P G.1 vwCl (flat [wX3 G a a_villages a_woods a_needs a_signs a_temper a_friend a_rope a_hears u7 u4 u5 a_needVillage a_needWind a_needSeen a_sign]) H := hP
      have hD : va_D A (flat [wX3 G a a_villages a_woods a_needs a_signs a_temper a_friend a_rope a_hears u7 u4 u5 a_needVillage a_needWind a_needSeen a_sign]) := hD
      refine lv_aload_n hx hb dX3_addWood_56 rfl (lv_at hl 0 rfl) ?_
      refine lv_dup hx hb dX3_addWood_57 rfl ?_
      refine va_get (D := G.1) (ci := 3) (v := .int a_woods) (C := RX3) (T := TX3) (N := 15) hx hb hts iiX3_addWood_X3 hown hK hP 0 rfl rfl 1 (by decide) (hts _ mmX3_addWood_1) (fun _ h9 => h9) rfl dX3_addWood_58 ?_
      refine lv_dup_x1 hx hb dX3_addWood_61 rfl rfl ?_
      refine lv_iconst (v := 1) hx hb dX3_addWood_62 (by decide) ?_
      refine lv_iadd hx hb dX3_addWood_63 ?_
      refine va_put (D := G.1) (ci := 3) (v := .int (a_woods + 1)) (ty := .int) (C := RX3) (T := TX3) (N := 15) hx hb hts iiX3_addWood_X3 tyX3 tyX3_ok nmX3 hown hK hP hD hS 0 rfl rfl 1 (by decide) (hts _ mmX3_addWood_1) (fun _ h9 => h9) rfl (by decide +kernel) rfl rfl (Nat.le_of_ble_eq_true rfl) dX3_addWood_64 (fun H locs hP hD hS => ?_)
      have hP : va_P G.1 vwCl (flat [wX3 G a a_villages (a_woods + 1) a_needs a_signs a_temper a_friend a_rope a_hears u7 u4 u5 a_needVillage a_needWind a_needSeen a_sign]) H := hP
      have hD : va_D A (flat [wX3 G a a_villages (a_woods + 1) a_needs a_signs a_temper a_friend a_rope a_hears u7 u4 u5 a_needVillage a_needWind a_needSeen a_sign]) := hD
      refine at_pc (pc' := 67) rfl ?_
      have e9 := Option.some.inj hf
      subst e9
      exact rt_i C hP hS rfl dX3_addWood_67
    have hf := (o_i hf).2 c3
    refine lv_bipush (v := (-4)) hx hb dX3_addWood_21 (by decide) ?_
    have e9 := Option.some.inj hf
    subst e9
    exact rt_i C hP hS rfl dX3_addWood_23
  have hf := (o_i hf).1 c2
  refine lv_bipush (v := (-2)) hx hb dX3_addWood_9 (by decide) ?_
  have e9 := Option.some.inj hf
  subst e9
  exact rt_i C hP hS rfl dX3_addWood_11

/-! RX3 setTemper(II)I -/
theorem iiX3_setTemper_X3 : ∀ w ∈ wsX30, w ∈ wsX3_setTemper := by decide +kernel
theorem mmX3_setTemper_1 : (Cond.fieldLink RX3 9 "BlindBells$Valley" "temper" "[I") ∈ wsX3_setTemper := by decide +kernel
theorem hdX3_setTemper : yX3_setTemper.cls = RX3 ∧ yX3_setTemper.cls ≠ "java/lang/invoke/MethodHandle" ∧ yX3_setTemper.cls ≠ "java/lang/invoke/VarHandle" ∧ (parseMethodDescriptor yX3_setTemper.desc).map (fun d => d.parameters.length) = some 2 := by decide +kernel
abbrev rmX3_setTemper : Room := { frames := 1, cells := 0, slots := 0, locals := 21 }
set_option maxHeartbeats 4000000 in
set_option maxRecDepth 100000 in
theorem tX3_setTemper (l : Launch) (G : GG) (a : Nat → Nat) (a_villages : Int32) (a_woods : Int32) (a_needs : Int32) (a_signs : Int32) (a_temper : Nat → Int32) (a_friend : Nat → Int32) (a_rope : Nat → Int32) (a_hears : Nat → Int32) (a_shut : Nat → Int32) (a_woodBell : Nat → Int32) (a_woodVillage : Nat → Int32) (a_needVillage : Nat → Int32) (a_needWind : Nat → Int32) (a_needSeen : Nat → Int32) (a_sign : Nat → Int32) (p0 : Int32) (p1 : Int32) (out : Int32 × (Nat → Int32)) (hf : fX3_setTemper a_villages a_temper p0 p1 = some out) : cMi l G yX3_setTemper wsX3_setTemper rmX3_setTemper [.ref (a 0), .int p0, .int p1] (flat [wX3 G a a_villages a_woods a_needs a_signs a_temper a_friend a_rope a_hears a_shut a_woodBell a_woodVillage a_needVillage a_needWind a_needSeen a_sign]) out.1 (flat [wX3 G a a_villages a_woods a_needs a_signs out.2 a_friend a_rope a_hears a_shut a_woodBell a_woodVillage a_needVillage a_needWind a_needSeen a_sign]) := by
  intro sz
  refine met_of (cc := cX3_setTemper) (nL := 4) (ret := (some .int)) (Qc := fun A9 => QI G A9 out.1 (flat [wX3 G a a_villages a_woods a_needs a_signs out.2 a_friend a_rope a_hears a_shut a_woodBell a_woodVillage a_needVillage a_needWind a_needSeen a_sign])) (by decide) rfl (Nat.le_of_ble_eq_true rfl) ?_
  intro p e s m args below meth c A ls C hP hD hS hl
  obtain ⟨⟨hx, hb, hml, hown, hts⟩, hr, hlocks, hK, hN, hE, hA⟩ := id C
  have hl : lv_has ls 4 [(0, .ref (a 0)), (1, .int p0), (2, .int p1)] := hl
  unfold fX3_setTemper at hf
  refine lv_aload_n hx hb dX3_setTemper_0 rfl (lv_at hl 0 rfl) ?_
  refine lv_iload_n hx hb dX3_setTemper_1 rfl (lv_at hl 1 rfl) ?_
  obtain ⟨g1, hg1, hf⟩ := o_b hf
  refine bVi C hP hD hS (tX3_isVillage l G a a_villages a_woods a_needs a_signs a_temper a_friend a_rope a_hears a_shut a_woodBell a_woodVillage a_needVillage a_needWind a_needSeen a_sign p0 g1 hg1) gX3_setTemper_X3_isVillage rfl ⟨rfl, rfl⟩ hdX3_isVillage ⟨Nat.le_of_ble_eq_true rfl, Nat.le_of_ble_eq_true rfl⟩ rfl hl.1 rfl (Nat.le_of_ble_eq_true rfl) ⟨Nat.le_of_ble_eq_true rfl, Nat.le_of_ble_eq_true rfl⟩ [0] rfl rfl rfl (setB_same _ _ _ rfl) rfl (ci := 3) (q0 := 0) rfl rfl rfl dX3_setTemper_2 (fun H locs hP hD hS => ?_)
  refine lv_if_eq (tgt := 17) hx hb dX3_setTemper_5 (by decide) (fun c2 => ?_) (fun c2 => ?_)
  · have hf := (o_i hf).1 c2
    refine lv_bipush (v := (-2)) hx hb dX3_setTemper_17 (by decide) ?_
    have e9 := Option.some.inj hf
    subst e9
    exact rt_i C hP hS rfl dX3_setTemper_19
  have hf := (o_i hf).2 c2
  refine lv_iload_n hx hb dX3_setTemper_8 rfl (lv_at hl 2 rfl) ?_
  refine lv_if_lt (tgt := 17) hx hb dX3_setTemper_9 (by decide) (fun c3 => ?_) (fun c3 => ?_)
  · have hf := (o_i hf).1 c3
    refine lv_bipush (v := (-2)) hx hb dX3_setTemper_17 (by decide) ?_
    have e9 := Option.some.inj hf
    subst e9
    exact rt_i C hP hS rfl dX3_setTemper_19
  have hf := (o_i hf).2 c3
  refine lv_iload_n hx hb dX3_setTemper_12 rfl (lv_at hl 2 rfl) ?_
  refine lv_iconst (v := 5) hx hb dX3_setTemper_13 (by decide) ?_
  refine lv_icmp_le (tgt := 20) hx hb dX3_setTemper_14 (by decide) (fun c4 => ?_) (fun c4 => ?_)
  · have hf := (o_i hf).1 c4
    refine lv_aload_n hx hb dX3_setTemper_20 rfl (lv_at hl 0 rfl) ?_
    refine va_get (D := G.1) (ci := 3) (v := .ref (a 1)) (C := RX3) (T := TX3) (N := 15) hx hb hts iiX3_setTemper_X3 hown hK hP 0 rfl rfl 4 (by decide) (hts _ mmX3_setTemper_1) (fun _ h9 => h9) rfl dX3_setTemper_21 ?_
    refine lv_iload_n hx hb dX3_setTemper_24 rfl (lv_at hl 1 rfl) ?_
    obtain ⟨z5, hz5, hf⟩ := o_b hf
    refine k_iald hx hb hK hP 1 0 rfl rfl hz5 dX3_setTemper_25 ?_
    refine lv_istore_n (lv' := [(3, .int z5), (0, .ref (a 0)), (1, .int p0), (2, .int p1)]) hx hb dX3_setTemper_26 rfl hl (by decide) rfl (fun ls hl => ?_)
    refine lv_aload_n hx hb dX3_setTemper_27 rfl (lv_at hl 1 rfl) ?_
    refine va_get (D := G.1) (ci := 3) (v := .ref (a 1)) (C := RX3) (T := TX3) (N := 15) hx hb hts iiX3_setTemper_X3 hown hK hP 0 rfl rfl 4 (by decide) (hts _ mmX3_setTemper_1) (fun _ h9 => h9) rfl dX3_setTemper_28 ?_
    refine lv_iload_n hx hb dX3_setTemper_31 rfl (lv_at hl 2 rfl) ?_
    refine lv_iload_n hx hb dX3_setTemper_32 rfl (lv_at hl 3 rfl) ?_
    refine at_pc (pc' := 33) rfl ?_
    obtain ⟨u6, hu6, hf⟩ := o_b hf
    refine k_iast hx hb hK hP hD hS 1 0 rfl rfl hu6 dX3_setTemper_33 (fun H locs hP hD hS => ?_)
    have hP : va_P G.1 vwCl (flat [wX3 G a a_villages a_woods a_needs a_signs u6 a_friend a_rope a_hears a_shut a_woodBell a_woodVillage a_needVillage a_needWind a_needSeen a_sign]) H := hP
    have hD : va_D A (flat [wX3 G a a_villages a_woods a_needs a_signs u6 a_friend a_rope a_hears a_shut a_woodBell a_woodVillage a_needVillage a_needWind a_needSeen a_sign]) := hD
    refine lv_iload_n hx hb dX3_setTemper_34 rfl (lv_at hl 0 rfl) ?_
    have e9 := Option.some.inj hf
    subst e9
    exact rt_i C hP hS rfl dX3_setTemper_35
  have hf := (o_i hf).2 c4
  refine lv_bipush (v := (-2)) hx hb dX3_setTemper_17 (by decide) ?_
  have e9 := Option.some.inj hf
  subst e9
  exact rt_i C hP hS rfl dX3_setTemper_19

/-! RX3 setFriend(II)I -/
theorem iiX3_setFriend_X3 : ∀ w ∈ wsX30, w ∈ wsX3_setFriend := by decide +kernel
theorem mmX3_setFriend_1 : (Cond.fieldLink RX3 15 "BlindBells$Valley" "friend" "[I") ∈ wsX3_setFriend := by decide +kernel
theorem hdX3_setFriend : yX3_setFriend.cls = RX3 ∧ yX3_setFriend.cls ≠ "java/lang/invoke/MethodHandle" ∧ yX3_setFriend.cls ≠ "java/lang/invoke/VarHandle" ∧ (parseMethodDescriptor yX3_setFriend.desc).map (fun d => d.parameters.length) = some 2 := by decide +kernel
abbrev rmX3_setFriend : Room := { frames := 1, cells := 0, slots := 0, locals := 21 }
set_option maxHeartbeats 4000000 in
set_option maxRecDepth 100000 in
theorem tX3_setFriend (l : Launch) (G : GG) (a : Nat → Nat) (a_villages : Int32) (a_woods : Int32) (a_needs : Int32) (a_signs : Int32) (a_temper : Nat → Int32) (a_friend : Nat → Int32) (a_rope : Nat → Int32) (a_hears : Nat → Int32) (a_shut : Nat → Int32) (a_woodBell : Nat → Int32) (a_woodVillage : Nat → Int32) (a_needVillage : Nat → Int32) (a_needWind : Nat → Int32) (a_needSeen : Nat → Int32) (a_sign : Nat → Int32) (p0 : Int32) (p1 : Int32) (out : Int32 × (Nat → Int32)) (hf : fX3_setFriend a_villages a_friend p0 p1 = some out) : cMi l G yX3_setFriend wsX3_setFriend rmX3_setFriend [.ref (a 0), .int p0, .int p1] (flat [wX3 G a a_villages a_woods a_needs a_signs a_temper a_friend a_rope a_hears a_shut a_woodBell a_woodVillage a_needVillage a_needWind a_needSeen a_sign]) out.1 (flat [wX3 G a a_villages a_woods a_needs a_signs a_temper out.2 a_rope a_hears a_shut a_woodBell a_woodVillage a_needVillage a_needWind a_needSeen a_sign]) := by
  intro sz
  refine met_of (cc := cX3_setFriend) (nL := 4) (ret := (some .int)) (Qc := fun A9 => QI G A9 out.1 (flat [wX3 G a a_villages a_woods a_needs a_signs a_temper out.2 a_rope a_hears a_shut a_woodBell a_woodVillage a_needVillage a_needWind a_needSeen a_sign])) (by decide) rfl (Nat.le_of_ble_eq_true rfl) ?_
  intro p e s m args below meth c A ls C hP hD hS hl
  obtain ⟨⟨hx, hb, hml, hown, hts⟩, hr, hlocks, hK, hN, hE, hA⟩ := id C
  have hl : lv_has ls 4 [(0, .ref (a 0)), (1, .int p0), (2, .int p1)] := hl
  unfold fX3_setFriend at hf
  refine lv_aload_n hx hb dX3_setFriend_0 rfl (lv_at hl 0 rfl) ?_
  refine lv_iload_n hx hb dX3_setFriend_1 rfl (lv_at hl 1 rfl) ?_
  obtain ⟨g1, hg1, hf⟩ := o_b hf
  refine bVi C hP hD hS (tX3_isVillage l G a a_villages a_woods a_needs a_signs a_temper a_friend a_rope a_hears a_shut a_woodBell a_woodVillage a_needVillage a_needWind a_needSeen a_sign p0 g1 hg1) gX3_setFriend_X3_isVillage rfl ⟨rfl, rfl⟩ hdX3_isVillage ⟨Nat.le_of_ble_eq_true rfl, Nat.le_of_ble_eq_true rfl⟩ rfl hl.1 rfl (Nat.le_of_ble_eq_true rfl) ⟨Nat.le_of_ble_eq_true rfl, Nat.le_of_ble_eq_true rfl⟩ [0] rfl rfl rfl (setB_same _ _ _ rfl) rfl (ci := 3) (q0 := 0) rfl rfl rfl dX3_setFriend_2 (fun H locs hP hD hS => ?_)
  refine lv_if_eq (tgt := 16) hx hb dX3_setFriend_5 (by decide) (fun c2 => ?_) (fun c2 => ?_)
  · have hf := (o_i hf).1 c2
    refine lv_bipush (v := (-2)) hx hb dX3_setFriend_16 (by decide) ?_
    have e9 := Option.some.inj hf
    subst e9
    exact rt_i C hP hS rfl dX3_setFriend_18
  have hf := (o_i hf).2 c2
  refine lv_aload_n hx hb dX3_setFriend_8 rfl (lv_at hl 0 rfl) ?_
  refine lv_iload_n hx hb dX3_setFriend_9 rfl (lv_at hl 2 rfl) ?_
  obtain ⟨g3, hg3, hf⟩ := o_b hf
  refine bVi C hP hD hS (tX3_isVillage l G a a_villages a_woods a_needs a_signs a_temper a_friend a_rope a_hears a_shut a_woodBell a_woodVillage a_needVillage a_needWind a_needSeen a_sign p1 g3 hg3) gX3_setFriend_X3_isVillage rfl ⟨rfl, rfl⟩ hdX3_isVillage ⟨Nat.le_of_ble_eq_true rfl, Nat.le_of_ble_eq_true rfl⟩ rfl hl.1 rfl (Nat.le_of_ble_eq_true rfl) ⟨Nat.le_of_ble_eq_true rfl, Nat.le_of_ble_eq_true rfl⟩ [0] rfl rfl rfl (setB_same _ _ _ rfl) rfl (ci := 3) (q0 := 0) rfl rfl rfl dX3_setFriend_10 (fun H locs hP hD hS => ?_)
  refine lv_if_ne (tgt := 19) hx hb dX3_setFriend_13 (by decide) (fun c4 => ?_) (fun c4 => ?_)
  · have hf := (o_i hf).2 c4
    refine lv_aload_n hx hb dX3_setFriend_19 rfl (lv_at hl 0 rfl) ?_
    refine va_get (D := G.1) (ci := 3) (v := .ref (a 2)) (C := RX3) (T := TX3) (N := 15) hx hb hts iiX3_setFriend_X3 hown hK hP 0 rfl rfl 5 (by decide) (hts _ mmX3_setFriend_1) (fun _ h9 => h9) rfl dX3_setFriend_20 ?_
    refine lv_iload_n hx hb dX3_setFriend_23 rfl (lv_at hl 1 rfl) ?_
    obtain ⟨z5, hz5, hf⟩ := o_b hf
    refine k_iald hx hb hK hP 2 0 rfl rfl hz5 dX3_setFriend_24 ?_
    refine lv_istore_n (lv' := [(3, .int z5), (0, .ref (a 0)), (1, .int p0), (2, .int p1)]) hx hb dX3_setFriend_25 rfl hl (by decide) rfl (fun ls hl => ?_)
    refine lv_aload_n hx hb dX3_setFriend_26 rfl (lv_at hl 1 rfl) ?_
    refine va_get (D := G.1) (ci := 3) (v := .ref (a 2)) (C := RX3) (T := TX3) (N := 15) hx hb hts iiX3_setFriend_X3 hown hK hP 0 rfl rfl 5 (by decide) (hts _ mmX3_setFriend_1) (fun _ h9 => h9) rfl dX3_setFriend_27 ?_
    refine lv_iload_n hx hb dX3_setFriend_30 rfl (lv_at hl 2 rfl) ?_
    refine lv_iload_n hx hb dX3_setFriend_31 rfl (lv_at hl 3 rfl) ?_
    refine at_pc (pc' := 32) rfl ?_
    obtain ⟨u6, hu6, hf⟩ := o_b hf
    refine k_iast hx hb hK hP hD hS 2 0 rfl rfl hu6 dX3_setFriend_32 (fun H locs hP hD hS => ?_)
    have hP : va_P G.1 vwCl (flat [wX3 G a a_villages a_woods a_needs a_signs a_temper u6 a_rope a_hears a_shut a_woodBell a_woodVillage a_needVillage a_needWind a_needSeen a_sign]) H := hP
    have hD : va_D A (flat [wX3 G a a_villages a_woods a_needs a_signs a_temper u6 a_rope a_hears a_shut a_woodBell a_woodVillage a_needVillage a_needWind a_needSeen a_sign]) := hD
    refine lv_iload_n hx hb dX3_setFriend_33 rfl (lv_at hl 0 rfl) ?_
    have e9 := Option.some.inj hf
    subst e9
    exact rt_i C hP hS rfl dX3_setFriend_34
  have hf := (o_i hf).1 c4
  refine lv_bipush (v := (-2)) hx hb dX3_setFriend_16 (by decide) ?_
  have e9 := Option.some.inj hf
  subst e9
  exact rt_i C hP hS rfl dX3_setFriend_18

/-! RX3 areBits(I)Z -/
theorem iiX3_areBits_X3 : ∀ w ∈ wsX30, w ∈ wsX3_areBits := by decide +kernel
theorem mmX3_areBits_1 : (Cond.fieldLink RX3 49 "BlindBells$Valley" "villages" "I") ∈ wsX3_areBits := by decide +kernel
theorem hdX3_areBits : yX3_areBits.cls = RX3 ∧ yX3_areBits.cls ≠ "java/lang/invoke/MethodHandle" ∧ yX3_areBits.cls ≠ "java/lang/invoke/VarHandle" ∧ (parseMethodDescriptor yX3_areBits.desc).map (fun d => d.parameters.length) = some 1 := by decide +kernel
abbrev rmX3_areBits : Room := { frames := 0, cells := 0, slots := 0, locals := 0 }
set_option maxHeartbeats 4000000 in
set_option maxRecDepth 100000 in
theorem tX3_areBits (l : Launch) (G : GG) (a : Nat → Nat) (a_villages : Int32) (a_woods : Int32) (a_needs : Int32) (a_signs : Int32) (a_temper : Nat → Int32) (a_friend : Nat → Int32) (a_rope : Nat → Int32) (a_hears : Nat → Int32) (a_shut : Nat → Int32) (a_woodBell : Nat → Int32) (a_woodVillage : Nat → Int32) (a_needVillage : Nat → Int32) (a_needWind : Nat → Int32) (a_needSeen : Nat → Int32) (a_sign : Nat → Int32) (p0 : Int32) (out : Int32) (hf : fX3_areBits a_villages p0 = some out) : cMi l G yX3_areBits wsX3_areBits rmX3_areBits [.ref (a 0), .int p0] (flat [wX3 G a a_villages a_woods a_needs a_signs a_temper a_friend a_rope a_hears a_shut a_woodBell a_woodVillage a_needVillage a_needWind a_needSeen a_sign]) out (flat [wX3 G a a_villages a_woods a_needs a_signs a_temper a_friend a_rope a_hears a_shut a_woodBell a_woodVillage a_needVillage a_needWind a_needSeen a_sign]) := by
  intro sz
  refine met_of (cc := cX3_areBits) (nL := 2) (ret := (some .boolean)) (Qc := fun A9 => QI G A9 out (flat [wX3 G a a_villages a_woods a_needs a_signs a_temper a_friend a_rope a_hears a_shut a_woodBell a_woodVillage a_needVillage a_needWind a_needSeen a_sign])) (by decide) rfl (Nat.le_of_ble_eq_true rfl) ?_
  intro p e s m args below meth c A ls C hP hD hS hl
  obtain ⟨⟨hx, hb, hml, hown, hts⟩, hr, hlocks, hK, hN, hE, hA⟩ := id C
  have hl : lv_has ls 2 [(0, .ref (a 0)), (1, .int p0)] := hl
  unfold fX3_areBits at hf
  refine lv_iload_n hx hb dX3_areBits_0 rfl (lv_at hl 1 rfl) ?_
  refine lv_if_lt (tgt := 18) hx hb dX3_areBits_1 (by decide) (fun c1 => ?_) (fun c1 => ?_)
  · have hf := (o_i hf).1 c1
    refine lv_iconst (v := 0) hx hb dX3_areBits_18 (by decide) ?_
    have e9 := Option.some.inj hf
    subst e9
    exact rt_z C hP hS rfl rfl dX3_areBits_19
  have hf := (o_i hf).2 c1
  refine lv_iload_n hx hb dX3_areBits_4 rfl (lv_at hl 1 rfl) ?_
  refine lv_iconst (v := 1) hx hb dX3_areBits_5 (by decide) ?_
  refine lv_aload_n hx hb dX3_areBits_6 rfl (lv_at hl 0 rfl) ?_
  refine va_get (D := G.1) (ci := 3) (v := .int a_villages) (C := RX3) (T := TX3) (N := 15) hx hb hts iiX3_areBits_X3 hown hK hP 0 rfl rfl 0 (by decide) (hts _ mmX3_areBits_1) (fun _ h9 => h9) rfl dX3_areBits_7 ?_
  refine lv_ishl hx hb dX3_areBits_10 ?_
  refine lv_icmp_ge (tgt := 18) hx hb dX3_areBits_11 (by decide) (fun c2 => ?_) (fun c2 => ?_)
  · have hf := (o_i hf).1 c2
    refine lv_iconst (v := 0) hx hb dX3_areBits_18 (by decide) ?_
    have e9 := Option.some.inj hf
    subst e9
    exact rt_z C hP hS rfl rfl dX3_areBits_19
  have hf := (o_i hf).2 c2
  refine lv_iconst (v := 1) hx hb dX3_areBits_14 (by decide) ?_
  refine lv_goto (tgt := 19) hx hb dX3_areBits_15 (by decide) ?_
  have e9 := Option.some.inj hf
  subst e9
  exact rt_z C hP hS rfl rfl dX3_areBits_19

/-! RX3 addNeed(III)I -/
theorem mmX3_addNeed_0 : (Cond.static yX6_isWind) ∈ wsX3_addNeed := by decide +kernel
theorem mmX3_addNeed_1 : (Cond.initialized RX6) ∈ wsX3_addNeed := by decide +kernel
theorem mmX3_addNeed_2 : (Cond.static yX6_has) ∈ wsX3_addNeed := by decide +kernel
theorem iiX3_addNeed_X3 : ∀ w ∈ wsX30, w ∈ wsX3_addNeed := by decide +kernel
theorem mmX3_addNeed_4 : (Cond.fieldLink RX3 56 "BlindBells$Valley" "needs" "I") ∈ wsX3_addNeed := by decide +kernel
theorem mmX3_addNeed_5 : (Cond.fieldLink RX3 33 "BlindBells$Valley" "needVillage" "[I") ∈ wsX3_addNeed := by decide +kernel
theorem mmX3_addNeed_6 : (Cond.fieldLink RX3 36 "BlindBells$Valley" "needWind" "[I") ∈ wsX3_addNeed := by decide +kernel
theorem mmX3_addNeed_7 : (Cond.fieldLink RX3 39 "BlindBells$Valley" "needSeen" "[I") ∈ wsX3_addNeed := by decide +kernel
theorem hdX3_addNeed : yX3_addNeed.cls = RX3 ∧ yX3_addNeed.cls ≠ "java/lang/invoke/MethodHandle" ∧ yX3_addNeed.cls ≠ "java/lang/invoke/VarHandle" ∧ (parseMethodDescriptor yX3_addNeed.desc).map (fun d => d.parameters.length) = some 3 := by decide +kernel
abbrev rmX3_addNeed : Room := { frames := 1, cells := 0, slots := 0, locals := 21 }
set_option maxHeartbeats 4000000 in
set_option maxRecDepth 100000 in
theorem tX3_addNeed (l : Launch) (G : GG) (a : Nat → Nat) (a_villages : Int32) (a_woods : Int32) (a_needs : Int32) (a_signs : Int32) (a_temper : Nat → Int32) (a_friend : Nat → Int32) (a_rope : Nat → Int32) (a_hears : Nat → Int32) (a_shut : Nat → Int32) (a_woodBell : Nat → Int32) (a_woodVillage : Nat → Int32) (a_needVillage : Nat → Int32) (a_needWind : Nat → Int32) (a_needSeen : Nat → Int32) (a_sign : Nat → Int32) (p0 : Int32) (p1 : Int32) (p2 : Int32) (out : Int32 × Int32 × (Nat → Int32) × (Nat → Int32) × (Nat → Int32)) (hf : fX3_addNeed a_villages a_needs a_needVillage a_needWind a_needSeen p0 p1 p2 = some out) : cMi l G yX3_addNeed wsX3_addNeed rmX3_addNeed [.ref (a 0), .int p0, .int p1, .int p2] (flat [wX3 G a a_villages a_woods a_needs a_signs a_temper a_friend a_rope a_hears a_shut a_woodBell a_woodVillage a_needVillage a_needWind a_needSeen a_sign]) out.1 (flat [wX3 G a a_villages a_woods out.2.1 a_signs a_temper a_friend a_rope a_hears a_shut a_woodBell a_woodVillage out.2.2.1 out.2.2.2.1 out.2.2.2.2 a_sign]) := by
  intro sz
  refine met_of (cc := cX3_addNeed) (nL := 4) (ret := (some .int)) (Qc := fun A9 => QI G A9 out.1 (flat [wX3 G a a_villages a_woods out.2.1 a_signs a_temper a_friend a_rope a_hears a_shut a_woodBell a_woodVillage out.2.2.1 out.2.2.2.1 out.2.2.2.2 a_sign])) (by decide) rfl (Nat.le_of_ble_eq_true rfl) ?_
  intro p e s m args below meth c A ls C hP hD hS hl
  obtain ⟨⟨hx, hb, hml, hown, hts⟩, hr, hlocks, hK, hN, hE, hA⟩ := id C
  have hl : lv_has ls 4 [(0, .ref (a 0)), (1, .int p0), (2, .int p1), (3, .int p2)] := hl
  unfold fX3_addNeed at hf
  refine lv_aload_n hx hb dX3_addNeed_0 rfl (lv_at hl 0 rfl) ?_
  refine lv_iload_n hx hb dX3_addNeed_1 rfl (lv_at hl 1 rfl) ?_
  obtain ⟨g1, hg1, hf⟩ := o_b hf
  refine bVi C hP hD hS (tX3_isVillage l G a a_villages a_woods a_needs a_signs a_temper a_friend a_rope a_hears a_shut a_woodBell a_woodVillage a_needVillage a_needWind a_needSeen a_sign p0 g1 hg1) gX3_addNeed_X3_isVillage rfl ⟨rfl, rfl⟩ hdX3_isVillage ⟨Nat.le_of_ble_eq_true rfl, Nat.le_of_ble_eq_true rfl⟩ rfl hl.1 rfl (Nat.le_of_ble_eq_true rfl) ⟨Nat.le_of_ble_eq_true rfl, Nat.le_of_ble_eq_true rfl⟩ [0] rfl rfl rfl (setB_same _ _ _ rfl) rfl (ci := 3) (q0 := 0) rfl rfl rfl dX3_addNeed_2 (fun H locs hP hD hS => ?_)
  refine lv_if_eq (tgt := 31) hx hb dX3_addNeed_5 (by decide) (fun c2 => ?_) (fun c2 => ?_)
  · have hf := (o_i hf).1 c2
    refine lv_bipush (v := (-2)) hx hb dX3_addNeed_31 (by decide) ?_
    have e9 := Option.some.inj hf
    subst e9
    exact rt_i C hP hS rfl dX3_addNeed_33
  have hf := (o_i hf).2 c2
  refine lv_iload_n hx hb dX3_addNeed_8 rfl (lv_at hl 2 rfl) ?_
  obtain ⟨g3, hg3, hf⟩ := o_b hf
  refine bNi C hP hD hS (tX6_isWind l G p1 g3 hg3) gX3_addNeed_X6_isWind_n81 (nw8 hN) (hts _ mmX3_addNeed_0) (hts _ mmX3_addNeed_1) rfl ⟨rfl, rfl⟩ hdX6_isWind ⟨Nat.le_of_ble_eq_true rfl, Nat.le_of_ble_eq_true rfl⟩ rfl hl.1 rfl (Nat.le_of_ble_eq_true rfl) ⟨Nat.le_of_ble_eq_true rfl, Nat.le_of_ble_eq_true rfl⟩ [] rfl rfl rfl (setB_same _ _ _ rfl) rfl dX3_addNeed_9 (fun H locs hP hD hS => ?_)
  refine lv_if_eq (tgt := 31) hx hb dX3_addNeed_12 (by decide) (fun c4 => ?_) (fun c4 => ?_)
  · have hf := (o_i hf).1 c4
    refine lv_bipush (v := (-2)) hx hb dX3_addNeed_31 (by decide) ?_
    have e9 := Option.some.inj hf
    subst e9
    exact rt_i C hP hS rfl dX3_addNeed_33
  have hf := (o_i hf).2 c4
  refine lv_aload_n hx hb dX3_addNeed_15 rfl (lv_at hl 0 rfl) ?_
  refine lv_iload_n hx hb dX3_addNeed_16 rfl (lv_at hl 3 rfl) ?_
  obtain ⟨g5, hg5, hf⟩ := o_b hf
  refine bVi C hP hD hS (tX3_areBits l G a a_villages a_woods a_needs a_signs a_temper a_friend a_rope a_hears a_shut a_woodBell a_woodVillage a_needVillage a_needWind a_needSeen a_sign p2 g5 hg5) gX3_addNeed_X3_areBits rfl ⟨rfl, rfl⟩ hdX3_areBits ⟨Nat.le_of_ble_eq_true rfl, Nat.le_of_ble_eq_true rfl⟩ rfl hl.1 rfl (Nat.le_of_ble_eq_true rfl) ⟨Nat.le_of_ble_eq_true rfl, Nat.le_of_ble_eq_true rfl⟩ [0] rfl rfl rfl (setB_same _ _ _ rfl) rfl (ci := 3) (q0 := 0) rfl rfl rfl dX3_addNeed_17 (fun H locs hP hD hS => ?_)
  refine lv_if_eq (tgt := 31) hx hb dX3_addNeed_20 (by decide) (fun c6 => ?_) (fun c6 => ?_)
  · have hf := (o_i hf).1 c6
    refine lv_bipush (v := (-2)) hx hb dX3_addNeed_31 (by decide) ?_
    have e9 := Option.some.inj hf
    subst e9
    exact rt_i C hP hS rfl dX3_addNeed_33
  have hf := (o_i hf).2 c6
  refine lv_iload_n hx hb dX3_addNeed_23 rfl (lv_at hl 3 rfl) ?_
  refine lv_iload_n hx hb dX3_addNeed_24 rfl (lv_at hl 1 rfl) ?_
  obtain ⟨g7, hg7, hf⟩ := o_b hf
  refine bNi C hP hD hS (tX6_has l G p2 p0 g7 hg7) gX3_addNeed_X6_has_n84 (nw9 hN) (hts _ mmX3_addNeed_2) (hts _ mmX3_addNeed_1) rfl ⟨rfl, rfl⟩ hdX6_has ⟨Nat.le_of_ble_eq_true rfl, Nat.le_of_ble_eq_true rfl⟩ rfl hl.1 rfl (Nat.le_of_ble_eq_true rfl) ⟨Nat.le_of_ble_eq_true rfl, Nat.le_of_ble_eq_true rfl⟩ [] rfl rfl rfl (setB_same _ _ _ rfl) rfl dX3_addNeed_25 (fun H locs hP hD hS => ?_)
  refine lv_if_eq (tgt := 34) hx hb dX3_addNeed_28 (by decide) (fun c8 => ?_) (fun c8 => ?_)
  · have hf := (o_i hf).1 c8
    refine lv_aload_n hx hb dX3_addNeed_34 rfl (lv_at hl 0 rfl) ?_
    refine va_get (D := G.1) (ci := 3) (v := .int a_needs) (C := RX3) (T := TX3) (N := 15) hx hb hts iiX3_addNeed_X3 hown hK hP 0 rfl rfl 2 (by decide) (hts _ mmX3_addNeed_4) (fun _ h9 => h9) rfl dX3_addNeed_35 ?_
    refine lv_bipush (v := 12) hx hb dX3_addNeed_38 (by decide) ?_
    refine lv_icmp_lt (tgt := 46) hx hb dX3_addNeed_40 (by decide) (fun c9 => ?_) (fun c9 => ?_)
    · have hf := (o_i hf).1 c9
      refine lv_aload_n hx hb dX3_addNeed_46 rfl (lv_at hl 0 rfl) ?_
      refine va_get (D := G.1) (ci := 3) (v := .ref (a 8)) (C := RX3) (T := TX3) (N := 15) hx hb hts iiX3_addNeed_X3 hown hK hP 0 rfl rfl 11 (by decide) (hts _ mmX3_addNeed_5) (fun _ h9 => h9) rfl dX3_addNeed_47 ?_
      refine lv_aload_n hx hb dX3_addNeed_50 rfl (lv_at hl 0 rfl) ?_
      refine va_get (D := G.1) (ci := 3) (v := .int a_needs) (C := RX3) (T := TX3) (N := 15) hx hb hts iiX3_addNeed_X3 hown hK hP 0 rfl rfl 2 (by decide) (hts _ mmX3_addNeed_4) (fun _ h9 => h9) rfl dX3_addNeed_51 ?_
      refine lv_iload_n hx hb dX3_addNeed_54 rfl (lv_at hl 1 rfl) ?_
      obtain ⟨u10, hu10, hf⟩ := o_b hf
      refine k_iast hx hb hK hP hD hS 8 0 rfl rfl hu10 dX3_addNeed_55 (fun H locs hP hD hS => ?_)
      have hP : va_P G.1 vwCl (flat [wX3 G a a_villages a_woods a_needs a_signs a_temper a_friend a_rope a_hears a_shut a_woodBell a_woodVillage u10 a_needWind a_needSeen a_sign]) H := hP
      have hD : va_D A (flat [wX3 G a a_villages a_woods a_needs a_signs a_temper a_friend a_rope a_hears a_shut a_woodBell a_woodVillage u10 a_needWind a_needSeen a_sign]) := hD
      refine lv_aload_n hx hb dX3_addNeed_56 rfl (lv_at hl 0 rfl) ?_
      refine va_get (D := G.1) (ci := 3) (v := .ref (a 9)) (C := RX3) (T := TX3) (N := 15) hx hb hts iiX3_addNeed_X3 hown hK hP 0 rfl rfl 12 (by decide) (hts _ mmX3_addNeed_6) (fun _ h9 => h9) rfl dX3_addNeed_57 ?_
      refine lv_aload_n hx hb dX3_addNeed_60 rfl (lv_at hl 0 rfl) ?_
      refine at_pc (pc' := 61) rfl ?_
      refine va_get (D := G.1) (ci := 3) (v := .int a_needs) (C := RX3) (T := TX3) (N := 15) hx hb hts iiX3_addNeed_X3 hown hK hP 0 rfl rfl 2 (by decide) (hts _ mmX3_addNeed_4) (fun _ h9 => h9) rfl dX3_addNeed_61 ?_
      refine lv_iload_n hx hb dX3_addNeed_64 rfl (lv_at hl 2 rfl) ?_
      obtain ⟨u11, hu11, hf⟩ := o_b hf
      refine k_iast hx hb hK hP hD hS 9 0 rfl rfl hu11 dX3_addNeed_65 (fun H locs hP hD hS => ?_)
      have hP : va_P G.1 vwCl (flat [wX3 G a a_villages a_woods a_needs a_signs a_temper a_friend a_rope a_hears a_shut a_woodBell a_woodVillage u10 u11 a_needSeen a_sign]) H := hP
      have hD : va_D A (flat [wX3 G a a_villages a_woods a_needs a_signs a_temper a_friend a_rope a_hears a_shut a_woodBell a_woodVillage u10 u11 a_needSeen a_sign]) := hD
      refine lv_aload_n hx hb dX3_addNeed_66 rfl (lv_at hl 0 rfl) ?_
      refine va_get (D := G.1) (ci := 3) (v := .ref (a 10)) (C := RX3) (T := TX3) (N := 15) hx hb hts iiX3_addNeed_X3 hown hK hP 0 rfl rfl 13 (by decide) (hts _ mmX3_addNeed_7) (fun _ h9 => h9) rfl dX3_addNeed_67 ?_
      refine lv_aload_n hx hb dX3_addNeed_70 rfl (lv_at hl 0 rfl) ?_
      refine va_get (D := G.1) (ci := 3) (v := .int a_needs) (C := RX3) (T := TX3) (N := 15) hx hb hts iiX3_addNeed_X3 hown hK hP 0 rfl rfl 2 (by decide) (hts _ mmX3_addNeed_4) (fun _ h9 => h9) rfl dX3_addNeed_71 ?_
      refine lv_iload_n hx hb dX3_addNeed_74 rfl (lv_at hl 3 rfl) ?_
      obtain ⟨u12, hu12, hf⟩ := o_b hf
      refine k_iast hx hb hK hP hD hS 10 0 rfl rfl hu12 dX3_addNeed_75 (fun H locs hP hD hS => ?_)
      have hP : va_P G.1 vwCl (flat [wX3 G a a_villages a_woods a_needs a_signs a_temper a_friend a_rope a_hears a_shut a_woodBell a_woodVillage u10 u11 u12 a_sign]) H := hP
      have hD : va_D A (flat [wX3 G a a_villages a_woods a_needs a_signs a_temper a_friend a_rope a_hears a_shut a_woodBell a_woodVillage u10 u11 u12 a_sign]) := hD
      refine lv_aload_n hx hb dX3_addNeed_76 rfl (lv_at hl 0 rfl) ?_
      refine at_pc (pc' := 77) rfl ?_
      refine lv_dup hx hb dX3_addNeed_77 rfl ?_
      refine va_get (D := G.1) (ci := 3) (v := .int a_needs) (C := RX3) (T := TX3) (N := 15) hx hb hts iiX3_addNeed_X3 hown hK hP 0 rfl rfl 2 (by decide) (hts _ mmX3_addNeed_4) (fun _ h9 => h9) rfl dX3_addNeed_78 ?_
      refine lv_dup_x1 hx hb dX3_addNeed_81 rfl rfl ?_
      refine lv_iconst (v := 1) hx hb dX3_addNeed_82 (by decide) ?_
      refine lv_iadd hx hb dX3_addNeed_83 ?_
      refine va_put (D := G.1) (ci := 3) (v := .int (a_needs + 1)) (ty := .int) (C := RX3) (T := TX3) (N := 15) hx hb hts iiX3_addNeed_X3 tyX3 tyX3_ok nmX3 hown hK hP hD hS 0 rfl rfl 2 (by decide) (hts _ mmX3_addNeed_4) (fun _ h9 => h9) rfl (by decide +kernel) rfl rfl (Nat.le_of_ble_eq_true rfl) dX3_addNeed_84 (fun H locs hP hD hS => ?_)
      have hP : va_P G.1 vwCl (flat [wX3 G a a_villages a_woods (a_needs + 1) a_signs a_temper a_friend a_rope a_hears a_shut a_woodBell a_woodVillage u10 u11 u12 a_sign]) H := hP
      have hD : va_D A (flat [wX3 G a a_villages a_woods (a_needs + 1) a_signs a_temper a_friend a_rope a_hears a_shut a_woodBell a_woodVillage u10 u11 u12 a_sign]) := hD
      have e9 := Option.some.inj hf
      subst e9
      exact rt_i C hP hS rfl dX3_addNeed_87
    have hf := (o_i hf).2 c9
    refine lv_bipush (v := (-4)) hx hb dX3_addNeed_43 (by decide) ?_
    have e9 := Option.some.inj hf
    subst e9
    exact rt_i C hP hS rfl dX3_addNeed_45
  have hf := (o_i hf).2 c8
  refine lv_bipush (v := (-2)) hx hb dX3_addNeed_31 (by decide) ?_
  have e9 := Option.some.inj hf
  subst e9
  exact rt_i C hP hS rfl dX3_addNeed_33

/-! RX3 copy(LBlindBells$Valley;)V -/
theorem iiX3_copy_X3 : ∀ w ∈ wsX30, w ∈ wsX3_copy := by decide +kernel
theorem mmX3_copy_1 : (Cond.fieldLink RX3 49 "BlindBells$Valley" "villages" "I") ∈ wsX3_copy := by decide +kernel
theorem mmX3_copy_2 : (Cond.fieldLink RX3 53 "BlindBells$Valley" "woods" "I") ∈ wsX3_copy := by decide +kernel
theorem mmX3_copy_3 : (Cond.fieldLink RX3 56 "BlindBells$Valley" "needs" "I") ∈ wsX3_copy := by decide +kernel
theorem mmX3_copy_4 : (Cond.fieldLink RX3 59 "BlindBells$Valley" "signs" "I") ∈ wsX3_copy := by decide +kernel
theorem mmX3_copy_5 : (Cond.fieldLink RX3 9 "BlindBells$Valley" "temper" "[I") ∈ wsX3_copy := by decide +kernel
theorem mmX3_copy_6 : (Cond.methodLink RX3 68 arraycopyName) ∈ wsX3_copy := by decide +kernel
theorem mmX3_copy_7 : (Cond.native arraycopyName) ∈ wsX3_copy := by decide +kernel
theorem mmX3_copy_8 : (Cond.static arraycopyName) ∈ wsX3_copy := by decide +kernel
theorem mmX3_copy_9 : (Cond.initialized "java/lang/System") ∈ wsX3_copy := by decide +kernel
theorem mmX3_copy_10 : (Cond.fieldLink RX3 15 "BlindBells$Valley" "friend" "[I") ∈ wsX3_copy := by decide +kernel
theorem mmX3_copy_11 : (Cond.fieldLink RX3 18 "BlindBells$Valley" "rope" "[I") ∈ wsX3_copy := by decide +kernel
theorem mmX3_copy_12 : (Cond.fieldLink RX3 21 "BlindBells$Valley" "hears" "[I") ∈ wsX3_copy := by decide +kernel
theorem mmX3_copy_13 : (Cond.fieldLink RX3 24 "BlindBells$Valley" "shut" "[I") ∈ wsX3_copy := by decide +kernel
theorem mmX3_copy_14 : (Cond.fieldLink RX3 27 "BlindBells$Valley" "woodBell" "[I") ∈ wsX3_copy := by decide +kernel
theorem mmX3_copy_15 : (Cond.fieldLink RX3 30 "BlindBells$Valley" "woodVillage" "[I") ∈ wsX3_copy := by decide +kernel
theorem mmX3_copy_16 : (Cond.fieldLink RX3 33 "BlindBells$Valley" "needVillage" "[I") ∈ wsX3_copy := by decide +kernel
theorem mmX3_copy_17 : (Cond.fieldLink RX3 36 "BlindBells$Valley" "needWind" "[I") ∈ wsX3_copy := by decide +kernel
theorem mmX3_copy_18 : (Cond.fieldLink RX3 39 "BlindBells$Valley" "needSeen" "[I") ∈ wsX3_copy := by decide +kernel
theorem mmX3_copy_19 : (Cond.fieldLink RX3 42 "BlindBells$Valley" "sign" "[I") ∈ wsX3_copy := by decide +kernel
theorem hdX3_copy : yX3_copy.cls = RX3 ∧ yX3_copy.cls ≠ "java/lang/invoke/MethodHandle" ∧ yX3_copy.cls ≠ "java/lang/invoke/VarHandle" ∧ (parseMethodDescriptor yX3_copy.desc).map (fun d => d.parameters.length) = some 1 := by decide +kernel
abbrev rmX3_copy : Room := { frames := 1, cells := 0, slots := 0, locals := 80 }
set_option maxHeartbeats 4000000 in
set_option maxRecDepth 100000 in
theorem tX3_copy (l : Launch) (G : GG) (a : Nat → Nat) (b : Nat → Nat) (a_villages : Int32) (a_woods : Int32) (a_needs : Int32) (a_signs : Int32) (a_temper : Nat → Int32) (a_friend : Nat → Int32) (a_rope : Nat → Int32) (a_hears : Nat → Int32) (a_shut : Nat → Int32) (a_woodBell : Nat → Int32) (a_woodVillage : Nat → Int32) (a_needVillage : Nat → Int32) (a_needWind : Nat → Int32) (a_needSeen : Nat → Int32) (a_sign : Nat → Int32) (b_villages : Int32) (b_woods : Int32) (b_needs : Int32) (b_signs : Int32) (b_temper : Nat → Int32) (b_friend : Nat → Int32) (b_rope : Nat → Int32) (b_hears : Nat → Int32) (b_shut : Nat → Int32) (b_woodBell : Nat → Int32) (b_woodVillage : Nat → Int32) (b_needVillage : Nat → Int32) (b_needWind : Nat → Int32) (b_needSeen : Nat → Int32) (b_sign : Nat → Int32) (out : Int32 × Int32 × Int32 × Int32 × (Nat → Int32) × (Nat → Int32) × (Nat → Int32) × (Nat → Int32) × (Nat → Int32) × (Nat → Int32) × (Nat → Int32) × (Nat → Int32) × (Nat → Int32) × (Nat → Int32) × (Nat → Int32)) (hf : fX3_copy a_temper a_friend a_rope a_hears a_shut a_woodBell a_woodVillage a_needVillage a_needWind a_needSeen a_sign b_villages b_woods b_needs b_signs b_temper b_friend b_rope b_hears b_shut b_woodBell b_woodVillage b_needVillage b_needWind b_needSeen b_sign = some out) : cMv l G yX3_copy wsX3_copy rmX3_copy [.ref (a 0), .ref (b 0)] (flat [wX3 G a a_villages a_woods a_needs a_signs a_temper a_friend a_rope a_hears a_shut a_woodBell a_woodVillage a_needVillage a_needWind a_needSeen a_sign, wX3 G b b_villages b_woods b_needs b_signs b_temper b_friend b_rope b_hears b_shut b_woodBell b_woodVillage b_needVillage b_needWind b_needSeen b_sign]) (flat [wX3 G a out.1 out.2.1 out.2.2.1 out.2.2.2.1 out.2.2.2.2.1 out.2.2.2.2.2.1 out.2.2.2.2.2.2.1 out.2.2.2.2.2.2.2.1 out.2.2.2.2.2.2.2.2.1 out.2.2.2.2.2.2.2.2.2.1 out.2.2.2.2.2.2.2.2.2.2.1 out.2.2.2.2.2.2.2.2.2.2.2.1 out.2.2.2.2.2.2.2.2.2.2.2.2.1 out.2.2.2.2.2.2.2.2.2.2.2.2.2.1 out.2.2.2.2.2.2.2.2.2.2.2.2.2.2, wX3 G b b_villages b_woods b_needs b_signs b_temper b_friend b_rope b_hears b_shut b_woodBell b_woodVillage b_needVillage b_needWind b_needSeen b_sign]) := by
  intro sz
  refine met_of (cc := cX3_copy) (nL := 2) (ret := none) (Qc := fun A9 => QV G A9 (flat [wX3 G a out.1 out.2.1 out.2.2.1 out.2.2.2.1 out.2.2.2.2.1 out.2.2.2.2.2.1 out.2.2.2.2.2.2.1 out.2.2.2.2.2.2.2.1 out.2.2.2.2.2.2.2.2.1 out.2.2.2.2.2.2.2.2.2.1 out.2.2.2.2.2.2.2.2.2.2.1 out.2.2.2.2.2.2.2.2.2.2.2.1 out.2.2.2.2.2.2.2.2.2.2.2.2.1 out.2.2.2.2.2.2.2.2.2.2.2.2.2.1 out.2.2.2.2.2.2.2.2.2.2.2.2.2.2, wX3 G b b_villages b_woods b_needs b_signs b_temper b_friend b_rope b_hears b_shut b_woodBell b_woodVillage b_needVillage b_needWind b_needSeen b_sign])) (by decide) rfl (Nat.le_of_ble_eq_true rfl) ?_
  intro p e s m args below meth c A ls C hP hD hS hl
  obtain ⟨⟨hx, hb, hml, hown, hts⟩, hr, hlocks, hK, hN, hE, hA⟩ := id C
  have hl : lv_has ls 2 [(0, .ref (a 0)), (1, .ref (b 0))] := hl
  unfold fX3_copy at hf
  refine lv_aload_n hx hb dX3_copy_0 rfl (lv_at hl 0 rfl) ?_
  refine lv_aload_n hx hb dX3_copy_1 rfl (lv_at hl 1 rfl) ?_
  refine va_get (D := G.1) (ci := 3) (v := .int b_villages) (C := RX3) (T := TX3) (N := 15) hx hb hts iiX3_copy_X3 hown hK hP 12 rfl rfl 0 (by decide) (hts _ mmX3_copy_1) (fun _ h9 => h9) rfl dX3_copy_2 ?_
  refine va_put (D := G.1) (ci := 3) (v := .int b_villages) (ty := .int) (C := RX3) (T := TX3) (N := 15) hx hb hts iiX3_copy_X3 tyX3 tyX3_ok nmX3 hown hK hP hD hS 0 rfl rfl 0 (by decide) (hts _ mmX3_copy_1) (fun _ h9 => h9) rfl (by decide +kernel) rfl rfl (Nat.le_of_ble_eq_true rfl) dX3_copy_5 (fun H locs hP hD hS => ?_)
  have hP : va_P G.1 vwCl (flat [wX3 G a b_villages a_woods a_needs a_signs a_temper a_friend a_rope a_hears a_shut a_woodBell a_woodVillage a_needVillage a_needWind a_needSeen a_sign, wX3 G b b_villages b_woods b_needs b_signs b_temper b_friend b_rope b_hears b_shut b_woodBell b_woodVillage b_needVillage b_needWind b_needSeen b_sign]) H := hP
  have hD : va_D A (flat [wX3 G a b_villages a_woods a_needs a_signs a_temper a_friend a_rope a_hears a_shut a_woodBell a_woodVillage a_needVillage a_needWind a_needSeen a_sign, wX3 G b b_villages b_woods b_needs b_signs b_temper b_friend b_rope b_hears b_shut b_woodBell b_woodVillage b_needVillage b_needWind b_needSeen b_sign]) := hD
  refine lv_aload_n hx hb dX3_copy_8 rfl (lv_at hl 0 rfl) ?_
  refine lv_aload_n hx hb dX3_copy_9 rfl (lv_at hl 1 rfl) ?_
  refine va_get (D := G.1) (ci := 3) (v := .int b_woods) (C := RX3) (T := TX3) (N := 15) hx hb hts iiX3_copy_X3 hown hK hP 12 rfl rfl 1 (by decide) (hts _ mmX3_copy_2) (fun _ h9 => h9) rfl dX3_copy_10 ?_
  refine va_put (D := G.1) (ci := 3) (v := .int b_woods) (ty := .int) (C := RX3) (T := TX3) (N := 15) hx hb hts iiX3_copy_X3 tyX3 tyX3_ok nmX3 hown hK hP hD hS 0 rfl rfl 1 (by decide) (hts _ mmX3_copy_2) (fun _ h9 => h9) rfl (by decide +kernel) rfl rfl (Nat.le_of_ble_eq_true rfl) dX3_copy_13 (fun H locs hP hD hS => ?_)
  have hP : va_P G.1 vwCl (flat [wX3 G a b_villages b_woods a_needs a_signs a_temper a_friend a_rope a_hears a_shut a_woodBell a_woodVillage a_needVillage a_needWind a_needSeen a_sign, wX3 G b b_villages b_woods b_needs b_signs b_temper b_friend b_rope b_hears b_shut b_woodBell b_woodVillage b_needVillage b_needWind b_needSeen b_sign]) H := hP
  have hD : va_D A (flat [wX3 G a b_villages b_woods a_needs a_signs a_temper a_friend a_rope a_hears a_shut a_woodBell a_woodVillage a_needVillage a_needWind a_needSeen a_sign, wX3 G b b_villages b_woods b_needs b_signs b_temper b_friend b_rope b_hears b_shut b_woodBell b_woodVillage b_needVillage b_needWind b_needSeen b_sign]) := hD
  refine lv_aload_n hx hb dX3_copy_16 rfl (lv_at hl 0 rfl) ?_
  refine at_pc (pc' := 17) rfl ?_
  refine lv_aload_n hx hb dX3_copy_17 rfl (lv_at hl 1 rfl) ?_
  refine va_get (D := G.1) (ci := 3) (v := .int b_needs) (C := RX3) (T := TX3) (N := 15) hx hb hts iiX3_copy_X3 hown hK hP 12 rfl rfl 2 (by decide) (hts _ mmX3_copy_3) (fun _ h9 => h9) rfl dX3_copy_18 ?_
  refine va_put (D := G.1) (ci := 3) (v := .int b_needs) (ty := .int) (C := RX3) (T := TX3) (N := 15) hx hb hts iiX3_copy_X3 tyX3 tyX3_ok nmX3 hown hK hP hD hS 0 rfl rfl 2 (by decide) (hts _ mmX3_copy_3) (fun _ h9 => h9) rfl (by decide +kernel) rfl rfl (Nat.le_of_ble_eq_true rfl) dX3_copy_21 (fun H locs hP hD hS => ?_)
  have hP : va_P G.1 vwCl (flat [wX3 G a b_villages b_woods b_needs a_signs a_temper a_friend a_rope a_hears a_shut a_woodBell a_woodVillage a_needVillage a_needWind a_needSeen a_sign, wX3 G b b_villages b_woods b_needs b_signs b_temper b_friend b_rope b_hears b_shut b_woodBell b_woodVillage b_needVillage b_needWind b_needSeen b_sign]) H := hP
  have hD : va_D A (flat [wX3 G a b_villages b_woods b_needs a_signs a_temper a_friend a_rope a_hears a_shut a_woodBell a_woodVillage a_needVillage a_needWind a_needSeen a_sign, wX3 G b b_villages b_woods b_needs b_signs b_temper b_friend b_rope b_hears b_shut b_woodBell b_woodVillage b_needVillage b_needWind b_needSeen b_sign]) := hD
  refine lv_aload_n hx hb dX3_copy_24 rfl (lv_at hl 0 rfl) ?_
  refine lv_aload_n hx hb dX3_copy_25 rfl (lv_at hl 1 rfl) ?_
  refine va_get (D := G.1) (ci := 3) (v := .int b_signs) (C := RX3) (T := TX3) (N := 15) hx hb hts iiX3_copy_X3 hown hK hP 12 rfl rfl 3 (by decide) (hts _ mmX3_copy_4) (fun _ h9 => h9) rfl dX3_copy_26 ?_
  refine va_put (D := G.1) (ci := 3) (v := .int b_signs) (ty := .int) (C := RX3) (T := TX3) (N := 15) hx hb hts iiX3_copy_X3 tyX3 tyX3_ok nmX3 hown hK hP hD hS 0 rfl rfl 3 (by decide) (hts _ mmX3_copy_4) (fun _ h9 => h9) rfl (by decide +kernel) rfl rfl (Nat.le_of_ble_eq_true rfl) dX3_copy_29 (fun H locs hP hD hS => ?_)
  have hP : va_P G.1 vwCl (flat [wX3 G a b_villages b_woods b_needs b_signs a_temper a_friend a_rope a_hears a_shut a_woodBell a_woodVillage a_needVillage a_needWind a_needSeen a_sign, wX3 G b b_villages b_woods b_needs b_signs b_temper b_friend b_rope b_hears b_shut b_woodBell b_woodVillage b_needVillage b_needWind b_needSeen b_sign]) H := hP
  have hD : va_D A (flat [wX3 G a b_villages b_woods b_needs b_signs a_temper a_friend a_rope a_hears a_shut a_woodBell a_woodVillage a_needVillage a_needWind a_needSeen a_sign, wX3 G b b_villages b_woods b_needs b_signs b_temper b_friend b_rope b_hears b_shut b_woodBell b_woodVillage b_needVillage b_needWind b_needSeen b_sign]) := hD
  refine lv_aload_n hx hb dX3_copy_32 rfl (lv_at hl 1 rfl) ?_
  refine va_get (D := G.1) (ci := 3) (v := .ref (b 1)) (C := RX3) (T := TX3) (N := 15) hx hb hts iiX3_copy_X3 hown hK hP 12 rfl rfl 4 (by decide) (hts _ mmX3_copy_5) (fun _ h9 => h9) rfl dX3_copy_33 ?_
  refine lv_iconst (v := 0) hx hb dX3_copy_36 (by decide) ?_
  refine at_pc (pc' := 37) rfl ?_
  refine lv_aload_n hx hb dX3_copy_37 rfl (lv_at hl 0 rfl) ?_
  refine va_get (D := G.1) (ci := 3) (v := .ref (a 1)) (C := RX3) (T := TX3) (N := 15) hx hb hts iiX3_copy_X3 hown hK hP 0 rfl rfl 4 (by decide) (hts _ mmX3_copy_5) (fun _ h9 => h9) rfl dX3_copy_38 ?_
  refine lv_iconst (v := 0) hx hb dX3_copy_41 (by decide) ?_
  refine lv_bipush (v := 6) hx hb dX3_copy_42 (by decide) ?_
  refine va_copyi hx hb (by rw [hml]; exact hl.1.symm) hown (hts _ mmX3_copy_6) (hts _ mmX3_copy_7) (hts _ mmX3_copy_8) (hts _ mmX3_copy_9) hK hP hD hS 13 1 0 0 rfl rfl rfl rfl rfl (by decide) (by decide) (by decide) (by decide) (by decide) (fun _ _ => rfl) (Nat.le_of_ble_eq_true rfl) (by decide) dX3_copy_44 (fun H locs hP hD hS => ?_)
  have hP : va_P G.1 vwCl (flat [wX3 G a b_villages b_woods b_needs b_signs (cpI 6 b_temper a_temper) a_friend a_rope a_hears a_shut a_woodBell a_woodVillage a_needVillage a_needWind a_needSeen a_sign, wX3 G b b_villages b_woods b_needs b_signs b_temper b_friend b_rope b_hears b_shut b_woodBell b_woodVillage b_needVillage b_needWind b_needSeen b_sign]) H := hP
  have hD : va_D A (flat [wX3 G a b_villages b_woods b_needs b_signs (cpI 6 b_temper a_temper) a_friend a_rope a_hears a_shut a_woodBell a_woodVillage a_needVillage a_needWind a_needSeen a_sign, wX3 G b b_villages b_woods b_needs b_signs b_temper b_friend b_rope b_hears b_shut b_woodBell b_woodVillage b_needVillage b_needWind b_needSeen b_sign]) := hD
  refine lv_aload_n hx hb dX3_copy_47 rfl (lv_at hl 1 rfl) ?_
  refine va_get (D := G.1) (ci := 3) (v := .ref (b 2)) (C := RX3) (T := TX3) (N := 15) hx hb hts iiX3_copy_X3 hown hK hP 12 rfl rfl 5 (by decide) (hts _ mmX3_copy_10) (fun _ h9 => h9) rfl dX3_copy_48 ?_
  refine lv_iconst (v := 0) hx hb dX3_copy_51 (by decide) ?_
  refine lv_aload_n hx hb dX3_copy_52 rfl (lv_at hl 0 rfl) ?_
  refine va_get (D := G.1) (ci := 3) (v := .ref (a 2)) (C := RX3) (T := TX3) (N := 15) hx hb hts iiX3_copy_X3 hown hK hP 0 rfl rfl 5 (by decide) (hts _ mmX3_copy_10) (fun _ h9 => h9) rfl dX3_copy_53 ?_
  refine at_pc (pc' := 56) rfl ?_
  refine lv_iconst (v := 0) hx hb dX3_copy_56 (by decide) ?_
  refine lv_bipush (v := 6) hx hb dX3_copy_57 (by decide) ?_
  refine va_copyi hx hb (by rw [hml]; exact hl.1.symm) hown (hts _ mmX3_copy_6) (hts _ mmX3_copy_7) (hts _ mmX3_copy_8) (hts _ mmX3_copy_9) hK hP hD hS 14 2 0 0 rfl rfl rfl rfl rfl (by decide) (by decide) (by decide) (by decide) (by decide) (fun _ _ => rfl) (Nat.le_of_ble_eq_true rfl) (by decide) dX3_copy_59 (fun H locs hP hD hS => ?_)
  have hP : va_P G.1 vwCl (flat [wX3 G a b_villages b_woods b_needs b_signs (cpI 6 b_temper a_temper) (cpI 6 b_friend a_friend) a_rope a_hears a_shut a_woodBell a_woodVillage a_needVillage a_needWind a_needSeen a_sign, wX3 G b b_villages b_woods b_needs b_signs b_temper b_friend b_rope b_hears b_shut b_woodBell b_woodVillage b_needVillage b_needWind b_needSeen b_sign]) H := hP
  have hD : va_D A (flat [wX3 G a b_villages b_woods b_needs b_signs (cpI 6 b_temper a_temper) (cpI 6 b_friend a_friend) a_rope a_hears a_shut a_woodBell a_woodVillage a_needVillage a_needWind a_needSeen a_sign, wX3 G b b_villages b_woods b_needs b_signs b_temper b_friend b_rope b_hears b_shut b_woodBell b_woodVillage b_needVillage b_needWind b_needSeen b_sign]) := hD
  refine lv_aload_n hx hb dX3_copy_62 rfl (lv_at hl 1 rfl) ?_
  refine va_get (D := G.1) (ci := 3) (v := .ref (b 3)) (C := RX3) (T := TX3) (N := 15) hx hb hts iiX3_copy_X3 hown hK hP 12 rfl rfl 6 (by decide) (hts _ mmX3_copy_11) (fun _ h9 => h9) rfl dX3_copy_63 ?_
  refine lv_iconst (v := 0) hx hb dX3_copy_66 (by decide) ?_
  refine lv_aload_n hx hb dX3_copy_67 rfl (lv_at hl 0 rfl) ?_
  refine va_get (D := G.1) (ci := 3) (v := .ref (a 3)) (C := RX3) (T := TX3) (N := 15) hx hb hts iiX3_copy_X3 hown hK hP 0 rfl rfl 6 (by decide) (hts _ mmX3_copy_11) (fun _ h9 => h9) rfl dX3_copy_68 ?_
  refine lv_iconst (v := 0) hx hb dX3_copy_71 (by decide) ?_
  refine lv_bipush (v := 6) hx hb dX3_copy_72 (by decide) ?_
  refine at_pc (pc' := 74) rfl ?_
  refine va_copyi hx hb (by rw [hml]; exact hl.1.symm) hown (hts _ mmX3_copy_6) (hts _ mmX3_copy_7) (hts _ mmX3_copy_8) (hts _ mmX3_copy_9) hK hP hD hS 15 3 0 0 rfl rfl rfl rfl rfl (by decide) (by decide) (by decide) (by decide) (by decide) (fun _ _ => rfl) (Nat.le_of_ble_eq_true rfl) (by decide) dX3_copy_74 (fun H locs hP hD hS => ?_)
  have hP : va_P G.1 vwCl (flat [wX3 G a b_villages b_woods b_needs b_signs (cpI 6 b_temper a_temper) (cpI 6 b_friend a_friend) (cpI 6 b_rope a_rope) a_hears a_shut a_woodBell a_woodVillage a_needVillage a_needWind a_needSeen a_sign, wX3 G b b_villages b_woods b_needs b_signs b_temper b_friend b_rope b_hears b_shut b_woodBell b_woodVillage b_needVillage b_needWind b_needSeen b_sign]) H := hP
  have hD : va_D A (flat [wX3 G a b_villages b_woods b_needs b_signs (cpI 6 b_temper a_temper) (cpI 6 b_friend a_friend) (cpI 6 b_rope a_rope) a_hears a_shut a_woodBell a_woodVillage a_needVillage a_needWind a_needSeen a_sign, wX3 G b b_villages b_woods b_needs b_signs b_temper b_friend b_rope b_hears b_shut b_woodBell b_woodVillage b_needVillage b_needWind b_needSeen b_sign]) := hD
  refine lv_aload_n hx hb dX3_copy_77 rfl (lv_at hl 1 rfl) ?_
  refine va_get (D := G.1) (ci := 3) (v := .ref (b 4)) (C := RX3) (T := TX3) (N := 15) hx hb hts iiX3_copy_X3 hown hK hP 12 rfl rfl 7 (by decide) (hts _ mmX3_copy_12) (fun _ h9 => h9) rfl dX3_copy_78 ?_
  refine lv_iconst (v := 0) hx hb dX3_copy_81 (by decide) ?_
  refine lv_aload_n hx hb dX3_copy_82 rfl (lv_at hl 0 rfl) ?_
  refine va_get (D := G.1) (ci := 3) (v := .ref (a 4)) (C := RX3) (T := TX3) (N := 15) hx hb hts iiX3_copy_X3 hown hK hP 0 rfl rfl 7 (by decide) (hts _ mmX3_copy_12) (fun _ h9 => h9) rfl dX3_copy_83 ?_
  refine lv_iconst (v := 0) hx hb dX3_copy_86 (by decide) ?_
  refine lv_bipush (v := 24) hx hb dX3_copy_87 (by decide) ?_
  refine va_copyi hx hb (by rw [hml]; exact hl.1.symm) hown (hts _ mmX3_copy_6) (hts _ mmX3_copy_7) (hts _ mmX3_copy_8) (hts _ mmX3_copy_9) hK hP hD hS 16 4 0 0 rfl rfl rfl rfl rfl (by decide) (by decide) (by decide) (by decide) (by decide) (fun _ _ => rfl) (Nat.le_of_ble_eq_true rfl) (by decide) dX3_copy_89 (fun H locs hP hD hS => ?_)
  have hP : va_P G.1 vwCl (flat [wX3 G a b_villages b_woods b_needs b_signs (cpI 6 b_temper a_temper) (cpI 6 b_friend a_friend) (cpI 6 b_rope a_rope) (cpI 24 b_hears a_hears) a_shut a_woodBell a_woodVillage a_needVillage a_needWind a_needSeen a_sign, wX3 G b b_villages b_woods b_needs b_signs b_temper b_friend b_rope b_hears b_shut b_woodBell b_woodVillage b_needVillage b_needWind b_needSeen b_sign]) H := hP
  have hD : va_D A (flat [wX3 G a b_villages b_woods b_needs b_signs (cpI 6 b_temper a_temper) (cpI 6 b_friend a_friend) (cpI 6 b_rope a_rope) (cpI 24 b_hears a_hears) a_shut a_woodBell a_woodVillage a_needVillage a_needWind a_needSeen a_sign, wX3 G b b_villages b_woods b_needs b_signs b_temper b_friend b_rope b_hears b_shut b_woodBell b_woodVillage b_needVillage b_needWind b_needSeen b_sign]) := hD
  refine lv_aload_n hx hb dX3_copy_92 rfl (lv_at hl 1 rfl) ?_
  refine at_pc (pc' := 93) rfl ?_
  refine va_get (D := G.1) (ci := 3) (v := .ref (b 5)) (C := RX3) (T := TX3) (N := 15) hx hb hts iiX3_copy_X3 hown hK hP 12 rfl rfl 8 (by decide) (hts _ mmX3_copy_13) (fun _ h9 => h9) rfl dX3_copy_93 ?_
  refine lv_iconst (v := 0) hx hb dX3_copy_96 (by decide) ?_
  refine lv_aload_n hx hb dX3_copy_97 rfl (lv_at hl 0 rfl) ?_
  refine va_get (D := G.1) (ci := 3) (v := .ref (a 5)) (C := RX3) (T := TX3) (N := 15) hx hb hts iiX3_copy_X3 hown hK hP 0 rfl rfl 8 (by decide) (hts _ mmX3_copy_13) (fun _ h9 => h9) rfl dX3_copy_98 ?_
  refine lv_iconst (v := 0) hx hb dX3_copy_101 (by decide) ?_
  refine lv_bipush (v := 6) hx hb dX3_copy_102 (by decide) ?_
  refine va_copyi hx hb (by rw [hml]; exact hl.1.symm) hown (hts _ mmX3_copy_6) (hts _ mmX3_copy_7) (hts _ mmX3_copy_8) (hts _ mmX3_copy_9) hK hP hD hS 17 5 0 0 rfl rfl rfl rfl rfl (by decide) (by decide) (by decide) (by decide) (by decide) (fun _ _ => rfl) (Nat.le_of_ble_eq_true rfl) (by decide) dX3_copy_104 (fun H locs hP hD hS => ?_)
  have hP : va_P G.1 vwCl (flat [wX3 G a b_villages b_woods b_needs b_signs (cpI 6 b_temper a_temper) (cpI 6 b_friend a_friend) (cpI 6 b_rope a_rope) (cpI 24 b_hears a_hears) (cpI 6 b_shut a_shut) a_woodBell a_woodVillage a_needVillage a_needWind a_needSeen a_sign, wX3 G b b_villages b_woods b_needs b_signs b_temper b_friend b_rope b_hears b_shut b_woodBell b_woodVillage b_needVillage b_needWind b_needSeen b_sign]) H := hP
  have hD : va_D A (flat [wX3 G a b_villages b_woods b_needs b_signs (cpI 6 b_temper a_temper) (cpI 6 b_friend a_friend) (cpI 6 b_rope a_rope) (cpI 24 b_hears a_hears) (cpI 6 b_shut a_shut) a_woodBell a_woodVillage a_needVillage a_needWind a_needSeen a_sign, wX3 G b b_villages b_woods b_needs b_signs b_temper b_friend b_rope b_hears b_shut b_woodBell b_woodVillage b_needVillage b_needWind b_needSeen b_sign]) := hD
  refine lv_aload_n hx hb dX3_copy_107 rfl (lv_at hl 1 rfl) ?_
  refine va_get (D := G.1) (ci := 3) (v := .ref (b 6)) (C := RX3) (T := TX3) (N := 15) hx hb hts iiX3_copy_X3 hown hK hP 12 rfl rfl 9 (by decide) (hts _ mmX3_copy_14) (fun _ h9 => h9) rfl dX3_copy_108 ?_
  refine lv_iconst (v := 0) hx hb dX3_copy_111 (by decide) ?_
  refine at_pc (pc' := 112) rfl ?_
  refine lv_aload_n hx hb dX3_copy_112 rfl (lv_at hl 0 rfl) ?_
  refine va_get (D := G.1) (ci := 3) (v := .ref (a 6)) (C := RX3) (T := TX3) (N := 15) hx hb hts iiX3_copy_X3 hown hK hP 0 rfl rfl 9 (by decide) (hts _ mmX3_copy_14) (fun _ h9 => h9) rfl dX3_copy_113 ?_
  refine lv_iconst (v := 0) hx hb dX3_copy_116 (by decide) ?_
  refine lv_bipush (v := 8) hx hb dX3_copy_117 (by decide) ?_
  refine va_copyi hx hb (by rw [hml]; exact hl.1.symm) hown (hts _ mmX3_copy_6) (hts _ mmX3_copy_7) (hts _ mmX3_copy_8) (hts _ mmX3_copy_9) hK hP hD hS 18 6 0 0 rfl rfl rfl rfl rfl (by decide) (by decide) (by decide) (by decide) (by decide) (fun _ _ => rfl) (Nat.le_of_ble_eq_true rfl) (by decide) dX3_copy_119 (fun H locs hP hD hS => ?_)
  have hP : va_P G.1 vwCl (flat [wX3 G a b_villages b_woods b_needs b_signs (cpI 6 b_temper a_temper) (cpI 6 b_friend a_friend) (cpI 6 b_rope a_rope) (cpI 24 b_hears a_hears) (cpI 6 b_shut a_shut) (cpI 8 b_woodBell a_woodBell) a_woodVillage a_needVillage a_needWind a_needSeen a_sign, wX3 G b b_villages b_woods b_needs b_signs b_temper b_friend b_rope b_hears b_shut b_woodBell b_woodVillage b_needVillage b_needWind b_needSeen b_sign]) H := hP
  have hD : va_D A (flat [wX3 G a b_villages b_woods b_needs b_signs (cpI 6 b_temper a_temper) (cpI 6 b_friend a_friend) (cpI 6 b_rope a_rope) (cpI 24 b_hears a_hears) (cpI 6 b_shut a_shut) (cpI 8 b_woodBell a_woodBell) a_woodVillage a_needVillage a_needWind a_needSeen a_sign, wX3 G b b_villages b_woods b_needs b_signs b_temper b_friend b_rope b_hears b_shut b_woodBell b_woodVillage b_needVillage b_needWind b_needSeen b_sign]) := hD
  refine lv_aload_n hx hb dX3_copy_122 rfl (lv_at hl 1 rfl) ?_
  refine va_get (D := G.1) (ci := 3) (v := .ref (b 7)) (C := RX3) (T := TX3) (N := 15) hx hb hts iiX3_copy_X3 hown hK hP 12 rfl rfl 10 (by decide) (hts _ mmX3_copy_15) (fun _ h9 => h9) rfl dX3_copy_123 ?_
  refine lv_iconst (v := 0) hx hb dX3_copy_126 (by decide) ?_
  refine lv_aload_n hx hb dX3_copy_127 rfl (lv_at hl 0 rfl) ?_
  refine va_get (D := G.1) (ci := 3) (v := .ref (a 7)) (C := RX3) (T := TX3) (N := 15) hx hb hts iiX3_copy_X3 hown hK hP 0 rfl rfl 10 (by decide) (hts _ mmX3_copy_15) (fun _ h9 => h9) rfl dX3_copy_128 ?_
  refine at_pc (pc' := 131) rfl ?_
  refine lv_iconst (v := 0) hx hb dX3_copy_131 (by decide) ?_
  refine lv_bipush (v := 8) hx hb dX3_copy_132 (by decide) ?_
  refine va_copyi hx hb (by rw [hml]; exact hl.1.symm) hown (hts _ mmX3_copy_6) (hts _ mmX3_copy_7) (hts _ mmX3_copy_8) (hts _ mmX3_copy_9) hK hP hD hS 19 7 0 0 rfl rfl rfl rfl rfl (by decide) (by decide) (by decide) (by decide) (by decide) (fun _ _ => rfl) (Nat.le_of_ble_eq_true rfl) (by decide) dX3_copy_134 (fun H locs hP hD hS => ?_)
  have hP : va_P G.1 vwCl (flat [wX3 G a b_villages b_woods b_needs b_signs (cpI 6 b_temper a_temper) (cpI 6 b_friend a_friend) (cpI 6 b_rope a_rope) (cpI 24 b_hears a_hears) (cpI 6 b_shut a_shut) (cpI 8 b_woodBell a_woodBell) (cpI 8 b_woodVillage a_woodVillage) a_needVillage a_needWind a_needSeen a_sign, wX3 G b b_villages b_woods b_needs b_signs b_temper b_friend b_rope b_hears b_shut b_woodBell b_woodVillage b_needVillage b_needWind b_needSeen b_sign]) H := hP
  have hD : va_D A (flat [wX3 G a b_villages b_woods b_needs b_signs (cpI 6 b_temper a_temper) (cpI 6 b_friend a_friend) (cpI 6 b_rope a_rope) (cpI 24 b_hears a_hears) (cpI 6 b_shut a_shut) (cpI 8 b_woodBell a_woodBell) (cpI 8 b_woodVillage a_woodVillage) a_needVillage a_needWind a_needSeen a_sign, wX3 G b b_villages b_woods b_needs b_signs b_temper b_friend b_rope b_hears b_shut b_woodBell b_woodVillage b_needVillage b_needWind b_needSeen b_sign]) := hD
  refine lv_aload_n hx hb dX3_copy_137 rfl (lv_at hl 1 rfl) ?_
  refine va_get (D := G.1) (ci := 3) (v := .ref (b 8)) (C := RX3) (T := TX3) (N := 15) hx hb hts iiX3_copy_X3 hown hK hP 12 rfl rfl 11 (by decide) (hts _ mmX3_copy_16) (fun _ h9 => h9) rfl dX3_copy_138 ?_
  refine lv_iconst (v := 0) hx hb dX3_copy_141 (by decide) ?_
  refine lv_aload_n hx hb dX3_copy_142 rfl (lv_at hl 0 rfl) ?_
  refine va_get (D := G.1) (ci := 3) (v := .ref (a 8)) (C := RX3) (T := TX3) (N := 15) hx hb hts iiX3_copy_X3 hown hK hP 0 rfl rfl 11 (by decide) (hts _ mmX3_copy_16) (fun _ h9 => h9) rfl dX3_copy_143 ?_
  refine lv_iconst (v := 0) hx hb dX3_copy_146 (by decide) ?_
  refine lv_bipush (v := 12) hx hb dX3_copy_147 (by decide) ?_
  refine at_pc (pc' := 149) rfl ?_
  refine va_copyi hx hb (by rw [hml]; exact hl.1.symm) hown (hts _ mmX3_copy_6) (hts _ mmX3_copy_7) (hts _ mmX3_copy_8) (hts _ mmX3_copy_9) hK hP hD hS 20 8 0 0 rfl rfl rfl rfl rfl (by decide) (by decide) (by decide) (by decide) (by decide) (fun _ _ => rfl) (Nat.le_of_ble_eq_true rfl) (by decide) dX3_copy_149 (fun H locs hP hD hS => ?_)
  have hP : va_P G.1 vwCl (flat [wX3 G a b_villages b_woods b_needs b_signs (cpI 6 b_temper a_temper) (cpI 6 b_friend a_friend) (cpI 6 b_rope a_rope) (cpI 24 b_hears a_hears) (cpI 6 b_shut a_shut) (cpI 8 b_woodBell a_woodBell) (cpI 8 b_woodVillage a_woodVillage) (cpI 12 b_needVillage a_needVillage) a_needWind a_needSeen a_sign, wX3 G b b_villages b_woods b_needs b_signs b_temper b_friend b_rope b_hears b_shut b_woodBell b_woodVillage b_needVillage b_needWind b_needSeen b_sign]) H := hP
  have hD : va_D A (flat [wX3 G a b_villages b_woods b_needs b_signs (cpI 6 b_temper a_temper) (cpI 6 b_friend a_friend) (cpI 6 b_rope a_rope) (cpI 24 b_hears a_hears) (cpI 6 b_shut a_shut) (cpI 8 b_woodBell a_woodBell) (cpI 8 b_woodVillage a_woodVillage) (cpI 12 b_needVillage a_needVillage) a_needWind a_needSeen a_sign, wX3 G b b_villages b_woods b_needs b_signs b_temper b_friend b_rope b_hears b_shut b_woodBell b_woodVillage b_needVillage b_needWind b_needSeen b_sign]) := hD
  refine lv_aload_n hx hb dX3_copy_152 rfl (lv_at hl 1 rfl) ?_
  refine va_get (D := G.1) (ci := 3) (v := .ref (b 9)) (C := RX3) (T := TX3) (N := 15) hx hb hts iiX3_copy_X3 hown hK hP 12 rfl rfl 12 (by decide) (hts _ mmX3_copy_17) (fun _ h9 => h9) rfl dX3_copy_153 ?_
  refine lv_iconst (v := 0) hx hb dX3_copy_156 (by decide) ?_
  refine lv_aload_n hx hb dX3_copy_157 rfl (lv_at hl 0 rfl) ?_
  refine va_get (D := G.1) (ci := 3) (v := .ref (a 9)) (C := RX3) (T := TX3) (N := 15) hx hb hts iiX3_copy_X3 hown hK hP 0 rfl rfl 12 (by decide) (hts _ mmX3_copy_17) (fun _ h9 => h9) rfl dX3_copy_158 ?_
  refine lv_iconst (v := 0) hx hb dX3_copy_161 (by decide) ?_
  refine lv_bipush (v := 12) hx hb dX3_copy_162 (by decide) ?_
  refine va_copyi hx hb (by rw [hml]; exact hl.1.symm) hown (hts _ mmX3_copy_6) (hts _ mmX3_copy_7) (hts _ mmX3_copy_8) (hts _ mmX3_copy_9) hK hP hD hS 21 9 0 0 rfl rfl rfl rfl rfl (by decide) (by decide) (by decide) (by decide) (by decide) (fun _ _ => rfl) (Nat.le_of_ble_eq_true rfl) (by decide) dX3_copy_164 (fun H locs hP hD hS => ?_)
  have hP : va_P G.1 vwCl (flat [wX3 G a b_villages b_woods b_needs b_signs (cpI 6 b_temper a_temper) (cpI 6 b_friend a_friend) (cpI 6 b_rope a_rope) (cpI 24 b_hears a_hears) (cpI 6 b_shut a_shut) (cpI 8 b_woodBell a_woodBell) (cpI 8 b_woodVillage a_woodVillage) (cpI 12 b_needVillage a_needVillage) (cpI 12 b_needWind a_needWind) a_needSeen a_sign, wX3 G b b_villages b_woods b_needs b_signs b_temper b_friend b_rope b_hears b_shut b_woodBell b_woodVillage b_needVillage b_needWind b_needSeen b_sign]) H := hP
  have hD : va_D A (flat [wX3 G a b_villages b_woods b_needs b_signs (cpI 6 b_temper a_temper) (cpI 6 b_friend a_friend) (cpI 6 b_rope a_rope) (cpI 24 b_hears a_hears) (cpI 6 b_shut a_shut) (cpI 8 b_woodBell a_woodBell) (cpI 8 b_woodVillage a_woodVillage) (cpI 12 b_needVillage a_needVillage) (cpI 12 b_needWind a_needWind) a_needSeen a_sign, wX3 G b b_villages b_woods b_needs b_signs b_temper b_friend b_rope b_hears b_shut b_woodBell b_woodVillage b_needVillage b_needWind b_needSeen b_sign]) := hD
  refine lv_aload_n hx hb dX3_copy_167 rfl (lv_at hl 1 rfl) ?_
  refine at_pc (pc' := 168) rfl ?_
  refine va_get (D := G.1) (ci := 3) (v := .ref (b 10)) (C := RX3) (T := TX3) (N := 15) hx hb hts iiX3_copy_X3 hown hK hP 12 rfl rfl 13 (by decide) (hts _ mmX3_copy_18) (fun _ h9 => h9) rfl dX3_copy_168 ?_
  refine lv_iconst (v := 0) hx hb dX3_copy_171 (by decide) ?_
  refine lv_aload_n hx hb dX3_copy_172 rfl (lv_at hl 0 rfl) ?_
  refine va_get (D := G.1) (ci := 3) (v := .ref (a 10)) (C := RX3) (T := TX3) (N := 15) hx hb hts iiX3_copy_X3 hown hK hP 0 rfl rfl 13 (by decide) (hts _ mmX3_copy_18) (fun _ h9 => h9) rfl dX3_copy_173 ?_
  refine lv_iconst (v := 0) hx hb dX3_copy_176 (by decide) ?_
  refine lv_bipush (v := 12) hx hb dX3_copy_177 (by decide) ?_
  refine va_copyi hx hb (by rw [hml]; exact hl.1.symm) hown (hts _ mmX3_copy_6) (hts _ mmX3_copy_7) (hts _ mmX3_copy_8) (hts _ mmX3_copy_9) hK hP hD hS 22 10 0 0 rfl rfl rfl rfl rfl (by decide) (by decide) (by decide) (by decide) (by decide) (fun _ _ => rfl) (Nat.le_of_ble_eq_true rfl) (by decide) dX3_copy_179 (fun H locs hP hD hS => ?_)
  have hP : va_P G.1 vwCl (flat [wX3 G a b_villages b_woods b_needs b_signs (cpI 6 b_temper a_temper) (cpI 6 b_friend a_friend) (cpI 6 b_rope a_rope) (cpI 24 b_hears a_hears) (cpI 6 b_shut a_shut) (cpI 8 b_woodBell a_woodBell) (cpI 8 b_woodVillage a_woodVillage) (cpI 12 b_needVillage a_needVillage) (cpI 12 b_needWind a_needWind) (cpI 12 b_needSeen a_needSeen) a_sign, wX3 G b b_villages b_woods b_needs b_signs b_temper b_friend b_rope b_hears b_shut b_woodBell b_woodVillage b_needVillage b_needWind b_needSeen b_sign]) H := hP
  have hD : va_D A (flat [wX3 G a b_villages b_woods b_needs b_signs (cpI 6 b_temper a_temper) (cpI 6 b_friend a_friend) (cpI 6 b_rope a_rope) (cpI 24 b_hears a_hears) (cpI 6 b_shut a_shut) (cpI 8 b_woodBell a_woodBell) (cpI 8 b_woodVillage a_woodVillage) (cpI 12 b_needVillage a_needVillage) (cpI 12 b_needWind a_needWind) (cpI 12 b_needSeen a_needSeen) a_sign, wX3 G b b_villages b_woods b_needs b_signs b_temper b_friend b_rope b_hears b_shut b_woodBell b_woodVillage b_needVillage b_needWind b_needSeen b_sign]) := hD
  refine lv_aload_n hx hb dX3_copy_182 rfl (lv_at hl 1 rfl) ?_
  refine va_get (D := G.1) (ci := 3) (v := .ref (b 11)) (C := RX3) (T := TX3) (N := 15) hx hb hts iiX3_copy_X3 hown hK hP 12 rfl rfl 14 (by decide) (hts _ mmX3_copy_19) (fun _ h9 => h9) rfl dX3_copy_183 ?_
  refine lv_iconst (v := 0) hx hb dX3_copy_186 (by decide) ?_
  refine at_pc (pc' := 187) rfl ?_
  refine lv_aload_n hx hb dX3_copy_187 rfl (lv_at hl 0 rfl) ?_
  refine va_get (D := G.1) (ci := 3) (v := .ref (a 11)) (C := RX3) (T := TX3) (N := 15) hx hb hts iiX3_copy_X3 hown hK hP 0 rfl rfl 14 (by decide) (hts _ mmX3_copy_19) (fun _ h9 => h9) rfl dX3_copy_188 ?_
  refine lv_iconst (v := 0) hx hb dX3_copy_191 (by decide) ?_
  refine lv_bipush (v := 6) hx hb dX3_copy_192 (by decide) ?_
  refine va_copyi hx hb (by rw [hml]; exact hl.1.symm) hown (hts _ mmX3_copy_6) (hts _ mmX3_copy_7) (hts _ mmX3_copy_8) (hts _ mmX3_copy_9) hK hP hD hS 23 11 0 0 rfl rfl rfl rfl rfl (by decide) (by decide) (by decide) (by decide) (by decide) (fun _ _ => rfl) (Nat.le_of_ble_eq_true rfl) (by decide) dX3_copy_194 (fun H locs hP hD hS => ?_)
  have hP : va_P G.1 vwCl (flat [wX3 G a b_villages b_woods b_needs b_signs (cpI 6 b_temper a_temper) (cpI 6 b_friend a_friend) (cpI 6 b_rope a_rope) (cpI 24 b_hears a_hears) (cpI 6 b_shut a_shut) (cpI 8 b_woodBell a_woodBell) (cpI 8 b_woodVillage a_woodVillage) (cpI 12 b_needVillage a_needVillage) (cpI 12 b_needWind a_needWind) (cpI 12 b_needSeen a_needSeen) (cpI 6 b_sign a_sign), wX3 G b b_villages b_woods b_needs b_signs b_temper b_friend b_rope b_hears b_shut b_woodBell b_woodVillage b_needVillage b_needWind b_needSeen b_sign]) H := hP
  have hD : va_D A (flat [wX3 G a b_villages b_woods b_needs b_signs (cpI 6 b_temper a_temper) (cpI 6 b_friend a_friend) (cpI 6 b_rope a_rope) (cpI 24 b_hears a_hears) (cpI 6 b_shut a_shut) (cpI 8 b_woodBell a_woodBell) (cpI 8 b_woodVillage a_woodVillage) (cpI 12 b_needVillage a_needVillage) (cpI 12 b_needWind a_needWind) (cpI 12 b_needSeen a_needSeen) (cpI 6 b_sign a_sign), wX3 G b b_villages b_woods b_needs b_signs b_temper b_friend b_rope b_hears b_shut b_woodBell b_woodVillage b_needVillage b_needWind b_needSeen b_sign]) := hD
  have e9 := Option.some.inj hf
  subst e9
  exact rt_v C hP hS dX3_copy_197

/-! RX3 changeRopes(II)I -/
theorem iiX3_changeRopes_X3 : ∀ w ∈ wsX30, w ∈ wsX3_changeRopes := by decide +kernel
theorem mmX3_changeRopes_1 : (Cond.fieldLink RX3 18 "BlindBells$Valley" "rope" "[I") ∈ wsX3_changeRopes := by decide +kernel
theorem hdX3_changeRopes : yX3_changeRopes.cls = RX3 ∧ yX3_changeRopes.cls ≠ "java/lang/invoke/MethodHandle" ∧ yX3_changeRopes.cls ≠ "java/lang/invoke/VarHandle" ∧ (parseMethodDescriptor yX3_changeRopes.desc).map (fun d => d.parameters.length) = some 2 := by decide +kernel
abbrev rmX3_changeRopes : Room := { frames := 2, cells := 0, slots := 0, locals := 43 }
set_option maxHeartbeats 4000000 in
set_option maxRecDepth 100000 in
theorem tX3_changeRopes (l : Launch) (G : GG) (a : Nat → Nat) (a_villages : Int32) (a_woods : Int32) (a_needs : Int32) (a_signs : Int32) (a_temper : Nat → Int32) (a_friend : Nat → Int32) (a_rope : Nat → Int32) (a_hears : Nat → Int32) (a_shut : Nat → Int32) (a_woodBell : Nat → Int32) (a_woodVillage : Nat → Int32) (a_needVillage : Nat → Int32) (a_needWind : Nat → Int32) (a_needSeen : Nat → Int32) (a_sign : Nat → Int32) (p0 : Int32) (p1 : Int32) (out : Int32 × (Nat → Int32)) (hf : fX3_changeRopes a_villages a_rope p0 p1 = some out) : cMi l G yX3_changeRopes wsX3_changeRopes rmX3_changeRopes [.ref (a 0), .int p0, .int p1] (flat [wX3 G a a_villages a_woods a_needs a_signs a_temper a_friend a_rope a_hears a_shut a_woodBell a_woodVillage a_needVillage a_needWind a_needSeen a_sign]) out.1 (flat [wX3 G a a_villages a_woods a_needs a_signs a_temper a_friend out.2 a_hears a_shut a_woodBell a_woodVillage a_needVillage a_needWind a_needSeen a_sign]) := by
  intro sz
  refine met_of (cc := cX3_changeRopes) (nL := 4) (ret := (some .int)) (Qc := fun A9 => QI G A9 out.1 (flat [wX3 G a a_villages a_woods a_needs a_signs a_temper a_friend out.2 a_hears a_shut a_woodBell a_woodVillage a_needVillage a_needWind a_needSeen a_sign])) (by decide) rfl (Nat.le_of_ble_eq_true rfl) ?_
  intro p e s m args below meth c A ls C hP hD hS hl
  obtain ⟨⟨hx, hb, hml, hown, hts⟩, hr, hlocks, hK, hN, hE, hA⟩ := id C
  have hl : lv_has ls 4 [(0, .ref (a 0)), (1, .int p0), (2, .int p1)] := hl
  unfold fX3_changeRopes at hf
  refine lv_aload_n hx hb dX3_changeRopes_0 rfl (lv_at hl 0 rfl) ?_
  refine lv_iload_n hx hb dX3_changeRopes_1 rfl (lv_at hl 1 rfl) ?_
  refine lv_iload_n hx hb dX3_changeRopes_2 rfl (lv_at hl 2 rfl) ?_
  obtain ⟨g1, hg1, hf⟩ := o_b hf
  refine bVi C hP hD hS (tX3_areTwo l G a a_villages a_woods a_needs a_signs a_temper a_friend a_rope a_hears a_shut a_woodBell a_woodVillage a_needVillage a_needWind a_needSeen a_sign p0 p1 g1 hg1) gX3_changeRopes_X3_areTwo rfl ⟨rfl, rfl⟩ hdX3_areTwo ⟨Nat.le_of_ble_eq_true rfl, Nat.le_of_ble_eq_true rfl⟩ rfl hl.1 rfl (Nat.le_of_ble_eq_true rfl) ⟨Nat.le_of_ble_eq_true rfl, Nat.le_of_ble_eq_true rfl⟩ [0] rfl rfl rfl (setB_same _ _ _ rfl) rfl (ci := 3) (q0 := 0) rfl rfl rfl dX3_changeRopes_3 (fun H locs hP hD hS => ?_)
  refine lv_if_ne (tgt := 12) hx hb dX3_changeRopes_6 (by decide) (fun c2 => ?_) (fun c2 => ?_)
  · have hf := (o_i hf).2 c2
    refine lv_aload_n hx hb dX3_changeRopes_12 rfl (lv_at hl 0 rfl) ?_
    refine va_get (D := G.1) (ci := 3) (v := .ref (a 3)) (C := RX3) (T := TX3) (N := 15) hx hb hts iiX3_changeRopes_X3 hown hK hP 0 rfl rfl 6 (by decide) (hts _ mmX3_changeRopes_1) (fun _ h9 => h9) rfl dX3_changeRopes_13 ?_
    refine lv_iload_n hx hb dX3_changeRopes_16 rfl (lv_at hl 1 rfl) ?_
    obtain ⟨z3, hz3, hf⟩ := o_b hf
    refine k_iald hx hb hK hP 3 0 rfl rfl hz3 dX3_changeRopes_17 ?_
    refine lv_istore_n (lv' := [(3, .int z3), (0, .ref (a 0)), (1, .int p0), (2, .int p1)]) hx hb dX3_changeRopes_18 rfl hl (by decide) rfl (fun ls hl => ?_)
    refine lv_aload_n hx hb dX3_changeRopes_19 rfl (lv_at hl 1 rfl) ?_
    refine va_get (D := G.1) (ci := 3) (v := .ref (a 3)) (C := RX3) (T := TX3) (N := 15) hx hb hts iiX3_changeRopes_X3 hown hK hP 0 rfl rfl 6 (by decide) (hts _ mmX3_changeRopes_1) (fun _ h9 => h9) rfl dX3_changeRopes_20 ?_
    refine lv_iload_n hx hb dX3_changeRopes_23 rfl (lv_at hl 2 rfl) ?_
    refine lv_aload_n hx hb dX3_changeRopes_24 rfl (lv_at hl 1 rfl) ?_
    refine at_pc (pc' := 25) rfl ?_
    refine va_get (D := G.1) (ci := 3) (v := .ref (a 3)) (C := RX3) (T := TX3) (N := 15) hx hb hts iiX3_changeRopes_X3 hown hK hP 0 rfl rfl 6 (by decide) (hts _ mmX3_changeRopes_1) (fun _ h9 => h9) rfl dX3_changeRopes_25 ?_
    refine lv_iload_n hx hb dX3_changeRopes_28 rfl (lv_at hl 3 rfl) ?_
    obtain ⟨z4, hz4, hf⟩ := o_b hf
    refine k_iald hx hb hK hP 3 0 rfl rfl hz4 dX3_changeRopes_29 ?_
    obtain ⟨u5, hu5, hf⟩ := o_b hf
    refine k_iast hx hb hK hP hD hS 3 0 rfl rfl hu5 dX3_changeRopes_30 (fun H locs hP hD hS => ?_)
    have hP : va_P G.1 vwCl (flat [wX3 G a a_villages a_woods a_needs a_signs a_temper a_friend u5 a_hears a_shut a_woodBell a_woodVillage a_needVillage a_needWind a_needSeen a_sign]) H := hP
    have hD : va_D A (flat [wX3 G a a_villages a_woods a_needs a_signs a_temper a_friend u5 a_hears a_shut a_woodBell a_woodVillage a_needVillage a_needWind a_needSeen a_sign]) := hD
    refine lv_aload_n hx hb dX3_changeRopes_31 rfl (lv_at hl 1 rfl) ?_
    refine va_get (D := G.1) (ci := 3) (v := .ref (a 3)) (C := RX3) (T := TX3) (N := 15) hx hb hts iiX3_changeRopes_X3 hown hK hP 0 rfl rfl 6 (by decide) (hts _ mmX3_changeRopes_1) (fun _ h9 => h9) rfl dX3_changeRopes_32 ?_
    refine lv_iload_n hx hb dX3_changeRopes_35 rfl (lv_at hl 3 rfl) ?_
    refine lv_iload_n hx hb dX3_changeRopes_36 rfl (lv_at hl 0 rfl) ?_
    obtain ⟨u6, hu6, hf⟩ := o_b hf
    refine k_iast hx hb hK hP hD hS 3 0 rfl rfl hu6 dX3_changeRopes_37 (fun H locs hP hD hS => ?_)
    have hP : va_P G.1 vwCl (flat [wX3 G a a_villages a_woods a_needs a_signs a_temper a_friend u6 a_hears a_shut a_woodBell a_woodVillage a_needVillage a_needWind a_needSeen a_sign]) H := hP
    have hD : va_D A (flat [wX3 G a a_villages a_woods a_needs a_signs a_temper a_friend u6 a_hears a_shut a_woodBell a_woodVillage a_needVillage a_needWind a_needSeen a_sign]) := hD
    refine lv_iconst (v := 1) hx hb dX3_changeRopes_38 (by decide) ?_
    refine at_pc (pc' := 39) rfl ?_
    have e9 := Option.some.inj hf
    subst e9
    exact rt_i C hP hS rfl dX3_changeRopes_39
  have hf := (o_i hf).1 c2
  refine lv_bipush (v := (-2)) hx hb dX3_changeRopes_9 (by decide) ?_
  have e9 := Option.some.inj hf
  subst e9
  exact rt_i C hP hS rfl dX3_changeRopes_11

/-! RX3 dropNeed()I -/
theorem iiX3_dropNeed_X3 : ∀ w ∈ wsX30, w ∈ wsX3_dropNeed := by decide +kernel
theorem mmX3_dropNeed_1 : (Cond.fieldLink RX3 56 "BlindBells$Valley" "needs" "I") ∈ wsX3_dropNeed := by decide +kernel
theorem hdX3_dropNeed : yX3_dropNeed.cls = RX3 ∧ yX3_dropNeed.cls ≠ "java/lang/invoke/MethodHandle" ∧ yX3_dropNeed.cls ≠ "java/lang/invoke/VarHandle" ∧ (parseMethodDescriptor yX3_dropNeed.desc).map (fun d => d.parameters.length) = some 0 := by decide +kernel
abbrev rmX3_dropNeed : Room := { frames := 0, cells := 0, slots := 0, locals := 0 }
set_option maxHeartbeats 4000000 in
set_option maxRecDepth 100000 in
theorem tX3_dropNeed (l : Launch) (G : GG) (a : Nat → Nat) (a_villages : Int32) (a_woods : Int32) (a_needs : Int32) (a_signs : Int32) (a_temper : Nat → Int32) (a_friend : Nat → Int32) (a_rope : Nat → Int32) (a_hears : Nat → Int32) (a_shut : Nat → Int32) (a_woodBell : Nat → Int32) (a_woodVillage : Nat → Int32) (a_needVillage : Nat → Int32) (a_needWind : Nat → Int32) (a_needSeen : Nat → Int32) (a_sign : Nat → Int32) (out : Int32 × Int32) (hf : fX3_dropNeed a_needs = some out) : cMi l G yX3_dropNeed wsX3_dropNeed rmX3_dropNeed [.ref (a 0)] (flat [wX3 G a a_villages a_woods a_needs a_signs a_temper a_friend a_rope a_hears a_shut a_woodBell a_woodVillage a_needVillage a_needWind a_needSeen a_sign]) out.1 (flat [wX3 G a a_villages a_woods out.2 a_signs a_temper a_friend a_rope a_hears a_shut a_woodBell a_woodVillage a_needVillage a_needWind a_needSeen a_sign]) := by
  intro sz
  refine met_of (cc := cX3_dropNeed) (nL := 1) (ret := (some .int)) (Qc := fun A9 => QI G A9 out.1 (flat [wX3 G a a_villages a_woods out.2 a_signs a_temper a_friend a_rope a_hears a_shut a_woodBell a_woodVillage a_needVillage a_needWind a_needSeen a_sign])) (by decide) rfl (Nat.le_of_ble_eq_true rfl) ?_
  intro p e s m args below meth c A ls C hP hD hS hl
  obtain ⟨⟨hx, hb, hml, hown, hts⟩, hr, hlocks, hK, hN, hE, hA⟩ := id C
  have hl : lv_has ls 1 [(0, .ref (a 0))] := hl
  unfold fX3_dropNeed at hf
  refine lv_aload_n hx hb dX3_dropNeed_0 rfl (lv_at hl 0 rfl) ?_
  refine va_get (D := G.1) (ci := 3) (v := .int a_needs) (C := RX3) (T := TX3) (N := 15) hx hb hts iiX3_dropNeed_X3 hown hK hP 0 rfl rfl 2 (by decide) (hts _ mmX3_dropNeed_1) (fun _ h9 => h9) rfl dX3_dropNeed_1 ?_
  refine lv_if_gt (tgt := 10) hx hb dX3_dropNeed_4 (by decide) (fun c1 => ?_) (fun c1 => ?_)
  · have hf := (o_i hf).1 c1
    refine lv_aload_n hx hb dX3_dropNeed_10 rfl (lv_at hl 0 rfl) ?_
    refine lv_dup hx hb dX3_dropNeed_11 rfl ?_
    refine va_get (D := G.1) (ci := 3) (v := .int a_needs) (C := RX3) (T := TX3) (N := 15) hx hb hts iiX3_dropNeed_X3 hown hK hP 0 rfl rfl 2 (by decide) (hts _ mmX3_dropNeed_1) (fun _ h9 => h9) rfl dX3_dropNeed_12 ?_
    refine lv_iconst (v := 1) hx hb dX3_dropNeed_15 (by decide) ?_
    refine lv_isub hx hb dX3_dropNeed_16 ?_
    refine va_put (D := G.1) (ci := 3) (v := .int (a_needs - 1)) (ty := .int) (C := RX3) (T := TX3) (N := 15) hx hb hts iiX3_dropNeed_X3 tyX3 tyX3_ok nmX3 hown hK hP hD hS 0 rfl rfl 2 (by decide) (hts _ mmX3_dropNeed_1) (fun _ h9 => h9) rfl (by decide +kernel) rfl rfl (Nat.le_of_ble_eq_true rfl) dX3_dropNeed_17 (fun H locs hP hD hS => ?_)
    have hP : va_P G.1 vwCl (flat [wX3 G a a_villages a_woods (a_needs - 1) a_signs a_temper a_friend a_rope a_hears a_shut a_woodBell a_woodVillage a_needVillage a_needWind a_needSeen a_sign]) H := hP
    have hD : va_D A (flat [wX3 G a a_villages a_woods (a_needs - 1) a_signs a_temper a_friend a_rope a_hears a_shut a_woodBell a_woodVillage a_needVillage a_needWind a_needSeen a_sign]) := hD
    refine lv_aload_n hx hb dX3_dropNeed_20 rfl (lv_at hl 0 rfl) ?_
    refine va_get (D := G.1) (ci := 3) (v := .int (a_needs - 1)) (C := RX3) (T := TX3) (N := 15) hx hb hts iiX3_dropNeed_X3 hown hK hP 0 rfl rfl 2 (by decide) (hts _ mmX3_dropNeed_1) (fun _ h9 => h9) rfl dX3_dropNeed_21 ?_
    have e9 := Option.some.inj hf
    subst e9
    exact rt_i C hP hS rfl dX3_dropNeed_24
  have hf := (o_i hf).2 c1
  refine lv_bipush (v := (-3)) hx hb dX3_dropNeed_7 (by decide) ?_
  have e9 := Option.some.inj hf
  subst e9
  exact rt_i C hP hS rfl dX3_dropNeed_9

/-! RX3 signOf(I)I -/
theorem iiX3_signOf_X3 : ∀ w ∈ wsX30, w ∈ wsX3_signOf := by decide +kernel
theorem mmX3_signOf_1 : (Cond.fieldLink RX3 59 "BlindBells$Valley" "signs" "I") ∈ wsX3_signOf := by decide +kernel
theorem mmX3_signOf_2 : (Cond.fieldLink RX3 42 "BlindBells$Valley" "sign" "[I") ∈ wsX3_signOf := by decide +kernel
theorem hdX3_signOf : yX3_signOf.cls = RX3 ∧ yX3_signOf.cls ≠ "java/lang/invoke/MethodHandle" ∧ yX3_signOf.cls ≠ "java/lang/invoke/VarHandle" ∧ (parseMethodDescriptor yX3_signOf.desc).map (fun d => d.parameters.length) = some 1 := by decide +kernel
abbrev rmX3_signOf : Room := { frames := 0, cells := 0, slots := 0, locals := 0 }
set_option maxHeartbeats 4000000 in
set_option maxRecDepth 100000 in
theorem lX3_signOf_2 {p : Program} {e : Env} {s : State} {m : MethodId} {args : Array Value} {below : List Frame} {meth : Method} {c : Code} {A : Nat → Prop} (l : Launch) (G : GG) (C : Cx p m c cX3_signOf 3 s args wsX3_signOf RX3 meth (some .int) G A) (a : Nat → Nat) (a_villages : Int32) (a_woods : Int32) (a_needs : Int32) (a_signs : Int32) (a_temper : Nat → Int32) (a_friend : Nat → Int32) (a_rope : Nat → Int32) (a_hears : Nat → Int32) (a_shut : Nat → Int32) (a_woodBell : Nat → Int32) (a_woodVillage : Nat → Int32) (a_needVillage : Nat → Int32) (a_needWind : Nat → Int32) (a_needSeen : Nat → Int32) (a_sign : Nat → Int32) (p0 : Int32) (out : Int32) (kx : Int32 → Option (Int32)) (HX : ∀ (x2_2 : Int32) (H : Heap) (locs : List Loc) (ls : Array Slot), va_P G.1 vwCl (flat [wX3 G a a_villages a_woods a_needs a_signs a_temper a_friend a_rope a_hears a_shut a_woodBell a_woodVillage a_needVillage a_needWind a_needSeen a_sign]) H → va_D A (flat [wX3 G a a_villages a_woods a_needs a_signs a_temper a_friend a_rope a_hears a_shut a_woodBell a_woodVillage a_needVillage a_needWind a_needSeen a_sign]) → va_S A s.heap H locs → lv_has ls 3 [(0, .ref (a 0)), (1, .int p0), (2, .int x2_2)] → kx x2_2 = some out → W p l e rmX3_signOf s m args below meth c H locs 0 0 (MQ below (QI G A out (flat [wX3 G a a_villages a_woods a_needs a_signs a_temper a_friend a_rope a_hears a_shut a_woodBell a_woodVillage a_needVillage a_needWind a_needSeen a_sign])) args s 0 0 A) (F0 m 28 ls [])) : ∀ (n : Nat) (x2_2 : Int32) (H : Heap) (locs : List Loc) (ls : Array Slot), va_P G.1 vwCl (flat [wX3 G a a_villages a_woods a_needs a_signs a_temper a_friend a_rope a_hears a_shut a_woodBell a_woodVillage a_needVillage a_needWind a_needSeen a_sign]) H → va_D A (flat [wX3 G a a_villages a_woods a_needs a_signs a_temper a_friend a_rope a_hears a_shut a_woodBell a_woodVillage a_needVillage a_needWind a_needSeen a_sign]) → va_S A s.heap H locs → lv_has ls 3 [(0, .ref (a 0)), (1, .int p0), (2, .int x2_2)] → fX3_signOf_2 p0 a_signs a_sign kx n x2_2 = some out → W p l e rmX3_signOf s m args below meth c H locs 0 0 (MQ below (QI G A out (flat [wX3 G a a_villages a_woods a_needs a_signs a_temper a_friend a_rope a_hears a_shut a_woodBell a_woodVillage a_needVillage a_needWind a_needSeen a_sign])) args s 0 0 A) (F0 m 2 ls []) := by
  obtain ⟨⟨hx, hb, hml, hown, hts⟩, hr, hlocks, hK, hN, hE, hA⟩ := id C
  intro n
  induction n with
  | zero =>
    intro x2_2 H locs ls hP hD hS hl hf
    exact absurd (show (none : Option (Int32)) = some out from hf) (by intro q9; cases q9)
  | succ n ih =>
    intro x2_2 H locs ls hP hD hS hl hf
    rw [fX3_signOf_2] at hf
    refine lv_iload_n hx hb dX3_signOf_2 rfl (lv_at hl 2 rfl) ?_
    refine lv_aload_n hx hb dX3_signOf_3 rfl (lv_at hl 0 rfl) ?_
    refine va_get (D := G.1) (ci := 3) (v := .int a_signs) (C := RX3) (T := TX3) (N := 15) hx hb hts iiX3_signOf_X3 hown hK hP 0 rfl rfl 3 (by decide) (hts _ mmX3_signOf_1) (fun _ h9 => h9) rfl dX3_signOf_4 ?_
    refine lv_icmp_ge (tgt := 28) hx hb dX3_signOf_7 (by decide) (fun c1 => ?_) (fun c1 => ?_)
    · have hf := (o_i hf).1 c1
      exact HX _ _ _ _ hP hD hS (lv_sub hl [0, 1, 2] rfl) hf
    have hf := (o_i hf).2 c1
    refine lv_aload_n hx hb dX3_signOf_10 rfl (lv_at hl 0 rfl) ?_
    refine va_get (D := G.1) (ci := 3) (v := .ref (a 11)) (C := RX3) (T := TX3) (N := 15) hx hb hts iiX3_signOf_X3 hown hK hP 0 rfl rfl 14 (by decide) (hts _ mmX3_signOf_2) (fun _ h9 => h9) rfl dX3_signOf_11 ?_
    refine lv_iload_n hx hb dX3_signOf_14 rfl (lv_at hl 2 rfl) ?_
    obtain ⟨z2, hz2, hf⟩ := o_b hf
    refine k_iald hx hb hK hP 11 0 rfl rfl hz2 dX3_signOf_15 ?_
    refine lv_iload_n hx hb dX3_signOf_16 rfl (lv_at hl 1 rfl) ?_
    refine lv_icmp_ne (tgt := 22) hx hb dX3_signOf_17 (by decide) (fun c3 => ?_) (fun c3 => ?_)
    · have hf := (o_i hf).2 c3
      refine lv_iinc (v := x2_2 + 1) (lv' := [(2, .int (x2_2 + 1)), (0, .ref (a 0)), (1, .int p0)]) hx hb dX3_signOf_22 hl (k := 2) rfl (congrArg (fun z => x2_2 + z) (by decide)) (by decide) rfl (fun ls hl => ?_)
      refine lv_goto (tgt := 2) hx hb dX3_signOf_25 (by decide) ?_
      exact ih _ _ _ _ hP hD hS (lv_sub hl [1, 2, 0] rfl) hf
    have hf := (o_i hf).1 c3
    refine lv_iload_n hx hb dX3_signOf_20 rfl (lv_at hl 2 rfl) ?_
    have e9 := Option.some.inj hf
    subst e9
    exact rt_i C hP hS rfl dX3_signOf_21
set_option maxHeartbeats 4000000 in
set_option maxRecDepth 100000 in
theorem tX3_signOf (l : Launch) (G : GG) (a : Nat → Nat) (a_villages : Int32) (a_woods : Int32) (a_needs : Int32) (a_signs : Int32) (a_temper : Nat → Int32) (a_friend : Nat → Int32) (a_rope : Nat → Int32) (a_hears : Nat → Int32) (a_shut : Nat → Int32) (a_woodBell : Nat → Int32) (a_woodVillage : Nat → Int32) (a_needVillage : Nat → Int32) (a_needWind : Nat → Int32) (a_needSeen : Nat → Int32) (a_sign : Nat → Int32) (p0 : Int32) (out : Int32) (hf : fX3_signOf a_signs a_sign p0 = some out) : cMi l G yX3_signOf wsX3_signOf rmX3_signOf [.ref (a 0), .int p0] (flat [wX3 G a a_villages a_woods a_needs a_signs a_temper a_friend a_rope a_hears a_shut a_woodBell a_woodVillage a_needVillage a_needWind a_needSeen a_sign]) out (flat [wX3 G a a_villages a_woods a_needs a_signs a_temper a_friend a_rope a_hears a_shut a_woodBell a_woodVillage a_needVillage a_needWind a_needSeen a_sign]) := by
  intro sz
  refine met_of (cc := cX3_signOf) (nL := 3) (ret := (some .int)) (Qc := fun A9 => QI G A9 out (flat [wX3 G a a_villages a_woods a_needs a_signs a_temper a_friend a_rope a_hears a_shut a_woodBell a_woodVillage a_needVillage a_needWind a_needSeen a_sign])) (by decide) rfl (Nat.le_of_ble_eq_true rfl) ?_
  intro p e s m args below meth c A ls C hP hD hS hl
  obtain ⟨⟨hx, hb, hml, hown, hts⟩, hr, hlocks, hK, hN, hE, hA⟩ := id C
  have hl : lv_has ls 3 [(0, .ref (a 0)), (1, .int p0)] := hl
  unfold fX3_signOf at hf
  refine lv_iconst (v := 0) hx hb dX3_signOf_0 (by decide) ?_
  refine lv_istore_n (lv' := [(2, .int 0), (0, .ref (a 0)), (1, .int p0)]) hx hb dX3_signOf_1 rfl hl (by decide) rfl (fun ls hl => ?_)
  refine lX3_signOf_2 l G C a a_villages a_woods a_needs a_signs a_temper a_friend a_rope a_hears a_shut a_woodBell a_woodVillage a_needVillage a_needWind a_needSeen a_sign p0 out _ (fun x2_2_4 H locs ls hP hD hS hl hf => ?_) fu 0 _ _ _ hP hD hS (lv_sub hl [1, 2, 0] rfl) hf
  refine lv_iconst (v := (-1)) hx hb dX3_signOf_28 (by decide) ?_
  have e9 := Option.some.inj hf
  subst e9
  exact rt_i C hP hS rfl dX3_signOf_29

/-! RX3 addSign(I)I -/
theorem iiX3_addSign_X3 : ∀ w ∈ wsX30, w ∈ wsX3_addSign := by decide +kernel
theorem mmX3_addSign_1 : (Cond.fieldLink RX3 59 "BlindBells$Valley" "signs" "I") ∈ wsX3_addSign := by decide +kernel
theorem mmX3_addSign_2 : (Cond.fieldLink RX3 42 "BlindBells$Valley" "sign" "[I") ∈ wsX3_addSign := by decide +kernel
theorem hdX3_addSign : yX3_addSign.cls = RX3 ∧ yX3_addSign.cls ≠ "java/lang/invoke/MethodHandle" ∧ yX3_addSign.cls ≠ "java/lang/invoke/VarHandle" ∧ (parseMethodDescriptor yX3_addSign.desc).map (fun d => d.parameters.length) = some 1 := by decide +kernel
abbrev rmX3_addSign : Room := { frames := 1, cells := 0, slots := 0, locals := 22 }
set_option maxHeartbeats 4000000 in
set_option maxRecDepth 100000 in
theorem tX3_addSign (l : Launch) (G : GG) (a : Nat → Nat) (a_villages : Int32) (a_woods : Int32) (a_needs : Int32) (a_signs : Int32) (a_temper : Nat → Int32) (a_friend : Nat → Int32) (a_rope : Nat → Int32) (a_hears : Nat → Int32) (a_shut : Nat → Int32) (a_woodBell : Nat → Int32) (a_woodVillage : Nat → Int32) (a_needVillage : Nat → Int32) (a_needWind : Nat → Int32) (a_needSeen : Nat → Int32) (a_sign : Nat → Int32) (p0 : Int32) (out : Int32 × Int32 × (Nat → Int32)) (hf : fX3_addSign a_signs a_sign p0 = some out) : cMi l G yX3_addSign wsX3_addSign rmX3_addSign [.ref (a 0), .int p0] (flat [wX3 G a a_villages a_woods a_needs a_signs a_temper a_friend a_rope a_hears a_shut a_woodBell a_woodVillage a_needVillage a_needWind a_needSeen a_sign]) out.1 (flat [wX3 G a a_villages a_woods a_needs out.2.1 a_temper a_friend a_rope a_hears a_shut a_woodBell a_woodVillage a_needVillage a_needWind a_needSeen out.2.2]) := by
  intro sz
  refine met_of (cc := cX3_addSign) (nL := 2) (ret := (some .int)) (Qc := fun A9 => QI G A9 out.1 (flat [wX3 G a a_villages a_woods a_needs out.2.1 a_temper a_friend a_rope a_hears a_shut a_woodBell a_woodVillage a_needVillage a_needWind a_needSeen out.2.2])) (by decide) rfl (Nat.le_of_ble_eq_true rfl) ?_
  intro p e s m args below meth c A ls C hP hD hS hl
  obtain ⟨⟨hx, hb, hml, hown, hts⟩, hr, hlocks, hK, hN, hE, hA⟩ := id C
  have hl : lv_has ls 2 [(0, .ref (a 0)), (1, .int p0)] := hl
  unfold fX3_addSign at hf
  refine lv_iload_n hx hb dX3_addSign_0 rfl (lv_at hl 1 rfl) ?_
  refine lv_iconst (v := 1) hx hb dX3_addSign_1 (by decide) ?_
  refine lv_icmp_lt (tgt := 21) hx hb dX3_addSign_2 (by decide) (fun c1 => ?_) (fun c1 => ?_)
  · have hf := (o_i hf).1 c1
    refine lv_bipush (v := (-2)) hx hb dX3_addSign_21 (by decide) ?_
    have e9 := Option.some.inj hf
    subst e9
    exact rt_i C hP hS rfl dX3_addSign_23
  have hf := (o_i hf).2 c1
  refine lv_iload_n hx hb dX3_addSign_5 rfl (lv_at hl 1 rfl) ?_
  refine lv_sipush (v := 255) hx hb dX3_addSign_6 (by decide) ?_
  refine lv_icmp_gt (tgt := 21) hx hb dX3_addSign_9 (by decide) (fun c2 => ?_) (fun c2 => ?_)
  · have hf := (o_i hf).1 c2
    refine lv_bipush (v := (-2)) hx hb dX3_addSign_21 (by decide) ?_
    have e9 := Option.some.inj hf
    subst e9
    exact rt_i C hP hS rfl dX3_addSign_23
  have hf := (o_i hf).2 c2
  refine lv_aload_n hx hb dX3_addSign_12 rfl (lv_at hl 0 rfl) ?_
  refine lv_iload_n hx hb dX3_addSign_13 rfl (lv_at hl 1 rfl) ?_
  obtain ⟨g3, hg3, hf⟩ := o_b hf
  refine bVi C hP hD hS (tX3_signOf l G a a_villages a_woods a_needs a_signs a_temper a_friend a_rope a_hears a_shut a_woodBell a_woodVillage a_needVillage a_needWind a_needSeen a_sign p0 g3 hg3) gX3_addSign_X3_signOf rfl ⟨rfl, rfl⟩ hdX3_signOf ⟨Nat.le_of_ble_eq_true rfl, Nat.le_of_ble_eq_true rfl⟩ rfl hl.1 rfl (Nat.le_of_ble_eq_true rfl) ⟨Nat.le_of_ble_eq_true rfl, Nat.le_of_ble_eq_true rfl⟩ [0] rfl rfl rfl (setB_same _ _ _ rfl) rfl (ci := 3) (q0 := 0) rfl rfl rfl dX3_addSign_14 (fun H locs hP hD hS => ?_)
  refine lv_iconst (v := (-1)) hx hb dX3_addSign_17 (by decide) ?_
  refine lv_icmp_eq (tgt := 24) hx hb dX3_addSign_18 (by decide) (fun c4 => ?_) (fun c4 => ?_)
  · have hf := (o_i hf).1 c4
    refine lv_aload_n hx hb dX3_addSign_24 rfl (lv_at hl 0 rfl) ?_
    refine va_get (D := G.1) (ci := 3) (v := .int a_signs) (C := RX3) (T := TX3) (N := 15) hx hb hts iiX3_addSign_X3 hown hK hP 0 rfl rfl 3 (by decide) (hts _ mmX3_addSign_1) (fun _ h9 => h9) rfl dX3_addSign_25 ?_
    refine lv_bipush (v := 6) hx hb dX3_addSign_28 (by decide) ?_
    refine lv_icmp_lt (tgt := 36) hx hb dX3_addSign_30 (by decide) (fun c5 => ?_) (fun c5 => ?_)
    · have hf := (o_i hf).1 c5
      refine lv_aload_n hx hb dX3_addSign_36 rfl (lv_at hl 0 rfl) ?_
      refine va_get (D := G.1) (ci := 3) (v := .ref (a 11)) (C := RX3) (T := TX3) (N := 15) hx hb hts iiX3_addSign_X3 hown hK hP 0 rfl rfl 14 (by decide) (hts _ mmX3_addSign_2) (fun _ h9 => h9) rfl dX3_addSign_37 ?_
      refine lv_aload_n hx hb dX3_addSign_40 rfl (lv_at hl 0 rfl) ?_
      refine va_get (D := G.1) (ci := 3) (v := .int a_signs) (C := RX3) (T := TX3) (N := 15) hx hb hts iiX3_addSign_X3 hown hK hP 0 rfl rfl 3 (by decide) (hts _ mmX3_addSign_1) (fun _ h9 => h9) rfl dX3_addSign_41 ?_
      refine lv_iload_n hx hb dX3_addSign_44 rfl (lv_at hl 1 rfl) ?_
      obtain ⟨u6, hu6, hf⟩ := o_b hf
      refine k_iast hx hb hK hP hD hS 11 0 rfl rfl hu6 dX3_addSign_45 (fun H locs hP hD hS => ?_)
      have hP : va_P G.1 vwCl (flat [wX3 G a a_villages a_woods a_needs a_signs a_temper a_friend a_rope a_hears a_shut a_woodBell a_woodVillage a_needVillage a_needWind a_needSeen u6]) H := hP
      have hD : va_D A (flat [wX3 G a a_villages a_woods a_needs a_signs a_temper a_friend a_rope a_hears a_shut a_woodBell a_woodVillage a_needVillage a_needWind a_needSeen u6]) := hD
      refine lv_aload_n hx hb dX3_addSign_46 rfl (lv_at hl 0 rfl) ?_
      refine lv_dup hx hb dX3_addSign_47 rfl ?_
      refine va_get (D := G.1) (ci := 3) (v := .int a_signs) (C := RX3) (T := TX3) (N := 15) hx hb hts iiX3_addSign_X3 hown hK hP 0 rfl rfl 3 (by decide) (hts _ mmX3_addSign_1) (fun _ h9 => h9) rfl dX3_addSign_48 ?_
      refine at_pc (pc' := 51) rfl ?_
      refine lv_dup_x1 hx hb dX3_addSign_51 rfl rfl ?_
      refine lv_iconst (v := 1) hx hb dX3_addSign_52 (by decide) ?_
      refine lv_iadd hx hb dX3_addSign_53 ?_
      refine va_put (D := G.1) (ci := 3) (v := .int (a_signs + 1)) (ty := .int) (C := RX3) (T := TX3) (N := 15) hx hb hts iiX3_addSign_X3 tyX3 tyX3_ok nmX3 hown hK hP hD hS 0 rfl rfl 3 (by decide) (hts _ mmX3_addSign_1) (fun _ h9 => h9) rfl (by decide +kernel) rfl rfl (Nat.le_of_ble_eq_true rfl) dX3_addSign_54 (fun H locs hP hD hS => ?_)
      have hP : va_P G.1 vwCl (flat [wX3 G a a_villages a_woods a_needs (a_signs + 1) a_temper a_friend a_rope a_hears a_shut a_woodBell a_woodVillage a_needVillage a_needWind a_needSeen u6]) H := hP
      have hD : va_D A (flat [wX3 G a a_villages a_woods a_needs (a_signs + 1) a_temper a_friend a_rope a_hears a_shut a_woodBell a_woodVillage a_needVillage a_needWind a_needSeen u6]) := hD
      have e9 := Option.some.inj hf
      subst e9
      exact rt_i C hP hS rfl dX3_addSign_57
    have hf := (o_i hf).2 c5
    refine lv_bipush (v := (-4)) hx hb dX3_addSign_33 (by decide) ?_
    have e9 := Option.some.inj hf
    subst e9
    exact rt_i C hP hS rfl dX3_addSign_35
  have hf := (o_i hf).2 c4
  refine lv_bipush (v := (-2)) hx hb dX3_addSign_21 (by decide) ?_
  have e9 := Option.some.inj hf
  subst e9
  exact rt_i C hP hS rfl dX3_addSign_23

/-! RX3 dueFor(I)I -/
theorem iiX3_dueFor_X3 : ∀ w ∈ wsX30, w ∈ wsX3_dueFor := by decide +kernel
theorem mmX3_dueFor_1 : (Cond.fieldLink RX3 49 "BlindBells$Valley" "villages" "I") ∈ wsX3_dueFor := by decide +kernel
theorem mmX3_dueFor_2 : (Cond.fieldLink RX3 36 "BlindBells$Valley" "needWind" "[I") ∈ wsX3_dueFor := by decide +kernel
theorem mmX3_dueFor_3 : (Cond.fieldLink RX3 33 "BlindBells$Valley" "needVillage" "[I") ∈ wsX3_dueFor := by decide +kernel
theorem mmX3_dueFor_4 : (Cond.static yX6_has) ∈ wsX3_dueFor := by decide +kernel
theorem mmX3_dueFor_5 : (Cond.initialized RX6) ∈ wsX3_dueFor := by decide +kernel
theorem mmX3_dueFor_6 : (Cond.fieldLink RX3 18 "BlindBells$Valley" "rope" "[I") ∈ wsX3_dueFor := by decide +kernel
theorem mmX3_dueFor_7 : (Cond.fieldLink RX3 39 "BlindBells$Valley" "needSeen" "[I") ∈ wsX3_dueFor := by decide +kernel
theorem hdX3_dueFor : yX3_dueFor.cls = RX3 ∧ yX3_dueFor.cls ≠ "java/lang/invoke/MethodHandle" ∧ yX3_dueFor.cls ≠ "java/lang/invoke/VarHandle" ∧ (parseMethodDescriptor yX3_dueFor.desc).map (fun d => d.parameters.length) = some 1 := by decide +kernel
abbrev rmX3_dueFor : Room := { frames := 1, cells := 0, slots := 0, locals := 22 }
set_option maxHeartbeats 4000000 in
set_option maxRecDepth 100000 in
theorem lX3_dueFor_4 {p : Program} {e : Env} {s : State} {m : MethodId} {args : Array Value} {below : List Frame} {meth : Method} {c : Code} {A : Nat → Prop} (l : Launch) (G : GG) (C : Cx p m c cX3_dueFor 4 s args wsX3_dueFor RX3 meth (some .int) G A) (a : Nat → Nat) (a_villages : Int32) (a_woods : Int32) (a_needs : Int32) (a_signs : Int32) (a_temper : Nat → Int32) (a_friend : Nat → Int32) (a_rope : Nat → Int32) (a_hears : Nat → Int32) (a_shut : Nat → Int32) (a_woodBell : Nat → Int32) (a_woodVillage : Nat → Int32) (a_needVillage : Nat → Int32) (a_needWind : Nat → Int32) (a_needSeen : Nat → Int32) (a_sign : Nat → Int32) (p0 : Int32) (out : Int32) (kx : Int32 → Int32 → Option (Int32)) (HX : ∀ (x2_4 : Int32) (x3_4 : Int32) (H : Heap) (locs : List Loc) (ls : Array Slot), va_P G.1 vwCl (flat [wX3 G a a_villages a_woods a_needs a_signs a_temper a_friend a_rope a_hears a_shut a_woodBell a_woodVillage a_needVillage a_needWind a_needSeen a_sign]) H → va_D A (flat [wX3 G a a_villages a_woods a_needs a_signs a_temper a_friend a_rope a_hears a_shut a_woodBell a_woodVillage a_needVillage a_needWind a_needSeen a_sign]) → va_S A s.heap H locs → lv_has ls 4 [(0, .ref (a 0)), (1, .int p0), (2, .int x2_4), (3, .int x3_4)] → kx x2_4 x3_4 = some out → W p l e rmX3_dueFor s m args below meth c H locs 0 0 (MQ below (QI G A out (flat [wX3 G a a_villages a_woods a_needs a_signs a_temper a_friend a_rope a_hears a_shut a_woodBell a_woodVillage a_needVillage a_needWind a_needSeen a_sign])) args s 0 0 A) (F0 m 52 ls [])) : ∀ (n : Nat) (x2_4 : Int32) (x3_4 : Int32) (H : Heap) (locs : List Loc) (ls : Array Slot), va_P G.1 vwCl (flat [wX3 G a a_villages a_woods a_needs a_signs a_temper a_friend a_rope a_hears a_shut a_woodBell a_woodVillage a_needVillage a_needWind a_needSeen a_sign]) H → va_D A (flat [wX3 G a a_villages a_woods a_needs a_signs a_temper a_friend a_rope a_hears a_shut a_woodBell a_woodVillage a_needVillage a_needWind a_needSeen a_sign]) → va_S A s.heap H locs → lv_has ls 4 [(0, .ref (a 0)), (1, .int p0), (2, .int x2_4), (3, .int x3_4)] → fX3_dueFor_4 p0 a_villages a_rope a_hears a_shut a_needVillage a_needWind kx n x2_4 x3_4 = some out → W p l e rmX3_dueFor s m args below meth c H locs 0 0 (MQ below (QI G A out (flat [wX3 G a a_villages a_woods a_needs a_signs a_temper a_friend a_rope a_hears a_shut a_woodBell a_woodVillage a_needVillage a_needWind a_needSeen a_sign])) args s 0 0 A) (F0 m 4 ls []) := by
  obtain ⟨⟨hx, hb, hml, hown, hts⟩, hr, hlocks, hK, hN, hE, hA⟩ := id C
  intro n
  induction n with
  | zero =>
    intro x2_4 x3_4 H locs ls hP hD hS hl hf
    exact absurd (show (none : Option (Int32)) = some out from hf) (by intro q9; cases q9)
  | succ n ih =>
    intro x2_4 x3_4 H locs ls hP hD hS hl hf
    rw [fX3_dueFor_4] at hf
    refine lv_iload_n hx hb dX3_dueFor_4 rfl (lv_at hl 3 rfl) ?_
    refine lv_aload_n hx hb dX3_dueFor_5 rfl (lv_at hl 0 rfl) ?_
    refine va_get (D := G.1) (ci := 3) (v := .int a_villages) (C := RX3) (T := TX3) (N := 15) hx hb hts iiX3_dueFor_X3 hown hK hP 0 rfl rfl 0 (by decide) (hts _ mmX3_dueFor_1) (fun _ h9 => h9) rfl dX3_dueFor_6 ?_
    refine lv_icmp_ge (tgt := 52) hx hb dX3_dueFor_9 (by decide) (fun c1 => ?_) (fun c1 => ?_)
    · have hf := (o_i hf).1 c1
      exact HX _ _ _ _ _ hP hD hS (lv_sub hl [0, 1, 2, 3] rfl) hf
    have hf := (o_i hf).2 c1
    refine lv_aload_n hx hb dX3_dueFor_12 rfl (lv_at hl 0 rfl) ?_
    refine lv_iload_n hx hb dX3_dueFor_13 rfl (lv_at hl 3 rfl) ?_
    refine lv_aload_n hx hb dX3_dueFor_14 rfl (lv_at hl 0 rfl) ?_
    refine va_get (D := G.1) (ci := 3) (v := .ref (a 9)) (C := RX3) (T := TX3) (N := 15) hx hb hts iiX3_dueFor_X3 hown hK hP 0 rfl rfl 12 (by decide) (hts _ mmX3_dueFor_2) (fun _ h9 => h9) rfl dX3_dueFor_15 ?_
    refine lv_iload_n hx hb dX3_dueFor_18 rfl (lv_at hl 1 rfl) ?_
    obtain ⟨z2, hz2, hf⟩ := o_b hf
    refine k_iald hx hb hK hP 9 0 rfl rfl hz2 dX3_dueFor_19 ?_
    obtain ⟨g3, hg3, hf⟩ := o_b hf
    refine bVi C hP hD hS (tX3_heardIn l G a a_villages a_woods a_needs a_signs a_temper a_friend a_rope a_hears a_shut a_woodBell a_woodVillage a_needVillage a_needWind a_needSeen a_sign x3_4 z2 g3 hg3) gX3_dueFor_X3_heardIn rfl ⟨rfl, rfl⟩ hdX3_heardIn ⟨Nat.le_of_ble_eq_true rfl, Nat.le_of_ble_eq_true rfl⟩ rfl hl.1 rfl (Nat.le_of_ble_eq_true rfl) ⟨Nat.le_of_ble_eq_true rfl, Nat.le_of_ble_eq_true rfl⟩ [0] rfl rfl rfl (setB_same _ _ _ rfl) rfl (ci := 3) (q0 := 0) rfl rfl rfl dX3_dueFor_20 (fun H locs hP hD hS => ?_)
    refine lv_aload_n hx hb dX3_dueFor_23 rfl (lv_at hl 0 rfl) ?_
    refine va_get (D := G.1) (ci := 3) (v := .ref (a 8)) (C := RX3) (T := TX3) (N := 15) hx hb hts iiX3_dueFor_X3 hown hK hP 0 rfl rfl 11 (by decide) (hts _ mmX3_dueFor_3) (fun _ h9 => h9) rfl dX3_dueFor_24 ?_
    refine at_pc (pc' := 27) rfl ?_
    refine lv_iload_n hx hb dX3_dueFor_27 rfl (lv_at hl 1 rfl) ?_
    obtain ⟨z4, hz4, hf⟩ := o_b hf
    refine k_iald hx hb hK hP 8 0 rfl rfl hz4 dX3_dueFor_28 ?_
    obtain ⟨g5, hg5, hf⟩ := o_b hf
    refine bNi C hP hD hS (tX6_has l G g3 z4 g5 hg5) gX3_dueFor_X6_has_n84 (nw9 hN) (hts _ mmX3_dueFor_4) (hts _ mmX3_dueFor_5) rfl ⟨rfl, rfl⟩ hdX6_has ⟨Nat.le_of_ble_eq_true rfl, Nat.le_of_ble_eq_true rfl⟩ rfl hl.1 rfl (Nat.le_of_ble_eq_true rfl) ⟨Nat.le_of_ble_eq_true rfl, Nat.le_of_ble_eq_true rfl⟩ [] rfl rfl rfl (setB_same _ _ _ rfl) rfl dX3_dueFor_29 (fun H locs hP hD hS => ?_)
    refine lv_if_eq (tgt := 46) hx hb dX3_dueFor_32 (by decide) (fun c6 => ?_) (fun c6 => ?_)
    · have hf := (o_i hf).1 c6
      refine lv_iinc (v := x3_4 + 1) (lv' := [(3, .int (x3_4 + 1)), (0, .ref (a 0)), (1, .int p0), (2, .int x2_4)]) hx hb dX3_dueFor_46 hl (k := 3) rfl (congrArg (fun z => x3_4 + z) (by decide)) (by decide) rfl (fun ls hl => ?_)
      refine lv_goto (tgt := 4) hx hb dX3_dueFor_49 (by decide) ?_
      exact ih _ _ _ _ _ hP hD hS (lv_sub hl [1, 2, 3, 0] rfl) hf
    have hf := (o_i hf).2 c6
    refine lv_iload_n hx hb dX3_dueFor_35 rfl (lv_at hl 2 rfl) ?_
    refine lv_iconst (v := 1) hx hb dX3_dueFor_36 (by decide) ?_
    refine lv_aload_n hx hb dX3_dueFor_37 rfl (lv_at hl 0 rfl) ?_
    refine va_get (D := G.1) (ci := 3) (v := .ref (a 3)) (C := RX3) (T := TX3) (N := 15) hx hb hts iiX3_dueFor_X3 hown hK hP 0 rfl rfl 6 (by decide) (hts _ mmX3_dueFor_6) (fun _ h9 => h9) rfl dX3_dueFor_38 ?_
    refine lv_iload_n hx hb dX3_dueFor_41 rfl (lv_at hl 3 rfl) ?_
    obtain ⟨z7, hz7, hf⟩ := o_b hf
    refine k_iald hx hb hK hP 3 0 rfl rfl hz7 dX3_dueFor_42 ?_
    refine lv_ishl hx hb dX3_dueFor_43 ?_
    refine lv_ior hx hb dX3_dueFor_44 ?_
    refine lv_istore_n (lv' := [(2, .int (x2_4 ||| (1 <<< (z7 &&& 31)))), (0, .ref (a 0)), (1, .int p0), (3, .int x3_4)]) hx hb dX3_dueFor_45 rfl hl (by decide) rfl (fun ls hl => ?_)
    refine at_pc (pc' := 46) rfl ?_
    refine lv_iinc (v := x3_4 + 1) (lv' := [(3, .int (x3_4 + 1)), (2, .int (x2_4 ||| (1 <<< (z7 &&& 31)))), (0, .ref (a 0)), (1, .int p0)]) hx hb dX3_dueFor_46 hl (k := 3) rfl (congrArg (fun z => x3_4 + z) (by decide)) (by decide) rfl (fun ls hl => ?_)
    refine lv_goto (tgt := 4) hx hb dX3_dueFor_49 (by decide) ?_
    exact ih _ _ _ _ _ hP hD hS (lv_sub hl [2, 3, 1, 0] rfl) hf
set_option maxHeartbeats 4000000 in
set_option maxRecDepth 100000 in
theorem tX3_dueFor (l : Launch) (G : GG) (a : Nat → Nat) (a_villages : Int32) (a_woods : Int32) (a_needs : Int32) (a_signs : Int32) (a_temper : Nat → Int32) (a_friend : Nat → Int32) (a_rope : Nat → Int32) (a_hears : Nat → Int32) (a_shut : Nat → Int32) (a_woodBell : Nat → Int32) (a_woodVillage : Nat → Int32) (a_needVillage : Nat → Int32) (a_needWind : Nat → Int32) (a_needSeen : Nat → Int32) (a_sign : Nat → Int32) (p0 : Int32) (out : Int32) (hf : fX3_dueFor a_villages a_rope a_hears a_shut a_needVillage a_needWind a_needSeen p0 = some out) : cMi l G yX3_dueFor wsX3_dueFor rmX3_dueFor [.ref (a 0), .int p0] (flat [wX3 G a a_villages a_woods a_needs a_signs a_temper a_friend a_rope a_hears a_shut a_woodBell a_woodVillage a_needVillage a_needWind a_needSeen a_sign]) out (flat [wX3 G a a_villages a_woods a_needs a_signs a_temper a_friend a_rope a_hears a_shut a_woodBell a_woodVillage a_needVillage a_needWind a_needSeen a_sign]) := by
  intro sz
  refine met_of (cc := cX3_dueFor) (nL := 4) (ret := (some .int)) (Qc := fun A9 => QI G A9 out (flat [wX3 G a a_villages a_woods a_needs a_signs a_temper a_friend a_rope a_hears a_shut a_woodBell a_woodVillage a_needVillage a_needWind a_needSeen a_sign])) (by decide) rfl (Nat.le_of_ble_eq_true rfl) ?_
  intro p e s m args below meth c A ls C hP hD hS hl
  obtain ⟨⟨hx, hb, hml, hown, hts⟩, hr, hlocks, hK, hN, hE, hA⟩ := id C
  have hl : lv_has ls 4 [(0, .ref (a 0)), (1, .int p0)] := hl
  unfold fX3_dueFor at hf
  refine lv_iconst (v := 0) hx hb dX3_dueFor_0 (by decide) ?_
  refine lv_istore_n (lv' := [(2, .int 0), (0, .ref (a 0)), (1, .int p0)]) hx hb dX3_dueFor_1 rfl hl (by decide) rfl (fun ls hl => ?_)
  refine lv_iconst (v := 0) hx hb dX3_dueFor_2 (by decide) ?_
  refine lv_istore_n (lv' := [(3, .int 0), (2, .int 0), (0, .ref (a 0)), (1, .int p0)]) hx hb dX3_dueFor_3 rfl hl (by decide) rfl (fun ls hl => ?_)
  refine lX3_dueFor_4 l G C a a_villages a_woods a_needs a_signs a_temper a_friend a_rope a_hears a_shut a_woodBell a_woodVillage a_needVillage a_needWind a_needSeen a_sign p0 out _ (fun x2_4_8 x3_4_9 H locs ls hP hD hS hl hf => ?_) fu 0 0 _ _ _ hP hD hS (lv_sub hl [2, 3, 1, 0] rfl) hf
  refine lv_iload_n hx hb dX3_dueFor_52 rfl (lv_at hl 2 rfl) ?_
  refine lv_aload_n hx hb dX3_dueFor_53 rfl (lv_at hl 0 rfl) ?_
  refine va_get (D := G.1) (ci := 3) (v := .ref (a 10)) (C := RX3) (T := TX3) (N := 15) hx hb hts iiX3_dueFor_X3 hown hK hP 0 rfl rfl 13 (by decide) (hts _ mmX3_dueFor_7) (fun _ h9 => h9) rfl dX3_dueFor_54 ?_
  refine lv_iload_n hx hb dX3_dueFor_57 rfl (lv_at hl 1 rfl) ?_
  obtain ⟨z10, hz10, hf⟩ := o_b hf
  refine k_iald hx hb hK hP 10 0 rfl rfl hz10 dX3_dueFor_58 ?_
  refine lv_iand hx hb dX3_dueFor_59 ?_
  have e9 := Option.some.inj hf
  subst e9
  exact rt_i C hP hS rfl dX3_dueFor_60

/-! RX3 knowAfterRound(II)I -/
theorem iiX3_knowAfterRound_X3 : ∀ w ∈ wsX30, w ∈ wsX3_knowAfterRound := by decide +kernel
theorem mmX3_knowAfterRound_1 : (Cond.fieldLink RX3 49 "BlindBells$Valley" "villages" "I") ∈ wsX3_knowAfterRound := by decide +kernel
theorem mmX3_knowAfterRound_2 : (Cond.fieldLink RX3 18 "BlindBells$Valley" "rope" "[I") ∈ wsX3_knowAfterRound := by decide +kernel
theorem mmX3_knowAfterRound_3 : (Cond.static yX6_has) ∈ wsX3_knowAfterRound := by decide +kernel
theorem mmX3_knowAfterRound_4 : (Cond.initialized RX6) ∈ wsX3_knowAfterRound := by decide +kernel
theorem hdX3_knowAfterRound : yX3_knowAfterRound.cls = RX3 ∧ yX3_knowAfterRound.cls ≠ "java/lang/invoke/MethodHandle" ∧ yX3_knowAfterRound.cls ≠ "java/lang/invoke/VarHandle" ∧ (parseMethodDescriptor yX3_knowAfterRound.desc).map (fun d => d.parameters.length) = some 2 := by decide +kernel
abbrev rmX3_knowAfterRound : Room := { frames := 1, cells := 0, slots := 0, locals := 22 }
set_option maxHeartbeats 4000000 in
set_option maxRecDepth 100000 in
theorem lX3_knowAfterRound_5 {p : Program} {e : Env} {s : State} {m : MethodId} {args : Array Value} {below : List Frame} {meth : Method} {c : Code} {A : Nat → Prop} (l : Launch) (G : GG) (C : Cx p m c cX3_knowAfterRound 5 s args wsX3_knowAfterRound RX3 meth (some .int) G A) (a : Nat → Nat) (a_villages : Int32) (a_woods : Int32) (a_needs : Int32) (a_signs : Int32) (a_temper : Nat → Int32) (a_friend : Nat → Int32) (a_rope : Nat → Int32) (a_hears : Nat → Int32) (a_shut : Nat → Int32) (a_woodBell : Nat → Int32) (a_woodVillage : Nat → Int32) (a_needVillage : Nat → Int32) (a_needWind : Nat → Int32) (a_needSeen : Nat → Int32) (a_sign : Nat → Int32) (p0 : Int32) (p1 : Int32) (out : Int32) (kx : Int32 → Int32 → Option (Int32)) (HX : ∀ (x3_5 : Int32) (x4_5 : Int32) (H : Heap) (locs : List Loc) (ls : Array Slot), va_P G.1 vwCl (flat [wX3 G a a_villages a_woods a_needs a_signs a_temper a_friend a_rope a_hears a_shut a_woodBell a_woodVillage a_needVillage a_needWind a_needSeen a_sign]) H → va_D A (flat [wX3 G a a_villages a_woods a_needs a_signs a_temper a_friend a_rope a_hears a_shut a_woodBell a_woodVillage a_needVillage a_needWind a_needSeen a_sign]) → va_S A s.heap H locs → lv_has ls 5 [(0, .ref (a 0)), (1, .int p0), (2, .int p1), (3, .int x3_5), (4, .int x4_5)] → kx x3_5 x4_5 = some out → W p l e rmX3_knowAfterRound s m args below meth c H locs 0 0 (MQ below (QI G A out (flat [wX3 G a a_villages a_woods a_needs a_signs a_temper a_friend a_rope a_hears a_shut a_woodBell a_woodVillage a_needVillage a_needWind a_needSeen a_sign])) args s 0 0 A) (F0 m 44 ls [])) : ∀ (n : Nat) (x3_5 : Int32) (x4_5 : Int32) (H : Heap) (locs : List Loc) (ls : Array Slot), va_P G.1 vwCl (flat [wX3 G a a_villages a_woods a_needs a_signs a_temper a_friend a_rope a_hears a_shut a_woodBell a_woodVillage a_needVillage a_needWind a_needSeen a_sign]) H → va_D A (flat [wX3 G a a_villages a_woods a_needs a_signs a_temper a_friend a_rope a_hears a_shut a_woodBell a_woodVillage a_needVillage a_needWind a_needSeen a_sign]) → va_S A s.heap H locs → lv_has ls 5 [(0, .ref (a 0)), (1, .int p0), (2, .int p1), (3, .int x3_5), (4, .int x4_5)] → fX3_knowAfterRound_5 p0 p1 a_villages a_rope a_hears a_shut kx n x3_5 x4_5 = some out → W p l e rmX3_knowAfterRound s m args below meth c H locs 0 0 (MQ below (QI G A out (flat [wX3 G a a_villages a_woods a_needs a_signs a_temper a_friend a_rope a_hears a_shut a_woodBell a_woodVillage a_needVillage a_needWind a_needSeen a_sign])) args s 0 0 A) (F0 m 5 ls []) := by
  obtain ⟨⟨hx, hb, hml, hown, hts⟩, hr, hlocks, hK, hN, hE, hA⟩ := id C
  intro n
  induction n with
  | zero =>
    intro x3_5 x4_5 H locs ls hP hD hS hl hf
    exact absurd (show (none : Option (Int32)) = some out from hf) (by intro q9; cases q9)
  | succ n ih =>
    intro x3_5 x4_5 H locs ls hP hD hS hl hf
    rw [fX3_knowAfterRound_5] at hf
    refine lv_iload hx hb dX3_knowAfterRound_5 (lv_at hl 4 rfl) ?_
    refine lv_aload_n hx hb dX3_knowAfterRound_7 rfl (lv_at hl 0 rfl) ?_
    refine va_get (D := G.1) (ci := 3) (v := .int a_villages) (C := RX3) (T := TX3) (N := 15) hx hb hts iiX3_knowAfterRound_X3 hown hK hP 0 rfl rfl 0 (by decide) (hts _ mmX3_knowAfterRound_1) (fun _ h9 => h9) rfl dX3_knowAfterRound_8 ?_
    refine lv_icmp_ge (tgt := 44) hx hb dX3_knowAfterRound_11 (by decide) (fun c1 => ?_) (fun c1 => ?_)
    · have hf := (o_i hf).1 c1
      exact HX _ _ _ _ _ hP hD hS (lv_sub hl [0, 1, 2, 3, 4] rfl) hf
    have hf := (o_i hf).2 c1
    refine lv_iload_n hx hb dX3_knowAfterRound_14 rfl (lv_at hl 1 rfl) ?_
    refine lv_aload_n hx hb dX3_knowAfterRound_15 rfl (lv_at hl 0 rfl) ?_
    refine va_get (D := G.1) (ci := 3) (v := .ref (a 3)) (C := RX3) (T := TX3) (N := 15) hx hb hts iiX3_knowAfterRound_X3 hown hK hP 0 rfl rfl 6 (by decide) (hts _ mmX3_knowAfterRound_2) (fun _ h9 => h9) rfl dX3_knowAfterRound_16 ?_
    refine lv_iload hx hb dX3_knowAfterRound_19 (lv_at hl 4 rfl) ?_
    obtain ⟨z2, hz2, hf⟩ := o_b hf
    refine k_iald hx hb hK hP 3 0 rfl rfl hz2 dX3_knowAfterRound_21 ?_
    obtain ⟨g3, hg3, hf⟩ := o_b hf
    refine bNi C hP hD hS (tX6_has l G p0 z2 g3 hg3) gX3_knowAfterRound_X6_has_n84 (nw9 hN) (hts _ mmX3_knowAfterRound_3) (hts _ mmX3_knowAfterRound_4) rfl ⟨rfl, rfl⟩ hdX6_has ⟨Nat.le_of_ble_eq_true rfl, Nat.le_of_ble_eq_true rfl⟩ rfl hl.1 rfl (Nat.le_of_ble_eq_true rfl) ⟨Nat.le_of_ble_eq_true rfl, Nat.le_of_ble_eq_true rfl⟩ [] rfl rfl rfl (setB_same _ _ _ rfl) rfl dX3_knowAfterRound_22 (fun H locs hP hD hS => ?_)
    refine lv_if_eq (tgt := 38) hx hb dX3_knowAfterRound_25 (by decide) (fun c4 => ?_) (fun c4 => ?_)
    · have hf := (o_i hf).1 c4
      refine lv_iinc (v := x4_5 + 1) (lv' := [(4, .int (x4_5 + 1)), (0, .ref (a 0)), (1, .int p0), (2, .int p1), (3, .int x3_5)]) hx hb dX3_knowAfterRound_38 hl (k := 4) rfl (congrArg (fun z => x4_5 + z) (by decide)) (by decide) rfl (fun ls hl => ?_)
      refine lv_goto (tgt := 5) hx hb dX3_knowAfterRound_41 (by decide) ?_
      exact ih _ _ _ _ _ hP hD hS (lv_sub hl [1, 2, 3, 4, 0] rfl) hf
    have hf := (o_i hf).2 c4
    refine lv_iload_n hx hb dX3_knowAfterRound_28 rfl (lv_at hl 3 rfl) ?_
    refine lv_aload_n hx hb dX3_knowAfterRound_29 rfl (lv_at hl 0 rfl) ?_
    refine lv_iload hx hb dX3_knowAfterRound_30 (lv_at hl 4 rfl) ?_
    refine lv_iload_n hx hb dX3_knowAfterRound_32 rfl (lv_at hl 2 rfl) ?_
    obtain ⟨g5, hg5, hf⟩ := o_b hf
    refine bVi C hP hD hS (tX3_heardIn l G a a_villages a_woods a_needs a_signs a_temper a_friend a_rope a_hears a_shut a_woodBell a_woodVillage a_needVillage a_needWind a_needSeen a_sign x4_5 p1 g5 hg5) gX3_knowAfterRound_X3_heardIn rfl ⟨rfl, rfl⟩ hdX3_heardIn ⟨Nat.le_of_ble_eq_true rfl, Nat.le_of_ble_eq_true rfl⟩ rfl hl.1 rfl (Nat.le_of_ble_eq_true rfl) ⟨Nat.le_of_ble_eq_true rfl, Nat.le_of_ble_eq_true rfl⟩ [0] rfl rfl rfl (setB_same _ _ _ rfl) rfl (ci := 3) (q0 := 0) rfl rfl rfl dX3_knowAfterRound_33 (fun H locs hP hD hS => ?_)
    refine lv_ior hx hb dX3_knowAfterRound_36 ?_
    refine lv_istore_n (lv' := [(3, .int (x3_5 ||| g5)), (0, .ref (a 0)), (1, .int p0), (2, .int p1), (4, .int x4_5)]) hx hb dX3_knowAfterRound_37 rfl hl (by decide) rfl (fun ls hl => ?_)
    refine lv_iinc (v := x4_5 + 1) (lv' := [(4, .int (x4_5 + 1)), (3, .int (x3_5 ||| g5)), (0, .ref (a 0)), (1, .int p0), (2, .int p1)]) hx hb dX3_knowAfterRound_38 hl (k := 4) rfl (congrArg (fun z => x4_5 + z) (by decide)) (by decide) rfl (fun ls hl => ?_)
    refine lv_goto (tgt := 5) hx hb dX3_knowAfterRound_41 (by decide) ?_
    exact ih _ _ _ _ _ hP hD hS (lv_sub hl [2, 3, 4, 1, 0] rfl) hf
set_option maxHeartbeats 4000000 in
set_option maxRecDepth 100000 in
theorem tX3_knowAfterRound (l : Launch) (G : GG) (a : Nat → Nat) (a_villages : Int32) (a_woods : Int32) (a_needs : Int32) (a_signs : Int32) (a_temper : Nat → Int32) (a_friend : Nat → Int32) (a_rope : Nat → Int32) (a_hears : Nat → Int32) (a_shut : Nat → Int32) (a_woodBell : Nat → Int32) (a_woodVillage : Nat → Int32) (a_needVillage : Nat → Int32) (a_needWind : Nat → Int32) (a_needSeen : Nat → Int32) (a_sign : Nat → Int32) (p0 : Int32) (p1 : Int32) (out : Int32) (hf : fX3_knowAfterRound a_villages a_rope a_hears a_shut p0 p1 = some out) : cMi l G yX3_knowAfterRound wsX3_knowAfterRound rmX3_knowAfterRound [.ref (a 0), .int p0, .int p1] (flat [wX3 G a a_villages a_woods a_needs a_signs a_temper a_friend a_rope a_hears a_shut a_woodBell a_woodVillage a_needVillage a_needWind a_needSeen a_sign]) out (flat [wX3 G a a_villages a_woods a_needs a_signs a_temper a_friend a_rope a_hears a_shut a_woodBell a_woodVillage a_needVillage a_needWind a_needSeen a_sign]) := by
  intro sz
  refine met_of (cc := cX3_knowAfterRound) (nL := 5) (ret := (some .int)) (Qc := fun A9 => QI G A9 out (flat [wX3 G a a_villages a_woods a_needs a_signs a_temper a_friend a_rope a_hears a_shut a_woodBell a_woodVillage a_needVillage a_needWind a_needSeen a_sign])) (by decide) rfl (Nat.le_of_ble_eq_true rfl) ?_
  intro p e s m args below meth c A ls C hP hD hS hl
  obtain ⟨⟨hx, hb, hml, hown, hts⟩, hr, hlocks, hK, hN, hE, hA⟩ := id C
  have hl : lv_has ls 5 [(0, .ref (a 0)), (1, .int p0), (2, .int p1)] := hl
  unfold fX3_knowAfterRound at hf
  refine lv_iload_n hx hb dX3_knowAfterRound_0 rfl (lv_at hl 1 rfl) ?_
  refine lv_istore_n (lv' := [(3, .int p0), (0, .ref (a 0)), (1, .int p0), (2, .int p1)]) hx hb dX3_knowAfterRound_1 rfl hl (by decide) rfl (fun ls hl => ?_)
  refine lv_iconst (v := 0) hx hb dX3_knowAfterRound_2 (by decide) ?_
  refine lv_istore (lv' := [(4, .int 0), (3, .int p0), (0, .ref (a 0)), (1, .int p0), (2, .int p1)]) hx hb dX3_knowAfterRound_3 hl (by decide) rfl (fun ls hl => ?_)
  refine lX3_knowAfterRound_5 l G C a a_villages a_woods a_needs a_signs a_temper a_friend a_rope a_hears a_shut a_woodBell a_woodVillage a_needVillage a_needWind a_needSeen a_sign p0 p1 out _ (fun x3_5_6 x4_5_7 H locs ls hP hD hS hl hf => ?_) fu p0 0 _ _ _ hP hD hS (lv_sub hl [2, 3, 4, 1, 0] rfl) hf
  refine lv_iload_n hx hb dX3_knowAfterRound_44 rfl (lv_at hl 3 rfl) ?_
  have e9 := Option.some.inj hf
  subst e9
  exact rt_i C hP hS rfl dX3_knowAfterRound_45

/-! RX3 canCome(III)Z -/
theorem mmX3_canCome_0 : (Cond.static yX6_isWind) ∈ wsX3_canCome := by decide +kernel
theorem mmX3_canCome_1 : (Cond.initialized RX6) ∈ wsX3_canCome := by decide +kernel
theorem hdX3_canCome : yX3_canCome.cls = RX3 ∧ yX3_canCome.cls ≠ "java/lang/invoke/MethodHandle" ∧ yX3_canCome.cls ≠ "java/lang/invoke/VarHandle" ∧ (parseMethodDescriptor yX3_canCome.desc).map (fun d => d.parameters.length) = some 3 := by decide +kernel
abbrev rmX3_canCome : Room := { frames := 1, cells := 0, slots := 0, locals := 21 }
set_option maxHeartbeats 4000000 in
set_option maxRecDepth 100000 in
theorem tX3_canCome (l : Launch) (G : GG) (a : Nat → Nat) (a_villages : Int32) (a_woods : Int32) (a_needs : Int32) (a_signs : Int32) (a_temper : Nat → Int32) (a_friend : Nat → Int32) (a_rope : Nat → Int32) (a_hears : Nat → Int32) (a_shut : Nat → Int32) (a_woodBell : Nat → Int32) (a_woodVillage : Nat → Int32) (a_needVillage : Nat → Int32) (a_needWind : Nat → Int32) (a_needSeen : Nat → Int32) (a_sign : Nat → Int32) (p0 : Int32) (p1 : Int32) (p2 : Int32) (out : Int32) (hf : fX3_canCome a_villages p0 p1 p2 = some out) : cMi l G yX3_canCome wsX3_canCome rmX3_canCome [.ref (a 0), .int p0, .int p1, .int p2] (flat [wX3 G a a_villages a_woods a_needs a_signs a_temper a_friend a_rope a_hears a_shut a_woodBell a_woodVillage a_needVillage a_needWind a_needSeen a_sign]) out (flat [wX3 G a a_villages a_woods a_needs a_signs a_temper a_friend a_rope a_hears a_shut a_woodBell a_woodVillage a_needVillage a_needWind a_needSeen a_sign]) := by
  intro sz
  refine met_of (cc := cX3_canCome) (nL := 4) (ret := (some .boolean)) (Qc := fun A9 => QI G A9 out (flat [wX3 G a a_villages a_woods a_needs a_signs a_temper a_friend a_rope a_hears a_shut a_woodBell a_woodVillage a_needVillage a_needWind a_needSeen a_sign])) (by decide) rfl (Nat.le_of_ble_eq_true rfl) ?_
  intro p e s m args below meth c A ls C hP hD hS hl
  obtain ⟨⟨hx, hb, hml, hown, hts⟩, hr, hlocks, hK, hN, hE, hA⟩ := id C
  have hl : lv_has ls 4 [(0, .ref (a 0)), (1, .int p0), (2, .int p1), (3, .int p2)] := hl
  unfold fX3_canCome at hf
  refine lv_iload_n hx hb dX3_canCome_0 rfl (lv_at hl 1 rfl) ?_
  obtain ⟨g1, hg1, hf⟩ := o_b hf
  refine bNi C hP hD hS (tX6_isWind l G p0 g1 hg1) gX3_canCome_X6_isWind_n81 (nw8 hN) (hts _ mmX3_canCome_0) (hts _ mmX3_canCome_1) rfl ⟨rfl, rfl⟩ hdX6_isWind ⟨Nat.le_of_ble_eq_true rfl, Nat.le_of_ble_eq_true rfl⟩ rfl hl.1 rfl (Nat.le_of_ble_eq_true rfl) ⟨Nat.le_of_ble_eq_true rfl, Nat.le_of_ble_eq_true rfl⟩ [] rfl rfl rfl (setB_same _ _ _ rfl) rfl dX3_canCome_1 (fun H locs hP hD hS => ?_)
  refine lv_if_eq (tgt := 33) hx hb dX3_canCome_4 (by decide) (fun c2 => ?_) (fun c2 => ?_)
  · have hf := (o_i hf).1 c2
    refine lv_iconst (v := 0) hx hb dX3_canCome_33 (by decide) ?_
    have e9 := Option.some.inj hf
    subst e9
    exact rt_z C hP hS rfl rfl dX3_canCome_34
  have hf := (o_i hf).2 c2
  refine lv_aload_n hx hb dX3_canCome_7 rfl (lv_at hl 0 rfl) ?_
  refine lv_iload_n hx hb dX3_canCome_8 rfl (lv_at hl 2 rfl) ?_
  obtain ⟨g3, hg3, hf⟩ := o_b hf
  refine bVi C hP hD hS (tX3_areBits l G a a_villages a_woods a_needs a_signs a_temper a_friend a_rope a_hears a_shut a_woodBell a_woodVillage a_needVillage a_needWind a_needSeen a_sign p1 g3 hg3) gX3_canCome_X3_areBits rfl ⟨rfl, rfl⟩ hdX3_areBits ⟨Nat.le_of_ble_eq_true rfl, Nat.le_of_ble_eq_true rfl⟩ rfl hl.1 rfl (Nat.le_of_ble_eq_true rfl) ⟨Nat.le_of_ble_eq_true rfl, Nat.le_of_ble_eq_true rfl⟩ [0] rfl rfl rfl (setB_same _ _ _ rfl) rfl (ci := 3) (q0 := 0) rfl rfl rfl dX3_canCome_9 (fun H locs hP hD hS => ?_)
  refine lv_if_eq (tgt := 33) hx hb dX3_canCome_12 (by decide) (fun c4 => ?_) (fun c4 => ?_)
  · have hf := (o_i hf).1 c4
    refine lv_iconst (v := 0) hx hb dX3_canCome_33 (by decide) ?_
    have e9 := Option.some.inj hf
    subst e9
    exact rt_z C hP hS rfl rfl dX3_canCome_34
  have hf := (o_i hf).2 c4
  refine lv_aload_n hx hb dX3_canCome_15 rfl (lv_at hl 0 rfl) ?_
  refine lv_iload_n hx hb dX3_canCome_16 rfl (lv_at hl 3 rfl) ?_
  obtain ⟨g5, hg5, hf⟩ := o_b hf
  refine bVi C hP hD hS (tX3_areBits l G a a_villages a_woods a_needs a_signs a_temper a_friend a_rope a_hears a_shut a_woodBell a_woodVillage a_needVillage a_needWind a_needSeen a_sign p2 g5 hg5) gX3_canCome_X3_areBits rfl ⟨rfl, rfl⟩ hdX3_areBits ⟨Nat.le_of_ble_eq_true rfl, Nat.le_of_ble_eq_true rfl⟩ rfl hl.1 rfl (Nat.le_of_ble_eq_true rfl) ⟨Nat.le_of_ble_eq_true rfl, Nat.le_of_ble_eq_true rfl⟩ [0] rfl rfl rfl (setB_same _ _ _ rfl) rfl (ci := 3) (q0 := 0) rfl rfl rfl dX3_canCome_17 (fun H locs hP hD hS => ?_)
  refine lv_if_eq (tgt := 33) hx hb dX3_canCome_20 (by decide) (fun c6 => ?_) (fun c6 => ?_)
  · have hf := (o_i hf).1 c6
    refine lv_iconst (v := 0) hx hb dX3_canCome_33 (by decide) ?_
    have e9 := Option.some.inj hf
    subst e9
    exact rt_z C hP hS rfl rfl dX3_canCome_34
  have hf := (o_i hf).2 c6
  refine lv_iload_n hx hb dX3_canCome_23 rfl (lv_at hl 2 rfl) ?_
  refine lv_iload_n hx hb dX3_canCome_24 rfl (lv_at hl 3 rfl) ?_
  refine lv_iand hx hb dX3_canCome_25 ?_
  refine lv_if_ne (tgt := 33) hx hb dX3_canCome_26 (by decide) (fun c7 => ?_) (fun c7 => ?_)
  · have hf := (o_i hf).2 c7
    refine lv_iconst (v := 0) hx hb dX3_canCome_33 (by decide) ?_
    have e9 := Option.some.inj hf
    subst e9
    exact rt_z C hP hS rfl rfl dX3_canCome_34
  have hf := (o_i hf).1 c7
  refine lv_iconst (v := 1) hx hb dX3_canCome_29 (by decide) ?_
  refine lv_goto (tgt := 34) hx hb dX3_canCome_30 (by decide) ?_
  have e9 := Option.some.inj hf
  subst e9
  exact rt_z C hP hS rfl rfl dX3_canCome_34

/-! RX3 bellsFrom(III)I -/
theorem iiX3_bellsFrom_X3 : ∀ w ∈ wsX30, w ∈ wsX3_bellsFrom := by decide +kernel
theorem mmX3_bellsFrom_1 : (Cond.fieldLink RX3 49 "BlindBells$Valley" "villages" "I") ∈ wsX3_bellsFrom := by decide +kernel
theorem hdX3_bellsFrom : yX3_bellsFrom.cls = RX3 ∧ yX3_bellsFrom.cls ≠ "java/lang/invoke/MethodHandle" ∧ yX3_bellsFrom.cls ≠ "java/lang/invoke/VarHandle" ∧ (parseMethodDescriptor yX3_bellsFrom.desc).map (fun d => d.parameters.length) = some 3 := by decide +kernel
abbrev rmX3_bellsFrom : Room := { frames := 1, cells := 0, slots := 0, locals := 22 }
set_option maxHeartbeats 4000000 in
set_option maxRecDepth 100000 in
theorem lX3_bellsFrom_6 {p : Program} {e : Env} {s : State} {m : MethodId} {args : Array Value} {below : List Frame} {meth : Method} {c : Code} {A : Nat → Prop} (l : Launch) (G : GG) (C : Cx p m c cX3_bellsFrom 7 s args wsX3_bellsFrom RX3 meth (some .int) G A) (a : Nat → Nat) (a_villages : Int32) (a_woods : Int32) (a_needs : Int32) (a_signs : Int32) (a_temper : Nat → Int32) (a_friend : Nat → Int32) (a_rope : Nat → Int32) (a_hears : Nat → Int32) (a_shut : Nat → Int32) (a_woodBell : Nat → Int32) (a_woodVillage : Nat → Int32) (a_needVillage : Nat → Int32) (a_needWind : Nat → Int32) (a_needSeen : Nat → Int32) (a_sign : Nat → Int32) (p0 : Int32) (p1 : Int32) (p2 : Int32) (out : Int32) (kx : Int32 → Int32 → Option (Int32)) (HX : ∀ (x4_6 : Int32) (x5_6 : Int32) (H : Heap) (locs : List Loc) (ls : Array Slot), va_P G.1 vwCl (flat [wX3 G a a_villages a_woods a_needs a_signs a_temper a_friend a_rope a_hears a_shut a_woodBell a_woodVillage a_needVillage a_needWind a_needSeen a_sign]) H → va_D A (flat [wX3 G a a_villages a_woods a_needs a_signs a_temper a_friend a_rope a_hears a_shut a_woodBell a_woodVillage a_needVillage a_needWind a_needSeen a_sign]) → va_S A s.heap H locs → lv_has ls 7 [(0, .ref (a 0)), (1, .int p0), (2, .int p1), (3, .int p2), (4, .int x4_6), (5, .int x5_6)] → kx x4_6 x5_6 = some out → W p l e rmX3_bellsFrom s m args below meth c H locs 0 0 (MQ below (QI G A out (flat [wX3 G a a_villages a_woods a_needs a_signs a_temper a_friend a_rope a_hears a_shut a_woodBell a_woodVillage a_needVillage a_needWind a_needSeen a_sign])) args s 0 0 A) (F0 m 54 ls [])) : ∀ (n : Nat) (x4_6 : Int32) (x5_6 : Int32) (H : Heap) (locs : List Loc) (ls : Array Slot), va_P G.1 vwCl (flat [wX3 G a a_villages a_woods a_needs a_signs a_temper a_friend a_rope a_hears a_shut a_woodBell a_woodVillage a_needVillage a_needWind a_needSeen a_sign]) H → va_D A (flat [wX3 G a a_villages a_woods a_needs a_signs a_temper a_friend a_rope a_hears a_shut a_woodBell a_woodVillage a_needVillage a_needWind a_needSeen a_sign]) → va_S A s.heap H locs → lv_has ls 7 [(0, .ref (a 0)), (1, .int p0), (2, .int p1), (3, .int p2), (4, .int x4_6), (5, .int x5_6)] → fX3_bellsFrom_6 p0 p1 p2 a_villages a_hears a_shut kx n x4_6 x5_6 = some out → W p l e rmX3_bellsFrom s m args below meth c H locs 0 0 (MQ below (QI G A out (flat [wX3 G a a_villages a_woods a_needs a_signs a_temper a_friend a_rope a_hears a_shut a_woodBell a_woodVillage a_needVillage a_needWind a_needSeen a_sign])) args s 0 0 A) (F0 m 6 ls []) := by
  obtain ⟨⟨hx, hb, hml, hown, hts⟩, hr, hlocks, hK, hN, hE, hA⟩ := id C
  intro n
  induction n with
  | zero =>
    intro x4_6 x5_6 H locs ls hP hD hS hl hf
    exact absurd (show (none : Option (Int32)) = some out from hf) (by intro q9; cases q9)
  | succ n ih =>
    intro x4_6 x5_6 H locs ls hP hD hS hl hf
    rw [fX3_bellsFrom_6] at hf
    refine lv_iload hx hb dX3_bellsFrom_6 (lv_at hl 5 rfl) ?_
    refine lv_aload_n hx hb dX3_bellsFrom_8 rfl (lv_at hl 0 rfl) ?_
    refine va_get (D := G.1) (ci := 3) (v := .int a_villages) (C := RX3) (T := TX3) (N := 15) hx hb hts iiX3_bellsFrom_X3 hown hK hP 0 rfl rfl 0 (by decide) (hts _ mmX3_bellsFrom_1) (fun _ h9 => h9) rfl dX3_bellsFrom_9 ?_
    refine lv_icmp_ge (tgt := 54) hx hb dX3_bellsFrom_12 (by decide) (fun c1 => ?_) (fun c1 => ?_)
    · have hf := (o_i hf).1 c1
      exact HX _ _ _ _ _ hP hD hS (lv_sub hl [0, 1, 2, 3, 4, 5] rfl) hf
    have hf := (o_i hf).2 c1
    refine lv_aload_n hx hb dX3_bellsFrom_15 rfl (lv_at hl 0 rfl) ?_
    refine lv_iload hx hb dX3_bellsFrom_16 (lv_at hl 5 rfl) ?_
    refine lv_iload_n hx hb dX3_bellsFrom_18 rfl (lv_at hl 1 rfl) ?_
    obtain ⟨g2, hg2, hf⟩ := o_b hf
    refine bVi C hP hD hS (tX3_heardIn l G a a_villages a_woods a_needs a_signs a_temper a_friend a_rope a_hears a_shut a_woodBell a_woodVillage a_needVillage a_needWind a_needSeen a_sign x5_6 p0 g2 hg2) gX3_bellsFrom_X3_heardIn rfl ⟨rfl, rfl⟩ hdX3_heardIn ⟨Nat.le_of_ble_eq_true rfl, Nat.le_of_ble_eq_true rfl⟩ rfl hl.1 rfl (Nat.le_of_ble_eq_true rfl) ⟨Nat.le_of_ble_eq_true rfl, Nat.le_of_ble_eq_true rfl⟩ [0] rfl rfl rfl (setB_same _ _ _ rfl) rfl (ci := 3) (q0 := 0) rfl rfl rfl dX3_bellsFrom_19 (fun H locs hP hD hS => ?_)
    refine lv_istore (lv' := [(6, .int g2), (0, .ref (a 0)), (1, .int p0), (2, .int p1), (3, .int p2), (4, .int x4_6), (5, .int x5_6)]) hx hb dX3_bellsFrom_22 hl (by decide) rfl (fun ls hl => ?_)
    refine lv_iload hx hb dX3_bellsFrom_24 (lv_at hl 0 rfl) ?_
    refine lv_iload_n hx hb dX3_bellsFrom_26 rfl (lv_at hl 3 rfl) ?_
    refine lv_iand hx hb dX3_bellsFrom_27 ?_
    refine lv_iload_n hx hb dX3_bellsFrom_28 rfl (lv_at hl 3 rfl) ?_
    refine at_pc (pc' := 29) rfl ?_
    refine lv_icmp_ne (tgt := 48) hx hb dX3_bellsFrom_29 (by decide) (fun c3 => ?_) (fun c3 => ?_)
    · have hf := (o_i hf).2 c3
      refine lv_iinc (v := x5_6 + 1) (lv' := [(5, .int (x5_6 + 1)), (6, .int g2), (0, .ref (a 0)), (1, .int p0), (2, .int p1), (3, .int p2), (4, .int x4_6)]) hx hb dX3_bellsFrom_48 hl (k := 6) rfl (congrArg (fun z => x5_6 + z) (by decide)) (by decide) rfl (fun ls hl => ?_)
      refine lv_goto (tgt := 6) hx hb dX3_bellsFrom_51 (by decide) ?_
      exact ih _ _ _ _ _ hP hD hS (lv_sub hl [2, 3, 4, 5, 6, 0] rfl) hf
    have hf := (o_i hf).1 c3
    refine lv_iload hx hb dX3_bellsFrom_32 (lv_at hl 0 rfl) ?_
    refine lv_iload_n hx hb dX3_bellsFrom_34 rfl (lv_at hl 4 rfl) ?_
    refine lv_iand hx hb dX3_bellsFrom_35 ?_
    refine lv_if_ne (tgt := 48) hx hb dX3_bellsFrom_36 (by decide) (fun c4 => ?_) (fun c4 => ?_)
    · have hf := (o_i hf).2 c4
      refine lv_iinc (v := x5_6 + 1) (lv' := [(5, .int (x5_6 + 1)), (6, .int g2), (0, .ref (a 0)), (1, .int p0), (2, .int p1), (3, .int p2), (4, .int x4_6)]) hx hb dX3_bellsFrom_48 hl (k := 6) rfl (congrArg (fun z => x5_6 + z) (by decide)) (by decide) rfl (fun ls hl => ?_)
      refine lv_goto (tgt := 6) hx hb dX3_bellsFrom_51 (by decide) ?_
      exact ih _ _ _ _ _ hP hD hS (lv_sub hl [2, 3, 4, 5, 6, 0] rfl) hf
    have hf := (o_i hf).1 c4
    refine lv_iload hx hb dX3_bellsFrom_39 (lv_at hl 5 rfl) ?_
    refine lv_iconst (v := 1) hx hb dX3_bellsFrom_41 (by decide) ?_
    refine lv_iload hx hb dX3_bellsFrom_42 (lv_at hl 6 rfl) ?_
    refine lv_ishl hx hb dX3_bellsFrom_44 ?_
    refine lv_ior hx hb dX3_bellsFrom_45 ?_
    refine lv_istore (lv' := [(4, .int (x4_6 ||| (1 <<< (x5_6 &&& 31)))), (6, .int g2), (0, .ref (a 0)), (1, .int p0), (2, .int p1), (3, .int p2), (5, .int x5_6)]) hx hb dX3_bellsFrom_46 hl (by decide) rfl (fun ls hl => ?_)
    refine lv_iinc (v := x5_6 + 1) (lv' := [(5, .int (x5_6 + 1)), (4, .int (x4_6 ||| (1 <<< (x5_6 &&& 31)))), (6, .int g2), (0, .ref (a 0)), (1, .int p0), (2, .int p1), (3, .int p2)]) hx hb dX3_bellsFrom_48 hl (k := 6) rfl (congrArg (fun z => x5_6 + z) (by decide)) (by decide) rfl (fun ls hl => ?_)
    refine lv_goto (tgt := 6) hx hb dX3_bellsFrom_51 (by decide) ?_
    exact ih _ _ _ _ _ hP hD hS (lv_sub hl [3, 4, 5, 6, 1, 0] rfl) hf
set_option maxHeartbeats 4000000 in
set_option maxRecDepth 100000 in
theorem tX3_bellsFrom (l : Launch) (G : GG) (a : Nat → Nat) (a_villages : Int32) (a_woods : Int32) (a_needs : Int32) (a_signs : Int32) (a_temper : Nat → Int32) (a_friend : Nat → Int32) (a_rope : Nat → Int32) (a_hears : Nat → Int32) (a_shut : Nat → Int32) (a_woodBell : Nat → Int32) (a_woodVillage : Nat → Int32) (a_needVillage : Nat → Int32) (a_needWind : Nat → Int32) (a_needSeen : Nat → Int32) (a_sign : Nat → Int32) (p0 : Int32) (p1 : Int32) (p2 : Int32) (out : Int32) (hf : fX3_bellsFrom a_villages a_hears a_shut p0 p1 p2 = some out) : cMi l G yX3_bellsFrom wsX3_bellsFrom rmX3_bellsFrom [.ref (a 0), .int p0, .int p1, .int p2] (flat [wX3 G a a_villages a_woods a_needs a_signs a_temper a_friend a_rope a_hears a_shut a_woodBell a_woodVillage a_needVillage a_needWind a_needSeen a_sign]) out (flat [wX3 G a a_villages a_woods a_needs a_signs a_temper a_friend a_rope a_hears a_shut a_woodBell a_woodVillage a_needVillage a_needWind a_needSeen a_sign]) := by
  intro sz
  refine met_of (cc := cX3_bellsFrom) (nL := 7) (ret := (some .int)) (Qc := fun A9 => QI G A9 out (flat [wX3 G a a_villages a_woods a_needs a_signs a_temper a_friend a_rope a_hears a_shut a_woodBell a_woodVillage a_needVillage a_needWind a_needSeen a_sign])) (by decide) rfl (Nat.le_of_ble_eq_true rfl) ?_
  intro p e s m args below meth c A ls C hP hD hS hl
  obtain ⟨⟨hx, hb, hml, hown, hts⟩, hr, hlocks, hK, hN, hE, hA⟩ := id C
  have hl : lv_has ls 7 [(0, .ref (a 0)), (1, .int p0), (2, .int p1), (3, .int p2)] := hl
  unfold fX3_bellsFrom at hf
  refine lv_iconst (v := 0) hx hb dX3_bellsFrom_0 (by decide) ?_
  refine lv_istore (lv' := [(4, .int 0), (0, .ref (a 0)), (1, .int p0), (2, .int p1), (3, .int p2)]) hx hb dX3_bellsFrom_1 hl (by decide) rfl (fun ls hl => ?_)
  refine lv_iconst (v := 0) hx hb dX3_bellsFrom_3 (by decide) ?_
  refine lv_istore (lv' := [(5, .int 0), (4, .int 0), (0, .ref (a 0)), (1, .int p0), (2, .int p1), (3, .int p2)]) hx hb dX3_bellsFrom_4 hl (by decide) rfl (fun ls hl => ?_)
  refine lX3_bellsFrom_6 l G C a a_villages a_woods a_needs a_signs a_temper a_friend a_rope a_hears a_shut a_woodBell a_woodVillage a_needVillage a_needWind a_needSeen a_sign p0 p1 p2 out _ (fun x4_6_5 x5_6_6 H locs ls hP hD hS hl hf => ?_) fu 0 0 _ _ _ hP hD hS (lv_sub hl [2, 3, 4, 5, 1, 0] rfl) hf
  refine lv_iload hx hb dX3_bellsFrom_54 (lv_at hl 4 rfl) ?_
  have e9 := Option.some.inj hf
  subst e9
  exact rt_i C hP hS rfl dX3_bellsFrom_56

/-! RX3 bellsHeardAt(II)I -/
theorem hdX3_bellsHeardAt : yX3_bellsHeardAt.cls = RX3 ∧ yX3_bellsHeardAt.cls ≠ "java/lang/invoke/MethodHandle" ∧ yX3_bellsHeardAt.cls ≠ "java/lang/invoke/VarHandle" ∧ (parseMethodDescriptor yX3_bellsHeardAt.desc).map (fun d => d.parameters.length) = some 2 := by decide +kernel
abbrev rmX3_bellsHeardAt : Room := { frames := 2, cells := 0, slots := 0, locals := 48 }
set_option maxHeartbeats 4000000 in
set_option maxRecDepth 100000 in
theorem tX3_bellsHeardAt (l : Launch) (G : GG) (a : Nat → Nat) (a_villages : Int32) (a_woods : Int32) (a_needs : Int32) (a_signs : Int32) (a_temper : Nat → Int32) (a_friend : Nat → Int32) (a_rope : Nat → Int32) (a_hears : Nat → Int32) (a_shut : Nat → Int32) (a_woodBell : Nat → Int32) (a_woodVillage : Nat → Int32) (a_needVillage : Nat → Int32) (a_needWind : Nat → Int32) (a_needSeen : Nat → Int32) (a_sign : Nat → Int32) (p0 : Int32) (p1 : Int32) (out : Int32) (hf : fX3_bellsHeardAt a_villages a_hears a_shut p0 p1 = some out) : cMi l G yX3_bellsHeardAt wsX3_bellsHeardAt rmX3_bellsHeardAt [.ref (a 0), .int p0, .int p1] (flat [wX3 G a a_villages a_woods a_needs a_signs a_temper a_friend a_rope a_hears a_shut a_woodBell a_woodVillage a_needVillage a_needWind a_needSeen a_sign]) out (flat [wX3 G a a_villages a_woods a_needs a_signs a_temper a_friend a_rope a_hears a_shut a_woodBell a_woodVillage a_needVillage a_needWind a_needSeen a_sign]) := by
  intro sz
  refine met_of (cc := cX3_bellsHeardAt) (nL := 3) (ret := (some .int)) (Qc := fun A9 => QI G A9 out (flat [wX3 G a a_villages a_woods a_needs a_signs a_temper a_friend a_rope a_hears a_shut a_woodBell a_woodVillage a_needVillage a_needWind a_needSeen a_sign])) (by decide) rfl (Nat.le_of_ble_eq_true rfl) ?_
  intro p e s m args below meth c A ls C hP hD hS hl
  obtain ⟨⟨hx, hb, hml, hown, hts⟩, hr, hlocks, hK, hN, hE, hA⟩ := id C
  have hl : lv_has ls 3 [(0, .ref (a 0)), (1, .int p0), (2, .int p1)] := hl
  unfold fX3_bellsHeardAt at hf
  refine lv_aload_n hx hb dX3_bellsHeardAt_0 rfl (lv_at hl 0 rfl) ?_
  refine lv_iload_n hx hb dX3_bellsHeardAt_1 rfl (lv_at hl 2 rfl) ?_
  refine lv_iconst (v := 1) hx hb dX3_bellsHeardAt_2 (by decide) ?_
  refine lv_iload_n hx hb dX3_bellsHeardAt_3 rfl (lv_at hl 1 rfl) ?_
  refine lv_ishl hx hb dX3_bellsHeardAt_4 ?_
  refine lv_iconst (v := 0) hx hb dX3_bellsHeardAt_5 (by decide) ?_
  obtain ⟨g1, hg1, hf⟩ := o_b hf
  refine bVi C hP hD hS (tX3_bellsFrom l G a a_villages a_woods a_needs a_signs a_temper a_friend a_rope a_hears a_shut a_woodBell a_woodVillage a_needVillage a_needWind a_needSeen a_sign p1 (1 <<< (p0 &&& 31)) 0 g1 hg1) gX3_bellsHeardAt_X3_bellsFrom rfl ⟨rfl, rfl⟩ hdX3_bellsFrom ⟨Nat.le_of_ble_eq_true rfl, Nat.le_of_ble_eq_true rfl⟩ rfl hl.1 rfl (Nat.le_of_ble_eq_true rfl) ⟨Nat.le_of_ble_eq_true rfl, Nat.le_of_ble_eq_true rfl⟩ [0] rfl rfl rfl (setB_same _ _ _ rfl) rfl (ci := 3) (q0 := 0) rfl rfl rfl dX3_bellsHeardAt_6 (fun H locs hP hD hS => ?_)
  have e9 := Option.some.inj hf
  subst e9
  exact rt_i C hP hS rfl dX3_bellsHeardAt_9

/-! RX3 partsMostEvenly(III)I -/
theorem iiX3_partsMostEvenly_X3 : ∀ w ∈ wsX30, w ∈ wsX3_partsMostEvenly := by decide +kernel
theorem mmX3_partsMostEvenly_1 : (Cond.fieldLink RX3 49 "BlindBells$Valley" "villages" "I") ∈ wsX3_partsMostEvenly := by decide +kernel
theorem mmX3_partsMostEvenly_2 : (Cond.static yX6_has) ∈ wsX3_partsMostEvenly := by decide +kernel
theorem mmX3_partsMostEvenly_3 : (Cond.initialized RX6) ∈ wsX3_partsMostEvenly := by decide +kernel
theorem mmX3_partsMostEvenly_4 : (Cond.methodLink RX3 106 Lib.Math.min.name) ∈ wsX3_partsMostEvenly := by decide +kernel
theorem mmX3_partsMostEvenly_5 : (Cond.static Lib.Math.min.name) ∈ wsX3_partsMostEvenly := by decide +kernel
theorem mmX3_partsMostEvenly_6 : (Cond.initialized "java/lang/Math") ∈ wsX3_partsMostEvenly := by decide +kernel
theorem mmX3_partsMostEvenly_7 : (Cond.code Lib.Math.min.name Lib.Math.min.code 2 (some .int)) ∈ wsX3_partsMostEvenly := by decide +kernel
theorem hdX3_partsMostEvenly : yX3_partsMostEvenly.cls = RX3 ∧ yX3_partsMostEvenly.cls ≠ "java/lang/invoke/MethodHandle" ∧ yX3_partsMostEvenly.cls ≠ "java/lang/invoke/VarHandle" ∧ (parseMethodDescriptor yX3_partsMostEvenly.desc).map (fun d => d.parameters.length) = some 3 := by decide +kernel
abbrev rmX3_partsMostEvenly : Room := { frames := 3, cells := 0, slots := 0, locals := 70 }
set_option maxHeartbeats 4000000 in
set_option maxRecDepth 100000 in
theorem lX3_partsMostEvenly_9 {p : Program} {e : Env} {s : State} {m : MethodId} {args : Array Value} {below : List Frame} {meth : Method} {c : Code} {A : Nat → Prop} (l : Launch) (G : GG) (C : Cx p m c cX3_partsMostEvenly 9 s args wsX3_partsMostEvenly RX3 meth (some .int) G A) (a : Nat → Nat) (a_villages : Int32) (a_woods : Int32) (a_needs : Int32) (a_signs : Int32) (a_temper : Nat → Int32) (a_friend : Nat → Int32) (a_rope : Nat → Int32) (a_hears : Nat → Int32) (a_shut : Nat → Int32) (a_woodBell : Nat → Int32) (a_woodVillage : Nat → Int32) (a_needVillage : Nat → Int32) (a_needWind : Nat → Int32) (a_needSeen : Nat → Int32) (a_sign : Nat → Int32) (p0 : Int32) (p1 : Int32) (p2 : Int32) (out : Int32) (kx : Int32 → Int32 → Int32 → Option (Int32)) (HX : ∀ (x4_9 : Int32) (x5_9 : Int32) (x6_9 : Int32) (H : Heap) (locs : List Loc) (ls : Array Slot), va_P G.1 vwCl (flat [wX3 G a a_villages a_woods a_needs a_signs a_temper a_friend a_rope a_hears a_shut a_woodBell a_woodVillage a_needVillage a_needWind a_needSeen a_sign]) H → va_D A (flat [wX3 G a a_villages a_woods a_needs a_signs a_temper a_friend a_rope a_hears a_shut a_woodBell a_woodVillage a_needVillage a_needWind a_needSeen a_sign]) → va_S A s.heap H locs → lv_has ls 9 [(0, .ref (a 0)), (1, .int p0), (2, .int p1), (3, .int p2), (4, .int x4_9), (5, .int x5_9), (6, .int x6_9)] → kx x4_9 x5_9 x6_9 = some out → W p l e rmX3_partsMostEvenly s m args below meth c H locs 0 0 (MQ below (QI G A out (flat [wX3 G a a_villages a_woods a_needs a_signs a_temper a_friend a_rope a_hears a_shut a_woodBell a_woodVillage a_needVillage a_needWind a_needSeen a_sign])) args s 0 0 A) (F0 m 76 ls [])) : ∀ (n : Nat) (x4_9 : Int32) (x5_9 : Int32) (x6_9 : Int32) (H : Heap) (locs : List Loc) (ls : Array Slot), va_P G.1 vwCl (flat [wX3 G a a_villages a_woods a_needs a_signs a_temper a_friend a_rope a_hears a_shut a_woodBell a_woodVillage a_needVillage a_needWind a_needSeen a_sign]) H → va_D A (flat [wX3 G a a_villages a_woods a_needs a_signs a_temper a_friend a_rope a_hears a_shut a_woodBell a_woodVillage a_needVillage a_needWind a_needSeen a_sign]) → va_S A s.heap H locs → lv_has ls 9 [(0, .ref (a 0)), (1, .int p0), (2, .int p1), (3, .int p2), (4, .int x4_9), (5, .int x5_9), (6, .int x6_9)] → fX3_partsMostEvenly_9 p0 p1 p2 a_villages a_hears a_shut kx n x4_9 x5_9 x6_9 = some out → W p l e rmX3_partsMostEvenly s m args below meth c H locs 0 0 (MQ below (QI G A out (flat [wX3 G a a_villages a_woods a_needs a_signs a_temper a_friend a_rope a_hears a_shut a_woodBell a_woodVillage a_needVillage a_needWind a_needSeen a_sign])) args s 0 0 A) (F0 m 9 ls []) := by
  obtain ⟨⟨hx, hb, hml, hown, hts⟩, hr, hlocks, hK, hN, hE, hA⟩ := id C
  intro n
  induction n with
  | zero =>
    intro x4_9 x5_9 x6_9 H locs ls hP hD hS hl hf
    exact absurd (show (none : Option (Int32)) = some out from hf) (by intro q9; cases q9)
  | succ n ih =>
    intro x4_9 x5_9 x6_9 H locs ls hP hD hS hl hf
    rw [fX3_partsMostEvenly_9] at hf
    refine lv_iload hx hb dX3_partsMostEvenly_9 (lv_at hl 6 rfl) ?_
    refine lv_aload_n hx hb dX3_partsMostEvenly_11 rfl (lv_at hl 0 rfl) ?_
    refine va_get (D := G.1) (ci := 3) (v := .int a_villages) (C := RX3) (T := TX3) (N := 15) hx hb hts iiX3_partsMostEvenly_X3 hown hK hP 0 rfl rfl 0 (by decide) (hts _ mmX3_partsMostEvenly_1) (fun _ h9 => h9) rfl dX3_partsMostEvenly_12 ?_
    refine lv_icmp_ge (tgt := 76) hx hb dX3_partsMostEvenly_15 (by decide) (fun c1 => ?_) (fun c1 => ?_)
    · have hf := (o_i hf).1 c1
      exact HX _ _ _ _ _ _ hP hD hS (lv_sub hl [0, 1, 2, 3, 4, 5, 6] rfl) hf
    have hf := (o_i hf).2 c1
    refine lv_iload_n hx hb dX3_partsMostEvenly_18 rfl (lv_at hl 3 rfl) ?_
    refine lv_iload hx hb dX3_partsMostEvenly_19 (lv_at hl 6 rfl) ?_
    obtain ⟨g2, hg2, hf⟩ := o_b hf
    refine bNi C hP hD hS (tX6_has l G p2 x6_9 g2 hg2) gX3_partsMostEvenly_X6_has_n84 (nw9 hN) (hts _ mmX3_partsMostEvenly_2) (hts _ mmX3_partsMostEvenly_3) rfl ⟨rfl, rfl⟩ hdX6_has ⟨Nat.le_of_ble_eq_true rfl, Nat.le_of_ble_eq_true rfl⟩ rfl hl.1 rfl (Nat.le_of_ble_eq_true rfl) ⟨Nat.le_of_ble_eq_true rfl, Nat.le_of_ble_eq_true rfl⟩ [] rfl rfl rfl (setB_same _ _ _ rfl) rfl dX3_partsMostEvenly_21 (fun H locs hP hD hS => ?_)
    refine lv_if_ne (tgt := 70) hx hb dX3_partsMostEvenly_24 (by decide) (fun c3 => ?_) (fun c3 => ?_)
    · have hf := (o_i hf).2 c3
      refine lv_iinc (v := x6_9 + 1) (lv' := [(6, .int (x6_9 + 1)), (0, .ref (a 0)), (1, .int p0), (2, .int p1), (3, .int p2), (4, .int x4_9), (5, .int x5_9)]) hx hb dX3_partsMostEvenly_70 hl (k := 6) rfl (congrArg (fun z => x6_9 + z) (by decide)) (by decide) rfl (fun ls hl => ?_)
      refine lv_goto (tgt := 9) hx hb dX3_partsMostEvenly_73 (by decide) ?_
      exact ih _ _ _ _ _ _ hP hD hS (lv_sub hl [1, 2, 3, 4, 5, 6, 0] rfl) hf
    have hf := (o_i hf).1 c3
    refine lv_iload_n hx hb dX3_partsMostEvenly_27 rfl (lv_at hl 2 rfl) ?_
    refine lv_aload_n hx hb dX3_partsMostEvenly_28 rfl (lv_at hl 0 rfl) ?_
    refine lv_iload hx hb dX3_partsMostEvenly_29 (lv_at hl 6 rfl) ?_
    refine lv_iload_n hx hb dX3_partsMostEvenly_31 rfl (lv_at hl 1 rfl) ?_
    obtain ⟨g4, hg4, hf⟩ := o_b hf
    refine bVi C hP hD hS (tX3_bellsHeardAt l G a a_villages a_woods a_needs a_signs a_temper a_friend a_rope a_hears a_shut a_woodBell a_woodVillage a_needVillage a_needWind a_needSeen a_sign x6_9 p0 g4 hg4) gX3_partsMostEvenly_X3_bellsHeardAt rfl ⟨rfl, rfl⟩ hdX3_bellsHeardAt ⟨Nat.le_of_ble_eq_true rfl, Nat.le_of_ble_eq_true rfl⟩ rfl hl.1 rfl (Nat.le_of_ble_eq_true rfl) ⟨Nat.le_of_ble_eq_true rfl, Nat.le_of_ble_eq_true rfl⟩ [0] rfl rfl rfl (setB_same _ _ _ rfl) rfl (ci := 3) (q0 := 0) rfl rfl rfl dX3_partsMostEvenly_32 (fun H locs hP hD hS => ?_)
    refine lv_iand hx hb dX3_partsMostEvenly_35 ?_
    obtain ⟨g5, hg5, hf⟩ := o_b hf
    refine bSi C hP hD hS (tJ6_bitCount_0f7a4 l G (p1 &&& g4) g5 hg5) gX3_partsMostEvenly_J6_bitCount_0f7a4 rfl ⟨rfl, rfl⟩ hdJ6_bitCount_0f7a4 ⟨Nat.le_of_ble_eq_true rfl, Nat.le_of_ble_eq_true rfl⟩ rfl hl.1 rfl (Nat.le_of_ble_eq_true rfl) ⟨Nat.le_of_ble_eq_true rfl, Nat.le_of_ble_eq_true rfl⟩ [] rfl rfl rfl (setB_same _ _ _ rfl) rfl dX3_partsMostEvenly_36 (fun H locs hP hD hS => ?_)
    refine lv_istore (lv' := [(7, .int g5), (0, .ref (a 0)), (1, .int p0), (2, .int p1), (3, .int p2), (4, .int x4_9), (5, .int x5_9), (6, .int x6_9)]) hx hb dX3_partsMostEvenly_39 hl (by decide) rfl (fun ls hl => ?_)
    refine lv_iload hx hb dX3_partsMostEvenly_41 (lv_at hl 0 rfl) ?_
    refine at_pc (pc' := 43) rfl ?_
    refine lv_iload_n hx hb dX3_partsMostEvenly_43 rfl (lv_at hl 3 rfl) ?_
    obtain ⟨g6, hg6, hf⟩ := o_b hf
    refine bSi C hP hD hS (tJ6_bitCount_0f7a4 l G p1 g6 hg6) gX3_partsMostEvenly_J6_bitCount_0f7a4 rfl ⟨rfl, rfl⟩ hdJ6_bitCount_0f7a4 ⟨Nat.le_of_ble_eq_true rfl, Nat.le_of_ble_eq_true rfl⟩ rfl hl.1 rfl (Nat.le_of_ble_eq_true rfl) ⟨Nat.le_of_ble_eq_true rfl, Nat.le_of_ble_eq_true rfl⟩ [] rfl rfl rfl (setB_same _ _ _ rfl) rfl dX3_partsMostEvenly_44 (fun H locs hP hD hS => ?_)
    refine lv_iload hx hb dX3_partsMostEvenly_47 (lv_at hl 0 rfl) ?_
    refine lv_isub hx hb dX3_partsMostEvenly_49 ?_
    refine va_mmin hx hb (by rw [hml]; exact hl.1.symm) hown (hts _ mmX3_partsMostEvenly_4) (hts _ mmX3_partsMostEvenly_5) (hts _ mmX3_partsMostEvenly_6) (hts _ mmX3_partsMostEvenly_7) (Nat.le_of_ble_eq_true rfl) (Nat.le_of_ble_eq_true rfl) (Nat.le_of_ble_eq_true rfl) (Nat.le_of_ble_eq_true rfl) dX3_partsMostEvenly_50 ?_
    refine lv_istore (lv' := [(8, .int (if (g6 - g5) < g5 then (g6 - g5) else g5)), (7, .int g5), (0, .ref (a 0)), (1, .int p0), (2, .int p1), (3, .int p2), (4, .int x4_9), (5, .int x5_9), (6, .int x6_9)]) hx hb dX3_partsMostEvenly_53 hl (by decide) rfl (fun ls hl => ?_)
    refine lv_iload hx hb dX3_partsMostEvenly_55 (lv_at hl 0 rfl) ?_
    refine lv_iload hx hb dX3_partsMostEvenly_57 (lv_at hl 7 rfl) ?_
    refine lv_icmp_le (tgt := 70) hx hb dX3_partsMostEvenly_59 (by decide) (fun c7 => ?_) (fun c7 => ?_)
    · have hf := (o_i hf).1 c7
      refine lv_iinc (v := x6_9 + 1) (lv' := [(6, .int (x6_9 + 1)), (8, .int (if (g6 - g5) < g5 then (g6 - g5) else g5)), (7, .int g5), (0, .ref (a 0)), (1, .int p0), (2, .int p1), (3, .int p2), (4, .int x4_9), (5, .int x5_9)]) hx hb dX3_partsMostEvenly_70 hl (k := 8) rfl (congrArg (fun z => x6_9 + z) (by decide)) (by decide) rfl (fun ls hl => ?_)
      refine lv_goto (tgt := 9) hx hb dX3_partsMostEvenly_73 (by decide) ?_
      exact ih _ _ _ _ _ _ hP hD hS (lv_sub hl [3, 4, 5, 6, 7, 8, 0] rfl) hf
    have hf := (o_i hf).2 c7
    refine lv_iload hx hb dX3_partsMostEvenly_62 (lv_at hl 8 rfl) ?_
    refine lv_istore (lv' := [(4, .int x6_9), (8, .int (if (g6 - g5) < g5 then (g6 - g5) else g5)), (7, .int g5), (0, .ref (a 0)), (1, .int p0), (2, .int p1), (3, .int p2), (5, .int x5_9), (6, .int x6_9)]) hx hb dX3_partsMostEvenly_64 hl (by decide) rfl (fun ls hl => ?_)
    refine lv_iload hx hb dX3_partsMostEvenly_66 (lv_at hl 1 rfl) ?_
    refine lv_istore (lv' := [(5, .int (if (g6 - g5) < g5 then (g6 - g5) else g5)), (4, .int x6_9), (8, .int (if (g6 - g5) < g5 then (g6 - g5) else g5)), (7, .int g5), (0, .ref (a 0)), (1, .int p0), (2, .int p1), (3, .int p2), (6, .int x6_9)]) hx hb dX3_partsMostEvenly_68 hl (by decide) rfl (fun ls hl => ?_)
    refine lv_iinc (v := x6_9 + 1) (lv' := [(6, .int (x6_9 + 1)), (5, .int (if (g6 - g5) < g5 then (g6 - g5) else g5)), (4, .int x6_9), (8, .int (if (g6 - g5) < g5 then (g6 - g5) else g5)), (7, .int g5), (0, .ref (a 0)), (1, .int p0), (2, .int p1), (3, .int p2)]) hx hb dX3_partsMostEvenly_70 hl (k := 8) rfl (congrArg (fun z => x6_9 + z) (by decide)) (by decide) rfl (fun ls hl => ?_)
    refine lv_goto (tgt := 9) hx hb dX3_partsMostEvenly_73 (by decide) ?_
    exact ih _ _ _ _ _ _ hP hD hS (lv_sub hl [5, 6, 7, 8, 2, 1, 0] rfl) hf
set_option maxHeartbeats 4000000 in
set_option maxRecDepth 100000 in
theorem tX3_partsMostEvenly (l : Launch) (G : GG) (a : Nat → Nat) (a_villages : Int32) (a_woods : Int32) (a_needs : Int32) (a_signs : Int32) (a_temper : Nat → Int32) (a_friend : Nat → Int32) (a_rope : Nat → Int32) (a_hears : Nat → Int32) (a_shut : Nat → Int32) (a_woodBell : Nat → Int32) (a_woodVillage : Nat → Int32) (a_needVillage : Nat → Int32) (a_needWind : Nat → Int32) (a_needSeen : Nat → Int32) (a_sign : Nat → Int32) (p0 : Int32) (p1 : Int32) (p2 : Int32) (out : Int32) (hf : fX3_partsMostEvenly a_villages a_hears a_shut p0 p1 p2 = some out) : cMi l G yX3_partsMostEvenly wsX3_partsMostEvenly rmX3_partsMostEvenly [.ref (a 0), .int p0, .int p1, .int p2] (flat [wX3 G a a_villages a_woods a_needs a_signs a_temper a_friend a_rope a_hears a_shut a_woodBell a_woodVillage a_needVillage a_needWind a_needSeen a_sign]) out (flat [wX3 G a a_villages a_woods a_needs a_signs a_temper a_friend a_rope a_hears a_shut a_woodBell a_woodVillage a_needVillage a_needWind a_needSeen a_sign]) := by
  intro sz
  refine met_of (cc := cX3_partsMostEvenly) (nL := 9) (ret := (some .int)) (Qc := fun A9 => QI G A9 out (flat [wX3 G a a_villages a_woods a_needs a_signs a_temper a_friend a_rope a_hears a_shut a_woodBell a_woodVillage a_needVillage a_needWind a_needSeen a_sign])) (by decide) rfl (Nat.le_of_ble_eq_true rfl) ?_
  intro p e s m args below meth c A ls C hP hD hS hl
  obtain ⟨⟨hx, hb, hml, hown, hts⟩, hr, hlocks, hK, hN, hE, hA⟩ := id C
  have hl : lv_has ls 9 [(0, .ref (a 0)), (1, .int p0), (2, .int p1), (3, .int p2)] := hl
  unfold fX3_partsMostEvenly at hf
  refine lv_iconst (v := (-1)) hx hb dX3_partsMostEvenly_0 (by decide) ?_
  refine lv_istore (lv' := [(4, .int ((-1))), (0, .ref (a 0)), (1, .int p0), (2, .int p1), (3, .int p2)]) hx hb dX3_partsMostEvenly_1 hl (by decide) rfl (fun ls hl => ?_)
  refine lv_iconst (v := 0) hx hb dX3_partsMostEvenly_3 (by decide) ?_
  refine lv_istore (lv' := [(5, .int 0), (4, .int ((-1))), (0, .ref (a 0)), (1, .int p0), (2, .int p1), (3, .int p2)]) hx hb dX3_partsMostEvenly_4 hl (by decide) rfl (fun ls hl => ?_)
  refine lv_iconst (v := 0) hx hb dX3_partsMostEvenly_6 (by decide) ?_
  refine lv_istore (lv' := [(6, .int 0), (5, .int 0), (4, .int ((-1))), (0, .ref (a 0)), (1, .int p0), (2, .int p1), (3, .int p2)]) hx hb dX3_partsMostEvenly_7 hl (by decide) rfl (fun ls hl => ?_)
  refine lX3_partsMostEvenly_9 l G C a a_villages a_woods a_needs a_signs a_temper a_friend a_rope a_hears a_shut a_woodBell a_woodVillage a_needVillage a_needWind a_needSeen a_sign p0 p1 p2 out _ (fun x4_9_8 x5_9_9 x6_9_10 H locs ls hP hD hS hl hf => ?_) fu ((-1)) 0 0 _ _ _ hP hD hS (lv_sub hl [3, 4, 5, 6, 2, 1, 0] rfl) hf
  refine lv_iload hx hb dX3_partsMostEvenly_76 (lv_at hl 4 rfl) ?_
  have e9 := Option.some.inj hf
  subst e9
  exact rt_i C hP hS rfl dX3_partsMostEvenly_78

/-! RX3 firstTakenFor(II)I -/
theorem iiX3_firstTakenFor_X3 : ∀ w ∈ wsX30, w ∈ wsX3_firstTakenFor := by decide +kernel
theorem mmX3_firstTakenFor_1 : (Cond.fieldLink RX3 42 "BlindBells$Valley" "sign" "[I") ∈ wsX3_firstTakenFor := by decide +kernel
theorem hdX3_firstTakenFor : yX3_firstTakenFor.cls = RX3 ∧ yX3_firstTakenFor.cls ≠ "java/lang/invoke/MethodHandle" ∧ yX3_firstTakenFor.cls ≠ "java/lang/invoke/VarHandle" ∧ (parseMethodDescriptor yX3_firstTakenFor.desc).map (fun d => d.parameters.length) = some 2 := by decide +kernel
abbrev rmX3_firstTakenFor : Room := { frames := 1, cells := 0, slots := 0, locals := 22 }
set_option maxHeartbeats 4000000 in
set_option maxRecDepth 100000 in
theorem lX3_firstTakenFor_2 {p : Program} {e : Env} {s : State} {m : MethodId} {args : Array Value} {below : List Frame} {meth : Method} {c : Code} {A : Nat → Prop} (l : Launch) (G : GG) (C : Cx p m c cX3_firstTakenFor 5 s args wsX3_firstTakenFor RX3 meth (some .int) G A) (a : Nat → Nat) (a_villages : Int32) (a_woods : Int32) (a_needs : Int32) (a_signs : Int32) (a_temper : Nat → Int32) (a_friend : Nat → Int32) (a_rope : Nat → Int32) (a_hears : Nat → Int32) (a_shut : Nat → Int32) (a_woodBell : Nat → Int32) (a_woodVillage : Nat → Int32) (a_needVillage : Nat → Int32) (a_needWind : Nat → Int32) (a_needSeen : Nat → Int32) (a_sign : Nat → Int32) (p0 : Int32) (p1 : Int32) (out : Int32) (kx : Int32 → Option (Int32)) (HX : ∀ (x3_2 : Int32) (H : Heap) (locs : List Loc) (ls : Array Slot), va_P G.1 vwCl (flat [wX3 G a a_villages a_woods a_needs a_signs a_temper a_friend a_rope a_hears a_shut a_woodBell a_woodVillage a_needVillage a_needWind a_needSeen a_sign]) H → va_D A (flat [wX3 G a a_villages a_woods a_needs a_signs a_temper a_friend a_rope a_hears a_shut a_woodBell a_woodVillage a_needVillage a_needWind a_needSeen a_sign]) → va_S A s.heap H locs → lv_has ls 5 [(0, .ref (a 0)), (1, .int p0), (2, .int p1), (3, .int x3_2)] → kx x3_2 = some out → W p l e rmX3_firstTakenFor s m args below meth c H locs 0 0 (MQ below (QI G A out (flat [wX3 G a a_villages a_woods a_needs a_signs a_temper a_friend a_rope a_hears a_shut a_woodBell a_woodVillage a_needVillage a_needWind a_needSeen a_sign])) args s 0 0 A) (F0 m 64 ls [])) : ∀ (n : Nat) (x3_2 : Int32) (H : Heap) (locs : List Loc) (ls : Array Slot), va_P G.1 vwCl (flat [wX3 G a a_villages a_woods a_needs a_signs a_temper a_friend a_rope a_hears a_shut a_woodBell a_woodVillage a_needVillage a_needWind a_needSeen a_sign]) H → va_D A (flat [wX3 G a a_villages a_woods a_needs a_signs a_temper a_friend a_rope a_hears a_shut a_woodBell a_woodVillage a_needVillage a_needWind a_needSeen a_sign]) → va_S A s.heap H locs → lv_has ls 5 [(0, .ref (a 0)), (1, .int p0), (2, .int p1), (3, .int x3_2)] → fX3_firstTakenFor_2 p0 p1 a_signs a_sign kx n x3_2 = some out → W p l e rmX3_firstTakenFor s m args below meth c H locs 0 0 (MQ below (QI G A out (flat [wX3 G a a_villages a_woods a_needs a_signs a_temper a_friend a_rope a_hears a_shut a_woodBell a_woodVillage a_needVillage a_needWind a_needSeen a_sign])) args s 0 0 A) (F0 m 2 ls []) := by
  obtain ⟨⟨hx, hb, hml, hown, hts⟩, hr, hlocks, hK, hN, hE, hA⟩ := id C
  intro n
  induction n with
  | zero =>
    intro x3_2 H locs ls hP hD hS hl hf
    exact absurd (show (none : Option (Int32)) = some out from hf) (by intro q9; cases q9)
  | succ n ih =>
    intro x3_2 H locs ls hP hD hS hl hf
    rw [fX3_firstTakenFor_2] at hf
    refine lv_iload_n hx hb dX3_firstTakenFor_2 rfl (lv_at hl 3 rfl) ?_
    refine lv_iconst (v := 3) hx hb dX3_firstTakenFor_3 (by decide) ?_
    refine lv_icmp_gt (tgt := 64) hx hb dX3_firstTakenFor_4 (by decide) (fun c1 => ?_) (fun c1 => ?_)
    · have hf := (o_i hf).1 c1
      exact HX _ _ _ _ hP hD hS (lv_sub hl [0, 1, 2, 3] rfl) hf
    have hf := (o_i hf).2 c1
    refine lv_aload_n hx hb dX3_firstTakenFor_7 rfl (lv_at hl 0 rfl) ?_
    refine lv_aload_n hx hb dX3_firstTakenFor_8 rfl (lv_at hl 0 rfl) ?_
    refine va_get (D := G.1) (ci := 3) (v := .ref (a 11)) (C := RX3) (T := TX3) (N := 15) hx hb hts iiX3_firstTakenFor_X3 hown hK hP 0 rfl rfl 14 (by decide) (hts _ mmX3_firstTakenFor_1) (fun _ h9 => h9) rfl dX3_firstTakenFor_9 ?_
    refine lv_iload_n hx hb dX3_firstTakenFor_12 rfl (lv_at hl 1 rfl) ?_
    obtain ⟨z2, hz2, hf⟩ := o_b hf
    refine k_iald hx hb hK hP 11 0 rfl rfl hz2 dX3_firstTakenFor_13 ?_
    refine lv_aload_n hx hb dX3_firstTakenFor_14 rfl (lv_at hl 0 rfl) ?_
    refine va_get (D := G.1) (ci := 3) (v := .ref (a 11)) (C := RX3) (T := TX3) (N := 15) hx hb hts iiX3_firstTakenFor_X3 hown hK hP 0 rfl rfl 14 (by decide) (hts _ mmX3_firstTakenFor_1) (fun _ h9 => h9) rfl dX3_firstTakenFor_15 ?_
    refine lv_iload_n hx hb dX3_firstTakenFor_18 rfl (lv_at hl 2 rfl) ?_
    obtain ⟨z3, hz3, hf⟩ := o_b hf
    refine k_iald hx hb hK hP 11 0 rfl rfl hz3 dX3_firstTakenFor_19 ?_
    refine at_pc (pc' := 20) rfl ?_
    refine lv_iload_n hx hb dX3_firstTakenFor_20 rfl (lv_at hl 3 rfl) ?_
    refine lv_ishl hx hb dX3_firstTakenFor_21 ?_
    refine lv_ior hx hb dX3_firstTakenFor_22 ?_
    refine lv_sipush (v := 255) hx hb dX3_firstTakenFor_23 (by decide) ?_
    refine lv_iand hx hb dX3_firstTakenFor_26 ?_
    obtain ⟨g4, hg4, hf⟩ := o_b hf
    refine bVi C hP hD hS (tX3_signOf l G a a_villages a_woods a_needs a_signs a_temper a_friend a_rope a_hears a_shut a_woodBell a_woodVillage a_needVillage a_needWind a_needSeen a_sign ((z2 ||| (z3 <<< (x3_2 &&& 31))) &&& 255) g4 hg4) gX3_firstTakenFor_X3_signOf rfl ⟨rfl, rfl⟩ hdX3_signOf ⟨Nat.le_of_ble_eq_true rfl, Nat.le_of_ble_eq_true rfl⟩ rfl hl.1 rfl (Nat.le_of_ble_eq_true rfl) ⟨Nat.le_of_ble_eq_true rfl, Nat.le_of_ble_eq_true rfl⟩ [0] rfl rfl rfl (setB_same _ _ _ rfl) rfl (ci := 3) (q0 := 0) rfl rfl rfl dX3_firstTakenFor_27 (fun H locs hP hD hS => ?_)
    refine lv_istore (lv' := [(4, .int g4), (0, .ref (a 0)), (1, .int p0), (2, .int p1), (3, .int x3_2)]) hx hb dX3_firstTakenFor_30 hl (by decide) rfl (fun ls hl => ?_)
    refine lv_iload hx hb dX3_firstTakenFor_32 (lv_at hl 0 rfl) ?_
    refine lv_iconst (v := (-1)) hx hb dX3_firstTakenFor_34 (by decide) ?_
    refine lv_icmp_eq (tgt := 58) hx hb dX3_firstTakenFor_35 (by decide) (fun c5 => ?_) (fun c5 => ?_)
    · have hf := (o_i hf).1 c5
      refine lv_iinc (v := x3_2 + 1) (lv' := [(3, .int (x3_2 + 1)), (4, .int g4), (0, .ref (a 0)), (1, .int p0), (2, .int p1)]) hx hb dX3_firstTakenFor_58 hl (k := 4) rfl (congrArg (fun z => x3_2 + z) (by decide)) (by decide) rfl (fun ls hl => ?_)
      refine lv_goto (tgt := 2) hx hb dX3_firstTakenFor_61 (by decide) ?_
      exact ih _ _ _ _ hP hD hS (lv_sub hl [2, 3, 4, 0] rfl) hf
    have hf := (o_i hf).2 c5
    refine lv_iload hx hb dX3_firstTakenFor_38 (lv_at hl 0 rfl) ?_
    refine lv_iload_n hx hb dX3_firstTakenFor_40 rfl (lv_at hl 2 rfl) ?_
    refine lv_icmp_eq (tgt := 58) hx hb dX3_firstTakenFor_41 (by decide) (fun c6 => ?_) (fun c6 => ?_)
    · have hf := (o_i hf).1 c6
      refine lv_iinc (v := x3_2 + 1) (lv' := [(3, .int (x3_2 + 1)), (4, .int g4), (0, .ref (a 0)), (1, .int p0), (2, .int p1)]) hx hb dX3_firstTakenFor_58 hl (k := 4) rfl (congrArg (fun z => x3_2 + z) (by decide)) (by decide) rfl (fun ls hl => ?_)
      refine lv_goto (tgt := 2) hx hb dX3_firstTakenFor_61 (by decide) ?_
      exact ih _ _ _ _ hP hD hS (lv_sub hl [2, 3, 4, 0] rfl) hf
    have hf := (o_i hf).2 c6
    refine lv_iload hx hb dX3_firstTakenFor_44 (lv_at hl 0 rfl) ?_
    refine lv_iload_n hx hb dX3_firstTakenFor_46 rfl (lv_at hl 3 rfl) ?_
    refine lv_icmp_eq (tgt := 58) hx hb dX3_firstTakenFor_47 (by decide) (fun c7 => ?_) (fun c7 => ?_)
    · have hf := (o_i hf).1 c7
      refine lv_iinc (v := x3_2 + 1) (lv' := [(3, .int (x3_2 + 1)), (4, .int g4), (0, .ref (a 0)), (1, .int p0), (2, .int p1)]) hx hb dX3_firstTakenFor_58 hl (k := 4) rfl (congrArg (fun z => x3_2 + z) (by decide)) (by decide) rfl (fun ls hl => ?_)
      refine lv_goto (tgt := 2) hx hb dX3_firstTakenFor_61 (by decide) ?_
      exact ih _ _ _ _ hP hD hS (lv_sub hl [2, 3, 4, 0] rfl) hf
    have hf := (o_i hf).2 c7
    refine lv_bipush (v := 10) hx hb dX3_firstTakenFor_50 (by decide) ?_
    refine lv_iload_n hx hb dX3_firstTakenFor_52 rfl (lv_at hl 4 rfl) ?_
    refine lv_imul hx hb dX3_firstTakenFor_53 ?_
    refine lv_iload hx hb dX3_firstTakenFor_54 (lv_at hl 0 rfl) ?_
    refine lv_iadd hx hb dX3_firstTakenFor_56 ?_
    have e9 := Option.some.inj hf
    subst e9
    exact rt_i C hP hS rfl dX3_firstTakenFor_57
set_option maxHeartbeats 4000000 in
set_option maxRecDepth 100000 in
theorem tX3_firstTakenFor (l : Launch) (G : GG) (a : Nat → Nat) (a_villages : Int32) (a_woods : Int32) (a_needs : Int32) (a_signs : Int32) (a_temper : Nat → Int32) (a_friend : Nat → Int32) (a_rope : Nat → Int32) (a_hears : Nat → Int32) (a_shut : Nat → Int32) (a_woodBell : Nat → Int32) (a_woodVillage : Nat → Int32) (a_needVillage : Nat → Int32) (a_needWind : Nat → Int32) (a_needSeen : Nat → Int32) (a_sign : Nat → Int32) (p0 : Int32) (p1 : Int32) (out : Int32) (hf : fX3_firstTakenFor a_signs a_sign p0 p1 = some out) : cMi l G yX3_firstTakenFor wsX3_firstTakenFor rmX3_firstTakenFor [.ref (a 0), .int p0, .int p1] (flat [wX3 G a a_villages a_woods a_needs a_signs a_temper a_friend a_rope a_hears a_shut a_woodBell a_woodVillage a_needVillage a_needWind a_needSeen a_sign]) out (flat [wX3 G a a_villages a_woods a_needs a_signs a_temper a_friend a_rope a_hears a_shut a_woodBell a_woodVillage a_needVillage a_needWind a_needSeen a_sign]) := by
  intro sz
  refine met_of (cc := cX3_firstTakenFor) (nL := 5) (ret := (some .int)) (Qc := fun A9 => QI G A9 out (flat [wX3 G a a_villages a_woods a_needs a_signs a_temper a_friend a_rope a_hears a_shut a_woodBell a_woodVillage a_needVillage a_needWind a_needSeen a_sign])) (by decide) rfl (Nat.le_of_ble_eq_true rfl) ?_
  intro p e s m args below meth c A ls C hP hD hS hl
  obtain ⟨⟨hx, hb, hml, hown, hts⟩, hr, hlocks, hK, hN, hE, hA⟩ := id C
  have hl : lv_has ls 5 [(0, .ref (a 0)), (1, .int p0), (2, .int p1)] := hl
  unfold fX3_firstTakenFor at hf
  refine lv_iconst (v := 0) hx hb dX3_firstTakenFor_0 (by decide) ?_
  refine lv_istore_n (lv' := [(3, .int 0), (0, .ref (a 0)), (1, .int p0), (2, .int p1)]) hx hb dX3_firstTakenFor_1 rfl hl (by decide) rfl (fun ls hl => ?_)
  refine lX3_firstTakenFor_2 l G C a a_villages a_woods a_needs a_signs a_temper a_friend a_rope a_hears a_shut a_woodBell a_woodVillage a_needVillage a_needWind a_needSeen a_sign p0 p1 out _ (fun x3_2_8 H locs ls hP hD hS hl hf => ?_) fu 0 _ _ _ hP hD hS (lv_sub hl [1, 2, 3, 0] rfl) hf
  refine lv_iconst (v := (-1)) hx hb dX3_firstTakenFor_64 (by decide) ?_
  have e9 := Option.some.inj hf
  subst e9
  exact rt_i C hP hS rfl dX3_firstTakenFor_65

/-! RX3 digestFrom(J)J -/
theorem iiX3_digestFrom_X3 : ∀ w ∈ wsX30, w ∈ wsX3_digestFrom := by decide +kernel
theorem mmX3_digestFrom_1 : (Cond.fieldLink RX3 49 "BlindBells$Valley" "villages" "I") ∈ wsX3_digestFrom := by decide +kernel
theorem mmX3_digestFrom_2 : (Cond.constantLong RX3 115 (31)) ∈ wsX3_digestFrom := by decide +kernel
theorem mmX3_digestFrom_3 : (Cond.fieldLink RX3 9 "BlindBells$Valley" "temper" "[I") ∈ wsX3_digestFrom := by decide +kernel
theorem mmX3_digestFrom_4 : (Cond.fieldLink RX3 15 "BlindBells$Valley" "friend" "[I") ∈ wsX3_digestFrom := by decide +kernel
theorem mmX3_digestFrom_5 : (Cond.fieldLink RX3 18 "BlindBells$Valley" "rope" "[I") ∈ wsX3_digestFrom := by decide +kernel
theorem mmX3_digestFrom_6 : (Cond.fieldLink RX3 21 "BlindBells$Valley" "hears" "[I") ∈ wsX3_digestFrom := by decide +kernel
theorem mmX3_digestFrom_7 : (Cond.fieldLink RX3 53 "BlindBells$Valley" "woods" "I") ∈ wsX3_digestFrom := by decide +kernel
theorem mmX3_digestFrom_8 : (Cond.fieldLink RX3 27 "BlindBells$Valley" "woodBell" "[I") ∈ wsX3_digestFrom := by decide +kernel
theorem mmX3_digestFrom_9 : (Cond.fieldLink RX3 30 "BlindBells$Valley" "woodVillage" "[I") ∈ wsX3_digestFrom := by decide +kernel
theorem mmX3_digestFrom_10 : (Cond.fieldLink RX3 56 "BlindBells$Valley" "needs" "I") ∈ wsX3_digestFrom := by decide +kernel
theorem mmX3_digestFrom_11 : (Cond.fieldLink RX3 33 "BlindBells$Valley" "needVillage" "[I") ∈ wsX3_digestFrom := by decide +kernel
theorem mmX3_digestFrom_12 : (Cond.fieldLink RX3 36 "BlindBells$Valley" "needWind" "[I") ∈ wsX3_digestFrom := by decide +kernel
theorem mmX3_digestFrom_13 : (Cond.fieldLink RX3 39 "BlindBells$Valley" "needSeen" "[I") ∈ wsX3_digestFrom := by decide +kernel
theorem mmX3_digestFrom_14 : (Cond.fieldLink RX3 59 "BlindBells$Valley" "signs" "I") ∈ wsX3_digestFrom := by decide +kernel
theorem mmX3_digestFrom_15 : (Cond.fieldLink RX3 42 "BlindBells$Valley" "sign" "[I") ∈ wsX3_digestFrom := by decide +kernel
theorem hdX3_digestFrom : yX3_digestFrom.cls = RX3 ∧ yX3_digestFrom.cls ≠ "java/lang/invoke/MethodHandle" ∧ yX3_digestFrom.cls ≠ "java/lang/invoke/VarHandle" ∧ (parseMethodDescriptor yX3_digestFrom.desc).map (fun d => d.parameters.length) = some 1 := by decide +kernel
abbrev rmX3_digestFrom : Room := { frames := 0, cells := 0, slots := 0, locals := 0 }
set_option maxHeartbeats 4000000 in
set_option maxRecDepth 100000 in
theorem lX3_digestFrom_62 {p : Program} {e : Env} {s : State} {m : MethodId} {args : Array Value} {below : List Frame} {meth : Method} {c : Code} {A : Nat → Prop} (l : Launch) (G : GG) (C : Cx p m c cX3_digestFrom 7 s args wsX3_digestFrom RX3 meth (some .long) G A) (a : Nat → Nat) (a_villages : Int32) (a_woods : Int32) (a_needs : Int32) (a_signs : Int32) (a_temper : Nat → Int32) (a_friend : Nat → Int32) (a_rope : Nat → Int32) (a_hears : Nat → Int32) (a_shut : Nat → Int32) (a_woodBell : Nat → Int32) (a_woodVillage : Nat → Int32) (a_needVillage : Nat → Int32) (a_needWind : Nat → Int32) (a_needSeen : Nat → Int32) (a_sign : Nat → Int32) (p0 : Int64) (x5_5 : Int32) (out : Int64) (kx : Int64 → Int32 → Option (Int64)) (HX : ∀ (x3_62 : Int64) (x6_62 : Int32) (H : Heap) (locs : List Loc) (ls : Array Slot), va_P G.1 vwCl (flat [wX3 G a a_villages a_woods a_needs a_signs a_temper a_friend a_rope a_hears a_shut a_woodBell a_woodVillage a_needVillage a_needWind a_needSeen a_sign]) H → va_D A (flat [wX3 G a a_villages a_woods a_needs a_signs a_temper a_friend a_rope a_hears a_shut a_woodBell a_woodVillage a_needVillage a_needWind a_needSeen a_sign]) → va_S A s.heap H locs → lv_has ls 7 [(0, .ref (a 0)), (1, .long p0), (3, .long x3_62), (5, .int x5_5), (6, .int x6_62)] → kx x3_62 x6_62 = some out → W p l e rmX3_digestFrom s m args below meth c H locs 0 0 (MQ below (QL G A out (flat [wX3 G a a_villages a_woods a_needs a_signs a_temper a_friend a_rope a_hears a_shut a_woodBell a_woodVillage a_needVillage a_needWind a_needSeen a_sign])) args s 0 0 A) (F0 m 94 ls [])) : ∀ (n : Nat) (x3_62 : Int64) (x6_62 : Int32) (H : Heap) (locs : List Loc) (ls : Array Slot), va_P G.1 vwCl (flat [wX3 G a a_villages a_woods a_needs a_signs a_temper a_friend a_rope a_hears a_shut a_woodBell a_woodVillage a_needVillage a_needWind a_needSeen a_sign]) H → va_D A (flat [wX3 G a a_villages a_woods a_needs a_signs a_temper a_friend a_rope a_hears a_shut a_woodBell a_woodVillage a_needVillage a_needWind a_needSeen a_sign]) → va_S A s.heap H locs → lv_has ls 7 [(0, .ref (a 0)), (1, .long p0), (3, .long x3_62), (5, .int x5_5), (6, .int x6_62)] → fX3_digestFrom_62 a_hears x5_5 kx n x3_62 x6_62 = some out → W p l e rmX3_digestFrom s m args below meth c H locs 0 0 (MQ below (QL G A out (flat [wX3 G a a_villages a_woods a_needs a_signs a_temper a_friend a_rope a_hears a_shut a_woodBell a_woodVillage a_needVillage a_needWind a_needSeen a_sign])) args s 0 0 A) (F0 m 62 ls []) := by
  obtain ⟨⟨hx, hb, hml, hown, hts⟩, hr, hlocks, hK, hN, hE, hA⟩ := id C
  intro n
  induction n with
  | zero =>
    intro x3_62 x6_62 H locs ls hP hD hS hl hf
    exact absurd (show (none : Option (Int64)) = some out from hf) (by intro q9; cases q9)
  | succ n ih =>
    intro x3_62 x6_62 H locs ls hP hD hS hl hf
    rw [fX3_digestFrom_62] at hf
    refine lv_iload hx hb dX3_digestFrom_62 (lv_at hl 4 rfl) ?_
    refine lv_iconst (v := 4) hx hb dX3_digestFrom_64 (by decide) ?_
    refine lv_icmp_ge (tgt := 94) hx hb dX3_digestFrom_65 (by decide) (fun c5 => ?_) (fun c5 => ?_)
    · have hf := (o_i hf).1 c5
      exact HX _ _ _ _ _ hP hD hS (lv_sub hl [0, 1, 2, 3, 4] rfl) hf
    have hf := (o_i hf).2 c5
    refine lv_ldc2 (v := 31) hx hb hown (hts _ mmX3_digestFrom_2) dX3_digestFrom_68 ?_
    refine lv_lload_n hx hb dX3_digestFrom_71 rfl (lv_at hl 2 rfl) ?_
    refine lv_lmul hx hb dX3_digestFrom_72 ?_
    refine lv_aload_n hx hb dX3_digestFrom_73 rfl (lv_at hl 0 rfl) ?_
    refine va_get (D := G.1) (ci := 3) (v := .ref (a 4)) (C := RX3) (T := TX3) (N := 15) hx hb hts iiX3_digestFrom_X3 hown hK hP 0 rfl rfl 7 (by decide) (hts _ mmX3_digestFrom_6) (fun _ h9 => h9) rfl dX3_digestFrom_74 ?_
    refine lv_iload hx hb dX3_digestFrom_77 (lv_at hl 3 rfl) ?_
    refine lv_iconst (v := 4) hx hb dX3_digestFrom_79 (by decide) ?_
    refine lv_imul hx hb dX3_digestFrom_80 ?_
    refine lv_iload hx hb dX3_digestFrom_81 (lv_at hl 4 rfl) ?_
    refine at_pc (pc' := 83) rfl ?_
    refine lv_iadd hx hb dX3_digestFrom_83 ?_
    obtain ⟨z6, hz6, hf⟩ := o_b hf
    refine k_iald hx hb hK hP 4 0 rfl rfl hz6 dX3_digestFrom_84 ?_
    refine lv_i2l (v := z6.toInt64) hx hb dX3_digestFrom_85 rfl ?_
    refine lv_ladd hx hb dX3_digestFrom_86 ?_
    refine lv_lstore_n (lv' := [(3, .long ((31 * x3_62) + z6.toInt64)), (0, .ref (a 0)), (1, .long p0), (5, .int x5_5), (6, .int x6_62)]) hx hb dX3_digestFrom_87 rfl hl (by decide) rfl (fun ls hl => ?_)
    refine lv_iinc (v := x6_62 + 1) (lv' := [(6, .int (x6_62 + 1)), (3, .long ((31 * x3_62) + z6.toInt64)), (0, .ref (a 0)), (1, .long p0), (5, .int x5_5)]) hx hb dX3_digestFrom_88 hl (k := 4) rfl (congrArg (fun z => x6_62 + z) (by decide)) (by decide) rfl (fun ls hl => ?_)
    refine lv_goto (tgt := 62) hx hb dX3_digestFrom_91 (by decide) ?_
    exact ih _ _ _ _ _ hP hD hS (lv_sub hl [2, 3, 1, 4, 0] rfl) hf
set_option maxHeartbeats 4000000 in
set_option maxRecDepth 100000 in
theorem lX3_digestFrom_5 {p : Program} {e : Env} {s : State} {m : MethodId} {args : Array Value} {below : List Frame} {meth : Method} {c : Code} {A : Nat → Prop} (l : Launch) (G : GG) (C : Cx p m c cX3_digestFrom 7 s args wsX3_digestFrom RX3 meth (some .long) G A) (a : Nat → Nat) (a_villages : Int32) (a_woods : Int32) (a_needs : Int32) (a_signs : Int32) (a_temper : Nat → Int32) (a_friend : Nat → Int32) (a_rope : Nat → Int32) (a_hears : Nat → Int32) (a_shut : Nat → Int32) (a_woodBell : Nat → Int32) (a_woodVillage : Nat → Int32) (a_needVillage : Nat → Int32) (a_needWind : Nat → Int32) (a_needSeen : Nat → Int32) (a_sign : Nat → Int32) (p0 : Int64) (out : Int64) (kx : Int64 → Int32 → Option (Int64)) (HX : ∀ (x3_5 : Int64) (x5_5 : Int32) (H : Heap) (locs : List Loc) (ls : Array Slot), va_P G.1 vwCl (flat [wX3 G a a_villages a_woods a_needs a_signs a_temper a_friend a_rope a_hears a_shut a_woodBell a_woodVillage a_needVillage a_needWind a_needSeen a_sign]) H → va_D A (flat [wX3 G a a_villages a_woods a_needs a_signs a_temper a_friend a_rope a_hears a_shut a_woodBell a_woodVillage a_needVillage a_needWind a_needSeen a_sign]) → va_S A s.heap H locs → lv_has ls 7 [(0, .ref (a 0)), (1, .long p0), (3, .long x3_5), (5, .int x5_5)] → kx x3_5 x5_5 = some out → W p l e rmX3_digestFrom s m args below meth c H locs 0 0 (MQ below (QL G A out (flat [wX3 G a a_villages a_woods a_needs a_signs a_temper a_friend a_rope a_hears a_shut a_woodBell a_woodVillage a_needVillage a_needWind a_needSeen a_sign])) args s 0 0 A) (F0 m 100 ls [])) : ∀ (n : Nat) (x3_5 : Int64) (x5_5 : Int32) (H : Heap) (locs : List Loc) (ls : Array Slot), va_P G.1 vwCl (flat [wX3 G a a_villages a_woods a_needs a_signs a_temper a_friend a_rope a_hears a_shut a_woodBell a_woodVillage a_needVillage a_needWind a_needSeen a_sign]) H → va_D A (flat [wX3 G a a_villages a_woods a_needs a_signs a_temper a_friend a_rope a_hears a_shut a_woodBell a_woodVillage a_needVillage a_needWind a_needSeen a_sign]) → va_S A s.heap H locs → lv_has ls 7 [(0, .ref (a 0)), (1, .long p0), (3, .long x3_5), (5, .int x5_5)] → fX3_digestFrom_5 a_villages a_temper a_friend a_rope a_hears kx n x3_5 x5_5 = some out → W p l e rmX3_digestFrom s m args below meth c H locs 0 0 (MQ below (QL G A out (flat [wX3 G a a_villages a_woods a_needs a_signs a_temper a_friend a_rope a_hears a_shut a_woodBell a_woodVillage a_needVillage a_needWind a_needSeen a_sign])) args s 0 0 A) (F0 m 5 ls []) := by
  obtain ⟨⟨hx, hb, hml, hown, hts⟩, hr, hlocks, hK, hN, hE, hA⟩ := id C
  intro n
  induction n with
  | zero =>
    intro x3_5 x5_5 H locs ls hP hD hS hl hf
    exact absurd (show (none : Option (Int64)) = some out from hf) (by intro q9; cases q9)
  | succ n ih =>
    intro x3_5 x5_5 H locs ls hP hD hS hl hf
    rw [fX3_digestFrom_5] at hf
    refine lv_iload hx hb dX3_digestFrom_5 (lv_at hl 3 rfl) ?_
    refine lv_aload_n hx hb dX3_digestFrom_7 rfl (lv_at hl 0 rfl) ?_
    refine va_get (D := G.1) (ci := 3) (v := .int a_villages) (C := RX3) (T := TX3) (N := 15) hx hb hts iiX3_digestFrom_X3 hown hK hP 0 rfl rfl 0 (by decide) (hts _ mmX3_digestFrom_1) (fun _ h9 => h9) rfl dX3_digestFrom_8 ?_
    refine lv_icmp_ge (tgt := 100) hx hb dX3_digestFrom_11 (by decide) (fun c1 => ?_) (fun c1 => ?_)
    · have hf := (o_i hf).1 c1
      exact HX _ _ _ _ _ hP hD hS (lv_sub hl [0, 1, 2, 3] rfl) hf
    have hf := (o_i hf).2 c1
    refine lv_ldc2 (v := 31) hx hb hown (hts _ mmX3_digestFrom_2) dX3_digestFrom_14 ?_
    refine lv_lload_n hx hb dX3_digestFrom_17 rfl (lv_at hl 2 rfl) ?_
    refine lv_lmul hx hb dX3_digestFrom_18 ?_
    refine lv_aload_n hx hb dX3_digestFrom_19 rfl (lv_at hl 0 rfl) ?_
    refine va_get (D := G.1) (ci := 3) (v := .ref (a 1)) (C := RX3) (T := TX3) (N := 15) hx hb hts iiX3_digestFrom_X3 hown hK hP 0 rfl rfl 4 (by decide) (hts _ mmX3_digestFrom_3) (fun _ h9 => h9) rfl dX3_digestFrom_20 ?_
    refine lv_iload hx hb dX3_digestFrom_23 (lv_at hl 3 rfl) ?_
    obtain ⟨z2, hz2, hf⟩ := o_b hf
    refine k_iald hx hb hK hP 1 0 rfl rfl hz2 dX3_digestFrom_25 ?_
    refine lv_i2l (v := z2.toInt64) hx hb dX3_digestFrom_26 rfl ?_
    refine lv_ladd hx hb dX3_digestFrom_27 ?_
    refine at_pc (pc' := 28) rfl ?_
    refine lv_lstore_n (lv' := [(3, .long ((31 * x3_5) + z2.toInt64)), (0, .ref (a 0)), (1, .long p0), (5, .int x5_5)]) hx hb dX3_digestFrom_28 rfl hl (by decide) rfl (fun ls hl => ?_)
    refine lv_ldc2 (v := 31) hx hb hown (hts _ mmX3_digestFrom_2) dX3_digestFrom_29 ?_
    refine lv_lload_n hx hb dX3_digestFrom_32 rfl (lv_at hl 0 rfl) ?_
    refine lv_lmul hx hb dX3_digestFrom_33 ?_
    refine lv_aload_n hx hb dX3_digestFrom_34 rfl (lv_at hl 1 rfl) ?_
    refine va_get (D := G.1) (ci := 3) (v := .ref (a 2)) (C := RX3) (T := TX3) (N := 15) hx hb hts iiX3_digestFrom_X3 hown hK hP 0 rfl rfl 5 (by decide) (hts _ mmX3_digestFrom_4) (fun _ h9 => h9) rfl dX3_digestFrom_35 ?_
    refine lv_iload hx hb dX3_digestFrom_38 (lv_at hl 3 rfl) ?_
    obtain ⟨z3, hz3, hf⟩ := o_b hf
    refine k_iald hx hb hK hP 2 0 rfl rfl hz3 dX3_digestFrom_40 ?_
    refine lv_i2l (v := z3.toInt64) hx hb dX3_digestFrom_41 rfl ?_
    refine lv_ladd hx hb dX3_digestFrom_42 ?_
    refine at_pc (pc' := 43) rfl ?_
    refine lv_lstore_n (lv' := [(3, .long ((31 * ((31 * x3_5) + z2.toInt64)) + z3.toInt64)), (0, .ref (a 0)), (1, .long p0), (5, .int x5_5)]) hx hb dX3_digestFrom_43 rfl hl (by decide) rfl (fun ls hl => ?_)
    refine lv_ldc2 (v := 31) hx hb hown (hts _ mmX3_digestFrom_2) dX3_digestFrom_44 ?_
    refine lv_lload_n hx hb dX3_digestFrom_47 rfl (lv_at hl 0 rfl) ?_
    refine lv_lmul hx hb dX3_digestFrom_48 ?_
    refine lv_aload_n hx hb dX3_digestFrom_49 rfl (lv_at hl 1 rfl) ?_
    refine va_get (D := G.1) (ci := 3) (v := .ref (a 3)) (C := RX3) (T := TX3) (N := 15) hx hb hts iiX3_digestFrom_X3 hown hK hP 0 rfl rfl 6 (by decide) (hts _ mmX3_digestFrom_5) (fun _ h9 => h9) rfl dX3_digestFrom_50 ?_
    refine lv_iload hx hb dX3_digestFrom_53 (lv_at hl 3 rfl) ?_
    obtain ⟨z4, hz4, hf⟩ := o_b hf
    refine k_iald hx hb hK hP 3 0 rfl rfl hz4 dX3_digestFrom_55 ?_
    refine lv_i2l (v := z4.toInt64) hx hb dX3_digestFrom_56 rfl ?_
    refine lv_ladd hx hb dX3_digestFrom_57 ?_
    refine at_pc (pc' := 58) rfl ?_
    refine lv_lstore_n (lv' := [(3, .long ((31 * ((31 * ((31 * x3_5) + z2.toInt64)) + z3.toInt64)) + z4.toInt64)), (0, .ref (a 0)), (1, .long p0), (5, .int x5_5)]) hx hb dX3_digestFrom_58 rfl hl (by decide) rfl (fun ls hl => ?_)
    refine lv_iconst (v := 0) hx hb dX3_digestFrom_59 (by decide) ?_
    refine lv_istore (lv' := [(6, .int 0), (3, .long ((31 * ((31 * ((31 * x3_5) + z2.toInt64)) + z3.toInt64)) + z4.toInt64)), (0, .ref (a 0)), (1, .long p0), (5, .int x5_5)]) hx hb dX3_digestFrom_60 hl (by decide) rfl (fun ls hl => ?_)
    refine lX3_digestFrom_62 l G C a a_villages a_woods a_needs a_signs a_temper a_friend a_rope a_hears a_shut a_woodBell a_woodVillage a_needVillage a_needWind a_needSeen a_sign p0 x5_5 out _ (fun x3_62_7 x6_62_8 H locs ls hP hD hS hl hf => ?_) fu ((31 * ((31 * ((31 * x3_5) + z2.toInt64)) + z3.toInt64)) + z4.toInt64) 0 _ _ _ hP hD hS (lv_sub hl [2, 3, 1, 4, 0] rfl) hf
    refine lv_iinc (v := x5_5 + 1) (lv' := [(5, .int (x5_5 + 1)), (0, .ref (a 0)), (1, .long p0), (3, .long x3_62_7), (6, .int x6_62_8)]) hx hb dX3_digestFrom_94 hl (k := 3) rfl (congrArg (fun z => x5_5 + z) (by decide)) (by decide) rfl (fun ls hl => ?_)
    refine lv_goto (tgt := 5) hx hb dX3_digestFrom_97 (by decide) ?_
    exact ih _ _ _ _ _ hP hD hS (lv_sub hl [1, 2, 3, 0] rfl) hf
set_option maxHeartbeats 4000000 in
set_option maxRecDepth 100000 in
theorem lX3_digestFrom_103 {p : Program} {e : Env} {s : State} {m : MethodId} {args : Array Value} {below : List Frame} {meth : Method} {c : Code} {A : Nat → Prop} (l : Launch) (G : GG) (C : Cx p m c cX3_digestFrom 7 s args wsX3_digestFrom RX3 meth (some .long) G A) (a : Nat → Nat) (a_villages : Int32) (a_woods : Int32) (a_needs : Int32) (a_signs : Int32) (a_temper : Nat → Int32) (a_friend : Nat → Int32) (a_rope : Nat → Int32) (a_hears : Nat → Int32) (a_shut : Nat → Int32) (a_woodBell : Nat → Int32) (a_woodVillage : Nat → Int32) (a_needVillage : Nat → Int32) (a_needWind : Nat → Int32) (a_needSeen : Nat → Int32) (a_sign : Nat → Int32) (p0 : Int64) (out : Int64) (kx : Int64 → Int32 → Option (Int64)) (HX : ∀ (x3_103 : Int64) (x5_103 : Int32) (H : Heap) (locs : List Loc) (ls : Array Slot), va_P G.1 vwCl (flat [wX3 G a a_villages a_woods a_needs a_signs a_temper a_friend a_rope a_hears a_shut a_woodBell a_woodVillage a_needVillage a_needWind a_needSeen a_sign]) H → va_D A (flat [wX3 G a a_villages a_woods a_needs a_signs a_temper a_friend a_rope a_hears a_shut a_woodBell a_woodVillage a_needVillage a_needWind a_needSeen a_sign]) → va_S A s.heap H locs → lv_has ls 7 [(0, .ref (a 0)), (1, .long p0), (3, .long x3_103), (5, .int x5_103)] → kx x3_103 x5_103 = some out → W p l e rmX3_digestFrom s m args below meth c H locs 0 0 (MQ below (QL G A out (flat [wX3 G a a_villages a_woods a_needs a_signs a_temper a_friend a_rope a_hears a_shut a_woodBell a_woodVillage a_needVillage a_needWind a_needSeen a_sign])) args s 0 0 A) (F0 m 148 ls [])) : ∀ (n : Nat) (x3_103 : Int64) (x5_103 : Int32) (H : Heap) (locs : List Loc) (ls : Array Slot), va_P G.1 vwCl (flat [wX3 G a a_villages a_woods a_needs a_signs a_temper a_friend a_rope a_hears a_shut a_woodBell a_woodVillage a_needVillage a_needWind a_needSeen a_sign]) H → va_D A (flat [wX3 G a a_villages a_woods a_needs a_signs a_temper a_friend a_rope a_hears a_shut a_woodBell a_woodVillage a_needVillage a_needWind a_needSeen a_sign]) → va_S A s.heap H locs → lv_has ls 7 [(0, .ref (a 0)), (1, .long p0), (3, .long x3_103), (5, .int x5_103)] → fX3_digestFrom_103 a_woods a_woodBell a_woodVillage kx n x3_103 x5_103 = some out → W p l e rmX3_digestFrom s m args below meth c H locs 0 0 (MQ below (QL G A out (flat [wX3 G a a_villages a_woods a_needs a_signs a_temper a_friend a_rope a_hears a_shut a_woodBell a_woodVillage a_needVillage a_needWind a_needSeen a_sign])) args s 0 0 A) (F0 m 103 ls []) := by
  obtain ⟨⟨hx, hb, hml, hown, hts⟩, hr, hlocks, hK, hN, hE, hA⟩ := id C
  intro n
  induction n with
  | zero =>
    intro x3_103 x5_103 H locs ls hP hD hS hl hf
    exact absurd (show (none : Option (Int64)) = some out from hf) (by intro q9; cases q9)
  | succ n ih =>
    intro x3_103 x5_103 H locs ls hP hD hS hl hf
    rw [fX3_digestFrom_103] at hf
    refine lv_iload hx hb dX3_digestFrom_103 (lv_at hl 3 rfl) ?_
    refine lv_aload_n hx hb dX3_digestFrom_105 rfl (lv_at hl 0 rfl) ?_
    refine va_get (D := G.1) (ci := 3) (v := .int a_woods) (C := RX3) (T := TX3) (N := 15) hx hb hts iiX3_digestFrom_X3 hown hK hP 0 rfl rfl 1 (by decide) (hts _ mmX3_digestFrom_7) (fun _ h9 => h9) rfl dX3_digestFrom_106 ?_
    refine lv_icmp_ge (tgt := 148) hx hb dX3_digestFrom_109 (by decide) (fun c11 => ?_) (fun c11 => ?_)
    · have hf := (o_i hf).1 c11
      exact HX _ _ _ _ _ hP hD hS (lv_sub hl [0, 1, 2, 3] rfl) hf
    have hf := (o_i hf).2 c11
    refine lv_ldc2 (v := 31) hx hb hown (hts _ mmX3_digestFrom_2) dX3_digestFrom_112 ?_
    refine lv_lload_n hx hb dX3_digestFrom_115 rfl (lv_at hl 2 rfl) ?_
    refine lv_lmul hx hb dX3_digestFrom_116 ?_
    refine lv_aload_n hx hb dX3_digestFrom_117 rfl (lv_at hl 0 rfl) ?_
    refine va_get (D := G.1) (ci := 3) (v := .ref (a 6)) (C := RX3) (T := TX3) (N := 15) hx hb hts iiX3_digestFrom_X3 hown hK hP 0 rfl rfl 9 (by decide) (hts _ mmX3_digestFrom_8) (fun _ h9 => h9) rfl dX3_digestFrom_118 ?_
    refine lv_iload hx hb dX3_digestFrom_121 (lv_at hl 3 rfl) ?_
    obtain ⟨z12, hz12, hf⟩ := o_b hf
    refine k_iald hx hb hK hP 6 0 rfl rfl hz12 dX3_digestFrom_123 ?_
    refine lv_i2l (v := z12.toInt64) hx hb dX3_digestFrom_124 rfl ?_
    refine lv_ladd hx hb dX3_digestFrom_125 ?_
    refine at_pc (pc' := 126) rfl ?_
    refine lv_lstore_n (lv' := [(3, .long ((31 * x3_103) + z12.toInt64)), (0, .ref (a 0)), (1, .long p0), (5, .int x5_103)]) hx hb dX3_digestFrom_126 rfl hl (by decide) rfl (fun ls hl => ?_)
    refine lv_ldc2 (v := 31) hx hb hown (hts _ mmX3_digestFrom_2) dX3_digestFrom_127 ?_
    refine lv_lload_n hx hb dX3_digestFrom_130 rfl (lv_at hl 0 rfl) ?_
    refine lv_lmul hx hb dX3_digestFrom_131 ?_
    refine lv_aload_n hx hb dX3_digestFrom_132 rfl (lv_at hl 1 rfl) ?_
    refine va_get (D := G.1) (ci := 3) (v := .ref (a 7)) (C := RX3) (T := TX3) (N := 15) hx hb hts iiX3_digestFrom_X3 hown hK hP 0 rfl rfl 10 (by decide) (hts _ mmX3_digestFrom_9) (fun _ h9 => h9) rfl dX3_digestFrom_133 ?_
    refine lv_iload hx hb dX3_digestFrom_136 (lv_at hl 3 rfl) ?_
    obtain ⟨z13, hz13, hf⟩ := o_b hf
    refine k_iald hx hb hK hP 7 0 rfl rfl hz13 dX3_digestFrom_138 ?_
    refine lv_i2l (v := z13.toInt64) hx hb dX3_digestFrom_139 rfl ?_
    refine lv_ladd hx hb dX3_digestFrom_140 ?_
    refine at_pc (pc' := 141) rfl ?_
    refine lv_lstore_n (lv' := [(3, .long ((31 * ((31 * x3_103) + z12.toInt64)) + z13.toInt64)), (0, .ref (a 0)), (1, .long p0), (5, .int x5_103)]) hx hb dX3_digestFrom_141 rfl hl (by decide) rfl (fun ls hl => ?_)
    refine lv_iinc (v := x5_103 + 1) (lv' := [(5, .int (x5_103 + 1)), (3, .long ((31 * ((31 * x3_103) + z12.toInt64)) + z13.toInt64)), (0, .ref (a 0)), (1, .long p0)]) hx hb dX3_digestFrom_142 hl (k := 3) rfl (congrArg (fun z => x5_103 + z) (by decide)) (by decide) rfl (fun ls hl => ?_)
    refine lv_goto (tgt := 103) hx hb dX3_digestFrom_145 (by decide) ?_
    exact ih _ _ _ _ _ hP hD hS (lv_sub hl [2, 3, 1, 0] rfl) hf
set_option maxHeartbeats 4000000 in
set_option maxRecDepth 100000 in
theorem lX3_digestFrom_151 {p : Program} {e : Env} {s : State} {m : MethodId} {args : Array Value} {below : List Frame} {meth : Method} {c : Code} {A : Nat → Prop} (l : Launch) (G : GG) (C : Cx p m c cX3_digestFrom 7 s args wsX3_digestFrom RX3 meth (some .long) G A) (a : Nat → Nat) (a_villages : Int32) (a_woods : Int32) (a_needs : Int32) (a_signs : Int32) (a_temper : Nat → Int32) (a_friend : Nat → Int32) (a_rope : Nat → Int32) (a_hears : Nat → Int32) (a_shut : Nat → Int32) (a_woodBell : Nat → Int32) (a_woodVillage : Nat → Int32) (a_needVillage : Nat → Int32) (a_needWind : Nat → Int32) (a_needSeen : Nat → Int32) (a_sign : Nat → Int32) (p0 : Int64) (out : Int64) (kx : Int64 → Int32 → Option (Int64)) (HX : ∀ (x3_151 : Int64) (x5_151 : Int32) (H : Heap) (locs : List Loc) (ls : Array Slot), va_P G.1 vwCl (flat [wX3 G a a_villages a_woods a_needs a_signs a_temper a_friend a_rope a_hears a_shut a_woodBell a_woodVillage a_needVillage a_needWind a_needSeen a_sign]) H → va_D A (flat [wX3 G a a_villages a_woods a_needs a_signs a_temper a_friend a_rope a_hears a_shut a_woodBell a_woodVillage a_needVillage a_needWind a_needSeen a_sign]) → va_S A s.heap H locs → lv_has ls 7 [(0, .ref (a 0)), (1, .long p0), (3, .long x3_151), (5, .int x5_151)] → kx x3_151 x5_151 = some out → W p l e rmX3_digestFrom s m args below meth c H locs 0 0 (MQ below (QL G A out (flat [wX3 G a a_villages a_woods a_needs a_signs a_temper a_friend a_rope a_hears a_shut a_woodBell a_woodVillage a_needVillage a_needWind a_needSeen a_sign])) args s 0 0 A) (F0 m 211 ls [])) : ∀ (n : Nat) (x3_151 : Int64) (x5_151 : Int32) (H : Heap) (locs : List Loc) (ls : Array Slot), va_P G.1 vwCl (flat [wX3 G a a_villages a_woods a_needs a_signs a_temper a_friend a_rope a_hears a_shut a_woodBell a_woodVillage a_needVillage a_needWind a_needSeen a_sign]) H → va_D A (flat [wX3 G a a_villages a_woods a_needs a_signs a_temper a_friend a_rope a_hears a_shut a_woodBell a_woodVillage a_needVillage a_needWind a_needSeen a_sign]) → va_S A s.heap H locs → lv_has ls 7 [(0, .ref (a 0)), (1, .long p0), (3, .long x3_151), (5, .int x5_151)] → fX3_digestFrom_151 a_needs a_needVillage a_needWind a_needSeen kx n x3_151 x5_151 = some out → W p l e rmX3_digestFrom s m args below meth c H locs 0 0 (MQ below (QL G A out (flat [wX3 G a a_villages a_woods a_needs a_signs a_temper a_friend a_rope a_hears a_shut a_woodBell a_woodVillage a_needVillage a_needWind a_needSeen a_sign])) args s 0 0 A) (F0 m 151 ls []) := by
  obtain ⟨⟨hx, hb, hml, hown, hts⟩, hr, hlocks, hK, hN, hE, hA⟩ := id C
  intro n
  induction n with
  | zero =>
    intro x3_151 x5_151 H locs ls hP hD hS hl hf
    exact absurd (show (none : Option (Int64)) = some out from hf) (by intro q9; cases q9)
  | succ n ih =>
    intro x3_151 x5_151 H locs ls hP hD hS hl hf
    rw [fX3_digestFrom_151] at hf
    refine lv_iload hx hb dX3_digestFrom_151 (lv_at hl 3 rfl) ?_
    refine lv_aload_n hx hb dX3_digestFrom_153 rfl (lv_at hl 0 rfl) ?_
    refine va_get (D := G.1) (ci := 3) (v := .int a_needs) (C := RX3) (T := TX3) (N := 15) hx hb hts iiX3_digestFrom_X3 hown hK hP 0 rfl rfl 2 (by decide) (hts _ mmX3_digestFrom_10) (fun _ h9 => h9) rfl dX3_digestFrom_154 ?_
    refine lv_icmp_ge (tgt := 211) hx hb dX3_digestFrom_157 (by decide) (fun c16 => ?_) (fun c16 => ?_)
    · have hf := (o_i hf).1 c16
      exact HX _ _ _ _ _ hP hD hS (lv_sub hl [0, 1, 2, 3] rfl) hf
    have hf := (o_i hf).2 c16
    refine lv_ldc2 (v := 31) hx hb hown (hts _ mmX3_digestFrom_2) dX3_digestFrom_160 ?_
    refine lv_lload_n hx hb dX3_digestFrom_163 rfl (lv_at hl 2 rfl) ?_
    refine lv_lmul hx hb dX3_digestFrom_164 ?_
    refine lv_aload_n hx hb dX3_digestFrom_165 rfl (lv_at hl 0 rfl) ?_
    refine va_get (D := G.1) (ci := 3) (v := .ref (a 8)) (C := RX3) (T := TX3) (N := 15) hx hb hts iiX3_digestFrom_X3 hown hK hP 0 rfl rfl 11 (by decide) (hts _ mmX3_digestFrom_11) (fun _ h9 => h9) rfl dX3_digestFrom_166 ?_
    refine lv_iload hx hb dX3_digestFrom_169 (lv_at hl 3 rfl) ?_
    obtain ⟨z17, hz17, hf⟩ := o_b hf
    refine k_iald hx hb hK hP 8 0 rfl rfl hz17 dX3_digestFrom_171 ?_
    refine lv_i2l (v := z17.toInt64) hx hb dX3_digestFrom_172 rfl ?_
    refine lv_ladd hx hb dX3_digestFrom_173 ?_
    refine at_pc (pc' := 174) rfl ?_
    refine lv_lstore_n (lv' := [(3, .long ((31 * x3_151) + z17.toInt64)), (0, .ref (a 0)), (1, .long p0), (5, .int x5_151)]) hx hb dX3_digestFrom_174 rfl hl (by decide) rfl (fun ls hl => ?_)
    refine lv_ldc2 (v := 31) hx hb hown (hts _ mmX3_digestFrom_2) dX3_digestFrom_175 ?_
    refine lv_lload_n hx hb dX3_digestFrom_178 rfl (lv_at hl 0 rfl) ?_
    refine lv_lmul hx hb dX3_digestFrom_179 ?_
    refine lv_aload_n hx hb dX3_digestFrom_180 rfl (lv_at hl 1 rfl) ?_
    refine va_get (D := G.1) (ci := 3) (v := .ref (a 9)) (C := RX3) (T := TX3) (N := 15) hx hb hts iiX3_digestFrom_X3 hown hK hP 0 rfl rfl 12 (by decide) (hts _ mmX3_digestFrom_12) (fun _ h9 => h9) rfl dX3_digestFrom_181 ?_
    refine lv_iload hx hb dX3_digestFrom_184 (lv_at hl 3 rfl) ?_
    obtain ⟨z18, hz18, hf⟩ := o_b hf
    refine k_iald hx hb hK hP 9 0 rfl rfl hz18 dX3_digestFrom_186 ?_
    refine lv_i2l (v := z18.toInt64) hx hb dX3_digestFrom_187 rfl ?_
    refine lv_ladd hx hb dX3_digestFrom_188 ?_
    refine at_pc (pc' := 189) rfl ?_
    refine lv_lstore_n (lv' := [(3, .long ((31 * ((31 * x3_151) + z17.toInt64)) + z18.toInt64)), (0, .ref (a 0)), (1, .long p0), (5, .int x5_151)]) hx hb dX3_digestFrom_189 rfl hl (by decide) rfl (fun ls hl => ?_)
    refine lv_ldc2 (v := 31) hx hb hown (hts _ mmX3_digestFrom_2) dX3_digestFrom_190 ?_
    refine lv_lload_n hx hb dX3_digestFrom_193 rfl (lv_at hl 0 rfl) ?_
    refine lv_lmul hx hb dX3_digestFrom_194 ?_
    refine lv_aload_n hx hb dX3_digestFrom_195 rfl (lv_at hl 1 rfl) ?_
    refine va_get (D := G.1) (ci := 3) (v := .ref (a 10)) (C := RX3) (T := TX3) (N := 15) hx hb hts iiX3_digestFrom_X3 hown hK hP 0 rfl rfl 13 (by decide) (hts _ mmX3_digestFrom_13) (fun _ h9 => h9) rfl dX3_digestFrom_196 ?_
    refine lv_iload hx hb dX3_digestFrom_199 (lv_at hl 3 rfl) ?_
    obtain ⟨z19, hz19, hf⟩ := o_b hf
    refine k_iald hx hb hK hP 10 0 rfl rfl hz19 dX3_digestFrom_201 ?_
    refine lv_i2l (v := z19.toInt64) hx hb dX3_digestFrom_202 rfl ?_
    refine lv_ladd hx hb dX3_digestFrom_203 ?_
    refine at_pc (pc' := 204) rfl ?_
    refine lv_lstore_n (lv' := [(3, .long ((31 * ((31 * ((31 * x3_151) + z17.toInt64)) + z18.toInt64)) + z19.toInt64)), (0, .ref (a 0)), (1, .long p0), (5, .int x5_151)]) hx hb dX3_digestFrom_204 rfl hl (by decide) rfl (fun ls hl => ?_)
    refine lv_iinc (v := x5_151 + 1) (lv' := [(5, .int (x5_151 + 1)), (3, .long ((31 * ((31 * ((31 * x3_151) + z17.toInt64)) + z18.toInt64)) + z19.toInt64)), (0, .ref (a 0)), (1, .long p0)]) hx hb dX3_digestFrom_205 hl (k := 3) rfl (congrArg (fun z => x5_151 + z) (by decide)) (by decide) rfl (fun ls hl => ?_)
    refine lv_goto (tgt := 151) hx hb dX3_digestFrom_208 (by decide) ?_
    exact ih _ _ _ _ _ hP hD hS (lv_sub hl [2, 3, 1, 0] rfl) hf
set_option maxHeartbeats 4000000 in
set_option maxRecDepth 100000 in
theorem lX3_digestFrom_214 {p : Program} {e : Env} {s : State} {m : MethodId} {args : Array Value} {below : List Frame} {meth : Method} {c : Code} {A : Nat → Prop} (l : Launch) (G : GG) (C : Cx p m c cX3_digestFrom 7 s args wsX3_digestFrom RX3 meth (some .long) G A) (a : Nat → Nat) (a_villages : Int32) (a_woods : Int32) (a_needs : Int32) (a_signs : Int32) (a_temper : Nat → Int32) (a_friend : Nat → Int32) (a_rope : Nat → Int32) (a_hears : Nat → Int32) (a_shut : Nat → Int32) (a_woodBell : Nat → Int32) (a_woodVillage : Nat → Int32) (a_needVillage : Nat → Int32) (a_needWind : Nat → Int32) (a_needSeen : Nat → Int32) (a_sign : Nat → Int32) (p0 : Int64) (out : Int64) (kx : Int64 → Int32 → Option (Int64)) (HX : ∀ (x3_214 : Int64) (x5_214 : Int32) (H : Heap) (locs : List Loc) (ls : Array Slot), va_P G.1 vwCl (flat [wX3 G a a_villages a_woods a_needs a_signs a_temper a_friend a_rope a_hears a_shut a_woodBell a_woodVillage a_needVillage a_needWind a_needSeen a_sign]) H → va_D A (flat [wX3 G a a_villages a_woods a_needs a_signs a_temper a_friend a_rope a_hears a_shut a_woodBell a_woodVillage a_needVillage a_needWind a_needSeen a_sign]) → va_S A s.heap H locs → lv_has ls 7 [(0, .ref (a 0)), (1, .long p0), (3, .long x3_214), (5, .int x5_214)] → kx x3_214 x5_214 = some out → W p l e rmX3_digestFrom s m args below meth c H locs 0 0 (MQ below (QL G A out (flat [wX3 G a a_villages a_woods a_needs a_signs a_temper a_friend a_rope a_hears a_shut a_woodBell a_woodVillage a_needVillage a_needWind a_needSeen a_sign])) args s 0 0 A) (F0 m 244 ls [])) : ∀ (n : Nat) (x3_214 : Int64) (x5_214 : Int32) (H : Heap) (locs : List Loc) (ls : Array Slot), va_P G.1 vwCl (flat [wX3 G a a_villages a_woods a_needs a_signs a_temper a_friend a_rope a_hears a_shut a_woodBell a_woodVillage a_needVillage a_needWind a_needSeen a_sign]) H → va_D A (flat [wX3 G a a_villages a_woods a_needs a_signs a_temper a_friend a_rope a_hears a_shut a_woodBell a_woodVillage a_needVillage a_needWind a_needSeen a_sign]) → va_S A s.heap H locs → lv_has ls 7 [(0, .ref (a 0)), (1, .long p0), (3, .long x3_214), (5, .int x5_214)] → fX3_digestFrom_214 a_signs a_sign kx n x3_214 x5_214 = some out → W p l e rmX3_digestFrom s m args below meth c H locs 0 0 (MQ below (QL G A out (flat [wX3 G a a_villages a_woods a_needs a_signs a_temper a_friend a_rope a_hears a_shut a_woodBell a_woodVillage a_needVillage a_needWind a_needSeen a_sign])) args s 0 0 A) (F0 m 214 ls []) := by
  obtain ⟨⟨hx, hb, hml, hown, hts⟩, hr, hlocks, hK, hN, hE, hA⟩ := id C
  intro n
  induction n with
  | zero =>
    intro x3_214 x5_214 H locs ls hP hD hS hl hf
    exact absurd (show (none : Option (Int64)) = some out from hf) (by intro q9; cases q9)
  | succ n ih =>
    intro x3_214 x5_214 H locs ls hP hD hS hl hf
    rw [fX3_digestFrom_214] at hf
    refine lv_iload hx hb dX3_digestFrom_214 (lv_at hl 3 rfl) ?_
    refine lv_aload_n hx hb dX3_digestFrom_216 rfl (lv_at hl 0 rfl) ?_
    refine va_get (D := G.1) (ci := 3) (v := .int a_signs) (C := RX3) (T := TX3) (N := 15) hx hb hts iiX3_digestFrom_X3 hown hK hP 0 rfl rfl 3 (by decide) (hts _ mmX3_digestFrom_14) (fun _ h9 => h9) rfl dX3_digestFrom_217 ?_
    refine lv_icmp_ge (tgt := 244) hx hb dX3_digestFrom_220 (by decide) (fun c22 => ?_) (fun c22 => ?_)
    · have hf := (o_i hf).1 c22
      exact HX _ _ _ _ _ hP hD hS (lv_sub hl [0, 1, 2, 3] rfl) hf
    have hf := (o_i hf).2 c22
    refine lv_ldc2 (v := 31) hx hb hown (hts _ mmX3_digestFrom_2) dX3_digestFrom_223 ?_
    refine lv_lload_n hx hb dX3_digestFrom_226 rfl (lv_at hl 2 rfl) ?_
    refine lv_lmul hx hb dX3_digestFrom_227 ?_
    refine lv_aload_n hx hb dX3_digestFrom_228 rfl (lv_at hl 0 rfl) ?_
    refine va_get (D := G.1) (ci := 3) (v := .ref (a 11)) (C := RX3) (T := TX3) (N := 15) hx hb hts iiX3_digestFrom_X3 hown hK hP 0 rfl rfl 14 (by decide) (hts _ mmX3_digestFrom_15) (fun _ h9 => h9) rfl dX3_digestFrom_229 ?_
    refine lv_iload hx hb dX3_digestFrom_232 (lv_at hl 3 rfl) ?_
    obtain ⟨z23, hz23, hf⟩ := o_b hf
    refine k_iald hx hb hK hP 11 0 rfl rfl hz23 dX3_digestFrom_234 ?_
    refine lv_i2l (v := z23.toInt64) hx hb dX3_digestFrom_235 rfl ?_
    refine lv_ladd hx hb dX3_digestFrom_236 ?_
    refine at_pc (pc' := 237) rfl ?_
    refine lv_lstore_n (lv' := [(3, .long ((31 * x3_214) + z23.toInt64)), (0, .ref (a 0)), (1, .long p0), (5, .int x5_214)]) hx hb dX3_digestFrom_237 rfl hl (by decide) rfl (fun ls hl => ?_)
    refine lv_iinc (v := x5_214 + 1) (lv' := [(5, .int (x5_214 + 1)), (3, .long ((31 * x3_214) + z23.toInt64)), (0, .ref (a 0)), (1, .long p0)]) hx hb dX3_digestFrom_238 hl (k := 3) rfl (congrArg (fun z => x5_214 + z) (by decide)) (by decide) rfl (fun ls hl => ?_)
    refine lv_goto (tgt := 214) hx hb dX3_digestFrom_241 (by decide) ?_
    exact ih _ _ _ _ _ hP hD hS (lv_sub hl [2, 3, 1, 0] rfl) hf
set_option maxHeartbeats 4000000 in
set_option maxRecDepth 100000 in
theorem tX3_digestFrom (l : Launch) (G : GG) (a : Nat → Nat) (a_villages : Int32) (a_woods : Int32) (a_needs : Int32) (a_signs : Int32) (a_temper : Nat → Int32) (a_friend : Nat → Int32) (a_rope : Nat → Int32) (a_hears : Nat → Int32) (a_shut : Nat → Int32) (a_woodBell : Nat → Int32) (a_woodVillage : Nat → Int32) (a_needVillage : Nat → Int32) (a_needWind : Nat → Int32) (a_needSeen : Nat → Int32) (a_sign : Nat → Int32) (p0 : Int64) (out : Int64) (hf : fX3_digestFrom a_villages a_woods a_needs a_signs a_temper a_friend a_rope a_hears a_woodBell a_woodVillage a_needVillage a_needWind a_needSeen a_sign p0 = some out) : cMl l G yX3_digestFrom wsX3_digestFrom rmX3_digestFrom [.ref (a 0), .long p0] (flat [wX3 G a a_villages a_woods a_needs a_signs a_temper a_friend a_rope a_hears a_shut a_woodBell a_woodVillage a_needVillage a_needWind a_needSeen a_sign]) out (flat [wX3 G a a_villages a_woods a_needs a_signs a_temper a_friend a_rope a_hears a_shut a_woodBell a_woodVillage a_needVillage a_needWind a_needSeen a_sign]) := by
  intro sz
  refine met_of (cc := cX3_digestFrom) (nL := 7) (ret := (some .long)) (Qc := fun A9 => QL G A9 out (flat [wX3 G a a_villages a_woods a_needs a_signs a_temper a_friend a_rope a_hears a_shut a_woodBell a_woodVillage a_needVillage a_needWind a_needSeen a_sign])) (by decide) rfl (Nat.le_of_ble_eq_true rfl) ?_
  intro p e s m args below meth c A ls C hP hD hS hl
  obtain ⟨⟨hx, hb, hml, hown, hts⟩, hr, hlocks, hK, hN, hE, hA⟩ := id C
  have hl : lv_has ls 7 [(0, .ref (a 0)), (1, .long p0)] := hl
  unfold fX3_digestFrom at hf
  refine lv_lload_n hx hb dX3_digestFrom_0 rfl (lv_at hl 1 rfl) ?_
  refine lv_lstore_n (lv' := [(3, .long p0), (0, .ref (a 0)), (1, .long p0)]) hx hb dX3_digestFrom_1 rfl hl (by decide) rfl (fun ls hl => ?_)
  refine lv_iconst (v := 0) hx hb dX3_digestFrom_2 (by decide) ?_
  refine lv_istore (lv' := [(5, .int 0), (3, .long p0), (0, .ref (a 0)), (1, .long p0)]) hx hb dX3_digestFrom_3 hl (by decide) rfl (fun ls hl => ?_)
  refine lX3_digestFrom_5 l G C a a_villages a_woods a_needs a_signs a_temper a_friend a_rope a_hears a_shut a_woodBell a_woodVillage a_needVillage a_needWind a_needSeen a_sign p0 out _ (fun x3_5_9 x5_5_10 H locs ls hP hD hS hl hf => ?_) fu p0 0 _ _ _ hP hD hS (lv_sub hl [2, 3, 1, 0] rfl) hf
  refine lv_iconst (v := 0) hx hb dX3_digestFrom_100 (by decide) ?_
  refine lv_istore (lv' := [(5, .int 0), (0, .ref (a 0)), (1, .long p0), (3, .long x3_5_9)]) hx hb dX3_digestFrom_101 hl (by decide) rfl (fun ls hl => ?_)
  refine lX3_digestFrom_103 l G C a a_villages a_woods a_needs a_signs a_temper a_friend a_rope a_hears a_shut a_woodBell a_woodVillage a_needVillage a_needWind a_needSeen a_sign p0 out _ (fun x3_103_14 x5_103_15 H locs ls hP hD hS hl hf => ?_) fu x3_5_9 0 _ _ _ hP hD hS (lv_sub hl [1, 2, 3, 0] rfl) hf
  refine lv_iconst (v := 0) hx hb dX3_digestFrom_148 (by decide) ?_
  refine lv_istore (lv' := [(5, .int 0), (0, .ref (a 0)), (1, .long p0), (3, .long x3_103_14)]) hx hb dX3_digestFrom_149 hl (by decide) rfl (fun ls hl => ?_)
  refine lX3_digestFrom_151 l G C a a_villages a_woods a_needs a_signs a_temper a_friend a_rope a_hears a_shut a_woodBell a_woodVillage a_needVillage a_needWind a_needSeen a_sign p0 out _ (fun x3_151_20 x5_151_21 H locs ls hP hD hS hl hf => ?_) fu x3_103_14 0 _ _ _ hP hD hS (lv_sub hl [1, 2, 3, 0] rfl) hf
  refine lv_iconst (v := 0) hx hb dX3_digestFrom_211 (by decide) ?_
  refine lv_istore (lv' := [(5, .int 0), (0, .ref (a 0)), (1, .long p0), (3, .long x3_151_20)]) hx hb dX3_digestFrom_212 hl (by decide) rfl (fun ls hl => ?_)
  refine lX3_digestFrom_214 l G C a a_villages a_woods a_needs a_signs a_temper a_friend a_rope a_hears a_shut a_woodBell a_woodVillage a_needVillage a_needWind a_needSeen a_sign p0 out _ (fun x3_214_24 x5_214_25 H locs ls hP hD hS hl hf => ?_) fu x3_151_20 0 _ _ _ hP hD hS (lv_sub hl [1, 2, 3, 0] rfl) hf
  refine lv_lload_n hx hb dX3_digestFrom_244 rfl (lv_at hl 2 rfl) ?_
  have e9 := Option.some.inj hf
  subst e9
  exact rt_l C hP hS rfl dX3_digestFrom_245

/-! RX6 isSide(I)Z -/
theorem hdX6_isSide : yX6_isSide.cls ≠ "java/lang/invoke/MethodHandle" ∧ yX6_isSide.cls ≠ "java/lang/invoke/VarHandle" ∧ (parseMethodDescriptor yX6_isSide.desc).map (fun d => d.parameters.length) = some 1 := by decide +kernel
abbrev rmX6_isSide : Room := { frames := 0, cells := 0, slots := 0, locals := 0 }
set_option maxHeartbeats 4000000 in
set_option maxRecDepth 100000 in
theorem tX6_isSide (l : Launch) (G : GG) (p0 : Int32) (out : Int32) (hf : fX6_isSide p0 = some out) : cMi l G yX6_isSide wsX6_isSide rmX6_isSide [.int p0] (flat []) out (flat []) := by
  intro sz
  refine met_of (cc := cX6_isSide) (nL := 1) (ret := (some .boolean)) (Qc := fun A9 => QI G A9 out (flat [])) (by decide) rfl (Nat.le_of_ble_eq_true rfl) ?_
  intro p e s m args below meth c A ls C hP hD hS hl
  obtain ⟨⟨hx, hb, hml, hown, hts⟩, hr, hlocks, hK, hN, hE, hA⟩ := id C
  have hl : lv_has ls 1 [(0, .int p0)] := hl
  unfold fX6_isSide at hf
  refine lv_iload_n hx hb dX6_isSide_0 rfl (lv_at hl 0 rfl) ?_
  refine lv_if_eq (tgt := 9) hx hb dX6_isSide_1 (by decide) (fun c1 => ?_) (fun c1 => ?_)
  · have hf := (o_i hf).1 c1
    refine lv_iconst (v := 1) hx hb dX6_isSide_9 (by decide) ?_
    refine lv_goto (tgt := 14) hx hb dX6_isSide_10 (by decide) ?_
    have e9 := Option.some.inj hf
    subst e9
    exact rt_z C hP hS rfl rfl dX6_isSide_14
  have hf := (o_i hf).2 c1
  refine lv_iload_n hx hb dX6_isSide_4 rfl (lv_at hl 0 rfl) ?_
  refine lv_iconst (v := 1) hx hb dX6_isSide_5 (by decide) ?_
  refine lv_icmp_ne (tgt := 13) hx hb dX6_isSide_6 (by decide) (fun c2 => ?_) (fun c2 => ?_)
  · have hf := (o_i hf).2 c2
    refine lv_iconst (v := 0) hx hb dX6_isSide_13 (by decide) ?_
    have e9 := Option.some.inj hf
    subst e9
    exact rt_z C hP hS rfl rfl dX6_isSide_14
  have hf := (o_i hf).1 c2
  refine lv_iconst (v := 1) hx hb dX6_isSide_9 (by decide) ?_
  refine lv_goto (tgt := 14) hx hb dX6_isSide_10 (by decide) ?_
  have e9 := Option.some.inj hf
  subst e9
  exact rt_z C hP hS rfl rfl dX6_isSide_14
