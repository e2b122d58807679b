/-! RX2 write(JI)I -/
theorem iiX2_write_X2 : ∀ w ∈ wsX20, w ∈ wsX2_write := by decide +kernel
theorem mmX2_write_1 : (Cond.fieldLink RX2 19 "BlindBells$Tale" "length" "I") ∈ wsX2_write := by decide +kernel
theorem mmX2_write_2 : (Cond.fieldLink RX2 9 "BlindBells$Tale" "text" "[B") ∈ wsX2_write := by decide +kernel
theorem hdX2_write : yX2_write.cls = RX2 ∧ yX2_write.cls ≠ "java/lang/invoke/MethodHandle" ∧ yX2_write.cls ≠ "java/lang/invoke/VarHandle" ∧ (parseMethodDescriptor yX2_write.desc).map (fun d => d.parameters.length) = some 2 := by decide +kernel
abbrev rmX2_write : Room := { frames := 0, cells := 0, slots := 0, locals := 0 }
set_option maxHeartbeats 4000000 in
set_option maxRecDepth 100000 in
theorem lX2_write_34 {p : Program} {e : Env} {s : State} {m : MethodId} {args : Array Value} {below : List Frame} {meth : Method} {c : Code} {A : Nat → Prop} (l : Launch) (G : GG) (C : Cx p m c cX2_write 5 s args wsX2_write RX2 meth (some .int) G A) (a : Nat → Nat) (a_length : Int32) (a_text : Nat → Int32) (a_number : Nat → Int32) (a_word : Int32) (a_numbers : Int32) (a_items : Int32) (a_refused : Int32) (p0 : Int64) (p1 : Int32) (out : Int32 × Int32 × (Nat → Int32)) (kx : Int32 → Int32 → (Nat → Int32) → Option (Int32 × Int32 × (Nat → Int32))) (HX : ∀ (x4_34 : Int32) (a_length_34 : Int32) (a_text_34 : Nat → Int32) (H : Heap) (locs : List Loc) (ls : Array Slot), va_P G.1 vwCl (flat [wX2 G a a_length_34 a_text_34 a_number a_word a_numbers a_items a_refused]) H → va_D A (flat [wX2 G a a_length_34 a_text_34 a_number a_word a_numbers a_items a_refused]) → va_S A s.heap H locs → lv_has ls 5 [(0, .ref (a 0)), (1, .long p0), (3, .int p1), (4, .int x4_34)] → kx x4_34 a_length_34 a_text_34 = some out → W p l e rmX2_write s m args below meth c H locs 0 0 (MQ below (QI G A out.1 (flat [wX2 G a out.2.1 out.2.2 a_number a_word a_numbers a_items a_refused])) args s 0 0 A) (F0 m 73 ls [])) : ∀ (n : Nat) (x4_34 : Int32) (a_length_34 : Int32) (a_text_34 : Nat → Int32) (H : Heap) (locs : List Loc) (ls : Array Slot), va_P G.1 vwCl (flat [wX2 G a a_length_34 a_text_34 a_number a_word a_numbers a_items a_refused]) H → va_D A (flat [wX2 G a a_length_34 a_text_34 a_number a_word a_numbers a_items a_refused]) → va_S A s.heap H locs → lv_has ls 5 [(0, .ref (a 0)), (1, .long p0), (3, .int p1), (4, .int x4_34)] → fX2_write_34 p0 kx n x4_34 a_length_34 a_text_34 = some out → W p l e rmX2_write s m args below meth c H locs 0 0 (MQ below (QI G A out.1 (flat [wX2 G a out.2.1 out.2.2 a_number a_word a_numbers a_items a_refused])) args s 0 0 A) (F0 m 34 ls []) := by
  obtain ⟨⟨hx, hb, hml, hown, hts⟩, hr, hlocks, hK, hN, hE, hA⟩ := id C
  intro n
  induction n with
  | zero =>
    intro x4_34 a_length_34 a_text_34 H locs ls hP hD hS hl hf
    exact absurd (show (none : Option (Int32 × Int32 × (Nat → Int32))) = some out from hf) (by intro q9; cases q9)
  | succ n ih =>
    intro x4_34 a_length_34 a_text_34 H locs ls hP hD hS hl hf
    rw [fX2_write_34] at hf
    refine lv_iload hx hb dX2_write_34 (lv_at hl 3 rfl) ?_
    refine lv_if_lt (tgt := 73) hx hb dX2_write_36 (by decide) (fun c4 => ?_) (fun c4 => ?_)
    · have hf := (o_i hf).1 c4
      exact HX _ _ _ _ _ _ hP hD hS (lv_sub hl [0, 1, 2, 3] rfl) hf
    have hf := (o_i hf).2 c4
    refine lv_aload_n hx hb dX2_write_39 rfl (lv_at hl 0 rfl) ?_
    refine va_get (D := G.1) (ci := 2) (v := .ref (a 1)) (C := RX2) (T := TX2) (N := 7) hx hb hts iiX2_write_X2 hown hK hP 0 rfl rfl 1 (by decide) (hts _ mmX2_write_2) (fun _ h9 => h9) rfl dX2_write_40 ?_
    refine lv_aload_n hx hb dX2_write_43 rfl (lv_at hl 0 rfl) ?_
    refine va_get (D := G.1) (ci := 2) (v := .int a_length_34) (C := RX2) (T := TX2) (N := 7) hx hb hts iiX2_write_X2 hown hK hP 0 rfl rfl 0 (by decide) (hts _ mmX2_write_1) (fun _ h9 => h9) rfl dX2_write_44 ?_
    refine lv_lload_n hx hb dX2_write_47 rfl (lv_at hl 1 rfl) ?_
    refine lv_bipush (v := 8) hx hb dX2_write_48 (by decide) ?_
    refine lv_iload hx hb dX2_write_50 (lv_at hl 3 rfl) ?_
    refine lv_imul hx hb dX2_write_52 ?_
    refine lv_lshr (v := p0 >>> ((8 * x4_34).toInt64 &&& 63)) hx hb dX2_write_53 rfl ?_
    refine at_pc (pc' := 54) rfl ?_
    refine lv_l2i (v := (p0 >>> ((8 * x4_34).toInt64 &&& 63)).toInt32) hx hb dX2_write_54 rfl ?_
    refine lv_i2b (v := ((p0 >>> ((8 * x4_34).toInt64 &&& 63)).toInt32).toInt8.toInt32) hx hb dX2_write_55 rfl ?_
    obtain ⟨u5, hu5, hf⟩ := o_b hf
    refine k_bast hx hb hK hP hD hS 1 1 rfl rfl hu5 dX2_write_56 (fun H locs hP hD hS => ?_)
    have hP : va_P G.1 vwCl (flat [wX2 G a a_length_34 u5 a_number a_word a_numbers a_items a_refused]) H := hP
    have hD : va_D A (flat [wX2 G a a_length_34 u5 a_number a_word a_numbers a_items a_refused]) := hD
    refine lv_aload_n hx hb dX2_write_57 rfl (lv_at hl 0 rfl) ?_
    refine lv_dup hx hb dX2_write_58 rfl ?_
    refine va_get (D := G.1) (ci := 2) (v := .int a_length_34) (C := RX2) (T := TX2) (N := 7) hx hb hts iiX2_write_X2 hown hK hP 0 rfl rfl 0 (by decide) (hts _ mmX2_write_1) (fun _ h9 => h9) rfl dX2_write_59 ?_
    refine lv_iconst (v := 1) hx hb dX2_write_62 (by decide) ?_
    refine lv_iadd hx hb dX2_write_63 ?_
    refine va_put (D := G.1) (ci := 2) (v := .int (a_length_34 + 1)) (ty := .int) (C := RX2) (T := TX2) (N := 7) hx hb hts iiX2_write_X2 tyX2 tyX2_ok nmX2 hown hK hP hD hS 0 rfl rfl 0 (by decide) (hts _ mmX2_write_1) (fun _ h9 => h9) rfl (by decide +kernel) rfl rfl (Nat.le_of_ble_eq_true rfl) dX2_write_64 (fun H locs hP hD hS => ?_)
    have hP : va_P G.1 vwCl (flat [wX2 G a (a_length_34 + 1) u5 a_number a_word a_numbers a_items a_refused]) H := hP
    have hD : va_D A (flat [wX2 G a (a_length_34 + 1) u5 a_number a_word a_numbers a_items a_refused]) := hD
    refine lv_iinc (v := x4_34 + (-1)) (lv' := [(4, .int (x4_34 + (-1))), (0, .ref (a 0)), (1, .long p0), (3, .int p1)]) hx hb dX2_write_67 hl (k := 3) rfl (congrArg (fun z => x4_34 + z) (by decide)) (by decide) rfl (fun ls hl => ?_)
    refine at_pc (pc' := 70) rfl ?_
    refine lv_goto (tgt := 34) hx hb dX2_write_70 (by decide) ?_
    exact ih _ _ _ _ _ _ hP hD hS (lv_sub hl [1, 2, 3, 0] rfl) hf
set_option maxHeartbeats 4000000 in
set_option maxRecDepth 100000 in
theorem tX2_write (l : Launch) (G : GG) (a : Nat → Nat) (a_length : Int32) (a_text : Nat → Int32) (a_number : Nat → Int32) (a_word : Int32) (a_numbers : Int32) (a_items : Int32) (a_refused : Int32) (p0 : Int64) (p1 : Int32) (out : Int32 × Int32 × (Nat → Int32)) (hf : fX2_write a_length a_text p0 p1 = some out) : cMi l G yX2_write wsX2_write rmX2_write [.ref (a 0), .long p0, .int p1] (flat [wX2 G a a_length a_text a_number a_word a_numbers a_items a_refused]) out.1 (flat [wX2 G a out.2.1 out.2.2 a_number a_word a_numbers a_items a_refused]) := by
  intro sz
  refine met_of (cc := cX2_write) (nL := 5) (ret := (some .int)) (Qc := fun A9 => QI G A9 out.1 (flat [wX2 G a out.2.1 out.2.2 a_number a_word a_numbers a_items a_refused])) (by decide) rfl (Nat.le_of_ble_eq_true rfl) ?_
  intro p e s m args below meth c A ls C hP hD hS hl
  obtain ⟨⟨hx, hb, hml, hown, hts⟩, hr, hlocks, hK, hN, hE, hA⟩ := id C
  have hl : lv_has ls 5 [(0, .ref (a 0)), (1, .long p0), (3, .int p1)] := hl
  unfold fX2_write at hf
  refine lv_iload_n hx hb dX2_write_0 rfl (lv_at hl 2 rfl) ?_
  refine lv_iconst (v := 1) hx hb dX2_write_1 (by decide) ?_
  refine lv_icmp_lt (tgt := 11) hx hb dX2_write_2 (by decide) (fun c1 => ?_) (fun c1 => ?_)
  · have hf := (o_i hf).1 c1
    refine lv_bipush (v := (-2)) hx hb dX2_write_11 (by decide) ?_
    have e9 := Option.some.inj hf
    subst e9
    exact rt_i C hP hS rfl dX2_write_13
  have hf := (o_i hf).2 c1
  refine lv_iload_n hx hb dX2_write_5 rfl (lv_at hl 2 rfl) ?_
  refine lv_bipush (v := 8) hx hb dX2_write_6 (by decide) ?_
  refine lv_icmp_le (tgt := 14) hx hb dX2_write_8 (by decide) (fun c2 => ?_) (fun c2 => ?_)
  · have hf := (o_i hf).1 c2
    refine lv_aload_n hx hb dX2_write_14 rfl (lv_at hl 0 rfl) ?_
    refine va_get (D := G.1) (ci := 2) (v := .int a_length) (C := RX2) (T := TX2) (N := 7) hx hb hts iiX2_write_X2 hown hK hP 0 rfl rfl 0 (by decide) (hts _ mmX2_write_1) (fun _ h9 => h9) rfl dX2_write_15 ?_
    refine lv_iload_n hx hb dX2_write_18 rfl (lv_at hl 2 rfl) ?_
    refine lv_iadd hx hb dX2_write_19 ?_
    refine lv_sipush (v := 250) hx hb dX2_write_20 (by decide) ?_
    refine lv_icmp_le (tgt := 29) hx hb dX2_write_23 (by decide) (fun c3 => ?_) (fun c3 => ?_)
    · have hf := (o_i hf).1 c3
      refine lv_iload_n hx hb dX2_write_29 rfl (lv_at hl 2 rfl) ?_
      refine lv_iconst (v := 1) hx hb dX2_write_30 (by decide) ?_
      refine lv_isub hx hb dX2_write_31 ?_
      refine lv_istore (lv' := [(4, .int (p1 - 1)), (0, .ref (a 0)), (1, .long p0), (3, .int p1)]) hx hb dX2_write_32 hl (by decide) rfl (fun ls hl => ?_)
      refine lX2_write_34 l G C a a_length a_text a_number a_word a_numbers a_items a_refused p0 p1 out _ (fun x4_34_6 a_length_34_7 a_text_34_8 H locs ls hP hD hS hl hf => ?_) fu (p1 - 1) a_length a_text _ _ _ hP hD hS (lv_sub hl [1, 2, 3, 0] rfl) hf
      refine lv_aload_n hx hb dX2_write_73 rfl (lv_at hl 0 rfl) ?_
      refine va_get (D := G.1) (ci := 2) (v := .int a_length_34_7) (C := RX2) (T := TX2) (N := 7) hx hb hts iiX2_write_X2 hown hK hP 0 rfl rfl 0 (by decide) (hts _ mmX2_write_1) (fun _ h9 => h9) rfl dX2_write_74 ?_
      have e9 := Option.some.inj hf
      subst e9
      exact rt_i C hP hS rfl dX2_write_77
    have hf := (o_i hf).2 c3
    refine lv_bipush (v := (-4)) hx hb dX2_write_26 (by decide) ?_
    have e9 := Option.some.inj hf
    subst e9
    exact rt_i C hP hS rfl dX2_write_28
  have hf := (o_i hf).2 c2
  refine lv_bipush (v := (-2)) hx hb dX2_write_11 (by decide) ?_
  have e9 := Option.some.inj hf
  subst e9
  exact rt_i C hP hS rfl dX2_write_13

/-! RX2 wipe()I -/
theorem iiX2_wipe_X2 : ∀ w ∈ wsX20, w ∈ wsX2_wipe := by decide +kernel
theorem mmX2_wipe_1 : (Cond.fieldLink RX2 19 "BlindBells$Tale" "length" "I") ∈ wsX2_wipe := by decide +kernel
theorem hdX2_wipe : yX2_wipe.cls = RX2 ∧ yX2_wipe.cls ≠ "java/lang/invoke/MethodHandle" ∧ yX2_wipe.cls ≠ "java/lang/invoke/VarHandle" ∧ (parseMethodDescriptor yX2_wipe.desc).map (fun d => d.parameters.length) = some 0 := by decide +kernel
abbrev rmX2_wipe : Room := { frames := 0, cells := 0, slots := 0, locals := 0 }
set_option maxHeartbeats 4000000 in
set_option maxRecDepth 100000 in
theorem tX2_wipe (l : Launch) (G : GG) (a : Nat → Nat) (a_length : Int32) (a_text : Nat → Int32) (a_number : Nat → Int32) (a_word : Int32) (a_numbers : Int32) (a_items : Int32) (a_refused : Int32) (out : Int32 × Int32) (hf : fX2_wipe a_length = some out) : cMi l G yX2_wipe wsX2_wipe rmX2_wipe [.ref (a 0)] (flat [wX2 G a a_length a_text a_number a_word a_numbers a_items a_refused]) out.1 (flat [wX2 G a out.2 a_text a_number a_word a_numbers a_items a_refused]) := by
  intro sz
  refine met_of (cc := cX2_wipe) (nL := 2) (ret := (some .int)) (Qc := fun A9 => QI G A9 out.1 (flat [wX2 G a out.2 a_text a_number a_word a_numbers a_items a_refused])) (by decide) rfl (Nat.le_of_ble_eq_true rfl) ?_
  intro p e s m args below meth c A ls C hP hD hS hl
  obtain ⟨⟨hx, hb, hml, hown, hts⟩, hr, hlocks, hK, hN, hE, hA⟩ := id C
  have hl : lv_has ls 2 [(0, .ref (a 0))] := hl
  unfold fX2_wipe at hf
  refine lv_aload_n hx hb dX2_wipe_0 rfl (lv_at hl 0 rfl) ?_
  refine va_get (D := G.1) (ci := 2) (v := .int a_length) (C := RX2) (T := TX2) (N := 7) hx hb hts iiX2_wipe_X2 hown hK hP 0 rfl rfl 0 (by decide) (hts _ mmX2_wipe_1) (fun _ h9 => h9) rfl dX2_wipe_1 ?_
  refine lv_istore_n (lv' := [(1, .int a_length), (0, .ref (a 0))]) hx hb dX2_wipe_4 rfl hl (by decide) rfl (fun ls hl => ?_)
  refine lv_aload_n hx hb dX2_wipe_5 rfl (lv_at hl 1 rfl) ?_
  refine lv_iconst (v := 0) hx hb dX2_wipe_6 (by decide) ?_
  refine va_put (D := G.1) (ci := 2) (v := .int 0) (ty := .int) (C := RX2) (T := TX2) (N := 7) hx hb hts iiX2_wipe_X2 tyX2 tyX2_ok nmX2 hown hK hP hD hS 0 rfl rfl 0 (by decide) (hts _ mmX2_wipe_1) (fun _ h9 => h9) rfl (by decide +kernel) rfl rfl (Nat.le_of_ble_eq_true rfl) dX2_wipe_7 (fun H locs hP hD hS => ?_)
  have hP : va_P G.1 vwCl (flat [wX2 G a 0 a_text a_number a_word a_numbers a_items a_refused]) H := hP
  have hD : va_D A (flat [wX2 G a 0 a_text a_number a_word a_numbers a_items a_refused]) := hD
  refine lv_iload_n hx hb dX2_wipe_10 rfl (lv_at hl 0 rfl) ?_
  have e9 := Option.some.inj hf
  subst e9
  exact rt_i C hP hS rfl dX2_wipe_11

/-! RX2 isLetter(B)Z -/
theorem hdX2_isLetter : yX2_isLetter.cls ≠ "java/lang/invoke/MethodHandle" ∧ yX2_isLetter.cls ≠ "java/lang/invoke/VarHandle" ∧ (parseMethodDescriptor yX2_isLetter.desc).map (fun d => d.parameters.length) = some 1 := by decide +kernel
abbrev rmX2_isLetter : Room := { frames := 0, cells := 0, slots := 0, locals := 0 }
set_option maxHeartbeats 4000000 in
set_option maxRecDepth 100000 in
theorem tX2_isLetter (l : Launch) (G : GG) (p0 : Int32) (out : Int32) (hf : fX2_isLetter p0 = some out) : cMi l G yX2_isLetter wsX2_isLetter rmX2_isLetter [.int p0] (flat []) out (flat []) := by
  intro sz
  refine met_of (cc := cX2_isLetter) (nL := 1) (ret := (some .boolean)) (Qc := fun A9 => QI G A9 out (flat [])) (by decide) rfl (Nat.le_of_ble_eq_true rfl) ?_
  intro p e s m args below meth c A ls C hP hD hS hl
  obtain ⟨⟨hx, hb, hml, hown, hts⟩, hr, hlocks, hK, hN, hE, hA⟩ := id C
  have hl : lv_has ls 1 [(0, .int p0)] := hl
  unfold fX2_isLetter at hf
  refine lv_iload_n hx hb dX2_isLetter_0 rfl (lv_at hl 0 rfl) ?_
  refine lv_bipush (v := 97) hx hb dX2_isLetter_1 (by decide) ?_
  refine lv_icmp_lt (tgt := 16) hx hb dX2_isLetter_3 (by decide) (fun c1 => ?_) (fun c1 => ?_)
  · have hf := (o_i hf).1 c1
    refine lv_iconst (v := 0) hx hb dX2_isLetter_16 (by decide) ?_
    have e9 := Option.some.inj hf
    subst e9
    exact rt_z C hP hS rfl rfl dX2_isLetter_17
  have hf := (o_i hf).2 c1
  refine lv_iload_n hx hb dX2_isLetter_6 rfl (lv_at hl 0 rfl) ?_
  refine lv_bipush (v := 122) hx hb dX2_isLetter_7 (by decide) ?_
  refine lv_icmp_gt (tgt := 16) hx hb dX2_isLetter_9 (by decide) (fun c2 => ?_) (fun c2 => ?_)
  · have hf := (o_i hf).1 c2
    refine lv_iconst (v := 0) hx hb dX2_isLetter_16 (by decide) ?_
    have e9 := Option.some.inj hf
    subst e9
    exact rt_z C hP hS rfl rfl dX2_isLetter_17
  have hf := (o_i hf).2 c2
  refine lv_iconst (v := 1) hx hb dX2_isLetter_12 (by decide) ?_
  refine lv_goto (tgt := 17) hx hb dX2_isLetter_13 (by decide) ?_
  have e9 := Option.some.inj hf
  subst e9
  exact rt_z C hP hS rfl rfl dX2_isLetter_17

/-! RX2 isFigure(B)Z -/
theorem hdX2_isFigure : yX2_isFigure.cls ≠ "java/lang/invoke/MethodHandle" ∧ yX2_isFigure.cls ≠ "java/lang/invoke/VarHandle" ∧ (parseMethodDescriptor yX2_isFigure.desc).map (fun d => d.parameters.length) = some 1 := by decide +kernel
abbrev rmX2_isFigure : Room := { frames := 0, cells := 0, slots := 0, locals := 0 }
set_option maxHeartbeats 4000000 in
set_option maxRecDepth 100000 in
theorem tX2_isFigure (l : Launch) (G : GG) (p0 : Int32) (out : Int32) (hf : fX2_isFigure p0 = some out) : cMi l G yX2_isFigure wsX2_isFigure rmX2_isFigure [.int p0] (flat []) out (flat []) := by
  intro sz
  refine met_of (cc := cX2_isFigure) (nL := 1) (ret := (some .boolean)) (Qc := fun A9 => QI G A9 out (flat [])) (by decide) rfl (Nat.le_of_ble_eq_true rfl) ?_
  intro p e s m args below meth c A ls C hP hD hS hl
  obtain ⟨⟨hx, hb, hml, hown, hts⟩, hr, hlocks, hK, hN, hE, hA⟩ := id C
  have hl : lv_has ls 1 [(0, .int p0)] := hl
  unfold fX2_isFigure at hf
  refine lv_iload_n hx hb dX2_isFigure_0 rfl (lv_at hl 0 rfl) ?_
  refine lv_bipush (v := 48) hx hb dX2_isFigure_1 (by decide) ?_
  refine lv_icmp_lt (tgt := 16) hx hb dX2_isFigure_3 (by decide) (fun c1 => ?_) (fun c1 => ?_)
  · have hf := (o_i hf).1 c1
    refine lv_iconst (v := 0) hx hb dX2_isFigure_16 (by decide) ?_
    have e9 := Option.some.inj hf
    subst e9
    exact rt_z C hP hS rfl rfl dX2_isFigure_17
  have hf := (o_i hf).2 c1
  refine lv_iload_n hx hb dX2_isFigure_6 rfl (lv_at hl 0 rfl) ?_
  refine lv_bipush (v := 57) hx hb dX2_isFigure_7 (by decide) ?_
  refine lv_icmp_gt (tgt := 16) hx hb dX2_isFigure_9 (by decide) (fun c2 => ?_) (fun c2 => ?_)
  · have hf := (o_i hf).1 c2
    refine lv_iconst (v := 0) hx hb dX2_isFigure_16 (by decide) ?_
    have e9 := Option.some.inj hf
    subst e9
    exact rt_z C hP hS rfl rfl dX2_isFigure_17
  have hf := (o_i hf).2 c2
  refine lv_iconst (v := 1) hx hb dX2_isFigure_12 (by decide) ?_
  refine lv_goto (tgt := 17) hx hb dX2_isFigure_13 (by decide) ?_
  have e9 := Option.some.inj hf
  subst e9
  exact rt_z C hP hS rfl rfl dX2_isFigure_17

/-! RX2 endOfToken(I)I -/
theorem iiX2_endOfToken_X2 : ∀ w ∈ wsX20, w ∈ wsX2_endOfToken := by decide +kernel
theorem mmX2_endOfToken_1 : (Cond.fieldLink RX2 9 "BlindBells$Tale" "text" "[B") ∈ wsX2_endOfToken := by decide +kernel
theorem mmX2_endOfToken_2 : (Cond.fieldLink RX2 19 "BlindBells$Tale" "length" "I") ∈ wsX2_endOfToken := by decide +kernel
theorem hdX2_endOfToken : yX2_endOfToken.cls = RX2 ∧ yX2_endOfToken.cls ≠ "java/lang/invoke/MethodHandle" ∧ yX2_endOfToken.cls ≠ "java/lang/invoke/VarHandle" ∧ (parseMethodDescriptor yX2_endOfToken.desc).map (fun d => d.parameters.length) = some 1 := by decide +kernel
abbrev rmX2_endOfToken : Room := { frames := 1, cells := 0, slots := 0, locals := 20 }
set_option maxHeartbeats 4000000 in
set_option maxRecDepth 100000 in
theorem lX2_endOfToken_54 {p : Program} {e : Env} {s : State} {m : MethodId} {args : Array Value} {below : List Frame} {meth : Method} {c : Code} {A : Nat → Prop} (l : Launch) (G : GG) (C : Cx p m c cX2_endOfToken 3 s args wsX2_endOfToken RX2 meth (some .int) G A) (a : Nat → Nat) (a_length : Int32) (a_text : Nat → Int32) (a_number : Nat → Int32) (a_word : Int32) (a_numbers : Int32) (a_items : Int32) (a_refused : Int32) (p0 : Int32) (out : Int32) (kx : Int32 → Option (Int32)) (HX : ∀ (x2_54 : Int32) (H : Heap) (locs : List Loc) (ls : Array Slot), va_P G.1 vwCl (flat [wX2 G a a_length a_text a_number a_word a_numbers a_items a_refused]) H → va_D A (flat [wX2 G a a_length a_text a_number a_word a_numbers a_items a_refused]) → va_S A s.heap H locs → lv_has ls 3 [(0, .ref (a 0)), (1, .int p0), (2, .int x2_54)] → kx x2_54 = some out → W p l e rmX2_endOfToken s m args below meth c H locs 0 0 (MQ below (QI G A out (flat [wX2 G a a_length a_text a_number a_word a_numbers a_items a_refused])) args s 0 0 A) (F0 m 80 ls [])) : ∀ (n : Nat) (x2_54 : Int32) (H : Heap) (locs : List Loc) (ls : Array Slot), va_P G.1 vwCl (flat [wX2 G a a_length a_text a_number a_word a_numbers a_items a_refused]) H → va_D A (flat [wX2 G a a_length a_text a_number a_word a_numbers a_items a_refused]) → va_S A s.heap H locs → lv_has ls 3 [(0, .ref (a 0)), (1, .int p0), (2, .int x2_54)] → fX2_endOfToken_54 a_length a_text kx n x2_54 = some out → W p l e rmX2_endOfToken s m args below meth c H locs 0 0 (MQ below (QI G A out (flat [wX2 G a a_length a_text a_number a_word a_numbers a_items a_refused])) args s 0 0 A) (F0 m 54 ls []) := by
  obtain ⟨⟨hx, hb, hml, hown, hts⟩, hr, hlocks, hK, hN, hE, hA⟩ := id C
  intro n
  induction n with
  | zero =>
    intro x2_54 H locs ls hP hD hS hl hf
    exact absurd (show (none : Option (Int32)) = some out from hf) (by intro q9; cases q9)
  | succ n ih =>
    intro x2_54 H locs ls hP hD hS hl hf
    rw [fX2_endOfToken_54] at hf
    refine lv_iload_n hx hb dX2_endOfToken_54 rfl (lv_at hl 2 rfl) ?_
    refine lv_aload_n hx hb dX2_endOfToken_55 rfl (lv_at hl 0 rfl) ?_
    refine va_get (D := G.1) (ci := 2) (v := .int a_length) (C := RX2) (T := TX2) (N := 7) hx hb hts iiX2_endOfToken_X2 hown hK hP 0 rfl rfl 0 (by decide) (hts _ mmX2_endOfToken_2) (fun _ h9 => h9) rfl dX2_endOfToken_56 ?_
    refine lv_icmp_ge (tgt := 80) hx hb dX2_endOfToken_59 (by decide) (fun c7 => ?_) (fun c7 => ?_)
    · have hf := (o_i hf).1 c7
      exact HX _ _ _ _ hP hD hS (lv_sub hl [0, 1, 2] rfl) hf
    have hf := (o_i hf).2 c7
    refine lv_aload_n hx hb dX2_endOfToken_62 rfl (lv_at hl 0 rfl) ?_
    refine va_get (D := G.1) (ci := 2) (v := .ref (a 1)) (C := RX2) (T := TX2) (N := 7) hx hb hts iiX2_endOfToken_X2 hown hK hP 0 rfl rfl 1 (by decide) (hts _ mmX2_endOfToken_1) (fun _ h9 => h9) rfl dX2_endOfToken_63 ?_
    refine lv_iload_n hx hb dX2_endOfToken_66 rfl (lv_at hl 2 rfl) ?_
    obtain ⟨z8, hz8, hf⟩ := o_b hf
    refine k_bald hx hb hK hP 1 1 rfl rfl hz8 dX2_endOfToken_67 ?_
    obtain ⟨g9, hg9, hf⟩ := o_b hf
    refine bSi C hP hD hS (tX2_isFigure l G z8 g9 hg9) gX2_endOfToken_X2_isFigure rfl ⟨rfl, rfl⟩ hdX2_isFigure ⟨Nat.le_of_ble_eq_true rfl, Nat.le_of_ble_eq_true rfl⟩ rfl hl.1 rfl (Nat.le_of_ble_eq_true rfl) ⟨Nat.le_of_ble_eq_true rfl, Nat.le_of_ble_eq_true rfl⟩ [] rfl rfl rfl (setB_same _ _ _ rfl) rfl dX2_endOfToken_68 (fun H locs hP hD hS => ?_)
    refine lv_if_eq (tgt := 80) hx hb dX2_endOfToken_71 (by decide) (fun c10 => ?_) (fun c10 => ?_)
    · have hf := (o_i hf).1 c10
      exact HX _ _ _ _ hP hD hS (lv_sub hl [0, 1, 2] rfl) hf
    have hf := (o_i hf).2 c10
    refine lv_iinc (v := x2_54 + 1) (lv' := [(2, .int (x2_54 + 1)), (0, .ref (a 0)), (1, .int p0)]) hx hb dX2_endOfToken_74 hl (k := 2) rfl (congrArg (fun z => x2_54 + z) (by decide)) (by decide) rfl (fun ls hl => ?_)
    refine lv_goto (tgt := 54) hx hb dX2_endOfToken_77 (by decide) ?_
    exact ih _ _ _ _ hP hD hS (lv_sub hl [1, 2, 0] rfl) hf
set_option maxHeartbeats 4000000 in
set_option maxRecDepth 100000 in
theorem lX2_endOfToken_16 {p : Program} {e : Env} {s : State} {m : MethodId} {args : Array Value} {below : List Frame} {meth : Method} {c : Code} {A : Nat → Prop} (l : Launch) (G : GG) (C : Cx p m c cX2_endOfToken 3 s args wsX2_endOfToken RX2 meth (some .int) G A) (a : Nat → Nat) (a_length : Int32) (a_text : Nat → Int32) (a_number : Nat → Int32) (a_word : Int32) (a_numbers : Int32) (a_items : Int32) (a_refused : Int32) (p0 : Int32) (out : Int32) (kx : Int32 → Option (Int32)) (HX : ∀ (x2_16 : Int32) (H : Heap) (locs : List Loc) (ls : Array Slot), va_P G.1 vwCl (flat [wX2 G a a_length a_text a_number a_word a_numbers a_items a_refused]) H → va_D A (flat [wX2 G a a_length a_text a_number a_word a_numbers a_items a_refused]) → va_S A s.heap H locs → lv_has ls 3 [(0, .ref (a 0)), (1, .int p0), (2, .int x2_16)] → kx x2_16 = some out → W p l e rmX2_endOfToken s m args below meth c H locs 0 0 (MQ below (QI G A out (flat [wX2 G a a_length a_text a_number a_word a_numbers a_items a_refused])) args s 0 0 A) (F0 m 80 ls [])) : ∀ (n : Nat) (x2_16 : Int32) (H : Heap) (locs : List Loc) (ls : Array Slot), va_P G.1 vwCl (flat [wX2 G a a_length a_text a_number a_word a_numbers a_items a_refused]) H → va_D A (flat [wX2 G a a_length a_text a_number a_word a_numbers a_items a_refused]) → va_S A s.heap H locs → lv_has ls 3 [(0, .ref (a 0)), (1, .int p0), (2, .int x2_16)] → fX2_endOfToken_16 a_length a_text kx n x2_16 = some out → W p l e rmX2_endOfToken s m args below meth c H locs 0 0 (MQ below (QI G A out (flat [wX2 G a a_length a_text a_number a_word a_numbers a_items a_refused])) args s 0 0 A) (F0 m 16 ls []) := by
  obtain ⟨⟨hx, hb, hml, hown, hts⟩, hr, hlocks, hK, hN, hE, hA⟩ := id C
  intro n
  induction n with
  | zero =>
    intro x2_16 H locs ls hP hD hS hl hf
    exact absurd (show (none : Option (Int32)) = some out from hf) (by intro q9; cases q9)
  | succ n ih =>
    intro x2_16 H locs ls hP hD hS hl hf
    rw [fX2_endOfToken_16] at hf
    refine lv_iload_n hx hb dX2_endOfToken_16 rfl (lv_at hl 2 rfl) ?_
    refine lv_aload_n hx hb dX2_endOfToken_17 rfl (lv_at hl 0 rfl) ?_
    refine va_get (D := G.1) (ci := 2) (v := .int a_length) (C := RX2) (T := TX2) (N := 7) hx hb hts iiX2_endOfToken_X2 hown hK hP 0 rfl rfl 0 (by decide) (hts _ mmX2_endOfToken_2) (fun _ h9 => h9) rfl dX2_endOfToken_18 ?_
    refine lv_icmp_ge (tgt := 80) hx hb dX2_endOfToken_21 (by decide) (fun c12 => ?_) (fun c12 => ?_)
    · have hf := (o_i hf).1 c12
      exact HX _ _ _ _ hP hD hS (lv_sub hl [0, 1, 2] rfl) hf
    have hf := (o_i hf).2 c12
    refine lv_aload_n hx hb dX2_endOfToken_24 rfl (lv_at hl 0 rfl) ?_
    refine va_get (D := G.1) (ci := 2) (v := .ref (a 1)) (C := RX2) (T := TX2) (N := 7) hx hb hts iiX2_endOfToken_X2 hown hK hP 0 rfl rfl 1 (by decide) (hts _ mmX2_endOfToken_1) (fun _ h9 => h9) rfl dX2_endOfToken_25 ?_
    refine lv_iload_n hx hb dX2_endOfToken_28 rfl (lv_at hl 2 rfl) ?_
    obtain ⟨z13, hz13, hf⟩ := o_b hf
    refine k_bald hx hb hK hP 1 1 rfl rfl hz13 dX2_endOfToken_29 ?_
    obtain ⟨g14, hg14, hf⟩ := o_b hf
    refine bSi C hP hD hS (tX2_isLetter l G z13 g14 hg14) gX2_endOfToken_X2_isLetter rfl ⟨rfl, rfl⟩ hdX2_isLetter ⟨Nat.le_of_ble_eq_true rfl, Nat.le_of_ble_eq_true rfl⟩ rfl hl.1 rfl (Nat.le_of_ble_eq_true rfl) ⟨Nat.le_of_ble_eq_true rfl, Nat.le_of_ble_eq_true rfl⟩ [] rfl rfl rfl (setB_same _ _ _ rfl) rfl dX2_endOfToken_30 (fun H locs hP hD hS => ?_)
    refine lv_if_eq (tgt := 80) hx hb dX2_endOfToken_33 (by decide) (fun c15 => ?_) (fun c15 => ?_)
    · have hf := (o_i hf).1 c15
      exact HX _ _ _ _ hP hD hS (lv_sub hl [0, 1, 2] rfl) hf
    have hf := (o_i hf).2 c15
    refine lv_iinc (v := x2_16 + 1) (lv' := [(2, .int (x2_16 + 1)), (0, .ref (a 0)), (1, .int p0)]) hx hb dX2_endOfToken_36 hl (k := 2) rfl (congrArg (fun z => x2_16 + z) (by decide)) (by decide) rfl (fun ls hl => ?_)
    refine lv_goto (tgt := 16) hx hb dX2_endOfToken_39 (by decide) ?_
    exact ih _ _ _ _ hP hD hS (lv_sub hl [1, 2, 0] rfl) hf
set_option maxHeartbeats 4000000 in
set_option maxRecDepth 100000 in
theorem tX2_endOfToken (l : Launch) (G : GG) (a : Nat → Nat) (a_length : Int32) (a_text : Nat → Int32) (a_number : Nat → Int32) (a_word : Int32) (a_numbers : Int32) (a_items : Int32) (a_refused : Int32) (p0 : Int32) (out : Int32) (hf : fX2_endOfToken a_length a_text p0 = some out) : cMi l G yX2_endOfToken wsX2_endOfToken rmX2_endOfToken [.ref (a 0), .int p0] (flat [wX2 G a a_length a_text a_number a_word a_numbers a_items a_refused]) out (flat [wX2 G a a_length a_text a_number a_word a_numbers a_items a_refused]) := by
  intro sz
  refine met_of (cc := cX2_endOfToken) (nL := 3) (ret := (some .int)) (Qc := fun A9 => QI G A9 out (flat [wX2 G a a_length a_text a_number a_word a_numbers a_items a_refused])) (by decide) rfl (Nat.le_of_ble_eq_true rfl) ?_
  intro p e s m args below meth c A ls C hP hD hS hl
  obtain ⟨⟨hx, hb, hml, hown, hts⟩, hr, hlocks, hK, hN, hE, hA⟩ := id C
  have hl : lv_has ls 3 [(0, .ref (a 0)), (1, .int p0)] := hl
  unfold fX2_endOfToken at hf
  refine lv_iload_n hx hb dX2_endOfToken_0 rfl (lv_at hl 1 rfl) ?_
  refine lv_iconst (v := 1) hx hb dX2_endOfToken_1 (by decide) ?_
  refine lv_iadd hx hb dX2_endOfToken_2 ?_
  refine lv_istore_n (lv' := [(2, .int (p0 + 1)), (0, .ref (a 0)), (1, .int p0)]) hx hb dX2_endOfToken_3 rfl hl (by decide) rfl (fun ls hl => ?_)
  refine lv_aload_n hx hb dX2_endOfToken_4 rfl (lv_at hl 1 rfl) ?_
  refine va_get (D := G.1) (ci := 2) (v := .ref (a 1)) (C := RX2) (T := TX2) (N := 7) hx hb hts iiX2_endOfToken_X2 hown hK hP 0 rfl rfl 1 (by decide) (hts _ mmX2_endOfToken_1) (fun _ h9 => h9) rfl dX2_endOfToken_5 ?_
  refine lv_iload_n hx hb dX2_endOfToken_8 rfl (lv_at hl 2 rfl) ?_
  obtain ⟨z1, hz1, hf⟩ := o_b hf
  refine k_bald hx hb hK hP 1 1 rfl rfl hz1 dX2_endOfToken_9 ?_
  obtain ⟨g2, hg2, hf⟩ := o_b hf
  refine bSi C hP hD hS (tX2_isLetter l G z1 g2 hg2) gX2_endOfToken_X2_isLetter rfl ⟨rfl, rfl⟩ hdX2_isLetter ⟨Nat.le_of_ble_eq_true rfl, Nat.le_of_ble_eq_true rfl⟩ rfl hl.1 rfl (Nat.le_of_ble_eq_true rfl) ⟨Nat.le_of_ble_eq_true rfl, Nat.le_of_ble_eq_true rfl⟩ [] rfl rfl rfl (setB_same _ _ _ rfl) rfl dX2_endOfToken_10 (fun H locs hP hD hS => ?_)
  refine at_pc (pc' := 13) rfl ?_
  refine lv_if_eq (tgt := 42) hx hb dX2_endOfToken_13 (by decide) (fun c3 => ?_) (fun c3 => ?_)
  · have hf := (o_i hf).1 c3
    refine lv_aload_n hx hb dX2_endOfToken_42 rfl (lv_at hl 1 rfl) ?_
    refine va_get (D := G.1) (ci := 2) (v := .ref (a 1)) (C := RX2) (T := TX2) (N := 7) hx hb hts iiX2_endOfToken_X2 hown hK hP 0 rfl rfl 1 (by decide) (hts _ mmX2_endOfToken_1) (fun _ h9 => h9) rfl dX2_endOfToken_43 ?_
    refine lv_iload_n hx hb dX2_endOfToken_46 rfl (lv_at hl 2 rfl) ?_
    obtain ⟨z4, hz4, hf⟩ := o_b hf
    refine k_bald hx hb hK hP 1 1 rfl rfl hz4 dX2_endOfToken_47 ?_
    obtain ⟨g5, hg5, hf⟩ := o_b hf
    refine bSi C hP hD hS (tX2_isFigure l G z4 g5 hg5) gX2_endOfToken_X2_isFigure rfl ⟨rfl, rfl⟩ hdX2_isFigure ⟨Nat.le_of_ble_eq_true rfl, Nat.le_of_ble_eq_true rfl⟩ rfl hl.1 rfl (Nat.le_of_ble_eq_true rfl) ⟨Nat.le_of_ble_eq_true rfl, Nat.le_of_ble_eq_true rfl⟩ [] rfl rfl rfl (setB_same _ _ _ rfl) rfl dX2_endOfToken_48 (fun H locs hP hD hS => ?_)
    refine lv_if_eq (tgt := 80) hx hb dX2_endOfToken_51 (by decide) (fun c6 => ?_) (fun c6 => ?_)
    · have hf := (o_i hf).1 c6
      refine lv_iload_n hx hb dX2_endOfToken_80 rfl (lv_at hl 0 rfl) ?_
      have e9 := Option.some.inj hf
      subst e9
      exact rt_i C hP hS rfl dX2_endOfToken_81
    have hf := (o_i hf).2 c6
    refine lX2_endOfToken_54 l G C a a_length a_text a_number a_word a_numbers a_items a_refused p0 out _ (fun x2_54_11 H locs ls hP hD hS hl hf => ?_) fu (p0 + 1) _ _ _ hP hD hS (lv_sub hl [1, 2, 0] rfl) hf
    refine lv_iload_n hx hb dX2_endOfToken_80 rfl (lv_at hl 2 rfl) ?_
    have e9 := Option.some.inj hf
    subst e9
    exact rt_i C hP hS rfl dX2_endOfToken_81
  have hf := (o_i hf).2 c3
  refine lX2_endOfToken_16 l G C a a_length a_text a_number a_word a_numbers a_items a_refused p0 out _ (fun x2_16_16 H locs ls hP hD hS hl hf => ?_) fu (p0 + 1) _ _ _ hP hD hS (lv_sub hl [1, 2, 0] rfl) hf
  refine lv_iload_n hx hb dX2_endOfToken_80 rfl (lv_at hl 2 rfl) ?_
  have e9 := Option.some.inj hf
  subst e9
  exact rt_i C hP hS rfl dX2_endOfToken_81

/-! RX2 isWord(Ljava/lang/String;II)Z -/
theorem iiX2_isWord_X2 : ∀ w ∈ wsX20, w ∈ wsX2_isWord := by decide +kernel
theorem mmX2_isWord_1 : (Cond.fieldLink RX2 9 "BlindBells$Tale" "text" "[B") ∈ wsX2_isWord := by decide +kernel
theorem hdX2_isWord : yX2_isWord.cls = RX2 ∧ yX2_isWord.cls ≠ "java/lang/invoke/MethodHandle" ∧ yX2_isWord.cls ≠ "java/lang/invoke/VarHandle" ∧ (parseMethodDescriptor yX2_isWord.desc).map (fun d => d.parameters.length) = some 3 := by decide +kernel
abbrev rmX2_isWord : Room := { frames := 5, cells := 0, slots := 0, locals := 120 }
set_option maxHeartbeats 4000000 in
set_option maxRecDepth 100000 in
theorem lX2_isWord_15 {p : Program} {e : Env} {s : State} {m : MethodId} {args : Array Value} {below : List Frame} {meth : Method} {c : Code} {A : Nat → Prop} (l : Launch) (G : GG) (C : Cx p m c cX2_isWord 5 s args wsX2_isWord RX2 meth (some .boolean) G A) (a : Nat → Nat) (a_length : Int32) (a_text : Nat → Int32) (a_number : Nat → Int32) (a_word : Int32) (a_numbers : Int32) (a_items : Int32) (a_refused : Int32) (k : Nat) (hk : k < 6) (p1 : Int32) (p2 : Int32) (out : Int32) (kx : Int32 → Option (Int32)) (HX : ∀ (x4_15 : Int32) (H : Heap) (locs : List Loc) (ls : Array Slot), va_P G.1 vwCl (flat [wX2 G a a_length a_text a_number a_word a_numbers a_items a_refused]) H → va_D A (flat [wX2 G a a_length a_text a_number a_word a_numbers a_items a_refused]) → va_S A s.heap H locs → lv_has ls 5 [(0, .ref (a 0)), (1, .ref (G.2.2.2.1 k)), (2, .int p1), (3, .int p2), (4, .int x4_15)] → kx x4_15 = some out → W p l e rmX2_isWord s m args below meth c H locs 0 0 (MQ below (QI G A out (flat [wX2 G a a_length a_text a_number a_word a_numbers a_items a_refused])) args s 0 0 A) (F0 m 47 ls [])) : ∀ (n : Nat) (x4_15 : Int32) (H : Heap) (locs : List Loc) (ls : Array Slot), va_P G.1 vwCl (flat [wX2 G a a_length a_text a_number a_word a_numbers a_items a_refused]) H → va_D A (flat [wX2 G a a_length a_text a_number a_word a_numbers a_items a_refused]) → va_S A s.heap H locs → lv_has ls 5 [(0, .ref (a 0)), (1, .ref (G.2.2.2.1 k)), (2, .int p1), (3, .int p2), (4, .int x4_15)] → fX2_isWord_15 k p1 p2 a_text kx n x4_15 = some out → W p l e rmX2_isWord s m args below meth c H locs 0 0 (MQ below (QI G A out (flat [wX2 G a a_length a_text a_number a_word a_numbers a_items a_refused])) args s 0 0 A) (F0 m 15 ls []) := by
  obtain ⟨⟨hx, hb, hml, hown, hts⟩, hr, hlocks, hK, hN, hE, hA⟩ := id C
  intro n
  induction n with
  | zero =>
    intro x4_15 H locs ls hP hD hS hl hf
    exact absurd (show (none : Option (Int32)) = some out from hf) (by intro q9; cases q9)
  | succ n ih =>
    intro x4_15 H locs ls hP hD hS hl hf
    rw [fX2_isWord_15] at hf
    refine lv_iload hx hb dX2_isWord_15 (lv_at hl 4 rfl) ?_
    refine lv_iload_n hx hb dX2_isWord_17 rfl (lv_at hl 3 rfl) ?_
    refine lv_icmp_ge (tgt := 47) hx hb dX2_isWord_18 (by decide) (fun c3 => ?_) (fun c3 => ?_)
    · have hf := (o_i hf).1 c3
      exact HX _ _ _ _ hP hD hS (lv_sub hl [0, 1, 2, 3, 4] rfl) hf
    have hf := (o_i hf).2 c3
    refine lv_aload_n hx hb dX2_isWord_21 rfl (lv_at hl 1 rfl) ?_
    refine lv_iload hx hb dX2_isWord_22 (lv_at hl 4 rfl) ?_
    refine lv_iload_n hx hb dX2_isWord_24 rfl (lv_at hl 2 rfl) ?_
    refine lv_isub hx hb dX2_isWord_25 ?_
    obtain ⟨g4, hg4, hf⟩ := o_b hf
    refine kWi C hP hD hS (tJ0_charAt_5068e l G k hk (x4_15 - p1) g4 hg4) gX2_isWord_J0_charAt_5068e rfl ⟨rfl, rfl⟩ hdJ0_charAt_5068e ⟨Nat.le_of_ble_eq_true rfl, Nat.le_of_ble_eq_true rfl⟩ rfl hl.1 rfl (Nat.le_of_ble_eq_true rfl) ⟨Nat.le_of_ble_eq_true rfl, Nat.le_of_ble_eq_true rfl⟩ [] rfl rfl rfl (setM_same _ _ _ rfl) (vk_recv hE.2.2.2.2.1 hk hS) dX2_isWord_26 (fun H locs hP hD hS => ?_)
    refine lv_aload_n hx hb dX2_isWord_29 rfl (lv_at hl 0 rfl) ?_
    refine va_get (D := G.1) (ci := 2) (v := .ref (a 1)) (C := RX2) (T := TX2) (N := 7) hx hb hts iiX2_isWord_X2 hown hK hP 0 rfl rfl 1 (by decide) (hts _ mmX2_isWord_1) (fun _ h9 => h9) rfl dX2_isWord_30 ?_
    refine lv_iload hx hb dX2_isWord_33 (lv_at hl 4 rfl) ?_
    obtain ⟨z5, hz5, hf⟩ := o_b hf
    refine k_bald hx hb hK hP 1 1 rfl rfl hz5 dX2_isWord_35 ?_
    refine at_pc (pc' := 36) rfl ?_
    refine lv_icmp_eq (tgt := 41) hx hb dX2_isWord_36 (by decide) (fun c6 => ?_) (fun c6 => ?_)
    · have hf := (o_i hf).1 c6
      refine lv_iinc (v := x4_15 + 1) (lv' := [(4, .int (x4_15 + 1)), (0, .ref (a 0)), (1, .ref (G.2.2.2.1 k)), (2, .int p1), (3, .int p2)]) hx hb dX2_isWord_41 hl (k := 4) rfl (congrArg (fun z => x4_15 + z) (by decide)) (by decide) rfl (fun ls hl => ?_)
      refine lv_goto (tgt := 15) hx hb dX2_isWord_44 (by decide) ?_
      exact ih _ _ _ _ hP hD hS (lv_sub hl [1, 2, 3, 4, 0] rfl) hf
    have hf := (o_i hf).2 c6
    refine lv_iconst (v := 0) hx hb dX2_isWord_39 (by decide) ?_
    have e9 := Option.some.inj hf
    subst e9
    exact rt_z C hP hS rfl rfl dX2_isWord_40
set_option maxHeartbeats 4000000 in
set_option maxRecDepth 100000 in
theorem tX2_isWord (l : Launch) (G : GG) (a : Nat → Nat) (a_length : Int32) (a_text : Nat → Int32) (a_number : Nat → Int32) (a_word : Int32) (a_numbers : Int32) (a_items : Int32) (a_refused : Int32) (k : Nat) (hk : k < 6) (p1 : Int32) (p2 : Int32) (out : Int32) (hf : fX2_isWord a_text k p1 p2 = some out) : cMi l G yX2_isWord wsX2_isWord rmX2_isWord [.ref (a 0), .ref (G.2.2.2.1 k), .int p1, .int p2] (flat [wX2 G a a_length a_text a_number a_word a_numbers a_items a_refused]) out (flat [wX2 G a a_length a_text a_number a_word a_numbers a_items a_refused]) := by
  intro sz
  refine met_of (cc := cX2_isWord) (nL := 5) (ret := (some .boolean)) (Qc := fun A9 => QI G A9 out (flat [wX2 G a a_length a_text a_number a_word a_numbers a_items a_refused])) (by decide) rfl (Nat.le_of_ble_eq_true rfl) ?_
  intro p e s m args below meth c A ls C hP hD hS hl
  obtain ⟨⟨hx, hb, hml, hown, hts⟩, hr, hlocks, hK, hN, hE, hA⟩ := id C
  have hl : lv_has ls 5 [(0, .ref (a 0)), (1, .ref (G.2.2.2.1 k)), (2, .int p1), (3, .int p2)] := hl
  unfold fX2_isWord at hf
  refine lv_aload_n hx hb dX2_isWord_0 rfl (lv_at hl 1 rfl) ?_
  obtain ⟨g1, hg1, hf⟩ := o_b hf
  refine kWi C hP hD hS (tJ0_length_8abf5 l G k hk g1 hg1) gX2_isWord_J0_length_8abf5 rfl ⟨rfl, rfl⟩ hdJ0_length_8abf5 ⟨Nat.le_of_ble_eq_true rfl, Nat.le_of_ble_eq_true rfl⟩ rfl hl.1 rfl (Nat.le_of_ble_eq_true rfl) ⟨Nat.le_of_ble_eq_true rfl, Nat.le_of_ble_eq_true rfl⟩ [] rfl rfl rfl (setM_same _ _ _ rfl) (vk_recv hE.2.2.2.2.1 hk hS) dX2_isWord_1 (fun H locs hP hD hS => ?_)
  refine lv_iload_n hx hb dX2_isWord_4 rfl (lv_at hl 3 rfl) ?_
  refine lv_iload_n hx hb dX2_isWord_5 rfl (lv_at hl 2 rfl) ?_
  refine lv_isub hx hb dX2_isWord_6 ?_
  refine lv_icmp_eq (tgt := 12) hx hb dX2_isWord_7 (by decide) (fun c2 => ?_) (fun c2 => ?_)
  · have hf := (o_i hf).1 c2
    refine lv_iload_n hx hb dX2_isWord_12 rfl (lv_at hl 2 rfl) ?_
    refine lv_istore (lv' := [(4, .int p1), (0, .ref (a 0)), (1, .ref (G.2.2.2.1 k)), (2, .int p1), (3, .int p2)]) hx hb dX2_isWord_13 hl (by decide) rfl (fun ls hl => ?_)
    refine lX2_isWord_15 l G C a a_length a_text a_number a_word a_numbers a_items a_refused k hk p1 p2 out _ (fun x4_15_7 H locs ls hP hD hS hl hf => ?_) fu p1 _ _ _ hP hD hS (lv_sub hl [1, 2, 3, 4, 0] rfl) hf
    refine lv_iconst (v := 1) hx hb dX2_isWord_47 (by decide) ?_
    have e9 := Option.some.inj hf
    subst e9
    exact rt_z C hP hS rfl rfl dX2_isWord_48
  have hf := (o_i hf).2 c2
  refine lv_iconst (v := 0) hx hb dX2_isWord_10 (by decide) ?_
  have e9 := Option.some.inj hf
  subst e9
  exact rt_z C hP hS rfl rfl dX2_isWord_11

/-! RX2 wordAt(II)I -/
theorem hdX2_wordAt : yX2_wordAt.cls = RX2 ∧ yX2_wordAt.cls ≠ "java/lang/invoke/MethodHandle" ∧ yX2_wordAt.cls ≠ "java/lang/invoke/VarHandle" ∧ (parseMethodDescriptor yX2_wordAt.desc).map (fun d => d.parameters.length) = some 2 := by decide +kernel
abbrev rmX2_wordAt : Room := { frames := 6, cells := 0, slots := 0, locals := 144 }
set_option maxHeartbeats 4000000 in
set_option maxRecDepth 100000 in
theorem tX2_wordAt (l : Launch) (G : GG) (a : Nat → Nat) (a_length : Int32) (a_text : Nat → Int32) (a_number : Nat → Int32) (a_word : Int32) (a_numbers : Int32) (a_items : Int32) (a_refused : Int32) (p0 : Int32) (p1 : Int32) (out : Int32) (hf : fX2_wordAt a_text p0 p1 = some out) : cMi l G yX2_wordAt wsX2_wordAt rmX2_wordAt [.ref (a 0), .int p0, .int p1] (flat [wX2 G a a_length a_text a_number a_word a_numbers a_items a_refused]) out (flat [wX2 G a a_length a_text a_number a_word a_numbers a_items a_refused]) := by
  intro sz
  refine met_of (cc := cX2_wordAt) (nL := 3) (ret := (some .int)) (Qc := fun A9 => QI G A9 out (flat [wX2 G a a_length a_text a_number a_word a_numbers a_items a_refused])) (by decide) rfl (Nat.le_of_ble_eq_true rfl) ?_
  intro p e s m args below meth c A ls C hP hD hS hl
  obtain ⟨⟨hx, hb, hml, hown, hts⟩, hr, hlocks, hK, hN, hE, hA⟩ := id C
  have hl : lv_has ls 3 [(0, .ref (a 0)), (1, .int p0), (2, .int p1)] := hl
  unfold fX2_wordAt at hf
  refine lv_aload_n hx hb dX2_wordAt_0 rfl (lv_at hl 0 rfl) ?_
  refine va_ldcS hx hb hown (hE.2.2.2.1 0 (by decide)) dX2_wordAt_1 ?_
  refine lv_iload_n hx hb dX2_wordAt_3 rfl (lv_at hl 1 rfl) ?_
  refine lv_iload_n hx hb dX2_wordAt_4 rfl (lv_at hl 2 rfl) ?_
  obtain ⟨g1, hg1, hf⟩ := o_b hf
  refine bVi C hP hD hS (tX2_isWord l G a a_length a_text a_number a_word a_numbers a_items a_refused 0 (by decide) p0 p1 g1 hg1) gX2_wordAt_X2_isWord rfl ⟨rfl, rfl⟩ hdX2_isWord ⟨Nat.le_of_ble_eq_true rfl, Nat.le_of_ble_eq_true rfl⟩ rfl hl.1 rfl (Nat.le_of_ble_eq_true rfl) ⟨Nat.le_of_ble_eq_true rfl, Nat.le_of_ble_eq_true rfl⟩ [0] rfl rfl rfl (setB_same _ _ _ rfl) rfl (ci := 2) (q0 := 0) rfl rfl rfl dX2_wordAt_5 (fun H locs hP hD hS => ?_)
  refine lv_if_eq (tgt := 13) hx hb dX2_wordAt_8 (by decide) (fun c2 => ?_) (fun c2 => ?_)
  · have hf := (o_i hf).1 c2
    refine lv_aload_n hx hb dX2_wordAt_13 rfl (lv_at hl 0 rfl) ?_
    refine va_ldcS hx hb hown (hE.2.2.2.1 1 (by decide)) dX2_wordAt_14 ?_
    refine lv_iload_n hx hb dX2_wordAt_16 rfl (lv_at hl 1 rfl) ?_
    refine lv_iload_n hx hb dX2_wordAt_17 rfl (lv_at hl 2 rfl) ?_
    obtain ⟨g3, hg3, hf⟩ := o_b hf
    refine bVi C hP hD hS (tX2_isWord l G a a_length a_text a_number a_word a_numbers a_items a_refused 1 (by decide) p0 p1 g3 hg3) gX2_wordAt_X2_isWord rfl ⟨rfl, rfl⟩ hdX2_isWord ⟨Nat.le_of_ble_eq_true rfl, Nat.le_of_ble_eq_true rfl⟩ rfl hl.1 rfl (Nat.le_of_ble_eq_true rfl) ⟨Nat.le_of_ble_eq_true rfl, Nat.le_of_ble_eq_true rfl⟩ [0] rfl rfl rfl (setB_same _ _ _ rfl) rfl (ci := 2) (q0 := 0) rfl rfl rfl dX2_wordAt_18 (fun H locs hP hD hS => ?_)
    refine lv_if_eq (tgt := 26) hx hb dX2_wordAt_21 (by decide) (fun c4 => ?_) (fun c4 => ?_)
    · have hf := (o_i hf).1 c4
      refine lv_aload_n hx hb dX2_wordAt_26 rfl (lv_at hl 0 rfl) ?_
      refine va_ldcS hx hb hown (hE.2.2.2.1 2 (by decide)) dX2_wordAt_27 ?_
      refine lv_iload_n hx hb dX2_wordAt_29 rfl (lv_at hl 1 rfl) ?_
      refine lv_iload_n hx hb dX2_wordAt_30 rfl (lv_at hl 2 rfl) ?_
      obtain ⟨g5, hg5, hf⟩ := o_b hf
      refine bVi C hP hD hS (tX2_isWord l G a a_length a_text a_number a_word a_numbers a_items a_refused 2 (by decide) p0 p1 g5 hg5) gX2_wordAt_X2_isWord rfl ⟨rfl, rfl⟩ hdX2_isWord ⟨Nat.le_of_ble_eq_true rfl, Nat.le_of_ble_eq_true rfl⟩ rfl hl.1 rfl (Nat.le_of_ble_eq_true rfl) ⟨Nat.le_of_ble_eq_true rfl, Nat.le_of_ble_eq_true rfl⟩ [0] rfl rfl rfl (setB_same _ _ _ rfl) rfl (ci := 2) (q0 := 0) rfl rfl rfl dX2_wordAt_31 (fun H locs hP hD hS => ?_)
      refine lv_if_eq (tgt := 39) hx hb dX2_wordAt_34 (by decide) (fun c6 => ?_) (fun c6 => ?_)
      · have hf := (o_i hf).1 c6
        refine lv_aload_n hx hb dX2_wordAt_39 rfl (lv_at hl 0 rfl) ?_
        refine va_ldcS hx hb hown (hE.2.2.2.1 3 (by decide)) dX2_wordAt_40 ?_
        refine lv_iload_n hx hb dX2_wordAt_42 rfl (lv_at hl 1 rfl) ?_
        refine lv_iload_n hx hb dX2_wordAt_43 rfl (lv_at hl 2 rfl) ?_
        obtain ⟨g7, hg7, hf⟩ := o_b hf
        refine bVi C hP hD hS (tX2_isWord l G a a_length a_text a_number a_word a_numbers a_items a_refused 3 (by decide) p0 p1 g7 hg7) gX2_wordAt_X2_isWord rfl ⟨rfl, rfl⟩ hdX2_isWord ⟨Nat.le_of_ble_eq_true rfl, Nat.le_of_ble_eq_true rfl⟩ rfl hl.1 rfl (Nat.le_of_ble_eq_true rfl) ⟨Nat.le_of_ble_eq_true rfl, Nat.le_of_ble_eq_true rfl⟩ [0] rfl rfl rfl (setB_same _ _ _ rfl) rfl (ci := 2) (q0 := 0) rfl rfl rfl dX2_wordAt_44 (fun H locs hP hD hS => ?_)
        refine lv_if_eq (tgt := 52) hx hb dX2_wordAt_47 (by decide) (fun c8 => ?_) (fun c8 => ?_)
        · have hf := (o_i hf).1 c8
          refine lv_aload_n hx hb dX2_wordAt_52 rfl (lv_at hl 0 rfl) ?_
          refine va_ldcS hx hb hown (hE.2.2.2.1 4 (by decide)) dX2_wordAt_53 ?_
          refine lv_iload_n hx hb dX2_wordAt_55 rfl (lv_at hl 1 rfl) ?_
          refine lv_iload_n hx hb dX2_wordAt_56 rfl (lv_at hl 2 rfl) ?_
          obtain ⟨g9, hg9, hf⟩ := o_b hf
          refine bVi C hP hD hS (tX2_isWord l G a a_length a_text a_number a_word a_numbers a_items a_refused 4 (by decide) p0 p1 g9 hg9) gX2_wordAt_X2_isWord rfl ⟨rfl, rfl⟩ hdX2_isWord ⟨Nat.le_of_ble_eq_true rfl, Nat.le_of_ble_eq_true rfl⟩ rfl hl.1 rfl (Nat.le_of_ble_eq_true rfl) ⟨Nat.le_of_ble_eq_true rfl, Nat.le_of_ble_eq_true rfl⟩ [0] rfl rfl rfl (setB_same _ _ _ rfl) rfl (ci := 2) (q0 := 0) rfl rfl rfl dX2_wordAt_57 (fun H locs hP hD hS => ?_)
          refine lv_if_eq (tgt := 65) hx hb dX2_wordAt_60 (by decide) (fun c10 => ?_) (fun c10 => ?_)
          · have hf := (o_i hf).1 c10
            refine lv_aload_n hx hb dX2_wordAt_65 rfl (lv_at hl 0 rfl) ?_
            refine va_ldcS hx hb hown (hE.2.2.2.1 5 (by decide)) dX2_wordAt_66 ?_
            refine lv_iload_n hx hb dX2_wordAt_68 rfl (lv_at hl 1 rfl) ?_
            refine lv_iload_n hx hb dX2_wordAt_69 rfl (lv_at hl 2 rfl) ?_
            obtain ⟨g11, hg11, hf⟩ := o_b hf
            refine bVi C hP hD hS (tX2_isWord l G a a_length a_text a_number a_word a_numbers a_items a_refused 5 (by decide) p0 p1 g11 hg11) gX2_wordAt_X2_isWord rfl ⟨rfl, rfl⟩ hdX2_isWord ⟨Nat.le_of_ble_eq_true rfl, Nat.le_of_ble_eq_true rfl⟩ rfl hl.1 rfl (Nat.le_of_ble_eq_true rfl) ⟨Nat.le_of_ble_eq_true rfl, Nat.le_of_ble_eq_true rfl⟩ [0] rfl rfl rfl (setB_same _ _ _ rfl) rfl (ci := 2) (q0 := 0) rfl rfl rfl dX2_wordAt_70 (fun H locs hP hD hS => ?_)
            refine lv_if_eq (tgt := 80) hx hb dX2_wordAt_73 (by decide) (fun c12 => ?_) (fun c12 => ?_)
            · have hf := (o_i hf).1 c12
              refine lv_iconst (v := (-1)) hx hb dX2_wordAt_80 (by decide) ?_
              have e9 := Option.some.inj hf
              subst e9
              exact rt_i C hP hS rfl dX2_wordAt_81
            have hf := (o_i hf).2 c12
            refine lv_iconst (v := 5) hx hb dX2_wordAt_76 (by decide) ?_
            refine lv_goto (tgt := 81) hx hb dX2_wordAt_77 (by decide) ?_
            have e9 := Option.some.inj hf
            subst e9
            exact rt_i C hP hS rfl dX2_wordAt_81
          have hf := (o_i hf).2 c10
          refine lv_iconst (v := 4) hx hb dX2_wordAt_63 (by decide) ?_
          have e9 := Option.some.inj hf
          subst e9
          exact rt_i C hP hS rfl dX2_wordAt_64
        have hf := (o_i hf).2 c8
        refine lv_iconst (v := 3) hx hb dX2_wordAt_50 (by decide) ?_
        have e9 := Option.some.inj hf
        subst e9
        exact rt_i C hP hS rfl dX2_wordAt_51
      have hf := (o_i hf).2 c6
      refine lv_iconst (v := 2) hx hb dX2_wordAt_37 (by decide) ?_
      have e9 := Option.some.inj hf
      subst e9
      exact rt_i C hP hS rfl dX2_wordAt_38
    have hf := (o_i hf).2 c4
    refine lv_iconst (v := 1) hx hb dX2_wordAt_24 (by decide) ?_
    have e9 := Option.some.inj hf
    subst e9
    exact rt_i C hP hS rfl dX2_wordAt_25
  have hf := (o_i hf).2 c2
  refine lv_iconst (v := 0) hx hb dX2_wordAt_11 (by decide) ?_
  have e9 := Option.some.inj hf
  subst e9
  exact rt_i C hP hS rfl dX2_wordAt_12

/-! RX2 takesWord(II)Z -/
theorem iiX2_takesWord_X2 : ∀ w ∈ wsX20, w ∈ wsX2_takesWord := by decide +kernel
theorem mmX2_takesWord_1 : (Cond.fieldLink RX2 26 "BlindBells$Tale" "items" "I") ∈ wsX2_takesWord := by decide +kernel
theorem mmX2_takesWord_2 : (Cond.fieldLink RX2 23 "BlindBells$Tale" "word" "I") ∈ wsX2_takesWord := by decide +kernel
theorem mmX2_takesWord_3 : (Cond.fieldLink RX2 51 "BlindBells$Tale" "numbers" "I") ∈ wsX2_takesWord := by decide +kernel
theorem hdX2_takesWord : yX2_takesWord.cls = RX2 ∧ yX2_takesWord.cls ≠ "java/lang/invoke/MethodHandle" ∧ yX2_takesWord.cls ≠ "java/lang/invoke/VarHandle" ∧ (parseMethodDescriptor yX2_takesWord.desc).map (fun d => d.parameters.length) = some 2 := by decide +kernel
abbrev rmX2_takesWord : Room := { frames := 7, cells := 0, slots := 0, locals := 166 }
set_option maxHeartbeats 4000000 in
set_option maxRecDepth 100000 in
theorem tX2_takesWord (l : Launch) (G : GG) (a : Nat → Nat) (a_length : Int32) (a_text : Nat → Int32) (a_number : Nat → Int32) (a_word : Int32) (a_numbers : Int32) (a_items : Int32) (a_refused : Int32) (p0 : Int32) (p1 : Int32) (out : Int32 × Int32 × Int32) (hf : fX2_takesWord a_text a_word a_numbers a_items p0 p1 = some out) : cMi l G yX2_takesWord wsX2_takesWord rmX2_takesWord [.ref (a 0), .int p0, .int p1] (flat [wX2 G a a_length a_text a_number a_word a_numbers a_items a_refused]) out.1 (flat [wX2 G a a_length a_text a_number out.2.1 out.2.2 a_items a_refused]) := by
  intro sz
  refine met_of (cc := cX2_takesWord) (nL := 4) (ret := (some .boolean)) (Qc := fun A9 => QI G A9 out.1 (flat [wX2 G a a_length a_text a_number out.2.1 out.2.2 a_items a_refused])) (by decide) rfl (Nat.le_of_ble_eq_true rfl) ?_
  intro p e s m args below meth c A ls C hP hD hS hl
  obtain ⟨⟨hx, hb, hml, hown, hts⟩, hr, hlocks, hK, hN, hE, hA⟩ := id C
  have hl : lv_has ls 4 [(0, .ref (a 0)), (1, .int p0), (2, .int p1)] := hl
  unfold fX2_takesWord at hf
  refine lv_aload_n hx hb dX2_takesWord_0 rfl (lv_at hl 0 rfl) ?_
  refine lv_iload_n hx hb dX2_takesWord_1 rfl (lv_at hl 1 rfl) ?_
  refine lv_iload_n hx hb dX2_takesWord_2 rfl (lv_at hl 2 rfl) ?_
  obtain ⟨g1, hg1, hf⟩ := o_b hf
  refine bVi C hP hD hS (tX2_wordAt l G a a_length a_text a_number a_word a_numbers a_items a_refused p0 p1 g1 hg1) gX2_takesWord_X2_wordAt rfl ⟨rfl, rfl⟩ hdX2_wordAt ⟨Nat.le_of_ble_eq_true rfl, Nat.le_of_ble_eq_true rfl⟩ rfl hl.1 rfl (Nat.le_of_ble_eq_true rfl) ⟨Nat.le_of_ble_eq_true rfl, Nat.le_of_ble_eq_true rfl⟩ [0] rfl rfl rfl (setB_same _ _ _ rfl) rfl (ci := 2) (q0 := 0) rfl rfl rfl dX2_takesWord_3 (fun H locs hP hD hS => ?_)
  refine lv_istore_n (lv' := [(3, .int g1), (0, .ref (a 0)), (1, .int p0), (2, .int p1)]) hx hb dX2_takesWord_6 rfl hl (by decide) rfl (fun ls hl => ?_)
  refine lv_iload_n hx hb dX2_takesWord_7 rfl (lv_at hl 0 rfl) ?_
  refine lv_iconst (v := (-1)) hx hb dX2_takesWord_8 (by decide) ?_
  refine lv_icmp_eq (tgt := 36) hx hb dX2_takesWord_9 (by decide) (fun c2 => ?_) (fun c2 => ?_)
  · have hf := (o_i hf).1 c2
    refine lv_iconst (v := 0) hx hb dX2_takesWord_36 (by decide) ?_
    have e9 := Option.some.inj hf
    subst e9
    exact rt_z C hP hS rfl rfl dX2_takesWord_37
  have hf := (o_i hf).2 c2
  refine lv_iload_n hx hb dX2_takesWord_12 rfl (lv_at hl 0 rfl) ?_
  obtain ⟨f4, hf4, hf⟩ := o_b hf
  have hJ : ∀ (H : Heap) (locs : List Loc) (ls : Array Slot), va_P G.1 vwCl (flat [wX2 G a a_length a_text a_number a_word a_numbers a_items a_refused]) H → va_D A (flat [wX2 G a a_length a_text a_number a_word a_numbers a_items a_refused]) → va_S A s.heap H locs → lv_has ls 4 [(0, .ref (a 0)), (1, .int p0), (2, .int p1), (3, .int g1)] → W p l e rmX2_takesWord s m args below meth c H locs 0 0 (MQ below (QI G A out.1 (flat [wX2 G a a_length a_text a_number out.2.1 out.2.2 a_items a_refused])) args s 0 0 A) (F0 m 21 ls [.int f4]) := by
    intro H locs ls hP hD hS hl
    refine lv_aload_n hx hb dX2_takesWord_21 rfl (lv_at hl 0 rfl) ?_
    refine va_get (D := G.1) (ci := 2) (v := .int a_items) (C := RX2) (T := TX2) (N := 7) hx hb hts iiX2_takesWord_X2 hown hK hP 0 rfl rfl 5 (by decide) (hts _ mmX2_takesWord_1) (fun _ h9 => h9) rfl dX2_takesWord_22 ?_
    obtain ⟨f6, hf6, hf⟩ := o_b hf
    have hJ : ∀ (H : Heap) (locs : List Loc) (ls : Array Slot), va_P G.1 vwCl (flat [wX2 G a a_length a_text a_number a_word a_numbers a_items a_refused]) H → va_D A (flat [wX2 G a a_length a_text a_number a_word a_numbers a_items a_refused]) → va_S A s.heap H locs → lv_has ls 4 [(0, .ref (a 0)), (1, .int p0), (2, .int p1), (3, .int g1)] → W p l e rmX2_takesWord s m args below meth c H locs 0 0 (MQ below (QI G A out.1 (flat [wX2 G a a_length a_text a_number out.2.1 out.2.2 a_items a_refused])) args s 0 0 A) (F0 m 33 ls [.int f6, .int f4]) := by
      intro H locs ls hP hD hS hl
      refine lv_icmp_eq (tgt := 38) hx hb dX2_takesWord_33 (by decide) (fun c7 => ?_) (fun c7 => ?_)
      · have hf := (o_i hf).1 c7
        refine lv_aload_n hx hb dX2_takesWord_38 rfl (lv_at hl 0 rfl) ?_
        refine lv_iload_n hx hb dX2_takesWord_39 rfl (lv_at hl 3 rfl) ?_
        refine va_put (D := G.1) (ci := 2) (v := .int g1) (ty := .int) (C := RX2) (T := TX2) (N := 7) hx hb hts iiX2_takesWord_X2 tyX2 tyX2_ok nmX2 hown hK hP hD hS 0 rfl rfl 3 (by decide) (hts _ mmX2_takesWord_2) (fun _ h9 => h9) rfl (by decide +kernel) rfl rfl (Nat.le_of_ble_eq_true rfl) dX2_takesWord_40 (fun H locs hP hD hS => ?_)
        have hP : va_P G.1 vwCl (flat [wX2 G a a_length a_text a_number g1 a_numbers a_items a_refused]) H := hP
        have hD : va_D A (flat [wX2 G a a_length a_text a_number g1 a_numbers a_items a_refused]) := hD
        refine lv_aload_n hx hb dX2_takesWord_43 rfl (lv_at hl 0 rfl) ?_
        refine lv_iconst (v := 0) hx hb dX2_takesWord_44 (by decide) ?_
        refine va_put (D := G.1) (ci := 2) (v := .int 0) (ty := .int) (C := RX2) (T := TX2) (N := 7) hx hb hts iiX2_takesWord_X2 tyX2 tyX2_ok nmX2 hown hK hP hD hS 0 rfl rfl 4 (by decide) (hts _ mmX2_takesWord_3) (fun _ h9 => h9) rfl (by decide +kernel) rfl rfl (Nat.le_of_ble_eq_true rfl) dX2_takesWord_45 (fun H locs hP hD hS => ?_)
        have hP : va_P G.1 vwCl (flat [wX2 G a a_length a_text a_number g1 0 a_items a_refused]) H := hP
        have hD : va_D A (flat [wX2 G a a_length a_text a_number g1 0 a_items a_refused]) := hD
        refine lv_iconst (v := 1) hx hb dX2_takesWord_48 (by decide) ?_
        have e9 := Option.some.inj hf
        subst e9
        exact rt_z C hP hS rfl rfl dX2_takesWord_49
      have hf := (o_i hf).2 c7
      refine lv_iconst (v := 0) hx hb dX2_takesWord_36 (by decide) ?_
      have e9 := Option.some.inj hf
      subst e9
      exact rt_z C hP hS rfl rfl dX2_takesWord_37
    clear hf
    have hf := hf6
    refine lv_if_ne (tgt := 32) hx hb dX2_takesWord_25 (by decide) (fun c5 => ?_) (fun c5 => ?_)
    · have hf := (o_i hf).2 c5
      refine lv_iconst (v := 0) hx hb dX2_takesWord_32 (by decide) ?_
      have e9 := Option.some.inj hf
      subst e9
      exact hJ _ _ _ hP hD hS (lv_sub hl [0, 1, 2, 3] rfl)
    have hf := (o_i hf).1 c5
    refine lv_iconst (v := 1) hx hb dX2_takesWord_28 (by decide) ?_
    refine lv_goto (tgt := 33) hx hb dX2_takesWord_29 (by decide) ?_
    have e9 := Option.some.inj hf
    subst e9
    exact hJ _ _ _ hP hD hS (lv_sub hl [0, 1, 2, 3] rfl)
  clear hf
  have hf := hf4
  refine lv_if_ne (tgt := 20) hx hb dX2_takesWord_13 (by decide) (fun c3 => ?_) (fun c3 => ?_)
  · have hf := (o_i hf).2 c3
    refine lv_iconst (v := 0) hx hb dX2_takesWord_20 (by decide) ?_
    have e9 := Option.some.inj hf
    subst e9
    exact hJ _ _ _ hP hD hS (lv_sub hl [1, 2, 3, 0] rfl)
  have hf := (o_i hf).1 c3
  refine lv_iconst (v := 1) hx hb dX2_takesWord_16 (by decide) ?_
  refine lv_goto (tgt := 21) hx hb dX2_takesWord_17 (by decide) ?_
  have e9 := Option.some.inj hf
  subst e9
  exact hJ _ _ _ hP hD hS (lv_sub hl [1, 2, 3, 0] rfl)

/-! RX2 takesNumber(II)Z -/
theorem iiX2_takesNumber_X2 : ∀ w ∈ wsX20, w ∈ wsX2_takesNumber := by decide +kernel
theorem mmX2_takesNumber_1 : (Cond.fieldLink RX2 9 "BlindBells$Tale" "text" "[B") ∈ wsX2_takesNumber := by decide +kernel
theorem mmX2_takesNumber_2 : (Cond.fieldLink RX2 15 "BlindBells$Tale" "number" "[I") ∈ wsX2_takesNumber := by decide +kernel
theorem mmX2_takesNumber_3 : (Cond.fieldLink RX2 51 "BlindBells$Tale" "numbers" "I") ∈ wsX2_takesNumber := by decide +kernel
theorem hdX2_takesNumber : yX2_takesNumber.cls = RX2 ∧ yX2_takesNumber.cls ≠ "java/lang/invoke/MethodHandle" ∧ yX2_takesNumber.cls ≠ "java/lang/invoke/VarHandle" ∧ (parseMethodDescriptor yX2_takesNumber.desc).map (fun d => d.parameters.length) = some 2 := by decide +kernel
abbrev rmX2_takesNumber : Room := { frames := 1, cells := 0, slots := 0, locals := 20 }
set_option maxHeartbeats 4000000 in
set_option maxRecDepth 100000 in
theorem lX2_takesNumber_26 {p : Program} {e : Env} {s : State} {m : MethodId} {args : Array Value} {below : List Frame} {meth : Method} {c : Code} {A : Nat → Prop} (l : Launch) (G : GG) (C : Cx p m c cX2_takesNumber 5 s args wsX2_takesNumber RX2 meth (some .boolean) G A) (a : Nat → Nat) (a_length : Int32) (a_text : Nat → Int32) (a_number : Nat → Int32) (a_word : Int32) (a_numbers : Int32) (a_items : Int32) (a_refused : Int32) (p0 : Int32) (p1 : Int32) (out : Int32 × (Nat → Int32) × Int32) (kx : Int32 → Int32 → Option (Int32 × (Nat → Int32) × Int32)) (HX : ∀ (x3_26 : Int32) (x4_26 : Int32) (H : Heap) (locs : List Loc) (ls : Array Slot), va_P G.1 vwCl (flat [wX2 G a a_length a_text a_number a_word a_numbers a_items a_refused]) H → va_D A (flat [wX2 G a a_length a_text a_number a_word a_numbers a_items a_refused]) → va_S A s.heap H locs → lv_has ls 5 [(0, .ref (a 0)), (1, .int p0), (2, .int p1), (3, .int x3_26), (4, .int x4_26)] → kx x3_26 x4_26 = some out → W p l e rmX2_takesNumber s m args below meth c H locs 0 0 (MQ below (QI G A out.1 (flat [wX2 G a a_length a_text out.2.1 a_word out.2.2 a_items a_refused])) args s 0 0 A) (F0 m 54 ls [])) : ∀ (n : Nat) (x3_26 : Int32) (x4_26 : Int32) (H : Heap) (locs : List Loc) (ls : Array Slot), va_P G.1 vwCl (flat [wX2 G a a_length a_text a_number a_word a_numbers a_items a_refused]) H → va_D A (flat [wX2 G a a_length a_text a_number a_word a_numbers a_items a_refused]) → va_S A s.heap H locs → lv_has ls 5 [(0, .ref (a 0)), (1, .int p0), (2, .int p1), (3, .int x3_26), (4, .int x4_26)] → fX2_takesNumber_26 p1 a_text kx n x3_26 x4_26 = some out → W p l e rmX2_takesNumber s m args below meth c H locs 0 0 (MQ below (QI G A out.1 (flat [wX2 G a a_length a_text out.2.1 a_word out.2.2 a_items a_refused])) args s 0 0 A) (F0 m 26 ls []) := by
  obtain ⟨⟨hx, hb, hml, hown, hts⟩, hr, hlocks, hK, hN, hE, hA⟩ := id C
  intro n
  induction n with
  | zero =>
    intro x3_26 x4_26 H locs ls hP hD hS hl hf
    exact absurd (show (none : Option (Int32 × (Nat → Int32) × Int32)) = some out from hf) (by intro q9; cases q9)
  | succ n ih =>
    intro x3_26 x4_26 H locs ls hP hD hS hl hf
    rw [fX2_takesNumber_26] at hf
    refine lv_iload hx hb dX2_takesNumber_26 (lv_at hl 4 rfl) ?_
    refine lv_iload_n hx hb dX2_takesNumber_28 rfl (lv_at hl 2 rfl) ?_
    refine lv_icmp_ge (tgt := 54) hx hb dX2_takesNumber_29 (by decide) (fun c5 => ?_) (fun c5 => ?_)
    · have hf := (o_i hf).1 c5
      exact HX _ _ _ _ _ hP hD hS (lv_sub hl [0, 1, 2, 3, 4] rfl) hf
    have hf := (o_i hf).2 c5
    refine lv_bipush (v := 10) hx hb dX2_takesNumber_32 (by decide) ?_
    refine lv_iload_n hx hb dX2_takesNumber_34 rfl (lv_at hl 3 rfl) ?_
    refine lv_imul hx hb dX2_takesNumber_35 ?_
    refine lv_aload_n hx hb dX2_takesNumber_36 rfl (lv_at hl 0 rfl) ?_
    refine va_get (D := G.1) (ci := 2) (v := .ref (a 1)) (C := RX2) (T := TX2) (N := 7) hx hb hts iiX2_takesNumber_X2 hown hK hP 0 rfl rfl 1 (by decide) (hts _ mmX2_takesNumber_1) (fun _ h9 => h9) rfl dX2_takesNumber_37 ?_
    refine lv_iload hx hb dX2_takesNumber_40 (lv_at hl 4 rfl) ?_
    obtain ⟨z6, hz6, hf⟩ := o_b hf
    refine k_bald hx hb hK hP 1 1 rfl rfl hz6 dX2_takesNumber_42 ?_
    refine lv_iadd hx hb dX2_takesNumber_43 ?_
    refine lv_bipush (v := 48) hx hb dX2_takesNumber_44 (by decide) ?_
    refine at_pc (pc' := 46) rfl ?_
    refine lv_isub hx hb dX2_takesNumber_46 ?_
    refine lv_istore_n (lv' := [(3, .int (((10 * x3_26) + z6) - 48)), (0, .ref (a 0)), (1, .int p0), (2, .int p1), (4, .int x4_26)]) hx hb dX2_takesNumber_47 rfl hl (by decide) rfl (fun ls hl => ?_)
    refine lv_iinc (v := x4_26 + 1) (lv' := [(4, .int (x4_26 + 1)), (3, .int (((10 * x3_26) + z6) - 48)), (0, .ref (a 0)), (1, .int p0), (2, .int p1)]) hx hb dX2_takesNumber_48 hl (k := 4) rfl (congrArg (fun z => x4_26 + z) (by decide)) (by decide) rfl (fun ls hl => ?_)
    refine lv_goto (tgt := 26) hx hb dX2_takesNumber_51 (by decide) ?_
    exact ih _ _ _ _ _ hP hD hS (lv_sub hl [2, 3, 4, 1, 0] rfl) hf
set_option maxHeartbeats 4000000 in
set_option maxRecDepth 100000 in
theorem tX2_takesNumber (l : Launch) (G : GG) (a : Nat → Nat) (a_length : Int32) (a_text : Nat → Int32) (a_number : Nat → Int32) (a_word : Int32) (a_numbers : Int32) (a_items : Int32) (a_refused : Int32) (p0 : Int32) (p1 : Int32) (out : Int32 × (Nat → Int32) × Int32) (hf : fX2_takesNumber a_text a_number a_numbers p0 p1 = some out) : cMi l G yX2_takesNumber wsX2_takesNumber rmX2_takesNumber [.ref (a 0), .int p0, .int p1] (flat [wX2 G a a_length a_text a_number a_word a_numbers a_items a_refused]) out.1 (flat [wX2 G a a_length a_text out.2.1 a_word out.2.2 a_items a_refused]) := by
  intro sz
  refine met_of (cc := cX2_takesNumber) (nL := 5) (ret := (some .boolean)) (Qc := fun A9 => QI G A9 out.1 (flat [wX2 G a a_length a_text out.2.1 a_word out.2.2 a_items a_refused])) (by decide) rfl (Nat.le_of_ble_eq_true rfl) ?_
  intro p e s m args below meth c A ls C hP hD hS hl
  obtain ⟨⟨hx, hb, hml, hown, hts⟩, hr, hlocks, hK, hN, hE, hA⟩ := id C
  have hl : lv_has ls 5 [(0, .ref (a 0)), (1, .int p0), (2, .int p1)] := hl
  unfold fX2_takesNumber at hf
  refine lv_aload_n hx hb dX2_takesNumber_0 rfl (lv_at hl 0 rfl) ?_
  refine va_get (D := G.1) (ci := 2) (v := .ref (a 1)) (C := RX2) (T := TX2) (N := 7) hx hb hts iiX2_takesNumber_X2 hown hK hP 0 rfl rfl 1 (by decide) (hts _ mmX2_takesNumber_1) (fun _ h9 => h9) rfl dX2_takesNumber_1 ?_
  refine lv_iload_n hx hb dX2_takesNumber_4 rfl (lv_at hl 1 rfl) ?_
  obtain ⟨z1, hz1, hf⟩ := o_b hf
  refine k_bald hx hb hK hP 1 1 rfl rfl hz1 dX2_takesNumber_5 ?_
  obtain ⟨g2, hg2, hf⟩ := o_b hf
  refine bSi C hP hD hS (tX2_isFigure l G z1 g2 hg2) gX2_takesNumber_X2_isFigure rfl ⟨rfl, rfl⟩ hdX2_isFigure ⟨Nat.le_of_ble_eq_true rfl, Nat.le_of_ble_eq_true rfl⟩ rfl hl.1 rfl (Nat.le_of_ble_eq_true rfl) ⟨Nat.le_of_ble_eq_true rfl, Nat.le_of_ble_eq_true rfl⟩ [] rfl rfl rfl (setB_same _ _ _ rfl) rfl dX2_takesNumber_6 (fun H locs hP hD hS => ?_)
  refine lv_if_eq (tgt := 19) hx hb dX2_takesNumber_9 (by decide) (fun c3 => ?_) (fun c3 => ?_)
  · have hf := (o_i hf).1 c3
    refine lv_iconst (v := 0) hx hb dX2_takesNumber_19 (by decide) ?_
    have e9 := Option.some.inj hf
    subst e9
    exact rt_z C hP hS rfl rfl dX2_takesNumber_20
  have hf := (o_i hf).2 c3
  refine lv_iload_n hx hb dX2_takesNumber_12 rfl (lv_at hl 2 rfl) ?_
  refine lv_iload_n hx hb dX2_takesNumber_13 rfl (lv_at hl 1 rfl) ?_
  refine lv_isub hx hb dX2_takesNumber_14 ?_
  refine lv_iconst (v := 2) hx hb dX2_takesNumber_15 (by decide) ?_
  refine lv_icmp_le (tgt := 21) hx hb dX2_takesNumber_16 (by decide) (fun c4 => ?_) (fun c4 => ?_)
  · have hf := (o_i hf).1 c4
    refine lv_iconst (v := 0) hx hb dX2_takesNumber_21 (by decide) ?_
    refine lv_istore_n (lv' := [(3, .int 0), (0, .ref (a 0)), (1, .int p0), (2, .int p1)]) hx hb dX2_takesNumber_22 rfl hl (by decide) rfl (fun ls hl => ?_)
    refine lv_iload_n hx hb dX2_takesNumber_23 rfl (lv_at hl 2 rfl) ?_
    refine lv_istore (lv' := [(4, .int p0), (3, .int 0), (0, .ref (a 0)), (1, .int p0), (2, .int p1)]) hx hb dX2_takesNumber_24 hl (by decide) rfl (fun ls hl => ?_)
    refine lX2_takesNumber_26 l G C a a_length a_text a_number a_word a_numbers a_items a_refused p0 p1 out _ (fun x3_26_7 x4_26_8 H locs ls hP hD hS hl hf => ?_) fu 0 p0 _ _ _ hP hD hS (lv_sub hl [2, 3, 4, 1, 0] rfl) hf
    refine lv_aload_n hx hb dX2_takesNumber_54 rfl (lv_at hl 0 rfl) ?_
    refine va_get (D := G.1) (ci := 2) (v := .ref (a 2)) (C := RX2) (T := TX2) (N := 7) hx hb hts iiX2_takesNumber_X2 hown hK hP 0 rfl rfl 2 (by decide) (hts _ mmX2_takesNumber_2) (fun _ h9 => h9) rfl dX2_takesNumber_55 ?_
    refine lv_aload_n hx hb dX2_takesNumber_58 rfl (lv_at hl 0 rfl) ?_
    refine va_get (D := G.1) (ci := 2) (v := .int a_numbers) (C := RX2) (T := TX2) (N := 7) hx hb hts iiX2_takesNumber_X2 hown hK hP 0 rfl rfl 4 (by decide) (hts _ mmX2_takesNumber_3) (fun _ h9 => h9) rfl dX2_takesNumber_59 ?_
    refine lv_iload_n hx hb dX2_takesNumber_62 rfl (lv_at hl 3 rfl) ?_
    obtain ⟨u9, hu9, hf⟩ := o_b hf
    refine k_iast hx hb hK hP hD hS 2 0 rfl rfl hu9 dX2_takesNumber_63 (fun H locs hP hD hS => ?_)
    have hP : va_P G.1 vwCl (flat [wX2 G a a_length a_text u9 a_word a_numbers a_items a_refused]) H := hP
    have hD : va_D A (flat [wX2 G a a_length a_text u9 a_word a_numbers a_items a_refused]) := hD
    refine lv_aload_n hx hb dX2_takesNumber_64 rfl (lv_at hl 0 rfl) ?_
    refine lv_dup hx hb dX2_takesNumber_65 rfl ?_
    refine va_get (D := G.1) (ci := 2) (v := .int a_numbers) (C := RX2) (T := TX2) (N := 7) hx hb hts iiX2_takesNumber_X2 hown hK hP 0 rfl rfl 4 (by decide) (hts _ mmX2_takesNumber_3) (fun _ h9 => h9) rfl dX2_takesNumber_66 ?_
    refine at_pc (pc' := 69) rfl ?_
    refine lv_iconst (v := 1) hx hb dX2_takesNumber_69 (by decide) ?_
    refine lv_iadd hx hb dX2_takesNumber_70 ?_
    refine va_put (D := G.1) (ci := 2) (v := .int (a_numbers + 1)) (ty := .int) (C := RX2) (T := TX2) (N := 7) hx hb hts iiX2_takesNumber_X2 tyX2 tyX2_ok nmX2 hown hK hP hD hS 0 rfl rfl 4 (by decide) (hts _ mmX2_takesNumber_3) (fun _ h9 => h9) rfl (by decide +kernel) rfl rfl (Nat.le_of_ble_eq_true rfl) dX2_takesNumber_71 (fun H locs hP hD hS => ?_)
    have hP : va_P G.1 vwCl (flat [wX2 G a a_length a_text u9 a_word (a_numbers + 1) a_items a_refused]) H := hP
    have hD : va_D A (flat [wX2 G a a_length a_text u9 a_word (a_numbers + 1) a_items a_refused]) := hD
    refine lv_iconst (v := 1) hx hb dX2_takesNumber_74 (by decide) ?_
    have e9 := Option.some.inj hf
    subst e9
    exact rt_z C hP hS rfl rfl dX2_takesNumber_75
  have hf := (o_i hf).2 c4
  refine lv_iconst (v := 0) hx hb dX2_takesNumber_19 (by decide) ?_
  have e9 := Option.some.inj hf
  subst e9
  exact rt_z C hP hS rfl rfl dX2_takesNumber_20

/-! RX2 isTaken(LBlindBells$Valley;)Z -/
theorem iiX2_isTaken_X2 : ∀ w ∈ wsX20, w ∈ wsX2_isTaken := by decide +kernel
theorem mmX2_isTaken_1 : (Cond.fieldLink RX2 23 "BlindBells$Tale" "word" "I") ∈ wsX2_isTaken := by decide +kernel
theorem mmX2_isTaken_2 : (Cond.fieldLink RX2 15 "BlindBells$Tale" "number" "[I") ∈ wsX2_isTaken := by decide +kernel
theorem hdX2_isTaken : yX2_isTaken.cls = RX2 ∧ yX2_isTaken.cls ≠ "java/lang/invoke/MethodHandle" ∧ yX2_isTaken.cls ≠ "java/lang/invoke/VarHandle" ∧ (parseMethodDescriptor yX2_isTaken.desc).map (fun d => d.parameters.length) = some 1 := by decide +kernel
abbrev rmX2_isTaken : Room := { frames := 3, cells := 0, slots := 0, locals := 68 }
set_option maxHeartbeats 4000000 in
set_option maxRecDepth 100000 in
theorem tX2_isTaken (l : Launch) (G : GG) (a : Nat → Nat) (b : Nat → Nat) (a_length : Int32) (a_text : Nat → Int32) (a_number : Nat → Int32) (a_word : Int32) (a_numbers : Int32) (a_items : Int32) (a_refused : Int32) (b_villages : Int32) (b_woods : Int32) (b_needs : Int32) (b_signs : Int32) (b_temper : Nat → Int32) (b_friend : Nat → Int32) (b_rope : Nat → Int32) (b_hears : Nat → Int32) (b_shut : Nat → Int32) (b_woodBell : Nat → Int32) (b_woodVillage : Nat → Int32) (b_needVillage : Nat → Int32) (b_needWind : Nat → Int32) (b_needSeen : Nat → Int32) (b_sign : Nat → Int32) (out : Int32 × Int32 × Int32 × Int32 × Int32 × (Nat → Int32) × (Nat → Int32) × (Nat → Int32) × (Nat → Int32) × (Nat → Int32) × (Nat → Int32) × (Nat → Int32) × (Nat → Int32) × (Nat → Int32) × (Nat → Int32)) (hf : fX2_isTaken a_number a_word b_villages b_woods b_needs b_signs b_temper b_friend b_rope b_hears b_shut b_woodBell b_woodVillage b_needVillage b_needWind b_needSeen = some out) : cMi l G yX2_isTaken wsX2_isTaken rmX2_isTaken [.ref (a 0), .ref (b 0)] (flat [wX2 G a a_length a_text a_number a_word a_numbers a_items a_refused, wX3 G b b_villages b_woods b_needs b_signs b_temper b_friend b_rope b_hears b_shut b_woodBell b_woodVillage b_needVillage b_needWind b_needSeen b_sign]) out.1 (flat [wX2 G a a_length a_text a_number a_word a_numbers a_items a_refused, wX3 G b out.2.1 out.2.2.1 out.2.2.2.1 out.2.2.2.2.1 out.2.2.2.2.2.1 out.2.2.2.2.2.2.1 out.2.2.2.2.2.2.2.1 out.2.2.2.2.2.2.2.2.1 out.2.2.2.2.2.2.2.2.2.1 out.2.2.2.2.2.2.2.2.2.2.1 out.2.2.2.2.2.2.2.2.2.2.2.1 out.2.2.2.2.2.2.2.2.2.2.2.2.1 out.2.2.2.2.2.2.2.2.2.2.2.2.2.1 out.2.2.2.2.2.2.2.2.2.2.2.2.2.2 b_sign]) := by
  intro sz
  refine met_of (cc := cX2_isTaken) (nL := 2) (ret := (some .boolean)) (Qc := fun A9 => QI G A9 out.1 (flat [wX2 G a a_length a_text a_number a_word a_numbers a_items a_refused, wX3 G b out.2.1 out.2.2.1 out.2.2.2.1 out.2.2.2.2.1 out.2.2.2.2.2.1 out.2.2.2.2.2.2.1 out.2.2.2.2.2.2.2.1 out.2.2.2.2.2.2.2.2.1 out.2.2.2.2.2.2.2.2.2.1 out.2.2.2.2.2.2.2.2.2.2.1 out.2.2.2.2.2.2.2.2.2.2.2.1 out.2.2.2.2.2.2.2.2.2.2.2.2.1 out.2.2.2.2.2.2.2.2.2.2.2.2.2.1 out.2.2.2.2.2.2.2.2.2.2.2.2.2.2 b_sign])) (by decide) rfl (Nat.le_of_ble_eq_true rfl) ?_
  intro p e s m args below meth c A ls C hP hD hS hl
  obtain ⟨⟨hx, hb, hml, hown, hts⟩, hr, hlocks, hK, hN, hE, hA⟩ := id C
  have hl : lv_has ls 2 [(0, .ref (a 0)), (1, .ref (b 0))] := hl
  unfold fX2_isTaken at hf
  refine lv_aload_n hx hb dX2_isTaken_0 rfl (lv_at hl 0 rfl) ?_
  refine va_get (D := G.1) (ci := 2) (v := .int a_word) (C := RX2) (T := TX2) (N := 7) hx hb hts iiX2_isTaken_X2 hown hK hP 0 rfl rfl 3 (by decide) (hts _ mmX2_isTaken_1) (fun _ h9 => h9) rfl dX2_isTaken_1 ?_
  by_cases c1 : a_word = 0
  · have hf := (o_i hf).1 c1
    refine lv_tableIn (tgt := 40) hx hb dX2_isTaken_4 (by rw [c1]; decide) (by rw [c1]; decide) (off := 36) (by rw [c1]; rfl) (by decide) ?_
    refine lv_aload_n hx hb dX2_isTaken_40 rfl (lv_at hl 1 rfl) ?_
    refine lv_aload_n hx hb dX2_isTaken_41 rfl (lv_at hl 0 rfl) ?_
    refine va_get (D := G.1) (ci := 2) (v := .ref (a 2)) (C := RX2) (T := TX2) (N := 7) hx hb hts iiX2_isTaken_X2 hown hK hP 0 rfl rfl 2 (by decide) (hts _ mmX2_isTaken_2) (fun _ h9 => h9) rfl dX2_isTaken_42 ?_
    refine lv_iconst (v := 0) hx hb dX2_isTaken_45 (by decide) ?_
    obtain ⟨z2, hz2, hf⟩ := o_b hf
    refine k_iald hx hb hK hP 2 0 rfl rfl hz2 dX2_isTaken_46 ?_
    obtain ⟨g3, hg3, hf⟩ := o_b hf
    refine bVi (Bs' := [wX2 G a a_length a_text a_number a_word a_numbers a_items a_refused, wX3 G b g3.2.1 g3.2.2.1 g3.2.2.2.1 g3.2.2.2.2.1 g3.2.2.2.2.2.1 g3.2.2.2.2.2.2.1 g3.2.2.2.2.2.2.2.1 g3.2.2.2.2.2.2.2.2.1 g3.2.2.2.2.2.2.2.2.2 b_woodBell b_woodVillage b_needVillage b_needWind b_needSeen b_sign]) C hP hD hS (tX3_settle l G b b_villages b_woods b_needs b_signs b_temper b_friend b_rope b_hears b_shut b_woodBell b_woodVillage b_needVillage b_needWind b_needSeen b_sign z2 g3 hg3) gX2_isTaken_X3_settle rfl ⟨rfl, rfl⟩ hdX3_settle ⟨Nat.le_of_ble_eq_true rfl, Nat.le_of_ble_eq_true rfl⟩ rfl hl.1 rfl (Nat.le_of_ble_eq_true rfl) ⟨Nat.le_of_ble_eq_true rfl, Nat.le_of_ble_eq_true rfl⟩ [1] rfl rfl rfl rfl rfl (ci := 3) (q0 := 3) rfl rfl rfl dX2_isTaken_47 (fun H locs hP hD hS => ?_)
    have hP : va_P G.1 vwCl (flat [wX2 G a a_length a_text a_number a_word a_numbers a_items a_refused, wX3 G b g3.2.1 g3.2.2.1 g3.2.2.2.1 g3.2.2.2.2.1 g3.2.2.2.2.2.1 g3.2.2.2.2.2.2.1 g3.2.2.2.2.2.2.2.1 g3.2.2.2.2.2.2.2.2.1 g3.2.2.2.2.2.2.2.2.2 b_woodBell b_woodVillage b_needVillage b_needWind b_needSeen b_sign]) H := hP
    have hD : va_D A (flat [wX2 G a a_length a_text a_number a_word a_numbers a_items a_refused, wX3 G b g3.2.1 g3.2.2.1 g3.2.2.2.1 g3.2.2.2.2.1 g3.2.2.2.2.2.1 g3.2.2.2.2.2.2.1 g3.2.2.2.2.2.2.2.1 g3.2.2.2.2.2.2.2.2.1 g3.2.2.2.2.2.2.2.2.2 b_woodBell b_woodVillage b_needVillage b_needWind b_needSeen b_sign]) := hD
    obtain ⟨z4, hz4, hf⟩ := o_b hf
    obtain ⟨hn9, e8⟩ := zb_ok hz4
    have e8 := e8.symm
    subst e8
    have e9 := Option.some.inj hf
    subst e9
    exact rt_z C hP hS rfl hn9 dX2_isTaken_50
  have hf := (o_i hf).2 c1
  by_cases c5 : a_word = 1
  · have hf := (o_i hf).1 c5
    refine lv_tableIn (tgt := 51) hx hb dX2_isTaken_4 (by rw [c5]; decide) (by rw [c5]; decide) (off := 47) (by rw [c5]; rfl) (by decide) ?_
    refine lv_aload_n hx hb dX2_isTaken_51 rfl (lv_at hl 1 rfl) ?_
    refine lv_aload_n hx hb dX2_isTaken_52 rfl (lv_at hl 0 rfl) ?_
    refine va_get (D := G.1) (ci := 2) (v := .ref (a 2)) (C := RX2) (T := TX2) (N := 7) hx hb hts iiX2_isTaken_X2 hown hK hP 0 rfl rfl 2 (by decide) (hts _ mmX2_isTaken_2) (fun _ h9 => h9) rfl dX2_isTaken_53 ?_
    refine lv_iconst (v := 0) hx hb dX2_isTaken_56 (by decide) ?_
    obtain ⟨z6, hz6, hf⟩ := o_b hf
    refine k_iald hx hb hK hP 2 0 rfl rfl hz6 dX2_isTaken_57 ?_
    refine lv_aload_n hx hb dX2_isTaken_58 rfl (lv_at hl 0 rfl) ?_
    refine va_get (D := G.1) (ci := 2) (v := .ref (a 2)) (C := RX2) (T := TX2) (N := 7) hx hb hts iiX2_isTaken_X2 hown hK hP 0 rfl rfl 2 (by decide) (hts _ mmX2_isTaken_2) (fun _ h9 => h9) rfl dX2_isTaken_59 ?_
    refine lv_iconst (v := 1) hx hb dX2_isTaken_62 (by decide) ?_
    obtain ⟨z7, hz7, hf⟩ := o_b hf
    refine k_iald hx hb hK hP 2 0 rfl rfl hz7 dX2_isTaken_63 ?_
    refine at_pc (pc' := 64) rfl ?_
    refine lv_aload_n hx hb dX2_isTaken_64 rfl (lv_at hl 0 rfl) ?_
    refine va_get (D := G.1) (ci := 2) (v := .ref (a 2)) (C := RX2) (T := TX2) (N := 7) hx hb hts iiX2_isTaken_X2 hown hK hP 0 rfl rfl 2 (by decide) (hts _ mmX2_isTaken_2) (fun _ h9 => h9) rfl dX2_isTaken_65 ?_
    refine lv_iconst (v := 2) hx hb dX2_isTaken_68 (by decide) ?_
    obtain ⟨z8, hz8, hf⟩ := o_b hf
    refine k_iald hx hb hK hP 2 0 rfl rfl hz8 dX2_isTaken_69 ?_
    refine lv_iconst (v := 1) hx hb dX2_isTaken_70 (by decide) ?_
    obtain ⟨g9, hg9, hf⟩ := o_b hf
    refine bVi (Bs' := [wX2 G a a_length a_text a_number a_word a_numbers a_items a_refused, wX3 G b b_villages b_woods b_needs b_signs b_temper b_friend b_rope g9.2 b_shut b_woodBell b_woodVillage b_needVillage b_needWind b_needSeen b_sign]) C hP hD hS (tX3_setHears l G b b_villages b_woods b_needs b_signs b_temper b_friend b_rope b_hears b_shut b_woodBell b_woodVillage b_needVillage b_needWind b_needSeen b_sign z6 z7 z8 1 g9 hg9) gX2_isTaken_X3_setHears rfl ⟨rfl, rfl⟩ hdX3_setHears ⟨Nat.le_of_ble_eq_true rfl, Nat.le_of_ble_eq_true rfl⟩ rfl hl.1 rfl (Nat.le_of_ble_eq_true rfl) ⟨Nat.le_of_ble_eq_true rfl, Nat.le_of_ble_eq_true rfl⟩ [1] rfl rfl rfl rfl rfl (ci := 3) (q0 := 3) rfl rfl rfl dX2_isTaken_71 (fun H locs hP hD hS => ?_)
    have hP : va_P G.1 vwCl (flat [wX2 G a a_length a_text a_number a_word a_numbers a_items a_refused, wX3 G b b_villages b_woods b_needs b_signs b_temper b_friend b_rope g9.2 b_shut b_woodBell b_woodVillage b_needVillage b_needWind b_needSeen b_sign]) H := hP
    have hD : va_D A (flat [wX2 G a a_length a_text a_number a_word a_numbers a_items a_refused, wX3 G b b_villages b_woods b_needs b_signs b_temper b_friend b_rope g9.2 b_shut b_woodBell b_woodVillage b_needVillage b_needWind b_needSeen b_sign]) := hD
    refine lv_if_lt (tgt := 81) hx hb dX2_isTaken_74 (by decide) (fun c10 => ?_) (fun c10 => ?_)
    · have hf := (o_i hf).1 c10
      refine lv_iconst (v := 0) hx hb dX2_isTaken_81 (by decide) ?_
      have e9 := Option.some.inj hf
      subst e9
      exact rt_z C hP hS rfl rfl dX2_isTaken_82
    have hf := (o_i hf).2 c10
    refine lv_iconst (v := 1) hx hb dX2_isTaken_77 (by decide) ?_
    refine lv_goto (tgt := 82) hx hb dX2_isTaken_78 (by decide) ?_
    have e9 := Option.some.inj hf
    subst e9
    exact rt_z C hP hS rfl rfl dX2_isTaken_82
  have hf := (o_i hf).2 c5
  by_cases c11 : a_word = 2
  · have hf := (o_i hf).1 c11
    refine lv_tableIn (tgt := 83) hx hb dX2_isTaken_4 (by rw [c11]; decide) (by rw [c11]; decide) (off := 79) (by rw [c11]; rfl) (by decide) ?_
    refine lv_aload_n hx hb dX2_isTaken_83 rfl (lv_at hl 1 rfl) ?_
    refine lv_aload_n hx hb dX2_isTaken_84 rfl (lv_at hl 0 rfl) ?_
    refine va_get (D := G.1) (ci := 2) (v := .ref (a 2)) (C := RX2) (T := TX2) (N := 7) hx hb hts iiX2_isTaken_X2 hown hK hP 0 rfl rfl 2 (by decide) (hts _ mmX2_isTaken_2) (fun _ h9 => h9) rfl dX2_isTaken_85 ?_
    refine lv_iconst (v := 0) hx hb dX2_isTaken_88 (by decide) ?_
    obtain ⟨z12, hz12, hf⟩ := o_b hf
    refine k_iald hx hb hK hP 2 0 rfl rfl hz12 dX2_isTaken_89 ?_
    refine lv_aload_n hx hb dX2_isTaken_90 rfl (lv_at hl 0 rfl) ?_
    refine va_get (D := G.1) (ci := 2) (v := .ref (a 2)) (C := RX2) (T := TX2) (N := 7) hx hb hts iiX2_isTaken_X2 hown hK hP 0 rfl rfl 2 (by decide) (hts _ mmX2_isTaken_2) (fun _ h9 => h9) rfl dX2_isTaken_91 ?_
    refine lv_iconst (v := 1) hx hb dX2_isTaken_94 (by decide) ?_
    obtain ⟨z13, hz13, hf⟩ := o_b hf
    refine k_iald hx hb hK hP 2 0 rfl rfl hz13 dX2_isTaken_95 ?_
    refine at_pc (pc' := 96) rfl ?_
    obtain ⟨g14, hg14, hf⟩ := o_b hf
    refine bVi (Bs' := [wX2 G a a_length a_text a_number a_word a_numbers a_items a_refused, wX3 G b b_villages g14.2.1 b_needs b_signs b_temper b_friend b_rope b_hears g14.2.2.1 g14.2.2.2.1 g14.2.2.2.2 b_needVillage b_needWind b_needSeen b_sign]) C hP hD hS (tX3_addWood l G b b_villages b_woods b_needs b_signs b_temper b_friend b_rope b_hears b_shut b_woodBell b_woodVillage b_needVillage b_needWind b_needSeen b_sign z12 z13 g14 hg14) gX2_isTaken_X3_addWood rfl ⟨rfl, rfl⟩ hdX3_addWood ⟨Nat.le_of_ble_eq_true rfl, Nat.le_of_ble_eq_true rfl⟩ rfl hl.1 rfl (Nat.le_of_ble_eq_true rfl) ⟨Nat.le_of_ble_eq_true rfl, Nat.le_of_ble_eq_true rfl⟩ [1] rfl rfl rfl rfl rfl (ci := 3) (q0 := 3) rfl rfl rfl dX2_isTaken_96 (fun H locs hP hD hS => ?_)
    have hP : va_P G.1 vwCl (flat [wX2 G a a_length a_text a_number a_word a_numbers a_items a_refused, wX3 G b b_villages g14.2.1 b_needs b_signs b_temper b_friend b_rope b_hears g14.2.2.1 g14.2.2.2.1 g14.2.2.2.2 b_needVillage b_needWind b_needSeen b_sign]) H := hP
    have hD : va_D A (flat [wX2 G a a_length a_text a_number a_word a_numbers a_items a_refused, wX3 G b b_villages g14.2.1 b_needs b_signs b_temper b_friend b_rope b_hears g14.2.2.1 g14.2.2.2.1 g14.2.2.2.2 b_needVillage b_needWind b_needSeen b_sign]) := hD
    refine lv_if_lt (tgt := 106) hx hb dX2_isTaken_99 (by decide) (fun c15 => ?_) (fun c15 => ?_)
    · have hf := (o_i hf).1 c15
      refine lv_iconst (v := 0) hx hb dX2_isTaken_106 (by decide) ?_
      have e9 := Option.some.inj hf
      subst e9
      exact rt_z C hP hS rfl rfl dX2_isTaken_107
    have hf := (o_i hf).2 c15
    refine lv_iconst (v := 1) hx hb dX2_isTaken_102 (by decide) ?_
    refine lv_goto (tgt := 107) hx hb dX2_isTaken_103 (by decide) ?_
    have e9 := Option.some.inj hf
    subst e9
    exact rt_z C hP hS rfl rfl dX2_isTaken_107
  have hf := (o_i hf).2 c11
  by_cases c16 : a_word = 3
  · have hf := (o_i hf).1 c16
    refine lv_tableIn (tgt := 108) hx hb dX2_isTaken_4 (by rw [c16]; decide) (by rw [c16]; decide) (off := 104) (by rw [c16]; rfl) (by decide) ?_
    refine lv_aload_n hx hb dX2_isTaken_108 rfl (lv_at hl 1 rfl) ?_
    refine lv_aload_n hx hb dX2_isTaken_109 rfl (lv_at hl 0 rfl) ?_
    refine va_get (D := G.1) (ci := 2) (v := .ref (a 2)) (C := RX2) (T := TX2) (N := 7) hx hb hts iiX2_isTaken_X2 hown hK hP 0 rfl rfl 2 (by decide) (hts _ mmX2_isTaken_2) (fun _ h9 => h9) rfl dX2_isTaken_110 ?_
    refine lv_iconst (v := 0) hx hb dX2_isTaken_113 (by decide) ?_
    obtain ⟨z17, hz17, hf⟩ := o_b hf
    refine k_iald hx hb hK hP 2 0 rfl rfl hz17 dX2_isTaken_114 ?_
    refine lv_aload_n hx hb dX2_isTaken_115 rfl (lv_at hl 0 rfl) ?_
    refine va_get (D := G.1) (ci := 2) (v := .ref (a 2)) (C := RX2) (T := TX2) (N := 7) hx hb hts iiX2_isTaken_X2 hown hK hP 0 rfl rfl 2 (by decide) (hts _ mmX2_isTaken_2) (fun _ h9 => h9) rfl dX2_isTaken_116 ?_
    refine lv_iconst (v := 1) hx hb dX2_isTaken_119 (by decide) ?_
    obtain ⟨z18, hz18, hf⟩ := o_b hf
    refine k_iald hx hb hK hP 2 0 rfl rfl hz18 dX2_isTaken_120 ?_
    refine at_pc (pc' := 121) rfl ?_
    obtain ⟨g19, hg19, hf⟩ := o_b hf
    refine bVi (Bs' := [wX2 G a a_length a_text a_number a_word a_numbers a_items a_refused, wX3 G b b_villages b_woods b_needs b_signs g19.2 b_friend b_rope b_hears b_shut b_woodBell b_woodVillage b_needVillage b_needWind b_needSeen b_sign]) C hP hD hS (tX3_setTemper l G b b_villages b_woods b_needs b_signs b_temper b_friend b_rope b_hears b_shut b_woodBell b_woodVillage b_needVillage b_needWind b_needSeen b_sign z17 z18 g19 hg19) gX2_isTaken_X3_setTemper rfl ⟨rfl, rfl⟩ hdX3_setTemper ⟨Nat.le_of_ble_eq_true rfl, Nat.le_of_ble_eq_true rfl⟩ rfl hl.1 rfl (Nat.le_of_ble_eq_true rfl) ⟨Nat.le_of_ble_eq_true rfl, Nat.le_of_ble_eq_true rfl⟩ [1] rfl rfl rfl rfl rfl (ci := 3) (q0 := 3) rfl rfl rfl dX2_isTaken_121 (fun H locs hP hD hS => ?_)
    have hP : va_P G.1 vwCl (flat [wX2 G a a_length a_text a_number a_word a_numbers a_items a_refused, wX3 G b b_villages b_woods b_needs b_signs g19.2 b_friend b_rope b_hears b_shut b_woodBell b_woodVillage b_needVillage b_needWind b_needSeen b_sign]) H := hP
    have hD : va_D A (flat [wX2 G a a_length a_text a_number a_word a_numbers a_items a_refused, wX3 G b b_villages b_woods b_needs b_signs g19.2 b_friend b_rope b_hears b_shut b_woodBell b_woodVillage b_needVillage b_needWind b_needSeen b_sign]) := hD
    refine lv_if_lt (tgt := 131) hx hb dX2_isTaken_124 (by decide) (fun c20 => ?_) (fun c20 => ?_)
    · have hf := (o_i hf).1 c20
      refine lv_iconst (v := 0) hx hb dX2_isTaken_131 (by decide) ?_
      have e9 := Option.some.inj hf
      subst e9
      exact rt_z C hP hS rfl rfl dX2_isTaken_132
    have hf := (o_i hf).2 c20
    refine lv_iconst (v := 1) hx hb dX2_isTaken_127 (by decide) ?_
    refine lv_goto (tgt := 132) hx hb dX2_isTaken_128 (by decide) ?_
    have e9 := Option.some.inj hf
    subst e9
    exact rt_z C hP hS rfl rfl dX2_isTaken_132
  have hf := (o_i hf).2 c16
  by_cases c21 : a_word = 4
  · have hf := (o_i hf).1 c21
    refine lv_tableIn (tgt := 133) hx hb dX2_isTaken_4 (by rw [c21]; decide) (by rw [c21]; decide) (off := 129) (by rw [c21]; rfl) (by decide) ?_
    refine lv_aload_n hx hb dX2_isTaken_133 rfl (lv_at hl 1 rfl) ?_
    refine lv_aload_n hx hb dX2_isTaken_134 rfl (lv_at hl 0 rfl) ?_
    refine va_get (D := G.1) (ci := 2) (v := .ref (a 2)) (C := RX2) (T := TX2) (N := 7) hx hb hts iiX2_isTaken_X2 hown hK hP 0 rfl rfl 2 (by decide) (hts _ mmX2_isTaken_2) (fun _ h9 => h9) rfl dX2_isTaken_135 ?_
    refine lv_iconst (v := 0) hx hb dX2_isTaken_138 (by decide) ?_
    obtain ⟨z22, hz22, hf⟩ := o_b hf
    refine k_iald hx hb hK hP 2 0 rfl rfl hz22 dX2_isTaken_139 ?_
    refine lv_aload_n hx hb dX2_isTaken_140 rfl (lv_at hl 0 rfl) ?_
    refine va_get (D := G.1) (ci := 2) (v := .ref (a 2)) (C := RX2) (T := TX2) (N := 7) hx hb hts iiX2_isTaken_X2 hown hK hP 0 rfl rfl 2 (by decide) (hts _ mmX2_isTaken_2) (fun _ h9 => h9) rfl dX2_isTaken_141 ?_
    refine lv_iconst (v := 1) hx hb dX2_isTaken_144 (by decide) ?_
    obtain ⟨z23, hz23, hf⟩ := o_b hf
    refine k_iald hx hb hK hP 2 0 rfl rfl hz23 dX2_isTaken_145 ?_
    refine at_pc (pc' := 146) rfl ?_
    obtain ⟨g24, hg24, hf⟩ := o_b hf
    refine bVi (Bs' := [wX2 G a a_length a_text a_number a_word a_numbers a_items a_refused, wX3 G b b_villages b_woods b_needs b_signs b_temper g24.2 b_rope b_hears b_shut b_woodBell b_woodVillage b_needVillage b_needWind b_needSeen b_sign]) C hP hD hS (tX3_setFriend l G b b_villages b_woods b_needs b_signs b_temper b_friend b_rope b_hears b_shut b_woodBell b_woodVillage b_needVillage b_needWind b_needSeen b_sign z22 z23 g24 hg24) gX2_isTaken_X3_setFriend rfl ⟨rfl, rfl⟩ hdX3_setFriend ⟨Nat.le_of_ble_eq_true rfl, Nat.le_of_ble_eq_true rfl⟩ rfl hl.1 rfl (Nat.le_of_ble_eq_true rfl) ⟨Nat.le_of_ble_eq_true rfl, Nat.le_of_ble_eq_true rfl⟩ [1] rfl rfl rfl rfl rfl (ci := 3) (q0 := 3) rfl rfl rfl dX2_isTaken_146 (fun H locs hP hD hS => ?_)
    have hP : va_P G.1 vwCl (flat [wX2 G a a_length a_text a_number a_word a_numbers a_items a_refused, wX3 G b b_villages b_woods b_needs b_signs b_temper g24.2 b_rope b_hears b_shut b_woodBell b_woodVillage b_needVillage b_needWind b_needSeen b_sign]) H := hP
    have hD : va_D A (flat [wX2 G a a_length a_text a_number a_word a_numbers a_items a_refused, wX3 G b b_villages b_woods b_needs b_signs b_temper g24.2 b_rope b_hears b_shut b_woodBell b_woodVillage b_needVillage b_needWind b_needSeen b_sign]) := hD
    refine lv_if_lt (tgt := 156) hx hb dX2_isTaken_149 (by decide) (fun c25 => ?_) (fun c25 => ?_)
    · have hf := (o_i hf).1 c25
      refine lv_iconst (v := 0) hx hb dX2_isTaken_156 (by decide) ?_
      have e9 := Option.some.inj hf
      subst e9
      exact rt_z C hP hS rfl rfl dX2_isTaken_157
    have hf := (o_i hf).2 c25
    refine lv_iconst (v := 1) hx hb dX2_isTaken_152 (by decide) ?_
    refine lv_goto (tgt := 157) hx hb dX2_isTaken_153 (by decide) ?_
    have e9 := Option.some.inj hf
    subst e9
    exact rt_z C hP hS rfl rfl dX2_isTaken_157
  have hf := (o_i hf).2 c21
  refine lv_tableOut (tgt := 158) hx hb dX2_isTaken_4 (by have q0 := lv_neT c1 (a := 0) rfl; have q1 := lv_neT c5 (a := 1) rfl; have q2 := lv_neT c11 (a := 2) rfl; have q3 := lv_neT c16 (a := 3) rfl; have q4 := lv_neT c21 (a := 4) rfl; omega) (by decide) ?_
  refine lv_aload_n hx hb dX2_isTaken_158 rfl (lv_at hl 1 rfl) ?_
  refine lv_aload_n hx hb dX2_isTaken_159 rfl (lv_at hl 0 rfl) ?_
  refine va_get (D := G.1) (ci := 2) (v := .ref (a 2)) (C := RX2) (T := TX2) (N := 7) hx hb hts iiX2_isTaken_X2 hown hK hP 0 rfl rfl 2 (by decide) (hts _ mmX2_isTaken_2) (fun _ h9 => h9) rfl dX2_isTaken_160 ?_
  refine lv_iconst (v := 0) hx hb dX2_isTaken_163 (by decide) ?_
  obtain ⟨z26, hz26, hf⟩ := o_b hf
  refine k_iald hx hb hK hP 2 0 rfl rfl hz26 dX2_isTaken_164 ?_
  refine lv_aload_n hx hb dX2_isTaken_165 rfl (lv_at hl 0 rfl) ?_
  refine va_get (D := G.1) (ci := 2) (v := .ref (a 2)) (C := RX2) (T := TX2) (N := 7) hx hb hts iiX2_isTaken_X2 hown hK hP 0 rfl rfl 2 (by decide) (hts _ mmX2_isTaken_2) (fun _ h9 => h9) rfl dX2_isTaken_166 ?_
  refine lv_iconst (v := 1) hx hb dX2_isTaken_169 (by decide) ?_
  obtain ⟨z27, hz27, hf⟩ := o_b hf
  refine k_iald hx hb hK hP 2 0 rfl rfl hz27 dX2_isTaken_170 ?_
  refine at_pc (pc' := 171) rfl ?_
  refine lv_aload_n hx hb dX2_isTaken_171 rfl (lv_at hl 0 rfl) ?_
  refine va_get (D := G.1) (ci := 2) (v := .ref (a 2)) (C := RX2) (T := TX2) (N := 7) hx hb hts iiX2_isTaken_X2 hown hK hP 0 rfl rfl 2 (by decide) (hts _ mmX2_isTaken_2) (fun _ h9 => h9) rfl dX2_isTaken_172 ?_
  refine lv_iconst (v := 2) hx hb dX2_isTaken_175 (by decide) ?_
  obtain ⟨z28, hz28, hf⟩ := o_b hf
  refine k_iald hx hb hK hP 2 0 rfl rfl hz28 dX2_isTaken_176 ?_
  obtain ⟨g29, hg29, hf⟩ := o_b hf
  refine bVi (Bs' := [wX2 G a a_length a_text a_number a_word a_numbers a_items a_refused, wX3 G b b_villages b_woods g29.2.1 b_signs b_temper b_friend b_rope b_hears b_shut b_woodBell b_woodVillage g29.2.2.1 g29.2.2.2.1 g29.2.2.2.2 b_sign]) C hP hD hS (tX3_addNeed l G b b_villages b_woods b_needs b_signs b_temper b_friend b_rope b_hears b_shut b_woodBell b_woodVillage b_needVillage b_needWind b_needSeen b_sign z26 z27 z28 g29 hg29) gX2_isTaken_X3_addNeed rfl ⟨rfl, rfl⟩ hdX3_addNeed ⟨Nat.le_of_ble_eq_true rfl, Nat.le_of_ble_eq_true rfl⟩ rfl hl.1 rfl (Nat.le_of_ble_eq_true rfl) ⟨Nat.le_of_ble_eq_true rfl, Nat.le_of_ble_eq_true rfl⟩ [1] rfl rfl rfl rfl rfl (ci := 3) (q0 := 3) rfl rfl rfl dX2_isTaken_177 (fun H locs hP hD hS => ?_)
  have hP : va_P G.1 vwCl (flat [wX2 G a a_length a_text a_number a_word a_numbers a_items a_refused, wX3 G b b_villages b_woods g29.2.1 b_signs b_temper b_friend b_rope b_hears b_shut b_woodBell b_woodVillage g29.2.2.1 g29.2.2.2.1 g29.2.2.2.2 b_sign]) H := hP
  have hD : va_D A (flat [wX2 G a a_length a_text a_number a_word a_numbers a_items a_refused, wX3 G b b_villages b_woods g29.2.1 b_signs b_temper b_friend b_rope b_hears b_shut b_woodBell b_woodVillage g29.2.2.1 g29.2.2.2.1 g29.2.2.2.2 b_sign]) := hD
  refine lv_if_lt (tgt := 187) hx hb dX2_isTaken_180 (by decide) (fun c30 => ?_) (fun c30 => ?_)
  · have hf := (o_i hf).1 c30
    refine lv_iconst (v := 0) hx hb dX2_isTaken_187 (by decide) ?_
    have e9 := Option.some.inj hf
    subst e9
    exact rt_z C hP hS rfl rfl dX2_isTaken_188
  have hf := (o_i hf).2 c30
  refine lv_iconst (v := 1) hx hb dX2_isTaken_183 (by decide) ?_
  refine lv_goto (tgt := 188) hx hb dX2_isTaken_184 (by decide) ?_
  have e9 := Option.some.inj hf
  subst e9
  exact rt_z C hP hS rfl rfl dX2_isTaken_188

/-! RX2 stands(IILBlindBells$Valley;)Z -/
theorem iiX2_stands_X2 : ∀ w ∈ wsX20, w ∈ wsX2_stands := by decide +kernel
theorem mmX2_stands_1 : (Cond.fieldLink RX2 23 "BlindBells$Tale" "word" "I") ∈ wsX2_stands := by decide +kernel
theorem mmX2_stands_2 : (Cond.fieldLink RX2 51 "BlindBells$Tale" "numbers" "I") ∈ wsX2_stands := by decide +kernel
theorem mmX2_stands_3 : (Cond.fieldLink RX2 54 "BlindBells$Tale" "NUMBERS_OF" "[I") ∈ wsX2_stands := by decide +kernel
theorem mmX2_stands_4 : (Cond.fieldLink RX2 9 "BlindBells$Tale" "text" "[B") ∈ wsX2_stands := by decide +kernel
theorem mmX2_stands_5 : (Cond.fieldLink RX2 29 "BlindBells$Tale" "refused" "I") ∈ wsX2_stands := by decide +kernel
theorem mmX2_stands_6 : (Cond.fieldLink RX2 26 "BlindBells$Tale" "items" "I") ∈ wsX2_stands := by decide +kernel
theorem hdX2_stands : yX2_stands.cls = RX2 ∧ yX2_stands.cls ≠ "java/lang/invoke/MethodHandle" ∧ yX2_stands.cls ≠ "java/lang/invoke/VarHandle" ∧ (parseMethodDescriptor yX2_stands.desc).map (fun d => d.parameters.length) = some 3 := by decide +kernel
abbrev rmX2_stands : Room := { frames := 8, cells := 0, slots := 0, locals := 189 }
set_option maxHeartbeats 4000000 in
set_option maxRecDepth 100000 in
theorem tX2_stands (l : Launch) (G : GG) (a : Nat → Nat) (b : Nat → Nat) (a_length : Int32) (a_text : Nat → Int32) (a_number : Nat → Int32) (a_word : Int32) (a_numbers : Int32) (a_items : Int32) (a_refused : Int32) (b_villages : Int32) (b_woods : Int32) (b_needs : Int32) (b_signs : Int32) (b_temper : Nat → Int32) (b_friend : Nat → Int32) (b_rope : Nat → Int32) (b_hears : Nat → Int32) (b_shut : Nat → Int32) (b_woodBell : Nat → Int32) (b_woodVillage : Nat → Int32) (b_needVillage : Nat → Int32) (b_needWind : Nat → Int32) (b_needSeen : Nat → Int32) (b_sign : Nat → Int32) (p0 : Int32) (p1 : Int32) (out : Int32 × (Nat → Int32) × Int32 × Int32 × Int32 × Int32 × Int32 × Int32 × Int32 × Int32 × (Nat → Int32) × (Nat → Int32) × (Nat → Int32) × (Nat → Int32) × (Nat → Int32) × (Nat → Int32) × (Nat → Int32) × (Nat → Int32) × (Nat → Int32) × (Nat → Int32)) (hf : fX2_stands a_text a_number a_word a_numbers a_items a_refused b_villages b_woods b_needs b_signs b_temper b_friend b_rope b_hears b_shut b_woodBell b_woodVillage b_needVillage b_needWind b_needSeen p0 p1 = some out) : cMi l G yX2_stands wsX2_stands rmX2_stands [.ref (a 0), .int p0, .int p1, .ref (b 0)] (flat [wX2 G a a_length a_text a_number a_word a_numbers a_items a_refused, wX3 G b b_villages b_woods b_needs b_signs b_temper b_friend b_rope b_hears b_shut b_woodBell b_woodVillage b_needVillage b_needWind b_needSeen b_sign]) out.1 (flat [wX2 G a a_length a_text out.2.1 out.2.2.1 out.2.2.2.1 out.2.2.2.2.1 out.2.2.2.2.2.1, wX3 G b out.2.2.2.2.2.2.1 out.2.2.2.2.2.2.2.1 out.2.2.2.2.2.2.2.2.1 out.2.2.2.2.2.2.2.2.2.1 out.2.2.2.2.2.2.2.2.2.2.1 out.2.2.2.2.2.2.2.2.2.2.2.1 out.2.2.2.2.2.2.2.2.2.2.2.2.1 out.2.2.2.2.2.2.2.2.2.2.2.2.2.1 out.2.2.2.2.2.2.2.2.2.2.2.2.2.2.1 out.2.2.2.2.2.2.2.2.2.2.2.2.2.2.2.1 out.2.2.2.2.2.2.2.2.2.2.2.2.2.2.2.2.1 out.2.2.2.2.2.2.2.2.2.2.2.2.2.2.2.2.2.1 out.2.2.2.2.2.2.2.2.2.2.2.2.2.2.2.2.2.2.1 out.2.2.2.2.2.2.2.2.2.2.2.2.2.2.2.2.2.2.2 b_sign]) := by
  intro sz
  refine met_of (cc := cX2_stands) (nL := 4) (ret := (some .boolean)) (Qc := fun A9 => QI G A9 out.1 (flat [wX2 G a a_length a_text out.2.1 out.2.2.1 out.2.2.2.1 out.2.2.2.2.1 out.2.2.2.2.2.1, wX3 G b out.2.2.2.2.2.2.1 out.2.2.2.2.2.2.2.1 out.2.2.2.2.2.2.2.2.1 out.2.2.2.2.2.2.2.2.2.1 out.2.2.2.2.2.2.2.2.2.2.1 out.2.2.2.2.2.2.2.2.2.2.2.1 out.2.2.2.2.2.2.2.2.2.2.2.2.1 out.2.2.2.2.2.2.2.2.2.2.2.2.2.1 out.2.2.2.2.2.2.2.2.2.2.2.2.2.2.1 out.2.2.2.2.2.2.2.2.2.2.2.2.2.2.2.1 out.2.2.2.2.2.2.2.2.2.2.2.2.2.2.2.2.1 out.2.2.2.2.2.2.2.2.2.2.2.2.2.2.2.2.2.1 out.2.2.2.2.2.2.2.2.2.2.2.2.2.2.2.2.2.2.1 out.2.2.2.2.2.2.2.2.2.2.2.2.2.2.2.2.2.2.2 b_sign])) (by decide) rfl (Nat.le_of_ble_eq_true rfl) ?_
  intro p e s m args below meth c A ls C hP hD hS hl
  obtain ⟨⟨hx, hb, hml, hown, hts⟩, hr, hlocks, hK, hN, hE, hA⟩ := id C
  have hl : lv_has ls 4 [(0, .ref (a 0)), (1, .int p0), (2, .int p1), (3, .ref (b 0))] := hl
  unfold fX2_stands at hf
  refine lv_aload_n hx hb dX2_stands_0 rfl (lv_at hl 0 rfl) ?_
  refine va_get (D := G.1) (ci := 2) (v := .int a_word) (C := RX2) (T := TX2) (N := 7) hx hb hts iiX2_stands_X2 hown hK hP 0 rfl rfl 3 (by decide) (hts _ mmX2_stands_1) (fun _ h9 => h9) rfl dX2_stands_1 ?_
  refine lv_iconst (v := (-1)) hx hb dX2_stands_4 (by decide) ?_
  refine lv_icmp_ne (tgt := 15) hx hb dX2_stands_5 (by decide) (fun c1 => ?_) (fun c1 => ?_)
  · have hf := (o_i hf).2 c1
    refine lv_aload_n hx hb dX2_stands_15 rfl (lv_at hl 0 rfl) ?_
    refine va_get (D := G.1) (ci := 2) (v := .int a_numbers) (C := RX2) (T := TX2) (N := 7) hx hb hts iiX2_stands_X2 hown hK hP 0 rfl rfl 4 (by decide) (hts _ mmX2_stands_2) (fun _ h9 => h9) rfl dX2_stands_16 ?_
    refine va_gets hx hb hE.1 hS hown (hts _ mmX2_stands_3) (fun _ h9 => h9) dX2_stands_19 ?_
    refine lv_aload_n hx hb dX2_stands_22 rfl (lv_at hl 0 rfl) ?_
    refine va_get (D := G.1) (ci := 2) (v := .int a_word) (C := RX2) (T := TX2) (N := 7) hx hb hts iiX2_stands_X2 hown hK hP 0 rfl rfl 3 (by decide) (hts _ mmX2_stands_1) (fun _ h9 => h9) rfl dX2_stands_23 ?_
    obtain ⟨z2, hz2, hf⟩ := o_b hf
    refine k_sald hx hb hE hS hz2 dX2_stands_26 ?_
    refine lv_icmp_ge (tgt := 37) hx hb dX2_stands_27 (by decide) (fun c3 => ?_) (fun c3 => ?_)
    · have hf := (o_i hf).1 c3
      refine lv_aload_n hx hb dX2_stands_37 rfl (lv_at hl 0 rfl) ?_
      refine va_get (D := G.1) (ci := 2) (v := .ref (a 1)) (C := RX2) (T := TX2) (N := 7) hx hb hts iiX2_stands_X2 hown hK hP 0 rfl rfl 1 (by decide) (hts _ mmX2_stands_4) (fun _ h9 => h9) rfl dX2_stands_38 ?_
      refine lv_iload_n hx hb dX2_stands_41 rfl (lv_at hl 1 rfl) ?_
      obtain ⟨z4, hz4, hf⟩ := o_b hf
      refine k_bald hx hb hK hP 1 1 rfl rfl hz4 dX2_stands_42 ?_
      refine lv_bipush (v := 59) hx hb dX2_stands_43 (by decide) ?_
      refine lv_icmp_eq (tgt := 50) hx hb dX2_stands_45 (by decide) (fun c5 => ?_) (fun c5 => ?_)
      · have hf := (o_i hf).1 c5
        refine lv_aload_n hx hb dX2_stands_50 rfl (lv_at hl 0 rfl) ?_
        refine va_get (D := G.1) (ci := 2) (v := .int a_refused) (C := RX2) (T := TX2) (N := 7) hx hb hts iiX2_stands_X2 hown hK hP 0 rfl rfl 6 (by decide) (hts _ mmX2_stands_5) (fun _ h9 => h9) rfl dX2_stands_51 ?_
        refine lv_iconst (v := (-1)) hx hb dX2_stands_54 (by decide) ?_
        obtain ⟨f7, hf7, hf⟩ := o_b hf
        have hJ : ∀ (H : Heap) (locs : List Loc) (ls : Array Slot), va_P G.1 vwCl (flat [wX2 G a a_length a_text a_number a_word a_numbers a_items f7.1, wX3 G b f7.2.1 f7.2.2.1 f7.2.2.2.1 f7.2.2.2.2.1 f7.2.2.2.2.2.1 f7.2.2.2.2.2.2.1 f7.2.2.2.2.2.2.2.1 f7.2.2.2.2.2.2.2.2.1 f7.2.2.2.2.2.2.2.2.2.1 f7.2.2.2.2.2.2.2.2.2.2.1 f7.2.2.2.2.2.2.2.2.2.2.2.1 f7.2.2.2.2.2.2.2.2.2.2.2.2.1 f7.2.2.2.2.2.2.2.2.2.2.2.2.2.1 f7.2.2.2.2.2.2.2.2.2.2.2.2.2.2 b_sign]) H → va_D A (flat [wX2 G a a_length a_text a_number a_word a_numbers a_items f7.1, wX3 G b f7.2.1 f7.2.2.1 f7.2.2.2.1 f7.2.2.2.2.1 f7.2.2.2.2.2.1 f7.2.2.2.2.2.2.1 f7.2.2.2.2.2.2.2.1 f7.2.2.2.2.2.2.2.2.1 f7.2.2.2.2.2.2.2.2.2.1 f7.2.2.2.2.2.2.2.2.2.2.1 f7.2.2.2.2.2.2.2.2.2.2.2.1 f7.2.2.2.2.2.2.2.2.2.2.2.2.1 f7.2.2.2.2.2.2.2.2.2.2.2.2.2.1 f7.2.2.2.2.2.2.2.2.2.2.2.2.2.2 b_sign]) → va_S A s.heap H locs → lv_has ls 4 [(0, .ref (a 0)), (1, .int p0), (2, .int p1), (3, .ref (b 0))] → W p l e rmX2_stands s m args below meth c H locs 0 0 (MQ below (QI G A out.1 (flat [wX2 G a a_length a_text out.2.1 out.2.2.1 out.2.2.2.1 out.2.2.2.2.1 out.2.2.2.2.2.1, wX3 G b out.2.2.2.2.2.2.1 out.2.2.2.2.2.2.2.1 out.2.2.2.2.2.2.2.2.1 out.2.2.2.2.2.2.2.2.2.1 out.2.2.2.2.2.2.2.2.2.2.1 out.2.2.2.2.2.2.2.2.2.2.2.1 out.2.2.2.2.2.2.2.2.2.2.2.2.1 out.2.2.2.2.2.2.2.2.2.2.2.2.2.1 out.2.2.2.2.2.2.2.2.2.2.2.2.2.2.1 out.2.2.2.2.2.2.2.2.2.2.2.2.2.2.2.1 out.2.2.2.2.2.2.2.2.2.2.2.2.2.2.2.2.1 out.2.2.2.2.2.2.2.2.2.2.2.2.2.2.2.2.2.1 out.2.2.2.2.2.2.2.2.2.2.2.2.2.2.2.2.2.2.1 out.2.2.2.2.2.2.2.2.2.2.2.2.2.2.2.2.2.2.2 b_sign])) args s 0 0 A) (F0 m 74 ls []) := by
          intro H locs ls hP hD hS hl
          refine lv_aload_n hx hb dX2_stands_74 rfl (lv_at hl 0 rfl) ?_
          refine lv_dup hx hb dX2_stands_75 rfl ?_
          refine va_get (D := G.1) (ci := 2) (v := .int a_items) (C := RX2) (T := TX2) (N := 7) hx hb hts iiX2_stands_X2 hown hK hP 0 rfl rfl 5 (by decide) (hts _ mmX2_stands_6) (fun _ h9 => h9) rfl dX2_stands_76 ?_
          refine lv_iconst (v := 1) hx hb dX2_stands_79 (by decide) ?_
          refine lv_iadd hx hb dX2_stands_80 ?_
          refine va_put (D := G.1) (ci := 2) (v := .int (a_items + 1)) (ty := .int) (C := RX2) (T := TX2) (N := 7) hx hb hts iiX2_stands_X2 tyX2 tyX2_ok nmX2 hown hK hP hD hS 0 rfl rfl 5 (by decide) (hts _ mmX2_stands_6) (fun _ h9 => h9) rfl (by decide +kernel) rfl rfl (Nat.le_of_ble_eq_true rfl) dX2_stands_81 (fun H locs hP hD hS => ?_)
          have hP : va_P G.1 vwCl (flat [wX2 G a a_length a_text a_number a_word a_numbers (a_items + 1) f7.1, wX3 G b f7.2.1 f7.2.2.1 f7.2.2.2.1 f7.2.2.2.2.1 f7.2.2.2.2.2.1 f7.2.2.2.2.2.2.1 f7.2.2.2.2.2.2.2.1 f7.2.2.2.2.2.2.2.2.1 f7.2.2.2.2.2.2.2.2.2.1 f7.2.2.2.2.2.2.2.2.2.2.1 f7.2.2.2.2.2.2.2.2.2.2.2.1 f7.2.2.2.2.2.2.2.2.2.2.2.2.1 f7.2.2.2.2.2.2.2.2.2.2.2.2.2.1 f7.2.2.2.2.2.2.2.2.2.2.2.2.2.2 b_sign]) H := hP
          have hD : va_D A (flat [wX2 G a a_length a_text a_number a_word a_numbers (a_items + 1) f7.1, wX3 G b f7.2.1 f7.2.2.1 f7.2.2.2.1 f7.2.2.2.2.1 f7.2.2.2.2.2.1 f7.2.2.2.2.2.2.1 f7.2.2.2.2.2.2.2.1 f7.2.2.2.2.2.2.2.2.1 f7.2.2.2.2.2.2.2.2.2.1 f7.2.2.2.2.2.2.2.2.2.2.1 f7.2.2.2.2.2.2.2.2.2.2.2.1 f7.2.2.2.2.2.2.2.2.2.2.2.2.1 f7.2.2.2.2.2.2.2.2.2.2.2.2.2.1 f7.2.2.2.2.2.2.2.2.2.2.2.2.2.2 b_sign]) := hD
          refine lv_aload_n hx hb dX2_stands_84 rfl (lv_at hl 0 rfl) ?_
          refine lv_iconst (v := (-1)) hx hb dX2_stands_85 (by decide) ?_
          refine va_put (D := G.1) (ci := 2) (v := .int ((-1))) (ty := .int) (C := RX2) (T := TX2) (N := 7) hx hb hts iiX2_stands_X2 tyX2 tyX2_ok nmX2 hown hK hP hD hS 0 rfl rfl 3 (by decide) (hts _ mmX2_stands_1) (fun _ h9 => h9) rfl (by decide +kernel) rfl rfl (Nat.le_of_ble_eq_true rfl) dX2_stands_86 (fun H locs hP hD hS => ?_)
          have hP : va_P G.1 vwCl (flat [wX2 G a a_length a_text a_number ((-1)) a_numbers (a_items + 1) f7.1, wX3 G b f7.2.1 f7.2.2.1 f7.2.2.2.1 f7.2.2.2.2.1 f7.2.2.2.2.2.1 f7.2.2.2.2.2.2.1 f7.2.2.2.2.2.2.2.1 f7.2.2.2.2.2.2.2.2.1 f7.2.2.2.2.2.2.2.2.2.1 f7.2.2.2.2.2.2.2.2.2.2.1 f7.2.2.2.2.2.2.2.2.2.2.2.1 f7.2.2.2.2.2.2.2.2.2.2.2.2.1 f7.2.2.2.2.2.2.2.2.2.2.2.2.2.1 f7.2.2.2.2.2.2.2.2.2.2.2.2.2.2 b_sign]) H := hP
          have hD : va_D A (flat [wX2 G a a_length a_text a_number ((-1)) a_numbers (a_items + 1) f7.1, wX3 G b f7.2.1 f7.2.2.1 f7.2.2.2.1 f7.2.2.2.2.1 f7.2.2.2.2.2.1 f7.2.2.2.2.2.2.1 f7.2.2.2.2.2.2.2.1 f7.2.2.2.2.2.2.2.2.1 f7.2.2.2.2.2.2.2.2.2.1 f7.2.2.2.2.2.2.2.2.2.2.1 f7.2.2.2.2.2.2.2.2.2.2.2.1 f7.2.2.2.2.2.2.2.2.2.2.2.2.1 f7.2.2.2.2.2.2.2.2.2.2.2.2.2.1 f7.2.2.2.2.2.2.2.2.2.2.2.2.2.2 b_sign]) := hD
          refine at_pc (pc' := 89) rfl ?_
          refine lv_iconst (v := 1) hx hb dX2_stands_89 (by decide) ?_
          have e9 := Option.some.inj hf
          subst e9
          exact rt_z C hP hS rfl rfl dX2_stands_90
        clear hf
        have hf := hf7
        refine lv_icmp_ne (tgt := 74) hx hb dX2_stands_55 (by decide) (fun c6 => ?_) (fun c6 => ?_)
        · have hf := (o_i hf).2 c6
          have e9 := Option.some.inj hf
          subst e9
          exact hJ _ _ _ hP hD hS (lv_sub hl [0, 1, 2, 3] rfl)
        have hf := (o_i hf).1 c6
        refine lv_aload_n hx hb dX2_stands_58 rfl (lv_at hl 0 rfl) ?_
        refine lv_aload_n hx hb dX2_stands_59 rfl (lv_at hl 3 rfl) ?_
        obtain ⟨g8, hg8, hf⟩ := o_b hf
        refine bVi (Bs' := [wX2 G a a_length a_text a_number a_word a_numbers a_items a_refused, wX3 G b g8.2.1 g8.2.2.1 g8.2.2.2.1 g8.2.2.2.2.1 g8.2.2.2.2.2.1 g8.2.2.2.2.2.2.1 g8.2.2.2.2.2.2.2.1 g8.2.2.2.2.2.2.2.2.1 g8.2.2.2.2.2.2.2.2.2.1 g8.2.2.2.2.2.2.2.2.2.2.1 g8.2.2.2.2.2.2.2.2.2.2.2.1 g8.2.2.2.2.2.2.2.2.2.2.2.2.1 g8.2.2.2.2.2.2.2.2.2.2.2.2.2.1 g8.2.2.2.2.2.2.2.2.2.2.2.2.2.2 b_sign]) C hP hD hS (tX2_isTaken l G a b a_length a_text a_number a_word a_numbers a_items a_refused b_villages b_woods b_needs b_signs b_temper b_friend b_rope b_hears b_shut b_woodBell b_woodVillage b_needVillage b_needWind b_needSeen b_sign g8 hg8) gX2_stands_X2_isTaken rfl ⟨rfl, rfl⟩ hdX2_isTaken ⟨Nat.le_of_ble_eq_true rfl, Nat.le_of_ble_eq_true rfl⟩ rfl hl.1 rfl (Nat.le_of_ble_eq_true rfl) ⟨Nat.le_of_ble_eq_true rfl, Nat.le_of_ble_eq_true rfl⟩ [0, 1] rfl rfl rfl rfl rfl (ci := 2) (q0 := 0) rfl rfl rfl dX2_stands_60 (fun H locs hP hD hS => ?_)
        have hP : va_P G.1 vwCl (flat [wX2 G a a_length a_text a_number a_word a_numbers a_items a_refused, wX3 G b g8.2.1 g8.2.2.1 g8.2.2.2.1 g8.2.2.2.2.1 g8.2.2.2.2.2.1 g8.2.2.2.2.2.2.1 g8.2.2.2.2.2.2.2.1 g8.2.2.2.2.2.2.2.2.1 g8.2.2.2.2.2.2.2.2.2.1 g8.2.2.2.2.2.2.2.2.2.2.1 g8.2.2.2.2.2.2.2.2.2.2.2.1 g8.2.2.2.2.2.2.2.2.2.2.2.2.1 g8.2.2.2.2.2.2.2.2.2.2.2.2.2.1 g8.2.2.2.2.2.2.2.2.2.2.2.2.2.2 b_sign]) H := hP
        have hD : va_D A (flat [wX2 G a a_length a_text a_number a_word a_numbers a_items a_refused, wX3 G b g8.2.1 g8.2.2.1 g8.2.2.2.1 g8.2.2.2.2.1 g8.2.2.2.2.2.1 g8.2.2.2.2.2.2.1 g8.2.2.2.2.2.2.2.1 g8.2.2.2.2.2.2.2.2.1 g8.2.2.2.2.2.2.2.2.2.1 g8.2.2.2.2.2.2.2.2.2.2.1 g8.2.2.2.2.2.2.2.2.2.2.2.1 g8.2.2.2.2.2.2.2.2.2.2.2.2.1 g8.2.2.2.2.2.2.2.2.2.2.2.2.2.1 g8.2.2.2.2.2.2.2.2.2.2.2.2.2.2 b_sign]) := hD
        refine lv_if_ne (tgt := 74) hx hb dX2_stands_63 (by decide) (fun c9 => ?_) (fun c9 => ?_)
        · have hf := (o_i hf).2 c9
          have e9 := Option.some.inj hf
          subst e9
          exact hJ _ _ _ hP hD hS (lv_sub hl [0, 1, 2, 3] rfl)
        have hf := (o_i hf).1 c9
        refine lv_aload_n hx hb dX2_stands_66 rfl (lv_at hl 0 rfl) ?_
        refine lv_aload_n hx hb dX2_stands_67 rfl (lv_at hl 0 rfl) ?_
        refine va_get (D := G.1) (ci := 2) (v := .int a_items) (C := RX2) (T := TX2) (N := 7) hx hb hts iiX2_stands_X2 hown hK hP 0 rfl rfl 5 (by decide) (hts _ mmX2_stands_6) (fun _ h9 => h9) rfl dX2_stands_68 ?_
        refine va_put (D := G.1) (ci := 2) (v := .int a_items) (ty := .int) (C := RX2) (T := TX2) (N := 7) hx hb hts iiX2_stands_X2 tyX2 tyX2_ok nmX2 hown hK hP hD hS 0 rfl rfl 6 (by decide) (hts _ mmX2_stands_5) (fun _ h9 => h9) rfl (by decide +kernel) rfl rfl (Nat.le_of_ble_eq_true rfl) dX2_stands_71 (fun H locs hP hD hS => ?_)
        have hP : va_P G.1 vwCl (flat [wX2 G a a_length a_text a_number a_word a_numbers a_items a_items, wX3 G b g8.2.1 g8.2.2.1 g8.2.2.2.1 g8.2.2.2.2.1 g8.2.2.2.2.2.1 g8.2.2.2.2.2.2.1 g8.2.2.2.2.2.2.2.1 g8.2.2.2.2.2.2.2.2.1 g8.2.2.2.2.2.2.2.2.2.1 g8.2.2.2.2.2.2.2.2.2.2.1 g8.2.2.2.2.2.2.2.2.2.2.2.1 g8.2.2.2.2.2.2.2.2.2.2.2.2.1 g8.2.2.2.2.2.2.2.2.2.2.2.2.2.1 g8.2.2.2.2.2.2.2.2.2.2.2.2.2.2 b_sign]) H := hP
        have hD : va_D A (flat [wX2 G a a_length a_text a_number a_word a_numbers a_items a_items, wX3 G b g8.2.1 g8.2.2.1 g8.2.2.2.1 g8.2.2.2.2.1 g8.2.2.2.2.2.1 g8.2.2.2.2.2.2.1 g8.2.2.2.2.2.2.2.1 g8.2.2.2.2.2.2.2.2.1 g8.2.2.2.2.2.2.2.2.2.1 g8.2.2.2.2.2.2.2.2.2.2.1 g8.2.2.2.2.2.2.2.2.2.2.2.1 g8.2.2.2.2.2.2.2.2.2.2.2.2.1 g8.2.2.2.2.2.2.2.2.2.2.2.2.2.1 g8.2.2.2.2.2.2.2.2.2.2.2.2.2.2 b_sign]) := hD
        have e9 := Option.some.inj hf
        subst e9
        exact hJ _ _ _ hP hD hS (lv_sub hl [0, 1, 2, 3] rfl)
      have hf := (o_i hf).2 c5
      refine lv_iconst (v := 0) hx hb dX2_stands_48 (by decide) ?_
      have e9 := Option.some.inj hf
      subst e9
      exact rt_z C hP hS rfl rfl dX2_stands_49
    have hf := (o_i hf).2 c3
    refine lv_aload_n hx hb dX2_stands_30 rfl (lv_at hl 0 rfl) ?_
    refine lv_iload_n hx hb dX2_stands_31 rfl (lv_at hl 1 rfl) ?_
    refine lv_iload_n hx hb dX2_stands_32 rfl (lv_at hl 2 rfl) ?_
    obtain ⟨g10, hg10, hf⟩ := o_b hf
    refine bVi (Bs' := [wX2 G a a_length a_text g10.2.1 a_word g10.2.2 a_items a_refused, wX3 G b b_villages b_woods b_needs b_signs b_temper b_friend b_rope b_hears b_shut b_woodBell b_woodVillage b_needVillage b_needWind b_needSeen b_sign]) C hP hD hS (tX2_takesNumber l G a a_length a_text a_number a_word a_numbers a_items a_refused p0 p1 g10 hg10) gX2_stands_X2_takesNumber rfl ⟨rfl, rfl⟩ hdX2_takesNumber ⟨Nat.le_of_ble_eq_true rfl, Nat.le_of_ble_eq_true rfl⟩ rfl hl.1 rfl (Nat.le_of_ble_eq_true rfl) ⟨Nat.le_of_ble_eq_true rfl, Nat.le_of_ble_eq_true rfl⟩ [0] rfl rfl rfl rfl rfl (ci := 2) (q0 := 0) rfl rfl rfl dX2_stands_33 (fun H locs hP hD hS => ?_)
    have hP : va_P G.1 vwCl (flat [wX2 G a a_length a_text g10.2.1 a_word g10.2.2 a_items a_refused, wX3 G b b_villages b_woods b_needs b_signs b_temper b_friend b_rope b_hears b_shut b_woodBell b_woodVillage b_needVillage b_needWind b_needSeen b_sign]) H := hP
    have hD : va_D A (flat [wX2 G a a_length a_text g10.2.1 a_word g10.2.2 a_items a_refused, wX3 G b b_villages b_woods b_needs b_signs b_temper b_friend b_rope b_hears b_shut b_woodBell b_woodVillage b_needVillage b_needWind b_needSeen b_sign]) := hD
    obtain ⟨z11, hz11, hf⟩ := o_b hf
    obtain ⟨hn9, e8⟩ := zb_ok hz11
    have e8 := e8.symm
    subst e8
    have e9 := Option.some.inj hf
    subst e9
    exact rt_z C hP hS rfl hn9 dX2_stands_36
  have hf := (o_i hf).1 c1
  refine lv_aload_n hx hb dX2_stands_8 rfl (lv_at hl 0 rfl) ?_
  refine lv_iload_n hx hb dX2_stands_9 rfl (lv_at hl 1 rfl) ?_
  refine lv_iload_n hx hb dX2_stands_10 rfl (lv_at hl 2 rfl) ?_
  obtain ⟨g12, hg12, hf⟩ := o_b hf
  refine bVi (Bs' := [wX2 G a a_length a_text a_number g12.2.1 g12.2.2 a_items a_refused, wX3 G b b_villages b_woods b_needs b_signs b_temper b_friend b_rope b_hears b_shut b_woodBell b_woodVillage b_needVillage b_needWind b_needSeen b_sign]) C hP hD hS (tX2_takesWord l G a a_length a_text a_number a_word a_numbers a_items a_refused p0 p1 g12 hg12) gX2_stands_X2_takesWord rfl ⟨rfl, rfl⟩ hdX2_takesWord ⟨Nat.le_of_ble_eq_true rfl, Nat.le_of_ble_eq_true rfl⟩ rfl hl.1 rfl (Nat.le_of_ble_eq_true rfl) ⟨Nat.le_of_ble_eq_true rfl, Nat.le_of_ble_eq_true rfl⟩ [0] rfl rfl rfl rfl rfl (ci := 2) (q0 := 0) rfl rfl rfl dX2_stands_11 (fun H locs hP hD hS => ?_)
  have hP : va_P G.1 vwCl (flat [wX2 G a a_length a_text a_number g12.2.1 g12.2.2 a_items a_refused, wX3 G b b_villages b_woods b_needs b_signs b_temper b_friend b_rope b_hears b_shut b_woodBell b_woodVillage b_needVillage b_needWind b_needSeen b_sign]) H := hP
  have hD : va_D A (flat [wX2 G a a_length a_text a_number g12.2.1 g12.2.2 a_items a_refused, wX3 G b b_villages b_woods b_needs b_signs b_temper b_friend b_rope b_hears b_shut b_woodBell b_woodVillage b_needVillage b_needWind b_needSeen b_sign]) := hD
  obtain ⟨z13, hz13, hf⟩ := o_b hf
  obtain ⟨hn9, e8⟩ := zb_ok hz13
  have e8 := e8.symm
  subst e8
  have e9 := Option.some.inj hf
  subst e9
  exact rt_z C hP hS rfl hn9 dX2_stands_14

/-! RX2 tell(LBlindBells$Valley;)I -/
theorem iiX2_tell_X2 : ∀ w ∈ wsX20, w ∈ wsX2_tell := by decide +kernel
theorem mmX2_tell_1 : (Cond.fieldLink RX2 23 "BlindBells$Tale" "word" "I") ∈ wsX2_tell := by decide +kernel
theorem mmX2_tell_2 : (Cond.fieldLink RX2 26 "BlindBells$Tale" "items" "I") ∈ wsX2_tell := by decide +kernel
theorem mmX2_tell_3 : (Cond.fieldLink RX2 29 "BlindBells$Tale" "refused" "I") ∈ wsX2_tell := by decide +kernel
theorem mmX2_tell_4 : (Cond.fieldLink RX2 19 "BlindBells$Tale" "length" "I") ∈ wsX2_tell := by decide +kernel
theorem mmX2_tell_5 : (Cond.fieldLink RX2 9 "BlindBells$Tale" "text" "[B") ∈ wsX2_tell := by decide +kernel
theorem hdX2_tell : yX2_tell.cls = RX2 ∧ yX2_tell.cls ≠ "java/lang/invoke/MethodHandle" ∧ yX2_tell.cls ≠ "java/lang/invoke/VarHandle" ∧ (parseMethodDescriptor yX2_tell.desc).map (fun d => d.parameters.length) = some 1 := by decide +kernel
abbrev rmX2_tell : Room := { frames := 9, cells := 0, slots := 0, locals := 212 }
set_option maxHeartbeats 4000000 in
set_option maxRecDepth 100000 in
theorem lX2_tell_19 {p : Program} {e : Env} {s : State} {m : MethodId} {args : Array Value} {below : List Frame} {meth : Method} {c : Code} {A : Nat → Prop} (l : Launch) (G : GG) (C : Cx p m c cX2_tell 4 s args wsX2_tell RX2 meth (some .int) G A) (a : Nat → Nat) (b : Nat → Nat) (a_length : Int32) (a_text : Nat → Int32) (a_number : Nat → Int32) (a_word : Int32) (a_numbers : Int32) (a_items : Int32) (a_refused : Int32) (b_villages : Int32) (b_woods : Int32) (b_needs : Int32) (b_signs : Int32) (b_temper : Nat → Int32) (b_friend : Nat → Int32) (b_rope : Nat → Int32) (b_hears : Nat → Int32) (b_shut : Nat → Int32) (b_woodBell : Nat → Int32) (b_woodVillage : Nat → Int32) (b_needVillage : Nat → Int32) (b_needWind : Nat → Int32) (b_needSeen : Nat → Int32) (b_sign : Nat → Int32)  (out : Int32 × (Nat → Int32) × Int32 × Int32 × Int32 × Int32 × Int32 × Int32 × Int32 × Int32 × (Nat → Int32) × (Nat → Int32) × (Nat → Int32) × (Nat → Int32) × (Nat → Int32) × (Nat → Int32) × (Nat → Int32) × (Nat → Int32) × (Nat → Int32) × (Nat → Int32)) (kx : Int32 → Int32 → (Nat → Int32) → Int32 → Int32 → Int32 → Int32 → Int32 → Int32 → Int32 → Int32 → (Nat → Int32) → (Nat → Int32) → (Nat → Int32) → (Nat → Int32) → (Nat → Int32) → (Nat → Int32) → (Nat → Int32) → (Nat → Int32) → (Nat → Int32) → (Nat → Int32) → Option (Int32 × (Nat → Int32) × Int32 × Int32 × Int32 × Int32 × Int32 × Int32 × Int32 × Int32 × (Nat → Int32) × (Nat → Int32) × (Nat → Int32) × (Nat → Int32) × (Nat → Int32) × (Nat → Int32) × (Nat → Int32) × (Nat → Int32) × (Nat → Int32) × (Nat → Int32))) (HX : ∀ (x2_19 : Int32) (x3_19 : Int32) (a_number_19 : Nat → Int32) (a_word_19 : Int32) (a_numbers_19 : Int32) (a_items_19 : Int32) (a_refused_19 : Int32) (b_villages_19 : Int32) (b_woods_19 : Int32) (b_needs_19 : Int32) (b_signs_19 : Int32) (b_temper_19 : Nat → Int32) (b_friend_19 : Nat → Int32) (b_rope_19 : Nat → Int32) (b_hears_19 : Nat → Int32) (b_shut_19 : Nat → Int32) (b_woodBell_19 : Nat → Int32) (b_woodVillage_19 : Nat → Int32) (b_needVillage_19 : Nat → Int32) (b_needWind_19 : Nat → Int32) (b_needSeen_19 : Nat → Int32) (H : Heap) (locs : List Loc) (ls : Array Slot), va_P G.1 vwCl (flat [wX2 G a a_length a_text a_number_19 a_word_19 a_numbers_19 a_items_19 a_refused_19, wX3 G b b_villages_19 b_woods_19 b_needs_19 b_signs_19 b_temper_19 b_friend_19 b_rope_19 b_hears_19 b_shut_19 b_woodBell_19 b_woodVillage_19 b_needVillage_19 b_needWind_19 b_needSeen_19 b_sign]) H → va_D A (flat [wX2 G a a_length a_text a_number_19 a_word_19 a_numbers_19 a_items_19 a_refused_19, wX3 G b b_villages_19 b_woods_19 b_needs_19 b_signs_19 b_temper_19 b_friend_19 b_rope_19 b_hears_19 b_shut_19 b_woodBell_19 b_woodVillage_19 b_needVillage_19 b_needWind_19 b_needSeen_19 b_sign]) → va_S A s.heap H locs → lv_has ls 4 [(0, .ref (a 0)), (1, .ref (b 0)), (2, .int x2_19), (3, .int x3_19)] → kx x2_19 x3_19 a_number_19 a_word_19 a_numbers_19 a_items_19 a_refused_19 b_villages_19 b_woods_19 b_needs_19 b_signs_19 b_temper_19 b_friend_19 b_rope_19 b_hears_19 b_shut_19 b_woodBell_19 b_woodVillage_19 b_needVillage_19 b_needWind_19 b_needSeen_19 = some out → W p l e rmX2_tell s m args below meth c H locs 0 0 (MQ below (QI G A out.1 (flat [wX2 G a a_length a_text out.2.1 out.2.2.1 out.2.2.2.1 out.2.2.2.2.1 out.2.2.2.2.2.1, wX3 G b out.2.2.2.2.2.2.1 out.2.2.2.2.2.2.2.1 out.2.2.2.2.2.2.2.2.1 out.2.2.2.2.2.2.2.2.2.1 out.2.2.2.2.2.2.2.2.2.2.1 out.2.2.2.2.2.2.2.2.2.2.2.1 out.2.2.2.2.2.2.2.2.2.2.2.2.1 out.2.2.2.2.2.2.2.2.2.2.2.2.2.1 out.2.2.2.2.2.2.2.2.2.2.2.2.2.2.1 out.2.2.2.2.2.2.2.2.2.2.2.2.2.2.2.1 out.2.2.2.2.2.2.2.2.2.2.2.2.2.2.2.2.1 out.2.2.2.2.2.2.2.2.2.2.2.2.2.2.2.2.2.1 out.2.2.2.2.2.2.2.2.2.2.2.2.2.2.2.2.2.2.1 out.2.2.2.2.2.2.2.2.2.2.2.2.2.2.2.2.2.2.2 b_sign])) args s 0 0 A) (F0 m 70 ls [])) : ∀ (n : Nat) (x2_19 : Int32) (x3_19 : Int32) (a_number_19 : Nat → Int32) (a_word_19 : Int32) (a_numbers_19 : Int32) (a_items_19 : Int32) (a_refused_19 : Int32) (b_villages_19 : Int32) (b_woods_19 : Int32) (b_needs_19 : Int32) (b_signs_19 : Int32) (b_temper_19 : Nat → Int32) (b_friend_19 : Nat → Int32) (b_rope_19 : Nat → Int32) (b_hears_19 : Nat → Int32) (b_shut_19 : Nat → Int32) (b_woodBell_19 : Nat → Int32) (b_woodVillage_19 : Nat → Int32) (b_needVillage_19 : Nat → Int32) (b_needWind_19 : Nat → Int32) (b_needSeen_19 : Nat → Int32) (H : Heap) (locs : List Loc) (ls : Array Slot), va_P G.1 vwCl (flat [wX2 G a a_length a_text a_number_19 a_word_19 a_numbers_19 a_items_19 a_refused_19, wX3 G b b_villages_19 b_woods_19 b_needs_19 b_signs_19 b_temper_19 b_friend_19 b_rope_19 b_hears_19 b_shut_19 b_woodBell_19 b_woodVillage_19 b_needVillage_19 b_needWind_19 b_needSeen_19 b_sign]) H → va_D A (flat [wX2 G a a_length a_text a_number_19 a_word_19 a_numbers_19 a_items_19 a_refused_19, wX3 G b b_villages_19 b_woods_19 b_needs_19 b_signs_19 b_temper_19 b_friend_19 b_rope_19 b_hears_19 b_shut_19 b_woodBell_19 b_woodVillage_19 b_needVillage_19 b_needWind_19 b_needSeen_19 b_sign]) → va_S A s.heap H locs → lv_has ls 4 [(0, .ref (a 0)), (1, .ref (b 0)), (2, .int x2_19), (3, .int x3_19)] → fX2_tell_19 a_length a_text kx n x2_19 x3_19 a_number_19 a_word_19 a_numbers_19 a_items_19 a_refused_19 b_villages_19 b_woods_19 b_needs_19 b_signs_19 b_temper_19 b_friend_19 b_rope_19 b_hears_19 b_shut_19 b_woodBell_19 b_woodVillage_19 b_needVillage_19 b_needWind_19 b_needSeen_19 = some out → W p l e rmX2_tell s m args below meth c H locs 0 0 (MQ below (QI G A out.1 (flat [wX2 G a a_length a_text out.2.1 out.2.2.1 out.2.2.2.1 out.2.2.2.2.1 out.2.2.2.2.2.1, wX3 G b out.2.2.2.2.2.2.1 out.2.2.2.2.2.2.2.1 out.2.2.2.2.2.2.2.2.1 out.2.2.2.2.2.2.2.2.2.1 out.2.2.2.2.2.2.2.2.2.2.1 out.2.2.2.2.2.2.2.2.2.2.2.1 out.2.2.2.2.2.2.2.2.2.2.2.2.1 out.2.2.2.2.2.2.2.2.2.2.2.2.2.1 out.2.2.2.2.2.2.2.2.2.2.2.2.2.2.1 out.2.2.2.2.2.2.2.2.2.2.2.2.2.2.2.1 out.2.2.2.2.2.2.2.2.2.2.2.2.2.2.2.2.1 out.2.2.2.2.2.2.2.2.2.2.2.2.2.2.2.2.2.1 out.2.2.2.2.2.2.2.2.2.2.2.2.2.2.2.2.2.2.1 out.2.2.2.2.2.2.2.2.2.2.2.2.2.2.2.2.2.2.2 b_sign])) args s 0 0 A) (F0 m 19 ls []) := by
  obtain ⟨⟨hx, hb, hml, hown, hts⟩, hr, hlocks, hK, hN, hE, hA⟩ := id C
  intro n
  induction n with
  | zero =>
    intro x2_19 x3_19 a_number_19 a_word_19 a_numbers_19 a_items_19 a_refused_19 b_villages_19 b_woods_19 b_needs_19 b_signs_19 b_temper_19 b_friend_19 b_rope_19 b_hears_19 b_shut_19 b_woodBell_19 b_woodVillage_19 b_needVillage_19 b_needWind_19 b_needSeen_19 H locs ls hP hD hS hl hf
    exact absurd (show (none : Option (Int32 × (Nat → Int32) × Int32 × Int32 × Int32 × Int32 × Int32 × Int32 × Int32 × Int32 × (Nat → Int32) × (Nat → Int32) × (Nat → Int32) × (Nat → Int32) × (Nat → Int32) × (Nat → Int32) × (Nat → Int32) × (Nat → Int32) × (Nat → Int32) × (Nat → Int32))) = some out from hf) (by intro q9; cases q9)
  | succ n ih =>
    intro x2_19 x3_19 a_number_19 a_word_19 a_numbers_19 a_items_19 a_refused_19 b_villages_19 b_woods_19 b_needs_19 b_signs_19 b_temper_19 b_friend_19 b_rope_19 b_hears_19 b_shut_19 b_woodBell_19 b_woodVillage_19 b_needVillage_19 b_needWind_19 b_needSeen_19 H locs ls hP hD hS hl hf
    rw [fX2_tell_19] at hf
    refine lv_iload_n hx hb dX2_tell_19 rfl (lv_at hl 3 rfl) ?_
    refine lv_aload_n hx hb dX2_tell_20 rfl (lv_at hl 0 rfl) ?_
    refine va_get (D := G.1) (ci := 2) (v := .int a_length) (C := RX2) (T := TX2) (N := 7) hx hb hts iiX2_tell_X2 hown hK hP 0 rfl rfl 0 (by decide) (hts _ mmX2_tell_4) (fun _ h9 => h9) rfl dX2_tell_21 ?_
    refine lv_icmp_ge (tgt := 70) hx hb dX2_tell_24 (by decide) (fun c1 => ?_) (fun c1 => ?_)
    · have hf := (o_i hf).1 c1
      exact HX _ _ _ _ _ _ _ _ _ _ _ _ _ _ _ _ _ _ _ _ _ _ _ _ hP hD hS (lv_sub hl [0, 1, 2, 3] rfl) hf
    have hf := (o_i hf).2 c1
    refine lv_iload_n hx hb dX2_tell_27 rfl (lv_at hl 3 rfl) ?_
    refine lv_iload_n hx hb dX2_tell_28 rfl (lv_at hl 2 rfl) ?_
    refine lv_icmp_lt (tgt := 64) hx hb dX2_tell_29 (by decide) (fun c2 => ?_) (fun c2 => ?_)
    · have hf := (o_i hf).1 c2
      refine lv_iinc (v := x3_19 + 1) (lv' := [(3, .int (x3_19 + 1)), (0, .ref (a 0)), (1, .ref (b 0)), (2, .int x2_19)]) hx hb dX2_tell_64 hl (k := 3) rfl (congrArg (fun z => x3_19 + z) (by decide)) (by decide) rfl (fun ls hl => ?_)
      refine lv_goto (tgt := 19) hx hb dX2_tell_67 (by decide) ?_
      exact ih _ _ _ _ _ _ _ _ _ _ _ _ _ _ _ _ _ _ _ _ _ _ _ _ hP hD hS (lv_sub hl [1, 2, 3, 0] rfl) hf
    have hf := (o_i hf).2 c2
    refine lv_aload_n hx hb dX2_tell_32 rfl (lv_at hl 0 rfl) ?_
    refine va_get (D := G.1) (ci := 2) (v := .ref (a 1)) (C := RX2) (T := TX2) (N := 7) hx hb hts iiX2_tell_X2 hown hK hP 0 rfl rfl 1 (by decide) (hts _ mmX2_tell_5) (fun _ h9 => h9) rfl dX2_tell_33 ?_
    refine lv_iload_n hx hb dX2_tell_36 rfl (lv_at hl 3 rfl) ?_
    obtain ⟨z3, hz3, hf⟩ := o_b hf
    refine k_bald hx hb hK hP 1 1 rfl rfl hz3 dX2_tell_37 ?_
    refine lv_bipush (v := 32) hx hb dX2_tell_38 (by decide) ?_
    refine lv_icmp_eq (tgt := 64) hx hb dX2_tell_40 (by decide) (fun c4 => ?_) (fun c4 => ?_)
    · have hf := (o_i hf).1 c4
      refine lv_iinc (v := x3_19 + 1) (lv' := [(3, .int (x3_19 + 1)), (0, .ref (a 0)), (1, .ref (b 0)), (2, .int x2_19)]) hx hb dX2_tell_64 hl (k := 3) rfl (congrArg (fun z => x3_19 + z) (by decide)) (by decide) rfl (fun ls hl => ?_)
      refine lv_goto (tgt := 19) hx hb dX2_tell_67 (by decide) ?_
      exact ih _ _ _ _ _ _ _ _ _ _ _ _ _ _ _ _ _ _ _ _ _ _ _ _ hP hD hS (lv_sub hl [1, 2, 3, 0] rfl) hf
    have hf := (o_i hf).2 c4
    refine lv_aload_n hx hb dX2_tell_43 rfl (lv_at hl 0 rfl) ?_
    refine lv_iload_n hx hb dX2_tell_44 rfl (lv_at hl 3 rfl) ?_
    obtain ⟨g5, hg5, hf⟩ := o_b hf
    refine bVi C hP hD hS (tX2_endOfToken l G a a_length a_text a_number_19 a_word_19 a_numbers_19 a_items_19 a_refused_19 x3_19 g5 hg5) gX2_tell_X2_endOfToken rfl ⟨rfl, rfl⟩ hdX2_endOfToken ⟨Nat.le_of_ble_eq_true rfl, Nat.le_of_ble_eq_true rfl⟩ rfl hl.1 rfl (Nat.le_of_ble_eq_true rfl) ⟨Nat.le_of_ble_eq_true rfl, Nat.le_of_ble_eq_true rfl⟩ [0] rfl rfl rfl (setB_same _ _ _ rfl) rfl (ci := 2) (q0 := 0) rfl rfl rfl dX2_tell_45 (fun H locs hP hD hS => ?_)
    refine lv_istore_n (lv' := [(2, .int g5), (0, .ref (a 0)), (1, .ref (b 0)), (3, .int x3_19)]) hx hb dX2_tell_48 rfl hl (by decide) rfl (fun ls hl => ?_)
    refine lv_aload_n hx hb dX2_tell_49 rfl (lv_at hl 1 rfl) ?_
    refine lv_iload_n hx hb dX2_tell_50 rfl (lv_at hl 3 rfl) ?_
    refine lv_iload_n hx hb dX2_tell_51 rfl (lv_at hl 0 rfl) ?_
    refine lv_aload_n hx hb dX2_tell_52 rfl (lv_at hl 2 rfl) ?_
    obtain ⟨g6, hg6, hf⟩ := o_b hf
    refine bVi (Bs' := [wX2 G a a_length a_text g6.2.1 g6.2.2.1 g6.2.2.2.1 g6.2.2.2.2.1 g6.2.2.2.2.2.1, wX3 G b g6.2.2.2.2.2.2.1 g6.2.2.2.2.2.2.2.1 g6.2.2.2.2.2.2.2.2.1 g6.2.2.2.2.2.2.2.2.2.1 g6.2.2.2.2.2.2.2.2.2.2.1 g6.2.2.2.2.2.2.2.2.2.2.2.1 g6.2.2.2.2.2.2.2.2.2.2.2.2.1 g6.2.2.2.2.2.2.2.2.2.2.2.2.2.1 g6.2.2.2.2.2.2.2.2.2.2.2.2.2.2.1 g6.2.2.2.2.2.2.2.2.2.2.2.2.2.2.2.1 g6.2.2.2.2.2.2.2.2.2.2.2.2.2.2.2.2.1 g6.2.2.2.2.2.2.2.2.2.2.2.2.2.2.2.2.2.1 g6.2.2.2.2.2.2.2.2.2.2.2.2.2.2.2.2.2.2.1 g6.2.2.2.2.2.2.2.2.2.2.2.2.2.2.2.2.2.2.2 b_sign]) C hP hD hS (tX2_stands l G a b a_length a_text a_number_19 a_word_19 a_numbers_19 a_items_19 a_refused_19 b_villages_19 b_woods_19 b_needs_19 b_signs_19 b_temper_19 b_friend_19 b_rope_19 b_hears_19 b_shut_19 b_woodBell_19 b_woodVillage_19 b_needVillage_19 b_needWind_19 b_needSeen_19 b_sign x3_19 g5 g6 hg6) gX2_tell_X2_stands rfl ⟨rfl, rfl⟩ hdX2_stands ⟨Nat.le_of_ble_eq_true rfl, Nat.le_of_ble_eq_true rfl⟩ rfl hl.1 rfl (Nat.le_of_ble_eq_true rfl) ⟨Nat.le_of_ble_eq_true rfl, Nat.le_of_ble_eq_true rfl⟩ [0, 1] rfl rfl rfl rfl rfl (ci := 2) (q0 := 0) rfl rfl rfl dX2_tell_53 (fun H locs hP hD hS => ?_)
    have hP : va_P G.1 vwCl (flat [wX2 G a a_length a_text g6.2.1 g6.2.2.1 g6.2.2.2.1 g6.2.2.2.2.1 g6.2.2.2.2.2.1, wX3 G b g6.2.2.2.2.2.2.1 g6.2.2.2.2.2.2.2.1 g6.2.2.2.2.2.2.2.2.1 g6.2.2.2.2.2.2.2.2.2.1 g6.2.2.2.2.2.2.2.2.2.2.1 g6.2.2.2.2.2.2.2.2.2.2.2.1 g6.2.2.2.2.2.2.2.2.2.2.2.2.1 g6.2.2.2.2.2.2.2.2.2.2.2.2.2.1 g6.2.2.2.2.2.2.2.2.2.2.2.2.2.2.1 g6.2.2.2.2.2.2.2.2.2.2.2.2.2.2.2.1 g6.2.2.2.2.2.2.2.2.2.2.2.2.2.2.2.2.1 g6.2.2.2.2.2.2.2.2.2.2.2.2.2.2.2.2.2.1 g6.2.2.2.2.2.2.2.2.2.2.2.2.2.2.2.2.2.2.1 g6.2.2.2.2.2.2.2.2.2.2.2.2.2.2.2.2.2.2.2 b_sign]) H := hP
    have hD : va_D A (flat [wX2 G a a_length a_text g6.2.1 g6.2.2.1 g6.2.2.2.1 g6.2.2.2.2.1 g6.2.2.2.2.2.1, wX3 G b g6.2.2.2.2.2.2.1 g6.2.2.2.2.2.2.2.1 g6.2.2.2.2.2.2.2.2.1 g6.2.2.2.2.2.2.2.2.2.1 g6.2.2.2.2.2.2.2.2.2.2.1 g6.2.2.2.2.2.2.2.2.2.2.2.1 g6.2.2.2.2.2.2.2.2.2.2.2.2.1 g6.2.2.2.2.2.2.2.2.2.2.2.2.2.1 g6.2.2.2.2.2.2.2.2.2.2.2.2.2.2.1 g6.2.2.2.2.2.2.2.2.2.2.2.2.2.2.2.1 g6.2.2.2.2.2.2.2.2.2.2.2.2.2.2.2.2.1 g6.2.2.2.2.2.2.2.2.2.2.2.2.2.2.2.2.2.1 g6.2.2.2.2.2.2.2.2.2.2.2.2.2.2.2.2.2.2.1 g6.2.2.2.2.2.2.2.2.2.2.2.2.2.2.2.2.2.2.2 b_sign]) := hD
    refine at_pc (pc' := 56) rfl ?_
    refine lv_if_ne (tgt := 64) hx hb dX2_tell_56 (by decide) (fun c7 => ?_) (fun c7 => ?_)
    · have hf := (o_i hf).2 c7
      refine lv_iinc (v := x3_19 + 1) (lv' := [(3, .int (x3_19 + 1)), (2, .int g5), (0, .ref (a 0)), (1, .ref (b 0))]) hx hb dX2_tell_64 hl (k := 3) rfl (congrArg (fun z => x3_19 + z) (by decide)) (by decide) rfl (fun ls hl => ?_)
      refine lv_goto (tgt := 19) hx hb dX2_tell_67 (by decide) ?_
      exact ih _ _ _ _ _ _ _ _ _ _ _ _ _ _ _ _ _ _ _ _ _ _ _ _ hP hD hS (lv_sub hl [2, 3, 1, 0] rfl) hf
    have hf := (o_i hf).1 c7
    refine lv_bipush (v := (-10)) hx hb dX2_tell_59 (by decide) ?_
    refine lv_iload_n hx hb dX2_tell_61 rfl (lv_at hl 3 rfl) ?_
    refine lv_isub hx hb dX2_tell_62 ?_
    have e9 := Option.some.inj hf
    subst e9
    exact rt_i C hP hS rfl dX2_tell_63
set_option maxHeartbeats 4000000 in
set_option maxRecDepth 100000 in
theorem tX2_tell (l : Launch) (G : GG) (a : Nat → Nat) (b : Nat → Nat) (a_length : Int32) (a_text : Nat → Int32) (a_number : Nat → Int32) (a_word : Int32) (a_numbers : Int32) (a_items : Int32) (a_refused : Int32) (b_villages : Int32) (b_woods : Int32) (b_needs : Int32) (b_signs : Int32) (b_temper : Nat → Int32) (b_friend : Nat → Int32) (b_rope : Nat → Int32) (b_hears : Nat → Int32) (b_shut : Nat → Int32) (b_woodBell : Nat → Int32) (b_woodVillage : Nat → Int32) (b_needVillage : Nat → Int32) (b_needWind : Nat → Int32) (b_needSeen : Nat → Int32) (b_sign : Nat → Int32) (out : Int32 × (Nat → Int32) × Int32 × Int32 × Int32 × Int32 × Int32 × Int32 × Int32 × Int32 × (Nat → Int32) × (Nat → Int32) × (Nat → Int32) × (Nat → Int32) × (Nat → Int32) × (Nat → Int32) × (Nat → Int32) × (Nat → Int32) × (Nat → Int32) × (Nat → Int32)) (hf : fX2_tell a_length a_text a_number a_numbers b_villages b_woods b_needs b_signs b_temper b_friend b_rope b_hears b_shut b_woodBell b_woodVillage b_needVillage b_needWind b_needSeen = some out) : cMi l G yX2_tell wsX2_tell rmX2_tell [.ref (a 0), .ref (b 0)] (flat [wX2 G a a_length a_text a_number a_word a_numbers a_items a_refused, wX3 G b b_villages b_woods b_needs b_signs b_temper b_friend b_rope b_hears b_shut b_woodBell b_woodVillage b_needVillage b_needWind b_needSeen b_sign]) out.1 (flat [wX2 G a a_length a_text out.2.1 out.2.2.1 out.2.2.2.1 out.2.2.2.2.1 out.2.2.2.2.2.1, wX3 G b out.2.2.2.2.2.2.1 out.2.2.2.2.2.2.2.1 out.2.2.2.2.2.2.2.2.1 out.2.2.2.2.2.2.2.2.2.1 out.2.2.2.2.2.2.2.2.2.2.1 out.2.2.2.2.2.2.2.2.2.2.2.1 out.2.2.2.2.2.2.2.2.2.2.2.2.1 out.2.2.2.2.2.2.2.2.2.2.2.2.2.1 out.2.2.2.2.2.2.2.2.2.2.2.2.2.2.1 out.2.2.2.2.2.2.2.2.2.2.2.2.2.2.2.1 out.2.2.2.2.2.2.2.2.2.2.2.2.2.2.2.2.1 out.2.2.2.2.2.2.2.2.2.2.2.2.2.2.2.2.2.1 out.2.2.2.2.2.2.2.2.2.2.2.2.2.2.2.2.2.2.1 out.2.2.2.2.2.2.2.2.2.2.2.2.2.2.2.2.2.2.2 b_sign]) := by
  intro sz
  refine met_of (cc := cX2_tell) (nL := 4) (ret := (some .int)) (Qc := fun A9 => QI G A9 out.1 (flat [wX2 G a a_length a_text out.2.1 out.2.2.1 out.2.2.2.1 out.2.2.2.2.1 out.2.2.2.2.2.1, wX3 G b out.2.2.2.2.2.2.1 out.2.2.2.2.2.2.2.1 out.2.2.2.2.2.2.2.2.1 out.2.2.2.2.2.2.2.2.2.1 out.2.2.2.2.2.2.2.2.2.2.1 out.2.2.2.2.2.2.2.2.2.2.2.1 out.2.2.2.2.2.2.2.2.2.2.2.2.1 out.2.2.2.2.2.2.2.2.2.2.2.2.2.1 out.2.2.2.2.2.2.2.2.2.2.2.2.2.2.1 out.2.2.2.2.2.2.2.2.2.2.2.2.2.2.2.1 out.2.2.2.2.2.2.2.2.2.2.2.2.2.2.2.2.1 out.2.2.2.2.2.2.2.2.2.2.2.2.2.2.2.2.2.1 out.2.2.2.2.2.2.2.2.2.2.2.2.2.2.2.2.2.2.1 out.2.2.2.2.2.2.2.2.2.2.2.2.2.2.2.2.2.2.2 b_sign])) (by decide) rfl (Nat.le_of_ble_eq_true rfl) ?_
  intro p e s m args below meth c A ls C hP hD hS hl
  obtain ⟨⟨hx, hb, hml, hown, hts⟩, hr, hlocks, hK, hN, hE, hA⟩ := id C
  have hl : lv_has ls 4 [(0, .ref (a 0)), (1, .ref (b 0))] := hl
  unfold fX2_tell at hf
  refine lv_aload_n hx hb dX2_tell_0 rfl (lv_at hl 0 rfl) ?_
  refine lv_iconst (v := (-1)) hx hb dX2_tell_1 (by decide) ?_
  refine va_put (D := G.1) (ci := 2) (v := .int ((-1))) (ty := .int) (C := RX2) (T := TX2) (N := 7) hx hb hts iiX2_tell_X2 tyX2 tyX2_ok nmX2 hown hK hP hD hS 0 rfl rfl 3 (by decide) (hts _ mmX2_tell_1) (fun _ h9 => h9) rfl (by decide +kernel) rfl rfl (Nat.le_of_ble_eq_true rfl) dX2_tell_2 (fun H locs hP hD hS => ?_)
  have hP : va_P G.1 vwCl (flat [wX2 G a a_length a_text a_number ((-1)) a_numbers a_items a_refused, wX3 G b b_villages b_woods b_needs b_signs b_temper b_friend b_rope b_hears b_shut b_woodBell b_woodVillage b_needVillage b_needWind b_needSeen b_sign]) H := hP
  have hD : va_D A (flat [wX2 G a a_length a_text a_number ((-1)) a_numbers a_items a_refused, wX3 G b b_villages b_woods b_needs b_signs b_temper b_friend b_rope b_hears b_shut b_woodBell b_woodVillage b_needVillage b_needWind b_needSeen b_sign]) := hD
  refine lv_aload_n hx hb dX2_tell_5 rfl (lv_at hl 0 rfl) ?_
  refine lv_iconst (v := 0) hx hb dX2_tell_6 (by decide) ?_
  refine va_put (D := G.1) (ci := 2) (v := .int 0) (ty := .int) (C := RX2) (T := TX2) (N := 7) hx hb hts iiX2_tell_X2 tyX2 tyX2_ok nmX2 hown hK hP hD hS 0 rfl rfl 5 (by decide) (hts _ mmX2_tell_2) (fun _ h9 => h9) rfl (by decide +kernel) rfl rfl (Nat.le_of_ble_eq_true rfl) dX2_tell_7 (fun H locs hP hD hS => ?_)
  have hP : va_P G.1 vwCl (flat [wX2 G a a_length a_text a_number ((-1)) a_numbers 0 a_refused, wX3 G b b_villages b_woods b_needs b_signs b_temper b_friend b_rope b_hears b_shut b_woodBell b_woodVillage b_needVillage b_needWind b_needSeen b_sign]) H := hP
  have hD : va_D A (flat [wX2 G a a_length a_text a_number ((-1)) a_numbers 0 a_refused, wX3 G b b_villages b_woods b_needs b_signs b_temper b_friend b_rope b_hears b_shut b_woodBell b_woodVillage b_needVillage b_needWind b_needSeen b_sign]) := hD
  refine lv_aload_n hx hb dX2_tell_10 rfl (lv_at hl 0 rfl) ?_
  refine lv_iconst (v := (-1)) hx hb dX2_tell_11 (by decide) ?_
  refine va_put (D := G.1) (ci := 2) (v := .int ((-1))) (ty := .int) (C := RX2) (T := TX2) (N := 7) hx hb hts iiX2_tell_X2 tyX2 tyX2_ok nmX2 hown hK hP hD hS 0 rfl rfl 6 (by decide) (hts _ mmX2_tell_3) (fun _ h9 => h9) rfl (by decide +kernel) rfl rfl (Nat.le_of_ble_eq_true rfl) dX2_tell_12 (fun H locs hP hD hS => ?_)
  have hP : va_P G.1 vwCl (flat [wX2 G a a_length a_text a_number ((-1)) a_numbers 0 ((-1)), wX3 G b b_villages b_woods b_needs b_signs b_temper b_friend b_rope b_hears b_shut b_woodBell b_woodVillage b_needVillage b_needWind b_needSeen b_sign]) H := hP
  have hD : va_D A (flat [wX2 G a a_length a_text a_number ((-1)) a_numbers 0 ((-1)), wX3 G b b_villages b_woods b_needs b_signs b_temper b_friend b_rope b_hears b_shut b_woodBell b_woodVillage b_needVillage b_needWind b_needSeen b_sign]) := hD
  refine at_pc (pc' := 15) rfl ?_
  refine lv_iconst (v := 0) hx hb dX2_tell_15 (by decide) ?_
  refine lv_istore_n (lv' := [(2, .int 0), (0, .ref (a 0)), (1, .ref (b 0))]) hx hb dX2_tell_16 rfl hl (by decide) rfl (fun ls hl => ?_)
  refine lv_iconst (v := 0) hx hb dX2_tell_17 (by decide) ?_
  refine lv_istore_n (lv' := [(3, .int 0), (2, .int 0), (0, .ref (a 0)), (1, .ref (b 0))]) hx hb dX2_tell_18 rfl hl (by decide) rfl (fun ls hl => ?_)
  refine lX2_tell_19 l G C a b a_length a_text a_number a_word a_numbers a_items a_refused b_villages b_woods b_needs b_signs b_temper b_friend b_rope b_hears b_shut b_woodBell b_woodVillage b_needVillage b_needWind b_needSeen b_sign out _ (fun x2_19_8 x3_19_9 a_number_19_10 a_word_19_11 a_numbers_19_12 a_items_19_13 a_refused_19_14 b_villages_19_15 b_woods_19_16 b_needs_19_17 b_signs_19_18 b_temper_19_19 b_friend_19_20 b_rope_19_21 b_hears_19_22 b_shut_19_23 b_woodBell_19_24 b_woodVillage_19_25 b_needVillage_19_26 b_needWind_19_27 b_needSeen_19_28 H locs ls hP hD hS hl hf => ?_) fu 0 0 a_number ((-1)) a_numbers 0 ((-1)) b_villages b_woods b_needs b_signs b_temper b_friend b_rope b_hears b_shut b_woodBell b_woodVillage b_needVillage b_needWind b_needSeen _ _ _ hP hD hS (lv_sub hl [2, 3, 1, 0] rfl) hf
  refine lv_aload_n hx hb dX2_tell_70 rfl (lv_at hl 0 rfl) ?_
  refine va_get (D := G.1) (ci := 2) (v := .int a_items_19_13) (C := RX2) (T := TX2) (N := 7) hx hb hts iiX2_tell_X2 hown hK hP 0 rfl rfl 5 (by decide) (hts _ mmX2_tell_2) (fun _ h9 => h9) rfl dX2_tell_71 ?_
  refine lv_if_eq (tgt := 85) hx hb dX2_tell_74 (by decide) (fun c29 => ?_) (fun c29 => ?_)
  · have hf := (o_i hf).1 c29
    refine lv_bipush (v := (-10)) hx hb dX2_tell_85 (by decide) ?_
    refine lv_aload_n hx hb dX2_tell_87 rfl (lv_at hl 0 rfl) ?_
    refine va_get (D := G.1) (ci := 2) (v := .int a_length) (C := RX2) (T := TX2) (N := 7) hx hb hts iiX2_tell_X2 hown hK hP 0 rfl rfl 0 (by decide) (hts _ mmX2_tell_4) (fun _ h9 => h9) rfl dX2_tell_88 ?_
    refine lv_isub hx hb dX2_tell_91 ?_
    have e9 := Option.some.inj hf
    subst e9
    exact rt_i C hP hS rfl dX2_tell_92
  have hf := (o_i hf).2 c29
  refine lv_aload_n hx hb dX2_tell_77 rfl (lv_at hl 0 rfl) ?_
  refine va_get (D := G.1) (ci := 2) (v := .int a_word_19_11) (C := RX2) (T := TX2) (N := 7) hx hb hts iiX2_tell_X2 hown hK hP 0 rfl rfl 3 (by decide) (hts _ mmX2_tell_1) (fun _ h9 => h9) rfl dX2_tell_78 ?_
  refine lv_iconst (v := (-1)) hx hb dX2_tell_81 (by decide) ?_
  refine lv_icmp_eq (tgt := 93) hx hb dX2_tell_82 (by decide) (fun c30 => ?_) (fun c30 => ?_)
  · have hf := (o_i hf).1 c30
    refine lv_aload_n hx hb dX2_tell_93 rfl (lv_at hl 0 rfl) ?_
    refine va_get (D := G.1) (ci := 2) (v := .int a_refused_19_14) (C := RX2) (T := TX2) (N := 7) hx hb hts iiX2_tell_X2 hown hK hP 0 rfl rfl 6 (by decide) (hts _ mmX2_tell_3) (fun _ h9 => h9) rfl dX2_tell_94 ?_
    refine lv_iconst (v := (-1)) hx hb dX2_tell_97 (by decide) ?_
    refine lv_icmp_ne (tgt := 108) hx hb dX2_tell_98 (by decide) (fun c31 => ?_) (fun c31 => ?_)
    · have hf := (o_i hf).2 c31
      refine lv_sipush (v := (-1000)) hx hb dX2_tell_108 (by decide) ?_
      refine lv_aload_n hx hb dX2_tell_111 rfl (lv_at hl 0 rfl) ?_
      refine va_get (D := G.1) (ci := 2) (v := .int a_refused_19_14) (C := RX2) (T := TX2) (N := 7) hx hb hts iiX2_tell_X2 hown hK hP 0 rfl rfl 6 (by decide) (hts _ mmX2_tell_3) (fun _ h9 => h9) rfl dX2_tell_112 ?_
      refine lv_isub hx hb dX2_tell_115 ?_
      have e9 := Option.some.inj hf
      subst e9
      exact rt_i C hP hS rfl dX2_tell_116
    have hf := (o_i hf).1 c31
    refine lv_aload_n hx hb dX2_tell_101 rfl (lv_at hl 0 rfl) ?_
    refine va_get (D := G.1) (ci := 2) (v := .int a_items_19_13) (C := RX2) (T := TX2) (N := 7) hx hb hts iiX2_tell_X2 hown hK hP 0 rfl rfl 5 (by decide) (hts _ mmX2_tell_2) (fun _ h9 => h9) rfl dX2_tell_102 ?_
    refine lv_goto (tgt := 116) hx hb dX2_tell_105 (by decide) ?_
    have e9 := Option.some.inj hf
    subst e9
    exact rt_i C hP hS rfl dX2_tell_116
  have hf := (o_i hf).2 c30
  refine lv_bipush (v := (-10)) hx hb dX2_tell_85 (by decide) ?_
  refine lv_aload_n hx hb dX2_tell_87 rfl (lv_at hl 0 rfl) ?_
  refine va_get (D := G.1) (ci := 2) (v := .int a_length) (C := RX2) (T := TX2) (N := 7) hx hb hts iiX2_tell_X2 hown hK hP 0 rfl rfl 0 (by decide) (hts _ mmX2_tell_4) (fun _ h9 => h9) rfl dX2_tell_88 ?_
  refine lv_isub hx hb dX2_tell_91 ?_
  have e9 := Option.some.inj hf
  subst e9
  exact rt_i C hP hS rfl dX2_tell_92
