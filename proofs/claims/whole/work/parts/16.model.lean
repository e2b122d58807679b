/-! RX7 in(III)Z -/
theorem hdX7_in : yX7_in.cls ≠ "java/lang/invoke/MethodHandle" ∧ yX7_in.cls ≠ "java/lang/invoke/VarHandle" ∧ (parseMethodDescriptor yX7_in.desc).map (fun d => d.parameters.length) = some 3 := by decide +kernel
abbrev rmX7_in : Room := { frames := 0, cells := 0, slots := 0, locals := 0 }
set_option maxHeartbeats 4000000 in
set_option maxRecDepth 100000 in
theorem tX7_in (l : Launch) (G : GG) (p0 : Int32) (p1 : Int32) (p2 : Int32) (out : Int32) (hf : fX7_in p0 p1 p2 = some out) : cMi l G yX7_in wsX7_in rmX7_in [.int p0, .int p1, .int p2] (flat []) out (flat []) := by
  intro sz
  refine met_of (cc := cX7_in) (nL := 3) (ret := (some .boolean)) (Qc := fun A9 => QI G A9 out (flat [])) (by decide) rfl (Nat.le_of_ble_eq_true rfl) ?_
  intro p e s m args below meth c A ls C hP hD hS hl
  obtain ⟨⟨hx, hb, hml, hown, hts⟩, hr, hlocks, hK, hN, hE, hA⟩ := id C
  have hl : lv_has ls 3 [(0, .int p0), (1, .int p1), (2, .int p2)] := hl
  unfold fX7_in at hf
  refine lv_iload_n hx hb dX7_in_0 rfl (lv_at hl 0 rfl) ?_
  refine lv_iload_n hx hb dX7_in_1 rfl (lv_at hl 1 rfl) ?_
  refine lv_icmp_lt (tgt := 14) hx hb dX7_in_2 (by decide) (fun c1 => ?_) (fun c1 => ?_)
  · have hf := (o_i hf).1 c1
    refine lv_iconst (v := 0) hx hb dX7_in_14 (by decide) ?_
    have e9 := Option.some.inj hf
    subst e9
    exact rt_z C hP hS rfl rfl dX7_in_15
  have hf := (o_i hf).2 c1
  refine lv_iload_n hx hb dX7_in_5 rfl (lv_at hl 0 rfl) ?_
  refine lv_iload_n hx hb dX7_in_6 rfl (lv_at hl 2 rfl) ?_
  refine lv_icmp_gt (tgt := 14) hx hb dX7_in_7 (by decide) (fun c2 => ?_) (fun c2 => ?_)
  · have hf := (o_i hf).1 c2
    refine lv_iconst (v := 0) hx hb dX7_in_14 (by decide) ?_
    have e9 := Option.some.inj hf
    subst e9
    exact rt_z C hP hS rfl rfl dX7_in_15
  have hf := (o_i hf).2 c2
  refine lv_iconst (v := 1) hx hb dX7_in_10 (by decide) ?_
  refine lv_goto (tgt := 15) hx hb dX7_in_11 (by decide) ?_
  have e9 := Option.some.inj hf
  subst e9
  exact rt_z C hP hS rfl rfl dX7_in_15

/-! RX7 refuses(II)I -/
theorem iiX7_refuses_X7 : ∀ w ∈ wsX70, w ∈ wsX7_refuses := by decide +kernel
theorem mmX7_refuses_1 : (Cond.fieldLink RX7 26 "BlindBellsModel" "refused" "[I") ∈ wsX7_refuses := by decide +kernel
theorem hdX7_refuses : yX7_refuses.cls = RX7 ∧ yX7_refuses.cls ≠ "java/lang/invoke/MethodHandle" ∧ yX7_refuses.cls ≠ "java/lang/invoke/VarHandle" ∧ (parseMethodDescriptor yX7_refuses.desc).map (fun d => d.parameters.length) = some 2 := by decide +kernel
abbrev rmX7_refuses : Room := { frames := 0, cells := 0, slots := 0, locals := 0 }
set_option maxHeartbeats 4000000 in
set_option maxRecDepth 100000 in
theorem tX7_refuses (l : Launch) (G : GG) (a : Nat → Nat) (a_book : Nat → Int32) (a_spare : Nat → Int32) (a_images : Nat → Int32) (a_kept : Nat → Int32) (a_text : Nat → Int32) (a_length : Int32) (a_refused : Nat → Int32) (a_items : Nat → Int32) (a_many : Int32) (a_at : Int32) (a_sort : Int32) (a_start : Int32) (a_size : Int32) (a_due : Nat → Int32) (a_rung : Nat → Int32) (a_anywhere : Nat → Int32) (p0 : Int32) (p1 : Int32) (out : Int32 × (Nat → Int32)) (hf : fX7_refuses a_refused p0 p1 = some out) : cMi l G yX7_refuses wsX7_refuses rmX7_refuses [.ref (a 0), .int p0, .int p1] (flat [wX7 G a a_book a_spare a_images a_kept a_text a_length a_refused a_items a_many a_at a_sort a_start a_size a_due a_rung a_anywhere]) out.1 (flat [wX7 G a a_book a_spare a_images a_kept a_text a_length out.2 a_items a_many a_at a_sort a_start a_size a_due a_rung a_anywhere]) := by
  intro sz
  refine met_of (cc := cX7_refuses) (nL := 3) (ret := (some .int)) (Qc := fun A9 => QI G A9 out.1 (flat [wX7 G a a_book a_spare a_images a_kept a_text a_length out.2 a_items a_many a_at a_sort a_start a_size a_due a_rung a_anywhere])) (by decide) rfl (Nat.le_of_ble_eq_true rfl) ?_
  intro p e s m args below meth c A ls C hP hD hS hl
  obtain ⟨⟨hx, hb, hml, hown, hts⟩, hr, hlocks, hK, hN, hE, hA⟩ := id C
  have hl : lv_has ls 3 [(0, .ref (a 0)), (1, .int p0), (2, .int p1)] := hl
  unfold fX7_refuses at hf
  refine lv_aload_n hx hb dX7_refuses_0 rfl (lv_at hl 0 rfl) ?_
  refine va_get (D := G.1) (ci := 7) (v := .ref (a 6)) (C := RX7) (T := TX7) (N := 16) hx hb hts iiX7_refuses_X7 hown hK hP 0 rfl rfl 6 (by decide) (hts _ mmX7_refuses_1) (fun _ h9 => h9) rfl dX7_refuses_1 ?_
  refine lv_iload_n hx hb dX7_refuses_4 rfl (lv_at hl 1 rfl) ?_
  refine lv_dup2_11 hx hb dX7_refuses_5 rfl rfl ?_
  obtain ⟨z1, hz1, hf⟩ := o_b hf
  refine k_iald hx hb hK hP 6 0 rfl rfl hz1 dX7_refuses_6 ?_
  refine lv_iconst (v := 1) hx hb dX7_refuses_7 (by decide) ?_
  refine lv_iadd hx hb dX7_refuses_8 ?_
  obtain ⟨u2, hu2, hf⟩ := o_b hf
  refine k_iast hx hb hK hP hD hS 6 0 rfl rfl hu2 dX7_refuses_9 (fun H locs hP hD hS => ?_)
  have hP : va_P G.1 vwCl (flat [wX7 G a a_book a_spare a_images a_kept a_text a_length u2 a_items a_many a_at a_sort a_start a_size a_due a_rung a_anywhere]) H := hP
  have hD : va_D A (flat [wX7 G a a_book a_spare a_images a_kept a_text a_length u2 a_items a_many a_at a_sort a_start a_size a_due a_rung a_anywhere]) := hD
  refine lv_iload_n hx hb dX7_refuses_10 rfl (lv_at hl 2 rfl) ?_
  refine at_pc (pc' := 11) rfl ?_
  have e9 := Option.some.inj hf
  subst e9
  exact rt_i C hP hS rfl dX7_refuses_11

/-! RX7 bad()I -/
theorem hdX7_bad : yX7_bad.cls = RX7 ∧ yX7_bad.cls ≠ "java/lang/invoke/MethodHandle" ∧ yX7_bad.cls ≠ "java/lang/invoke/VarHandle" ∧ (parseMethodDescriptor yX7_bad.desc).map (fun d => d.parameters.length) = some 0 := by decide +kernel
abbrev rmX7_bad : Room := { frames := 1, cells := 0, slots := 0, locals := 22 }
set_option maxHeartbeats 4000000 in
set_option maxRecDepth 100000 in
theorem tX7_bad (l : Launch) (G : GG) (a : Nat → Nat) (a_book : Nat → Int32) (a_spare : Nat → Int32) (a_images : Nat → Int32) (a_kept : Nat → Int32) (a_text : Nat → Int32) (a_length : Int32) (a_refused : Nat → Int32) (a_items : Nat → Int32) (a_many : Int32) (a_at : Int32) (a_sort : Int32) (a_start : Int32) (a_size : Int32) (a_due : Nat → Int32) (a_rung : Nat → Int32) (a_anywhere : Nat → Int32) (out : Int32 × (Nat → Int32)) (hf : fX7_bad a_refused = some out) : cMi l G yX7_bad wsX7_bad rmX7_bad [.ref (a 0)] (flat [wX7 G a a_book a_spare a_images a_kept a_text a_length a_refused a_items a_many a_at a_sort a_start a_size a_due a_rung a_anywhere]) out.1 (flat [wX7 G a a_book a_spare a_images a_kept a_text a_length out.2 a_items a_many a_at a_sort a_start a_size a_due a_rung a_anywhere]) := by
  intro sz
  refine met_of (cc := cX7_bad) (nL := 1) (ret := (some .int)) (Qc := fun A9 => QI G A9 out.1 (flat [wX7 G a a_book a_spare a_images a_kept a_text a_length out.2 a_items a_many a_at a_sort a_start a_size a_due a_rung a_anywhere])) (by decide) rfl (Nat.le_of_ble_eq_true rfl) ?_
  intro p e s m args below meth c A ls C hP hD hS hl
  obtain ⟨⟨hx, hb, hml, hown, hts⟩, hr, hlocks, hK, hN, hE, hA⟩ := id C
  have hl : lv_has ls 1 [(0, .ref (a 0))] := hl
  unfold fX7_bad at hf
  refine lv_aload_n hx hb dX7_bad_0 rfl (lv_at hl 0 rfl) ?_
  refine lv_iconst (v := 0) hx hb dX7_bad_1 (by decide) ?_
  refine lv_bipush (v := (-2)) hx hb dX7_bad_2 (by decide) ?_
  obtain ⟨g1, hg1, hf⟩ := o_b hf
  refine bVi (Bs' := [wX7 G a a_book a_spare a_images a_kept a_text a_length g1.2 a_items a_many a_at a_sort a_start a_size a_due a_rung a_anywhere]) C hP hD hS (tX7_refuses l G a a_book a_spare a_images a_kept a_text a_length a_refused a_items a_many a_at a_sort a_start a_size a_due a_rung a_anywhere 0 ((-2)) g1 hg1) gX7_bad_X7_refuses rfl ⟨rfl, rfl⟩ hdX7_refuses ⟨Nat.le_of_ble_eq_true rfl, Nat.le_of_ble_eq_true rfl⟩ rfl hl.1 rfl (Nat.le_of_ble_eq_true rfl) ⟨Nat.le_of_ble_eq_true rfl, Nat.le_of_ble_eq_true rfl⟩ [0] rfl rfl rfl rfl rfl (ci := 7) (q0 := 0) rfl rfl rfl dX7_bad_4 (fun H locs hP hD hS => ?_)
  have hP : va_P G.1 vwCl (flat [wX7 G a a_book a_spare a_images a_kept a_text a_length g1.2 a_items a_many a_at a_sort a_start a_size a_due a_rung a_anywhere]) H := hP
  have hD : va_D A (flat [wX7 G a a_book a_spare a_images a_kept a_text a_length g1.2 a_items a_many a_at a_sort a_start a_size a_due a_rung a_anywhere]) := hD
  have e9 := Option.some.inj hf
  subst e9
  exact rt_i C hP hS rfl dX7_bad_7

/-! RX7 isOne(I)Z -/
theorem iiX7_isOne_X7 : ∀ w ∈ wsX70, w ∈ wsX7_isOne := by decide +kernel
theorem mmX7_isOne_1 : (Cond.fieldLink RX7 7 "BlindBellsModel" "book" "[I") ∈ wsX7_isOne := by decide +kernel
theorem hdX7_isOne : yX7_isOne.cls = RX7 ∧ yX7_isOne.cls ≠ "java/lang/invoke/MethodHandle" ∧ yX7_isOne.cls ≠ "java/lang/invoke/VarHandle" ∧ (parseMethodDescriptor yX7_isOne.desc).map (fun d => d.parameters.length) = some 1 := by decide +kernel
abbrev rmX7_isOne : Room := { frames := 1, cells := 0, slots := 0, locals := 22 }
set_option maxHeartbeats 4000000 in
set_option maxRecDepth 100000 in
theorem tX7_isOne (l : Launch) (G : GG) (a : Nat → Nat) (a_book : Nat → Int32) (a_spare : Nat → Int32) (a_images : Nat → Int32) (a_kept : Nat → Int32) (a_text : Nat → Int32) (a_length : Int32) (a_refused : Nat → Int32) (a_items : Nat → Int32) (a_many : Int32) (a_at : Int32) (a_sort : Int32) (a_start : Int32) (a_size : Int32) (a_due : Nat → Int32) (a_rung : Nat → Int32) (a_anywhere : Nat → Int32) (p0 : Int32) (out : Int32) (hf : fX7_isOne a_book p0 = some out) : cMi l G yX7_isOne wsX7_isOne rmX7_isOne [.ref (a 0), .int p0] (flat [wX7 G a a_book a_spare a_images a_kept a_text a_length a_refused a_items a_many a_at a_sort a_start a_size a_due a_rung a_anywhere]) out (flat [wX7 G a a_book a_spare a_images a_kept a_text a_length a_refused a_items a_many a_at a_sort a_start a_size a_due a_rung a_anywhere]) := by
  intro sz
  refine met_of (cc := cX7_isOne) (nL := 2) (ret := (some .boolean)) (Qc := fun A9 => QI G A9 out (flat [wX7 G a a_book a_spare a_images a_kept a_text a_length a_refused a_items a_many a_at a_sort a_start a_size a_due a_rung a_anywhere])) (by decide) rfl (Nat.le_of_ble_eq_true rfl) ?_
  intro p e s m args below meth c A ls C hP hD hS hl
  obtain ⟨⟨hx, hb, hml, hown, hts⟩, hr, hlocks, hK, hN, hE, hA⟩ := id C
  have hl : lv_has ls 2 [(0, .ref (a 0)), (1, .int p0)] := hl
  unfold fX7_isOne at hf
  refine lv_iload_n hx hb dX7_isOne_0 rfl (lv_at hl 1 rfl) ?_
  refine lv_iconst (v := 0) hx hb dX7_isOne_1 (by decide) ?_
  refine lv_aload_n hx hb dX7_isOne_2 rfl (lv_at hl 0 rfl) ?_
  refine va_get (D := G.1) (ci := 7) (v := .ref (a 1)) (C := RX7) (T := TX7) (N := 16) hx hb hts iiX7_isOne_X7 hown hK hP 0 rfl rfl 0 (by decide) (hts _ mmX7_isOne_1) (fun _ h9 => h9) rfl dX7_isOne_3 ?_
  refine lv_iconst (v := 0) hx hb dX7_isOne_6 (by decide) ?_
  obtain ⟨z1, hz1, hf⟩ := o_b hf
  refine k_iald hx hb hK hP 1 0 rfl rfl hz1 dX7_isOne_7 ?_
  refine lv_iconst (v := 1) hx hb dX7_isOne_8 (by decide) ?_
  refine lv_isub hx hb dX7_isOne_9 ?_
  obtain ⟨g2, hg2, hf⟩ := o_b hf
  refine bSi C hP hD hS (tX7_in l G p0 0 (z1 - 1) g2 hg2) gX7_isOne_X7_in rfl ⟨rfl, rfl⟩ hdX7_in ⟨Nat.le_of_ble_eq_true rfl, Nat.le_of_ble_eq_true rfl⟩ rfl hl.1 rfl (Nat.le_of_ble_eq_true rfl) ⟨Nat.le_of_ble_eq_true rfl, Nat.le_of_ble_eq_true rfl⟩ [] rfl rfl rfl (setB_same _ _ _ rfl) rfl dX7_isOne_10 (fun H locs hP hD hS => ?_)
  refine at_pc (pc' := 13) rfl ?_
  obtain ⟨z3, hz3, hf⟩ := o_b hf
  obtain ⟨hn9, e8⟩ := zb_ok hz3
  have e8 := e8.symm
  subst e8
  have e9 := Option.some.inj hf
  subst e9
  exact rt_z C hP hS rfl hn9 dX7_isOne_13

/-! RX7 isSet(I)Z -/
theorem iiX7_isSet_X7 : ∀ w ∈ wsX70, w ∈ wsX7_isSet := by decide +kernel
theorem mmX7_isSet_1 : (Cond.fieldLink RX7 7 "BlindBellsModel" "book" "[I") ∈ wsX7_isSet := by decide +kernel
theorem hdX7_isSet : yX7_isSet.cls = RX7 ∧ yX7_isSet.cls ≠ "java/lang/invoke/MethodHandle" ∧ yX7_isSet.cls ≠ "java/lang/invoke/VarHandle" ∧ (parseMethodDescriptor yX7_isSet.desc).map (fun d => d.parameters.length) = some 1 := by decide +kernel
abbrev rmX7_isSet : Room := { frames := 1, cells := 0, slots := 0, locals := 22 }
set_option maxHeartbeats 4000000 in
set_option maxRecDepth 100000 in
theorem tX7_isSet (l : Launch) (G : GG) (a : Nat → Nat) (a_book : Nat → Int32) (a_spare : Nat → Int32) (a_images : Nat → Int32) (a_kept : Nat → Int32) (a_text : Nat → Int32) (a_length : Int32) (a_refused : Nat → Int32) (a_items : Nat → Int32) (a_many : Int32) (a_at : Int32) (a_sort : Int32) (a_start : Int32) (a_size : Int32) (a_due : Nat → Int32) (a_rung : Nat → Int32) (a_anywhere : Nat → Int32) (p0 : Int32) (out : Int32) (hf : fX7_isSet a_book p0 = some out) : cMi l G yX7_isSet wsX7_isSet rmX7_isSet [.ref (a 0), .int p0] (flat [wX7 G a a_book a_spare a_images a_kept a_text a_length a_refused a_items a_many a_at a_sort a_start a_size a_due a_rung a_anywhere]) out (flat [wX7 G a a_book a_spare a_images a_kept a_text a_length a_refused a_items a_many a_at a_sort a_start a_size a_due a_rung a_anywhere]) := by
  intro sz
  refine met_of (cc := cX7_isSet) (nL := 2) (ret := (some .boolean)) (Qc := fun A9 => QI G A9 out (flat [wX7 G a a_book a_spare a_images a_kept a_text a_length a_refused a_items a_many a_at a_sort a_start a_size a_due a_rung a_anywhere])) (by decide) rfl (Nat.le_of_ble_eq_true rfl) ?_
  intro p e s m args below meth c A ls C hP hD hS hl
  obtain ⟨⟨hx, hb, hml, hown, hts⟩, hr, hlocks, hK, hN, hE, hA⟩ := id C
  have hl : lv_has ls 2 [(0, .ref (a 0)), (1, .int p0)] := hl
  unfold fX7_isSet at hf
  refine lv_iload_n hx hb dX7_isSet_0 rfl (lv_at hl 1 rfl) ?_
  refine lv_iconst (v := 0) hx hb dX7_isSet_1 (by decide) ?_
  refine lv_iconst (v := 1) hx hb dX7_isSet_2 (by decide) ?_
  refine lv_aload_n hx hb dX7_isSet_3 rfl (lv_at hl 0 rfl) ?_
  refine va_get (D := G.1) (ci := 7) (v := .ref (a 1)) (C := RX7) (T := TX7) (N := 16) hx hb hts iiX7_isSet_X7 hown hK hP 0 rfl rfl 0 (by decide) (hts _ mmX7_isSet_1) (fun _ h9 => h9) rfl dX7_isSet_4 ?_
  refine lv_iconst (v := 0) hx hb dX7_isSet_7 (by decide) ?_
  obtain ⟨z1, hz1, hf⟩ := o_b hf
  refine k_iald hx hb hK hP 1 0 rfl rfl hz1 dX7_isSet_8 ?_
  refine lv_ishl hx hb dX7_isSet_9 ?_
  refine lv_iconst (v := 1) hx hb dX7_isSet_10 (by decide) ?_
  refine at_pc (pc' := 11) rfl ?_
  refine lv_isub hx hb dX7_isSet_11 ?_
  obtain ⟨g2, hg2, hf⟩ := o_b hf
  refine bSi C hP hD hS (tX7_in l G p0 0 ((1 <<< (z1 &&& 31)) - 1) g2 hg2) gX7_isSet_X7_in rfl ⟨rfl, rfl⟩ hdX7_in ⟨Nat.le_of_ble_eq_true rfl, Nat.le_of_ble_eq_true rfl⟩ rfl hl.1 rfl (Nat.le_of_ble_eq_true rfl) ⟨Nat.le_of_ble_eq_true rfl, Nat.le_of_ble_eq_true rfl⟩ [] rfl rfl rfl (setB_same _ _ _ rfl) rfl dX7_isSet_12 (fun H locs hP hD hS => ?_)
  obtain ⟨z3, hz3, hf⟩ := o_b hf
  obtain ⟨hn9, e8⟩ := zb_ok hz3
  have e8 := e8.symm
  subst e8
  have e9 := Option.some.inj hf
  subst e9
  exact rt_z C hP hS rfl hn9 dX7_isSet_15

/-! RX7 begins(I)V -/
theorem iiX7_begins_X7 : ∀ w ∈ wsX70, w ∈ wsX7_begins := by decide +kernel
theorem mmX7_begins_1 : (Cond.fieldLink RX7 7 "BlindBellsModel" "book" "[I") ∈ wsX7_begins := by decide +kernel
theorem hdX7_begins : yX7_begins.cls = RX7 ∧ yX7_begins.cls ≠ "java/lang/invoke/MethodHandle" ∧ yX7_begins.cls ≠ "java/lang/invoke/VarHandle" ∧ (parseMethodDescriptor yX7_begins.desc).map (fun d => d.parameters.length) = some 1 := by decide +kernel
abbrev rmX7_begins : Room := { frames := 0, cells := 0, slots := 0, locals := 0 }
set_option maxHeartbeats 4000000 in
set_option maxRecDepth 100000 in
theorem lX7_begins_2 {p : Program} {e : Env} {s : State} {m : MethodId} {args : Array Value} {below : List Frame} {meth : Method} {c : Code} {A : Nat → Prop} (l : Launch) (G : GG) (C : Cx p m c cX7_begins 3 s args wsX7_begins RX7 meth none G A) (a : Nat → Nat) (a_book : Nat → Int32) (a_spare : Nat → Int32) (a_images : Nat → Int32) (a_kept : Nat → Int32) (a_text : Nat → Int32) (a_length : Int32) (a_refused : Nat → Int32) (a_items : Nat → Int32) (a_many : Int32) (a_at : Int32) (a_sort : Int32) (a_start : Int32) (a_size : Int32) (a_due : Nat → Int32) (a_rung : Nat → Int32) (a_anywhere : Nat → Int32) (p0 : Int32) (out : (Nat → Int32)) (kx : Int32 → (Nat → Int32) → Option ((Nat → Int32))) (HX : ∀ (x2_2 : Int32) (a_book_2 : Nat → Int32) (H : Heap) (locs : List Loc) (ls : Array Slot), va_P G.1 vwCl (flat [wX7 G a a_book_2 a_spare a_images a_kept a_text a_length a_refused a_items a_many a_at a_sort a_start a_size a_due a_rung a_anywhere]) H → va_D A (flat [wX7 G a a_book_2 a_spare a_images a_kept a_text a_length a_refused a_items a_many a_at a_sort a_start a_size a_due a_rung a_anywhere]) → va_S A s.heap H locs → lv_has ls 3 [(0, .ref (a 0)), (1, .int p0), (2, .int x2_2)] → kx x2_2 a_book_2 = some out → W p l e rmX7_begins s m args below meth c H locs 0 0 (MQ below (QV G A (flat [wX7 G a out a_spare a_images a_kept a_text a_length a_refused a_items a_many a_at a_sort a_start a_size a_due a_rung a_anywhere])) args s 0 0 A) (F0 m 21 ls [])) : ∀ (n : Nat) (x2_2 : Int32) (a_book_2 : Nat → Int32) (H : Heap) (locs : List Loc) (ls : Array Slot), va_P G.1 vwCl (flat [wX7 G a a_book_2 a_spare a_images a_kept a_text a_length a_refused a_items a_many a_at a_sort a_start a_size a_due a_rung a_anywhere]) H → va_D A (flat [wX7 G a a_book_2 a_spare a_images a_kept a_text a_length a_refused a_items a_many a_at a_sort a_start a_size a_due a_rung a_anywhere]) → va_S A s.heap H locs → lv_has ls 3 [(0, .ref (a 0)), (1, .int p0), (2, .int x2_2)] → fX7_begins_2  kx n x2_2 a_book_2 = some out → W p l e rmX7_begins s m args below meth c H locs 0 0 (MQ below (QV G A (flat [wX7 G a out a_spare a_images a_kept a_text a_length a_refused a_items a_many a_at a_sort a_start a_size a_due a_rung a_anywhere])) args s 0 0 A) (F0 m 2 ls []) := by
  obtain ⟨⟨hx, hb, hml, hown, hts⟩, hr, hlocks, hK, hN, hE, hA⟩ := id C
  intro n
  induction n with
  | zero =>
    intro x2_2 a_book_2 H locs ls hP hD hS hl hf
    exact absurd (show (none : Option ((Nat → Int32))) = some out from hf) (by intro q9; cases q9)
  | succ n ih =>
    intro x2_2 a_book_2 H locs ls hP hD hS hl hf
    rw [fX7_begins_2] at hf
    refine lv_iload_n hx hb dX7_begins_2 rfl (lv_at hl 2 rfl) ?_
    refine lv_bipush (v := 104) hx hb dX7_begins_3 (by decide) ?_
    refine lv_icmp_ge (tgt := 21) hx hb dX7_begins_5 (by decide) (fun c1 => ?_) (fun c1 => ?_)
    · have hf := (o_i hf).1 c1
      exact HX _ _ _ _ _ hP hD hS (lv_sub hl [0, 1, 2] rfl) hf
    have hf := (o_i hf).2 c1
    refine lv_aload_n hx hb dX7_begins_8 rfl (lv_at hl 0 rfl) ?_
    refine va_get (D := G.1) (ci := 7) (v := .ref (a 1)) (C := RX7) (T := TX7) (N := 16) hx hb hts iiX7_begins_X7 hown hK hP 0 rfl rfl 0 (by decide) (hts _ mmX7_begins_1) (fun _ h9 => h9) rfl dX7_begins_9 ?_
    refine lv_iload_n hx hb dX7_begins_12 rfl (lv_at hl 2 rfl) ?_
    refine lv_iconst (v := 0) hx hb dX7_begins_13 (by decide) ?_
    obtain ⟨u2, hu2, hf⟩ := o_b hf
    refine k_iast hx hb hK hP hD hS 1 0 rfl rfl hu2 dX7_begins_14 (fun H locs hP hD hS => ?_)
    have hP : va_P G.1 vwCl (flat [wX7 G a u2 a_spare a_images a_kept a_text a_length a_refused a_items a_many a_at a_sort a_start a_size a_due a_rung a_anywhere]) H := hP
    have hD : va_D A (flat [wX7 G a u2 a_spare a_images a_kept a_text a_length a_refused a_items a_many a_at a_sort a_start a_size a_due a_rung a_anywhere]) := hD
    refine lv_iinc (v := x2_2 + 1) (lv' := [(2, .int (x2_2 + 1)), (0, .ref (a 0)), (1, .int p0)]) hx hb dX7_begins_15 hl (k := 2) rfl (congrArg (fun z => x2_2 + z) (by decide)) (by decide) rfl (fun ls hl => ?_)
    refine lv_goto (tgt := 2) hx hb dX7_begins_18 (by decide) ?_
    exact ih _ _ _ _ _ hP hD hS (lv_sub hl [1, 2, 0] rfl) hf
set_option maxHeartbeats 4000000 in
set_option maxRecDepth 100000 in
theorem lX7_begins_30 {p : Program} {e : Env} {s : State} {m : MethodId} {args : Array Value} {below : List Frame} {meth : Method} {c : Code} {A : Nat → Prop} (l : Launch) (G : GG) (C : Cx p m c cX7_begins 3 s args wsX7_begins RX7 meth none G A) (a : Nat → Nat) (a_book : Nat → Int32) (a_spare : Nat → Int32) (a_images : Nat → Int32) (a_kept : Nat → Int32) (a_text : Nat → Int32) (a_length : Int32) (a_refused : Nat → Int32) (a_items : Nat → Int32) (a_many : Int32) (a_at : Int32) (a_sort : Int32) (a_start : Int32) (a_size : Int32) (a_due : Nat → Int32) (a_rung : Nat → Int32) (a_anywhere : Nat → Int32) (p0 : Int32) (out : (Nat → Int32)) (kx : Int32 → (Nat → Int32) → Option ((Nat → Int32))) (HX : ∀ (x2_30 : Int32) (a_book_30 : Nat → Int32) (H : Heap) (locs : List Loc) (ls : Array Slot), va_P G.1 vwCl (flat [wX7 G a a_book_30 a_spare a_images a_kept a_text a_length a_refused a_items a_many a_at a_sort a_start a_size a_due a_rung a_anywhere]) H → va_D A (flat [wX7 G a a_book_30 a_spare a_images a_kept a_text a_length a_refused a_items a_many a_at a_sort a_start a_size a_due a_rung a_anywhere]) → va_S A s.heap H locs → lv_has ls 3 [(0, .ref (a 0)), (1, .int p0), (2, .int x2_30)] → kx x2_30 a_book_30 = some out → W p l e rmX7_begins s m args below meth c H locs 0 0 (MQ below (QV G A (flat [wX7 G a out a_spare a_images a_kept a_text a_length a_refused a_items a_many a_at a_sort a_start a_size a_due a_rung a_anywhere])) args s 0 0 A) (F0 m 61 ls [])) : ∀ (n : Nat) (x2_30 : Int32) (a_book_30 : Nat → Int32) (H : Heap) (locs : List Loc) (ls : Array Slot), va_P G.1 vwCl (flat [wX7 G a a_book_30 a_spare a_images a_kept a_text a_length a_refused a_items a_many a_at a_sort a_start a_size a_due a_rung a_anywhere]) H → va_D A (flat [wX7 G a a_book_30 a_spare a_images a_kept a_text a_length a_refused a_items a_many a_at a_sort a_start a_size a_due a_rung a_anywhere]) → va_S A s.heap H locs → lv_has ls 3 [(0, .ref (a 0)), (1, .int p0), (2, .int x2_30)] → fX7_begins_30 p0 kx n x2_30 a_book_30 = some out → W p l e rmX7_begins s m args below meth c H locs 0 0 (MQ below (QV G A (flat [wX7 G a out a_spare a_images a_kept a_text a_length a_refused a_items a_many a_at a_sort a_start a_size a_due a_rung a_anywhere])) args s 0 0 A) (F0 m 30 ls []) := by
  obtain ⟨⟨hx, hb, hml, hown, hts⟩, hr, hlocks, hK, hN, hE, hA⟩ := id C
  intro n
  induction n with
  | zero =>
    intro x2_30 a_book_30 H locs ls hP hD hS hl hf
    exact absurd (show (none : Option ((Nat → Int32))) = some out from hf) (by intro q9; cases q9)
  | succ n ih =>
    intro x2_30 a_book_30 H locs ls hP hD hS hl hf
    rw [fX7_begins_30] at hf
    refine lv_iload_n hx hb dX7_begins_30 rfl (lv_at hl 2 rfl) ?_
    refine lv_iload_n hx hb dX7_begins_31 rfl (lv_at hl 1 rfl) ?_
    refine lv_icmp_ge (tgt := 61) hx hb dX7_begins_32 (by decide) (fun c6 => ?_) (fun c6 => ?_)
    · have hf := (o_i hf).1 c6
      exact HX _ _ _ _ _ hP hD hS (lv_sub hl [0, 1, 2] rfl) hf
    have hf := (o_i hf).2 c6
    refine lv_aload_n hx hb dX7_begins_35 rfl (lv_at hl 0 rfl) ?_
    refine va_get (D := G.1) (ci := 7) (v := .ref (a 1)) (C := RX7) (T := TX7) (N := 16) hx hb hts iiX7_begins_X7 hown hK hP 0 rfl rfl 0 (by decide) (hts _ mmX7_begins_1) (fun _ h9 => h9) rfl dX7_begins_36 ?_
    refine lv_bipush (v := 10) hx hb dX7_begins_39 (by decide) ?_
    refine lv_iload_n hx hb dX7_begins_41 rfl (lv_at hl 2 rfl) ?_
    refine lv_iadd hx hb dX7_begins_42 ?_
    refine lv_iload_n hx hb dX7_begins_43 rfl (lv_at hl 2 rfl) ?_
    obtain ⟨u7, hu7, hf⟩ := o_b hf
    refine k_iast hx hb hK hP hD hS 1 0 rfl rfl hu7 dX7_begins_44 (fun H locs hP hD hS => ?_)
    have hP : va_P G.1 vwCl (flat [wX7 G a u7 a_spare a_images a_kept a_text a_length a_refused a_items a_many a_at a_sort a_start a_size a_due a_rung a_anywhere]) H := hP
    have hD : va_D A (flat [wX7 G a u7 a_spare a_images a_kept a_text a_length a_refused a_items a_many a_at a_sort a_start a_size a_due a_rung a_anywhere]) := hD
    refine lv_aload_n hx hb dX7_begins_45 rfl (lv_at hl 0 rfl) ?_
    refine va_get (D := G.1) (ci := 7) (v := .ref (a 1)) (C := RX7) (T := TX7) (N := 16) hx hb hts iiX7_begins_X7 hown hK hP 0 rfl rfl 0 (by decide) (hts _ mmX7_begins_1) (fun _ h9 => h9) rfl dX7_begins_46 ?_
    refine at_pc (pc' := 49) rfl ?_
    refine lv_bipush (v := 16) hx hb dX7_begins_49 (by decide) ?_
    refine lv_iload_n hx hb dX7_begins_51 rfl (lv_at hl 2 rfl) ?_
    refine lv_iadd hx hb dX7_begins_52 ?_
    refine lv_iload_n hx hb dX7_begins_53 rfl (lv_at hl 2 rfl) ?_
    obtain ⟨u8, hu8, hf⟩ := o_b hf
    refine k_iast hx hb hK hP hD hS 1 0 rfl rfl hu8 dX7_begins_54 (fun H locs hP hD hS => ?_)
    have hP : va_P G.1 vwCl (flat [wX7 G a u8 a_spare a_images a_kept a_text a_length a_refused a_items a_many a_at a_sort a_start a_size a_due a_rung a_anywhere]) H := hP
    have hD : va_D A (flat [wX7 G a u8 a_spare a_images a_kept a_text a_length a_refused a_items a_many a_at a_sort a_start a_size a_due a_rung a_anywhere]) := hD
    refine lv_iinc (v := x2_30 + 1) (lv' := [(2, .int (x2_30 + 1)), (0, .ref (a 0)), (1, .int p0)]) hx hb dX7_begins_55 hl (k := 2) rfl (congrArg (fun z => x2_30 + z) (by decide)) (by decide) rfl (fun ls hl => ?_)
    refine lv_goto (tgt := 30) hx hb dX7_begins_58 (by decide) ?_
    exact ih _ _ _ _ _ hP hD hS (lv_sub hl [1, 2, 0] rfl) hf
set_option maxHeartbeats 4000000 in
set_option maxRecDepth 100000 in
theorem tX7_begins (l : Launch) (G : GG) (a : Nat → Nat) (a_book : Nat → Int32) (a_spare : Nat → Int32) (a_images : Nat → Int32) (a_kept : Nat → Int32) (a_text : Nat → Int32) (a_length : Int32) (a_refused : Nat → Int32) (a_items : Nat → Int32) (a_many : Int32) (a_at : Int32) (a_sort : Int32) (a_start : Int32) (a_size : Int32) (a_due : Nat → Int32) (a_rung : Nat → Int32) (a_anywhere : Nat → Int32) (p0 : Int32) (out : (Nat → Int32)) (hf : fX7_begins a_book p0 = some out) : cMv l G yX7_begins wsX7_begins rmX7_begins [.ref (a 0), .int p0] (flat [wX7 G a a_book a_spare a_images a_kept a_text a_length a_refused a_items a_many a_at a_sort a_start a_size a_due a_rung a_anywhere]) (flat [wX7 G a out a_spare a_images a_kept a_text a_length a_refused a_items a_many a_at a_sort a_start a_size a_due a_rung a_anywhere]) := by
  intro sz
  refine met_of (cc := cX7_begins) (nL := 3) (ret := none) (Qc := fun A9 => QV G A9 (flat [wX7 G a out a_spare a_images a_kept a_text a_length a_refused a_items a_many a_at a_sort a_start a_size a_due a_rung a_anywhere])) (by decide) rfl (Nat.le_of_ble_eq_true rfl) ?_
  intro p e s m args below meth c A ls C hP hD hS hl
  obtain ⟨⟨hx, hb, hml, hown, hts⟩, hr, hlocks, hK, hN, hE, hA⟩ := id C
  have hl : lv_has ls 3 [(0, .ref (a 0)), (1, .int p0)] := hl
  unfold fX7_begins at hf
  refine lv_iconst (v := 0) hx hb dX7_begins_0 (by decide) ?_
  refine lv_istore_n (lv' := [(2, .int 0), (0, .ref (a 0)), (1, .int p0)]) hx hb dX7_begins_1 rfl hl (by decide) rfl (fun ls hl => ?_)
  refine lX7_begins_2 l G C a a_book a_spare a_images a_kept a_text a_length a_refused a_items a_many a_at a_sort a_start a_size a_due a_rung a_anywhere p0 out _ (fun x2_2_3 a_book_2_4 H locs ls hP hD hS hl hf => ?_) fu 0 a_book _ _ _ hP hD hS (lv_sub hl [1, 2, 0] rfl) hf
  refine lv_aload_n hx hb dX7_begins_21 rfl (lv_at hl 0 rfl) ?_
  refine va_get (D := G.1) (ci := 7) (v := .ref (a 1)) (C := RX7) (T := TX7) (N := 16) hx hb hts iiX7_begins_X7 hown hK hP 0 rfl rfl 0 (by decide) (hts _ mmX7_begins_1) (fun _ h9 => h9) rfl dX7_begins_22 ?_
  refine lv_iconst (v := 0) hx hb dX7_begins_25 (by decide) ?_
  refine lv_iload_n hx hb dX7_begins_26 rfl (lv_at hl 1 rfl) ?_
  obtain ⟨u5, hu5, hf⟩ := o_b hf
  refine k_iast hx hb hK hP hD hS 1 0 rfl rfl hu5 dX7_begins_27 (fun H locs hP hD hS => ?_)
  have hP : va_P G.1 vwCl (flat [wX7 G a u5 a_spare a_images a_kept a_text a_length a_refused a_items a_many a_at a_sort a_start a_size a_due a_rung a_anywhere]) H := hP
  have hD : va_D A (flat [wX7 G a u5 a_spare a_images a_kept a_text a_length a_refused a_items a_many a_at a_sort a_start a_size a_due a_rung a_anywhere]) := hD
  refine lv_iconst (v := 0) hx hb dX7_begins_28 (by decide) ?_
  refine lv_istore_n (lv' := [(2, .int 0), (0, .ref (a 0)), (1, .int p0)]) hx hb dX7_begins_29 rfl hl (by decide) rfl (fun ls hl => ?_)
  refine lX7_begins_30 l G C a a_book a_spare a_images a_kept a_text a_length a_refused a_items a_many a_at a_sort a_start a_size a_due a_rung a_anywhere p0 out _ (fun x2_30_9 a_book_30_10 H locs ls hP hD hS hl hf => ?_) fu 0 u5 _ _ _ hP hD hS (lv_sub hl [1, 2, 0] rfl) hf
  have e9 := Option.some.inj hf
  subst e9
  exact rt_v C hP hS dX7_begins_61

/-! RX7 tellsHears(IIIZ)I -/
theorem iiX7_tellsHears_X7 : ∀ w ∈ wsX70, w ∈ wsX7_tellsHears := by decide +kernel
theorem mmX7_tellsHears_1 : (Cond.fieldLink RX7 7 "BlindBellsModel" "book" "[I") ∈ wsX7_tellsHears := by decide +kernel
theorem hdX7_tellsHears : yX7_tellsHears.cls = RX7 ∧ yX7_tellsHears.cls ≠ "java/lang/invoke/MethodHandle" ∧ yX7_tellsHears.cls ≠ "java/lang/invoke/VarHandle" ∧ (parseMethodDescriptor yX7_tellsHears.desc).map (fun d => d.parameters.length) = some 4 := by decide +kernel
abbrev rmX7_tellsHears : Room := { frames := 2, cells := 0, slots := 0, locals := 43 }
set_option maxHeartbeats 4000000 in
set_option maxRecDepth 100000 in
theorem tX7_tellsHears (l : Launch) (G : GG) (a : Nat → Nat) (a_book : Nat → Int32) (a_spare : Nat → Int32) (a_images : Nat → Int32) (a_kept : Nat → Int32) (a_text : Nat → Int32) (a_length : Int32) (a_refused : Nat → Int32) (a_items : Nat → Int32) (a_many : Int32) (a_at : Int32) (a_sort : Int32) (a_start : Int32) (a_size : Int32) (a_due : Nat → Int32) (a_rung : Nat → Int32) (a_anywhere : Nat → Int32) (p0 : Int32) (p1 : Int32) (p2 : Int32) (p3 : Int32) (out : Int32 × (Nat → Int32)) (hf : fX7_tellsHears a_book p0 p1 p2 p3 = some out) : cMi l G yX7_tellsHears wsX7_tellsHears rmX7_tellsHears [.ref (a 0), .int p0, .int p1, .int p2, .int p3] (flat [wX7 G a a_book a_spare a_images a_kept a_text a_length a_refused a_items a_many a_at a_sort a_start a_size a_due a_rung a_anywhere]) out.1 (flat [wX7 G a out.2 a_spare a_images a_kept a_text a_length a_refused a_items a_many a_at a_sort a_start a_size a_due a_rung a_anywhere]) := by
  intro sz
  refine met_of (cc := cX7_tellsHears) (nL := 6) (ret := (some .int)) (Qc := fun A9 => QI G A9 out.1 (flat [wX7 G a out.2 a_spare a_images a_kept a_text a_length a_refused a_items a_many a_at a_sort a_start a_size a_due a_rung a_anywhere])) (by decide) rfl (Nat.le_of_ble_eq_true rfl) ?_
  intro p e s m args below meth c A ls C hP hD hS hl
  obtain ⟨⟨hx, hb, hml, hown, hts⟩, hr, hlocks, hK, hN, hE, hA⟩ := id C
  have hl : lv_has ls 6 [(0, .ref (a 0)), (1, .int p0), (2, .int p1), (3, .int p2), (4, .int p3)] := hl
  unfold fX7_tellsHears at hf
  refine lv_aload_n hx hb dX7_tellsHears_0 rfl (lv_at hl 0 rfl) ?_
  refine lv_iload_n hx hb dX7_tellsHears_1 rfl (lv_at hl 1 rfl) ?_
  obtain ⟨g1, hg1, hf⟩ := o_b hf
  refine bVi C hP hD hS (tX7_isOne l G a a_book a_spare a_images a_kept a_text a_length a_refused a_items a_many a_at a_sort a_start a_size a_due a_rung a_anywhere p0 g1 hg1) gX7_tellsHears_X7_isOne rfl ⟨rfl, rfl⟩ hdX7_isOne ⟨Nat.le_of_ble_eq_true rfl, Nat.le_of_ble_eq_true rfl⟩ rfl hl.1 rfl (Nat.le_of_ble_eq_true rfl) ⟨Nat.le_of_ble_eq_true rfl, Nat.le_of_ble_eq_true rfl⟩ [0] rfl rfl rfl (setB_same _ _ _ rfl) rfl (ci := 7) (q0 := 0) rfl rfl rfl dX7_tellsHears_2 (fun H locs hP hD hS => ?_)
  refine lv_if_eq (tgt := 30) hx hb dX7_tellsHears_5 (by decide) (fun c2 => ?_) (fun c2 => ?_)
  · have hf := (o_i hf).1 c2
    refine lv_bipush (v := (-2)) hx hb dX7_tellsHears_30 (by decide) ?_
    have e9 := Option.some.inj hf
    subst e9
    exact rt_i C hP hS rfl dX7_tellsHears_32
  have hf := (o_i hf).2 c2
  refine lv_iload_n hx hb dX7_tellsHears_8 rfl (lv_at hl 2 rfl) ?_
  refine lv_iconst (v := 0) hx hb dX7_tellsHears_9 (by decide) ?_
  refine lv_iconst (v := 3) hx hb dX7_tellsHears_10 (by decide) ?_
  obtain ⟨g3, hg3, hf⟩ := o_b hf
  refine bSi C hP hD hS (tX7_in l G p1 0 3 g3 hg3) gX7_tellsHears_X7_in rfl ⟨rfl, rfl⟩ hdX7_in ⟨Nat.le_of_ble_eq_true rfl, Nat.le_of_ble_eq_true rfl⟩ rfl hl.1 rfl (Nat.le_of_ble_eq_true rfl) ⟨Nat.le_of_ble_eq_true rfl, Nat.le_of_ble_eq_true rfl⟩ [] rfl rfl rfl (setB_same _ _ _ rfl) rfl dX7_tellsHears_11 (fun H locs hP hD hS => ?_)
  refine lv_if_eq (tgt := 30) hx hb dX7_tellsHears_14 (by decide) (fun c4 => ?_) (fun c4 => ?_)
  · have hf := (o_i hf).1 c4
    refine lv_bipush (v := (-2)) hx hb dX7_tellsHears_30 (by decide) ?_
    have e9 := Option.some.inj hf
    subst e9
    exact rt_i C hP hS rfl dX7_tellsHears_32
  have hf := (o_i hf).2 c4
  refine lv_aload_n hx hb dX7_tellsHears_17 rfl (lv_at hl 0 rfl) ?_
  refine lv_iload_n hx hb dX7_tellsHears_18 rfl (lv_at hl 3 rfl) ?_
  obtain ⟨g5, hg5, hf⟩ := o_b hf
  refine bVi C hP hD hS (tX7_isOne l G a a_book a_spare a_images a_kept a_text a_length a_refused a_items a_many a_at a_sort a_start a_size a_due a_rung a_anywhere p2 g5 hg5) gX7_tellsHears_X7_isOne rfl ⟨rfl, rfl⟩ hdX7_isOne ⟨Nat.le_of_ble_eq_true rfl, Nat.le_of_ble_eq_true rfl⟩ rfl hl.1 rfl (Nat.le_of_ble_eq_true rfl) ⟨Nat.le_of_ble_eq_true rfl, Nat.le_of_ble_eq_true rfl⟩ [0] rfl rfl rfl (setB_same _ _ _ rfl) rfl (ci := 7) (q0 := 0) rfl rfl rfl dX7_tellsHears_19 (fun H locs hP hD hS => ?_)
  refine lv_if_eq (tgt := 30) hx hb dX7_tellsHears_22 (by decide) (fun c6 => ?_) (fun c6 => ?_)
  · have hf := (o_i hf).1 c6
    refine lv_bipush (v := (-2)) hx hb dX7_tellsHears_30 (by decide) ?_
    have e9 := Option.some.inj hf
    subst e9
    exact rt_i C hP hS rfl dX7_tellsHears_32
  have hf := (o_i hf).2 c6
  refine lv_iload_n hx hb dX7_tellsHears_25 rfl (lv_at hl 1 rfl) ?_
  refine lv_iload_n hx hb dX7_tellsHears_26 rfl (lv_at hl 3 rfl) ?_
  refine lv_icmp_ne (tgt := 33) hx hb dX7_tellsHears_27 (by decide) (fun c7 => ?_) (fun c7 => ?_)
  · have hf := (o_i hf).2 c7
    refine lv_bipush (v := 22) hx hb dX7_tellsHears_33 (by decide) ?_
    refine lv_iconst (v := 4) hx hb dX7_tellsHears_35 (by decide) ?_
    refine lv_iload_n hx hb dX7_tellsHears_36 rfl (lv_at hl 1 rfl) ?_
    refine lv_imul hx hb dX7_tellsHears_37 ?_
    refine lv_iadd hx hb dX7_tellsHears_38 ?_
    refine lv_iload_n hx hb dX7_tellsHears_39 rfl (lv_at hl 2 rfl) ?_
    refine lv_iadd hx hb dX7_tellsHears_40 ?_
    refine lv_istore (lv' := [(5, .int ((22 + (4 * p0)) + p1)), (0, .ref (a 0)), (1, .int p0), (2, .int p1), (3, .int p2), (4, .int p3)]) hx hb dX7_tellsHears_41 hl (by decide) rfl (fun ls hl => ?_)
    refine lv_aload_n hx hb dX7_tellsHears_43 rfl (lv_at hl 1 rfl) ?_
    refine at_pc (pc' := 44) rfl ?_
    refine va_get (D := G.1) (ci := 7) (v := .ref (a 1)) (C := RX7) (T := TX7) (N := 16) hx hb hts iiX7_tellsHears_X7 hown hK hP 0 rfl rfl 0 (by decide) (hts _ mmX7_tellsHears_1) (fun _ h9 => h9) rfl dX7_tellsHears_44 ?_
    refine lv_iload hx hb dX7_tellsHears_47 (lv_at hl 0 rfl) ?_
    obtain ⟨z8, hz8, hf⟩ := o_b hf
    refine k_iald hx hb hK hP 1 0 rfl rfl hz8 dX7_tellsHears_49 ?_
    refine lv_iload_n hx hb dX7_tellsHears_50 rfl (lv_at hl 4 rfl) ?_
    refine lv_ishr hx hb dX7_tellsHears_51 ?_
    refine lv_iconst (v := 1) hx hb dX7_tellsHears_52 (by decide) ?_
    refine lv_iand hx hb dX7_tellsHears_53 ?_
    refine lv_iconst (v := 1) hx hb dX7_tellsHears_54 (by decide) ?_
    obtain ⟨f10, hf10, hf⟩ := o_b hf
    have hJ : ∀ (H : Heap) (locs : List Loc) (ls : Array Slot), va_P G.1 vwCl (flat [wX7 G a a_book a_spare a_images a_kept a_text a_length a_refused a_items a_many a_at a_sort a_start a_size a_due a_rung a_anywhere]) H → va_D A (flat [wX7 G a a_book a_spare a_images a_kept a_text a_length a_refused a_items a_many a_at a_sort a_start a_size a_due a_rung a_anywhere]) → va_S A s.heap H locs → lv_has ls 6 [(0, .ref (a 0)), (1, .int p0), (2, .int p1), (3, .int p2), (4, .int p3), (5, .int ((22 + (4 * p0)) + p1))] → W p l e rmX7_tellsHears s m args below meth c H locs 0 0 (MQ below (QI G A out.1 (flat [wX7 G a out.2 a_spare a_images a_kept a_text a_length a_refused a_items a_many a_at a_sort a_start a_size a_due a_rung a_anywhere])) args s 0 0 A) (F0 m 63 ls [.int f10]) := by
      intro H locs ls hP hD hS hl
      refine lv_iload hx hb dX7_tellsHears_63 (lv_at hl 4 rfl) ?_
      refine lv_icmp_ne (tgt := 71) hx hb dX7_tellsHears_65 (by decide) (fun c11 => ?_) (fun c11 => ?_)
      · have hf := (o_i hf).2 c11
        refine lv_aload_n hx hb dX7_tellsHears_71 rfl (lv_at hl 0 rfl) ?_
        refine va_get (D := G.1) (ci := 7) (v := .ref (a 1)) (C := RX7) (T := TX7) (N := 16) hx hb hts iiX7_tellsHears_X7 hown hK hP 0 rfl rfl 0 (by decide) (hts _ mmX7_tellsHears_1) (fun _ h9 => h9) rfl dX7_tellsHears_72 ?_
        refine lv_iload hx hb dX7_tellsHears_75 (lv_at hl 5 rfl) ?_
        refine lv_dup2_11 hx hb dX7_tellsHears_77 rfl rfl ?_
        obtain ⟨z12, hz12, hf⟩ := o_b hf
        refine k_iald hx hb hK hP 1 0 rfl rfl hz12 dX7_tellsHears_78 ?_
        refine lv_iconst (v := 1) hx hb dX7_tellsHears_79 (by decide) ?_
        refine lv_iload_n hx hb dX7_tellsHears_80 rfl (lv_at hl 3 rfl) ?_
        refine lv_ishl hx hb dX7_tellsHears_81 ?_
        refine lv_ixor hx hb dX7_tellsHears_82 ?_
        refine at_pc (pc' := 83) rfl ?_
        obtain ⟨u13, hu13, hf⟩ := o_b hf
        refine k_iast hx hb hK hP hD hS 1 0 rfl rfl hu13 dX7_tellsHears_83 (fun H locs hP hD hS => ?_)
        have hP : va_P G.1 vwCl (flat [wX7 G a u13 a_spare a_images a_kept a_text a_length a_refused a_items a_many a_at a_sort a_start a_size a_due a_rung a_anywhere]) H := hP
        have hD : va_D A (flat [wX7 G a u13 a_spare a_images a_kept a_text a_length a_refused a_items a_many a_at a_sort a_start a_size a_due a_rung a_anywhere]) := hD
        refine lv_iconst (v := 1) hx hb dX7_tellsHears_84 (by decide) ?_
        have e9 := Option.some.inj hf
        subst e9
        exact rt_i C hP hS rfl dX7_tellsHears_85
      have hf := (o_i hf).1 c11
      refine lv_bipush (v := (-3)) hx hb dX7_tellsHears_68 (by decide) ?_
      have e9 := Option.some.inj hf
      subst e9
      exact rt_i C hP hS rfl dX7_tellsHears_70
    clear hf
    have hf := hf10
    refine lv_icmp_ne (tgt := 62) hx hb dX7_tellsHears_55 (by decide) (fun c9 => ?_) (fun c9 => ?_)
    · have hf := (o_i hf).2 c9
      refine lv_iconst (v := 0) hx hb dX7_tellsHears_62 (by decide) ?_
      have e9 := Option.some.inj hf
      subst e9
      exact hJ _ _ _ hP hD hS (lv_sub hl [1, 2, 3, 4, 5, 0] rfl)
    have hf := (o_i hf).1 c9
    refine lv_iconst (v := 1) hx hb dX7_tellsHears_58 (by decide) ?_
    refine lv_goto (tgt := 63) hx hb dX7_tellsHears_59 (by decide) ?_
    have e9 := Option.some.inj hf
    subst e9
    exact hJ _ _ _ hP hD hS (lv_sub hl [1, 2, 3, 4, 5, 0] rfl)
  have hf := (o_i hf).1 c7
  refine lv_bipush (v := (-2)) hx hb dX7_tellsHears_30 (by decide) ?_
  have e9 := Option.some.inj hf
  subst e9
  exact rt_i C hP hS rfl dX7_tellsHears_32

/-! RX7 tellsWood(II)I -/
theorem iiX7_tellsWood_X7 : ∀ w ∈ wsX70, w ∈ wsX7_tellsWood := by decide +kernel
theorem mmX7_tellsWood_1 : (Cond.fieldLink RX7 7 "BlindBellsModel" "book" "[I") ∈ wsX7_tellsWood := by decide +kernel
theorem hdX7_tellsWood : yX7_tellsWood.cls = RX7 ∧ yX7_tellsWood.cls ≠ "java/lang/invoke/MethodHandle" ∧ yX7_tellsWood.cls ≠ "java/lang/invoke/VarHandle" ∧ (parseMethodDescriptor yX7_tellsWood.desc).map (fun d => d.parameters.length) = some 2 := by decide +kernel
abbrev rmX7_tellsWood : Room := { frames := 2, cells := 0, slots := 0, locals := 43 }
set_option maxHeartbeats 4000000 in
set_option maxRecDepth 100000 in
theorem tX7_tellsWood (l : Launch) (G : GG) (a : Nat → Nat) (a_book : Nat → Int32) (a_spare : Nat → Int32) (a_images : Nat → Int32) (a_kept : Nat → Int32) (a_text : Nat → Int32) (a_length : Int32) (a_refused : Nat → Int32) (a_items : Nat → Int32) (a_many : Int32) (a_at : Int32) (a_sort : Int32) (a_start : Int32) (a_size : Int32) (a_due : Nat → Int32) (a_rung : Nat → Int32) (a_anywhere : Nat → Int32) (p0 : Int32) (p1 : Int32) (out : Int32 × (Nat → Int32)) (hf : fX7_tellsWood a_book p0 p1 = some out) : cMi l G yX7_tellsWood wsX7_tellsWood rmX7_tellsWood [.ref (a 0), .int p0, .int p1] (flat [wX7 G a a_book a_spare a_images a_kept a_text a_length a_refused a_items a_many a_at a_sort a_start a_size a_due a_rung a_anywhere]) out.1 (flat [wX7 G a out.2 a_spare a_images a_kept a_text a_length a_refused a_items a_many a_at a_sort a_start a_size a_due a_rung a_anywhere]) := by
  intro sz
  refine met_of (cc := cX7_tellsWood) (nL := 3) (ret := (some .int)) (Qc := fun A9 => QI G A9 out.1 (flat [wX7 G a out.2 a_spare a_images a_kept a_text a_length a_refused a_items a_many a_at a_sort a_start a_size a_due a_rung a_anywhere])) (by decide) rfl (Nat.le_of_ble_eq_true rfl) ?_
  intro p e s m args below meth c A ls C hP hD hS hl
  obtain ⟨⟨hx, hb, hml, hown, hts⟩, hr, hlocks, hK, hN, hE, hA⟩ := id C
  have hl : lv_has ls 3 [(0, .ref (a 0)), (1, .int p0), (2, .int p1)] := hl
  unfold fX7_tellsWood at hf
  refine lv_aload_n hx hb dX7_tellsWood_0 rfl (lv_at hl 0 rfl) ?_
  refine lv_iload_n hx hb dX7_tellsWood_1 rfl (lv_at hl 1 rfl) ?_
  obtain ⟨g1, hg1, hf⟩ := o_b hf
  refine bVi C hP hD hS (tX7_isOne l G a a_book a_spare a_images a_kept a_text a_length a_refused a_items a_many a_at a_sort a_start a_size a_due a_rung a_anywhere p0 g1 hg1) gX7_tellsWood_X7_isOne rfl ⟨rfl, rfl⟩ hdX7_isOne ⟨Nat.le_of_ble_eq_true rfl, Nat.le_of_ble_eq_true rfl⟩ rfl hl.1 rfl (Nat.le_of_ble_eq_true rfl) ⟨Nat.le_of_ble_eq_true rfl, Nat.le_of_ble_eq_true rfl⟩ [0] rfl rfl rfl (setB_same _ _ _ rfl) rfl (ci := 7) (q0 := 0) rfl rfl rfl dX7_tellsWood_2 (fun H locs hP hD hS => ?_)
  refine lv_if_eq (tgt := 21) hx hb dX7_tellsWood_5 (by decide) (fun c2 => ?_) (fun c2 => ?_)
  · have hf := (o_i hf).1 c2
    refine lv_bipush (v := (-2)) hx hb dX7_tellsWood_21 (by decide) ?_
    have e9 := Option.some.inj hf
    subst e9
    exact rt_i C hP hS rfl dX7_tellsWood_23
  have hf := (o_i hf).2 c2
  refine lv_aload_n hx hb dX7_tellsWood_8 rfl (lv_at hl 0 rfl) ?_
  refine lv_iload_n hx hb dX7_tellsWood_9 rfl (lv_at hl 2 rfl) ?_
  obtain ⟨g3, hg3, hf⟩ := o_b hf
  refine bVi C hP hD hS (tX7_isOne l G a a_book a_spare a_images a_kept a_text a_length a_refused a_items a_many a_at a_sort a_start a_size a_due a_rung a_anywhere p1 g3 hg3) gX7_tellsWood_X7_isOne rfl ⟨rfl, rfl⟩ hdX7_isOne ⟨Nat.le_of_ble_eq_true rfl, Nat.le_of_ble_eq_true rfl⟩ rfl hl.1 rfl (Nat.le_of_ble_eq_true rfl) ⟨Nat.le_of_ble_eq_true rfl, Nat.le_of_ble_eq_true rfl⟩ [0] rfl rfl rfl (setB_same _ _ _ rfl) rfl (ci := 7) (q0 := 0) rfl rfl rfl dX7_tellsWood_10 (fun H locs hP hD hS => ?_)
  refine lv_if_eq (tgt := 21) hx hb dX7_tellsWood_13 (by decide) (fun c4 => ?_) (fun c4 => ?_)
  · have hf := (o_i hf).1 c4
    refine lv_bipush (v := (-2)) hx hb dX7_tellsWood_21 (by decide) ?_
    have e9 := Option.some.inj hf
    subst e9
    exact rt_i C hP hS rfl dX7_tellsWood_23
  have hf := (o_i hf).2 c4
  refine lv_iload_n hx hb dX7_tellsWood_16 rfl (lv_at hl 1 rfl) ?_
  refine lv_iload_n hx hb dX7_tellsWood_17 rfl (lv_at hl 2 rfl) ?_
  refine lv_icmp_ne (tgt := 24) hx hb dX7_tellsWood_18 (by decide) (fun c5 => ?_) (fun c5 => ?_)
  · have hf := (o_i hf).2 c5
    refine lv_aload_n hx hb dX7_tellsWood_24 rfl (lv_at hl 0 rfl) ?_
    refine va_get (D := G.1) (ci := 7) (v := .ref (a 1)) (C := RX7) (T := TX7) (N := 16) hx hb hts iiX7_tellsWood_X7 hown hK hP 0 rfl rfl 0 (by decide) (hts _ mmX7_tellsWood_1) (fun _ h9 => h9) rfl dX7_tellsWood_25 ?_
    refine lv_iconst (v := 1) hx hb dX7_tellsWood_28 (by decide) ?_
    obtain ⟨z6, hz6, hf⟩ := o_b hf
    refine k_iald hx hb hK hP 1 0 rfl rfl hz6 dX7_tellsWood_29 ?_
    refine lv_bipush (v := 8) hx hb dX7_tellsWood_30 (by decide) ?_
    refine lv_icmp_ne (tgt := 38) hx hb dX7_tellsWood_32 (by decide) (fun c7 => ?_) (fun c7 => ?_)
    · have hf := (o_i hf).2 c7
      refine lv_aload_n hx hb dX7_tellsWood_38 rfl (lv_at hl 0 rfl) ?_
      refine va_get (D := G.1) (ci := 7) (v := .ref (a 1)) (C := RX7) (T := TX7) (N := 16) hx hb hts iiX7_tellsWood_X7 hown hK hP 0 rfl rfl 0 (by decide) (hts _ mmX7_tellsWood_1) (fun _ h9 => h9) rfl dX7_tellsWood_39 ?_
      refine lv_bipush (v := 46) hx hb dX7_tellsWood_42 (by decide) ?_
      refine lv_aload_n hx hb dX7_tellsWood_44 rfl (lv_at hl 0 rfl) ?_
      refine va_get (D := G.1) (ci := 7) (v := .ref (a 1)) (C := RX7) (T := TX7) (N := 16) hx hb hts iiX7_tellsWood_X7 hown hK hP 0 rfl rfl 0 (by decide) (hts _ mmX7_tellsWood_1) (fun _ h9 => h9) rfl dX7_tellsWood_45 ?_
      refine lv_iconst (v := 1) hx hb dX7_tellsWood_48 (by decide) ?_
      obtain ⟨z8, hz8, hf⟩ := o_b hf
      refine k_iald hx hb hK hP 1 0 rfl rfl hz8 dX7_tellsWood_49 ?_
      refine lv_iadd hx hb dX7_tellsWood_50 ?_
      refine lv_iload_n hx hb dX7_tellsWood_51 rfl (lv_at hl 1 rfl) ?_
      refine at_pc (pc' := 52) rfl ?_
      obtain ⟨u9, hu9, hf⟩ := o_b hf
      refine k_iast hx hb hK hP hD hS 1 0 rfl rfl hu9 dX7_tellsWood_52 (fun H locs hP hD hS => ?_)
      have hP : va_P G.1 vwCl (flat [wX7 G a u9 a_spare a_images a_kept a_text a_length a_refused a_items a_many a_at a_sort a_start a_size a_due a_rung a_anywhere]) H := hP
      have hD : va_D A (flat [wX7 G a u9 a_spare a_images a_kept a_text a_length a_refused a_items a_many a_at a_sort a_start a_size a_due a_rung a_anywhere]) := hD
      refine lv_aload_n hx hb dX7_tellsWood_53 rfl (lv_at hl 0 rfl) ?_
      refine va_get (D := G.1) (ci := 7) (v := .ref (a 1)) (C := RX7) (T := TX7) (N := 16) hx hb hts iiX7_tellsWood_X7 hown hK hP 0 rfl rfl 0 (by decide) (hts _ mmX7_tellsWood_1) (fun _ h9 => h9) rfl dX7_tellsWood_54 ?_
      refine lv_bipush (v := 54) hx hb dX7_tellsWood_57 (by decide) ?_
      refine lv_aload_n hx hb dX7_tellsWood_59 rfl (lv_at hl 0 rfl) ?_
      refine va_get (D := G.1) (ci := 7) (v := .ref (a 1)) (C := RX7) (T := TX7) (N := 16) hx hb hts iiX7_tellsWood_X7 hown hK hP 0 rfl rfl 0 (by decide) (hts _ mmX7_tellsWood_1) (fun _ h9 => h9) rfl dX7_tellsWood_60 ?_
      refine lv_iconst (v := 1) hx hb dX7_tellsWood_63 (by decide) ?_
      obtain ⟨z10, hz10, hf⟩ := o_b hf
      refine k_iald hx hb hK hP 1 0 rfl rfl hz10 dX7_tellsWood_64 ?_
      refine lv_iadd hx hb dX7_tellsWood_65 ?_
      refine lv_iload_n hx hb dX7_tellsWood_66 rfl (lv_at hl 2 rfl) ?_
      refine at_pc (pc' := 67) rfl ?_
      obtain ⟨u11, hu11, hf⟩ := o_b hf
      refine k_iast hx hb hK hP hD hS 1 0 rfl rfl hu11 dX7_tellsWood_67 (fun H locs hP hD hS => ?_)
      have hP : va_P G.1 vwCl (flat [wX7 G a u11 a_spare a_images a_kept a_text a_length a_refused a_items a_many a_at a_sort a_start a_size a_due a_rung a_anywhere]) H := hP
      have hD : va_D A (flat [wX7 G a u11 a_spare a_images a_kept a_text a_length a_refused a_items a_many a_at a_sort a_start a_size a_due a_rung a_anywhere]) := hD
      refine lv_aload_n hx hb dX7_tellsWood_68 rfl (lv_at hl 0 rfl) ?_
      refine va_get (D := G.1) (ci := 7) (v := .ref (a 1)) (C := RX7) (T := TX7) (N := 16) hx hb hts iiX7_tellsWood_X7 hown hK hP 0 rfl rfl 0 (by decide) (hts _ mmX7_tellsWood_1) (fun _ h9 => h9) rfl dX7_tellsWood_69 ?_
      refine lv_iconst (v := 1) hx hb dX7_tellsWood_72 (by decide) ?_
      refine lv_dup2_11 hx hb dX7_tellsWood_73 rfl rfl ?_
      obtain ⟨z12, hz12, hf⟩ := o_b hf
      refine k_iald hx hb hK hP 1 0 rfl rfl hz12 dX7_tellsWood_74 ?_
      refine lv_iconst (v := 1) hx hb dX7_tellsWood_75 (by decide) ?_
      refine lv_iadd hx hb dX7_tellsWood_76 ?_
      obtain ⟨u13, hu13, hf⟩ := o_b hf
      refine k_iast hx hb hK hP hD hS 1 0 rfl rfl hu13 dX7_tellsWood_77 (fun H locs hP hD hS => ?_)
      have hP : va_P G.1 vwCl (flat [wX7 G a u13 a_spare a_images a_kept a_text a_length a_refused a_items a_many a_at a_sort a_start a_size a_due a_rung a_anywhere]) H := hP
      have hD : va_D A (flat [wX7 G a u13 a_spare a_images a_kept a_text a_length a_refused a_items a_many a_at a_sort a_start a_size a_due a_rung a_anywhere]) := hD
      refine lv_aload_n hx hb dX7_tellsWood_78 rfl (lv_at hl 0 rfl) ?_
      refine at_pc (pc' := 79) rfl ?_
      refine va_get (D := G.1) (ci := 7) (v := .ref (a 1)) (C := RX7) (T := TX7) (N := 16) hx hb hts iiX7_tellsWood_X7 hown hK hP 0 rfl rfl 0 (by decide) (hts _ mmX7_tellsWood_1) (fun _ h9 => h9) rfl dX7_tellsWood_79 ?_
      refine lv_iconst (v := 1) hx hb dX7_tellsWood_82 (by decide) ?_
      obtain ⟨z14, hz14, hf⟩ := o_b hf
      refine k_iald hx hb hK hP 1 0 rfl rfl hz14 dX7_tellsWood_83 ?_
      refine lv_iconst (v := 1) hx hb dX7_tellsWood_84 (by decide) ?_
      refine lv_isub hx hb dX7_tellsWood_85 ?_
      have e9 := Option.some.inj hf
      subst e9
      exact rt_i C hP hS rfl dX7_tellsWood_86
    have hf := (o_i hf).1 c7
    refine lv_bipush (v := (-4)) hx hb dX7_tellsWood_35 (by decide) ?_
    have e9 := Option.some.inj hf
    subst e9
    exact rt_i C hP hS rfl dX7_tellsWood_37
  have hf := (o_i hf).1 c5
  refine lv_bipush (v := (-2)) hx hb dX7_tellsWood_21 (by decide) ?_
  have e9 := Option.some.inj hf
  subst e9
  exact rt_i C hP hS rfl dX7_tellsWood_23

/-! RX7 becomes(II)I -/
theorem iiX7_becomes_X7 : ∀ w ∈ wsX70, w ∈ wsX7_becomes := by decide +kernel
theorem mmX7_becomes_1 : (Cond.fieldLink RX7 7 "BlindBellsModel" "book" "[I") ∈ wsX7_becomes := by decide +kernel
theorem hdX7_becomes : yX7_becomes.cls = RX7 ∧ yX7_becomes.cls ≠ "java/lang/invoke/MethodHandle" ∧ yX7_becomes.cls ≠ "java/lang/invoke/VarHandle" ∧ (parseMethodDescriptor yX7_becomes.desc).map (fun d => d.parameters.length) = some 2 := by decide +kernel
abbrev rmX7_becomes : Room := { frames := 0, cells := 0, slots := 0, locals := 0 }
set_option maxHeartbeats 4000000 in
set_option maxRecDepth 100000 in
theorem tX7_becomes (l : Launch) (G : GG) (a : Nat → Nat) (a_book : Nat → Int32) (a_spare : Nat → Int32) (a_images : Nat → Int32) (a_kept : Nat → Int32) (a_text : Nat → Int32) (a_length : Int32) (a_refused : Nat → Int32) (a_items : Nat → Int32) (a_many : Int32) (a_at : Int32) (a_sort : Int32) (a_start : Int32) (a_size : Int32) (a_due : Nat → Int32) (a_rung : Nat → Int32) (a_anywhere : Nat → Int32) (p0 : Int32) (p1 : Int32) (out : Int32 × (Nat → Int32)) (hf : fX7_becomes a_book p0 p1 = some out) : cMi l G yX7_becomes wsX7_becomes rmX7_becomes [.ref (a 0), .int p0, .int p1] (flat [wX7 G a a_book a_spare a_images a_kept a_text a_length a_refused a_items a_many a_at a_sort a_start a_size a_due a_rung a_anywhere]) out.1 (flat [wX7 G a out.2 a_spare a_images a_kept a_text a_length a_refused a_items a_many a_at a_sort a_start a_size a_due a_rung a_anywhere]) := by
  intro sz
  refine met_of (cc := cX7_becomes) (nL := 4) (ret := (some .int)) (Qc := fun A9 => QI G A9 out.1 (flat [wX7 G a out.2 a_spare a_images a_kept a_text a_length a_refused a_items a_many a_at a_sort a_start a_size a_due a_rung a_anywhere])) (by decide) rfl (Nat.le_of_ble_eq_true rfl) ?_
  intro p e s m args below meth c A ls C hP hD hS hl
  obtain ⟨⟨hx, hb, hml, hown, hts⟩, hr, hlocks, hK, hN, hE, hA⟩ := id C
  have hl : lv_has ls 4 [(0, .ref (a 0)), (1, .int p0), (2, .int p1)] := hl
  unfold fX7_becomes at hf
  refine lv_aload_n hx hb dX7_becomes_0 rfl (lv_at hl 0 rfl) ?_
  refine va_get (D := G.1) (ci := 7) (v := .ref (a 1)) (C := RX7) (T := TX7) (N := 16) hx hb hts iiX7_becomes_X7 hown hK hP 0 rfl rfl 0 (by decide) (hts _ mmX7_becomes_1) (fun _ h9 => h9) rfl dX7_becomes_1 ?_
  refine lv_iload_n hx hb dX7_becomes_4 rfl (lv_at hl 1 rfl) ?_
  obtain ⟨z1, hz1, hf⟩ := o_b hf
  refine k_iald hx hb hK hP 1 0 rfl rfl hz1 dX7_becomes_5 ?_
  refine lv_istore_n (lv' := [(3, .int z1), (0, .ref (a 0)), (1, .int p0), (2, .int p1)]) hx hb dX7_becomes_6 rfl hl (by decide) rfl (fun ls hl => ?_)
  refine lv_aload_n hx hb dX7_becomes_7 rfl (lv_at hl 1 rfl) ?_
  refine va_get (D := G.1) (ci := 7) (v := .ref (a 1)) (C := RX7) (T := TX7) (N := 16) hx hb hts iiX7_becomes_X7 hown hK hP 0 rfl rfl 0 (by decide) (hts _ mmX7_becomes_1) (fun _ h9 => h9) rfl dX7_becomes_8 ?_
  refine lv_iload_n hx hb dX7_becomes_11 rfl (lv_at hl 2 rfl) ?_
  refine lv_iload_n hx hb dX7_becomes_12 rfl (lv_at hl 3 rfl) ?_
  refine at_pc (pc' := 13) rfl ?_
  obtain ⟨u2, hu2, hf⟩ := o_b hf
  refine k_iast hx hb hK hP hD hS 1 0 rfl rfl hu2 dX7_becomes_13 (fun H locs hP hD hS => ?_)
  have hP : va_P G.1 vwCl (flat [wX7 G a u2 a_spare a_images a_kept a_text a_length a_refused a_items a_many a_at a_sort a_start a_size a_due a_rung a_anywhere]) H := hP
  have hD : va_D A (flat [wX7 G a u2 a_spare a_images a_kept a_text a_length a_refused a_items a_many a_at a_sort a_start a_size a_due a_rung a_anywhere]) := hD
  refine lv_iload_n hx hb dX7_becomes_14 rfl (lv_at hl 0 rfl) ?_
  have e9 := Option.some.inj hf
  subst e9
  exact rt_i C hP hS rfl dX7_becomes_15

/-! RX7 tellsTemper(II)I -/
theorem hdX7_tellsTemper : yX7_tellsTemper.cls = RX7 ∧ yX7_tellsTemper.cls ≠ "java/lang/invoke/MethodHandle" ∧ yX7_tellsTemper.cls ≠ "java/lang/invoke/VarHandle" ∧ (parseMethodDescriptor yX7_tellsTemper.desc).map (fun d => d.parameters.length) = some 2 := by decide +kernel
abbrev rmX7_tellsTemper : Room := { frames := 2, cells := 0, slots := 0, locals := 43 }
set_option maxHeartbeats 4000000 in
set_option maxRecDepth 100000 in
theorem tX7_tellsTemper (l : Launch) (G : GG) (a : Nat → Nat) (a_book : Nat → Int32) (a_spare : Nat → Int32) (a_images : Nat → Int32) (a_kept : Nat → Int32) (a_text : Nat → Int32) (a_length : Int32) (a_refused : Nat → Int32) (a_items : Nat → Int32) (a_many : Int32) (a_at : Int32) (a_sort : Int32) (a_start : Int32) (a_size : Int32) (a_due : Nat → Int32) (a_rung : Nat → Int32) (a_anywhere : Nat → Int32) (p0 : Int32) (p1 : Int32) (out : Int32 × (Nat → Int32)) (hf : fX7_tellsTemper a_book p0 p1 = some out) : cMi l G yX7_tellsTemper wsX7_tellsTemper rmX7_tellsTemper [.ref (a 0), .int p0, .int p1] (flat [wX7 G a a_book a_spare a_images a_kept a_text a_length a_refused a_items a_many a_at a_sort a_start a_size a_due a_rung a_anywhere]) out.1 (flat [wX7 G a out.2 a_spare a_images a_kept a_text a_length a_refused a_items a_many a_at a_sort a_start a_size a_due a_rung a_anywhere]) := by
  intro sz
  refine met_of (cc := cX7_tellsTemper) (nL := 3) (ret := (some .int)) (Qc := fun A9 => QI G A9 out.1 (flat [wX7 G a out.2 a_spare a_images a_kept a_text a_length a_refused a_items a_many a_at a_sort a_start a_size a_due a_rung a_anywhere])) (by decide) rfl (Nat.le_of_ble_eq_true rfl) ?_
  intro p e s m args below meth c A ls C hP hD hS hl
  obtain ⟨⟨hx, hb, hml, hown, hts⟩, hr, hlocks, hK, hN, hE, hA⟩ := id C
  have hl : lv_has ls 3 [(0, .ref (a 0)), (1, .int p0), (2, .int p1)] := hl
  unfold fX7_tellsTemper at hf
  refine lv_aload_n hx hb dX7_tellsTemper_0 rfl (lv_at hl 0 rfl) ?_
  refine lv_iload_n hx hb dX7_tellsTemper_1 rfl (lv_at hl 1 rfl) ?_
  obtain ⟨g1, hg1, hf⟩ := o_b hf
  refine bVi C hP hD hS (tX7_isOne l G a a_book a_spare a_images a_kept a_text a_length a_refused a_items a_many a_at a_sort a_start a_size a_due a_rung a_anywhere p0 g1 hg1) gX7_tellsTemper_X7_isOne rfl ⟨rfl, rfl⟩ hdX7_isOne ⟨Nat.le_of_ble_eq_true rfl, Nat.le_of_ble_eq_true rfl⟩ rfl hl.1 rfl (Nat.le_of_ble_eq_true rfl) ⟨Nat.le_of_ble_eq_true rfl, Nat.le_of_ble_eq_true rfl⟩ [0] rfl rfl rfl (setB_same _ _ _ rfl) rfl (ci := 7) (q0 := 0) rfl rfl rfl dX7_tellsTemper_2 (fun H locs hP hD hS => ?_)
  refine lv_if_eq (tgt := 28) hx hb dX7_tellsTemper_5 (by decide) (fun c2 => ?_) (fun c2 => ?_)
  · have hf := (o_i hf).1 c2
    refine lv_bipush (v := (-2)) hx hb dX7_tellsTemper_28 (by decide) ?_
    have e9 := Option.some.inj hf
    subst e9
    exact rt_i C hP hS rfl dX7_tellsTemper_30
  have hf := (o_i hf).2 c2
  refine lv_iload_n hx hb dX7_tellsTemper_8 rfl (lv_at hl 2 rfl) ?_
  refine lv_iconst (v := 0) hx hb dX7_tellsTemper_9 (by decide) ?_
  refine lv_iconst (v := 5) hx hb dX7_tellsTemper_10 (by decide) ?_
  obtain ⟨g3, hg3, hf⟩ := o_b hf
  refine bSi C hP hD hS (tX7_in l G p1 0 5 g3 hg3) gX7_tellsTemper_X7_in rfl ⟨rfl, rfl⟩ hdX7_in ⟨Nat.le_of_ble_eq_true rfl, Nat.le_of_ble_eq_true rfl⟩ rfl hl.1 rfl (Nat.le_of_ble_eq_true rfl) ⟨Nat.le_of_ble_eq_true rfl, Nat.le_of_ble_eq_true rfl⟩ [] rfl rfl rfl (setB_same _ _ _ rfl) rfl dX7_tellsTemper_11 (fun H locs hP hD hS => ?_)
  refine lv_if_eq (tgt := 28) hx hb dX7_tellsTemper_14 (by decide) (fun c4 => ?_) (fun c4 => ?_)
  · have hf := (o_i hf).1 c4
    refine lv_bipush (v := (-2)) hx hb dX7_tellsTemper_28 (by decide) ?_
    have e9 := Option.some.inj hf
    subst e9
    exact rt_i C hP hS rfl dX7_tellsTemper_30
  have hf := (o_i hf).2 c4
  refine lv_aload_n hx hb dX7_tellsTemper_17 rfl (lv_at hl 0 rfl) ?_
  refine lv_iconst (v := 4) hx hb dX7_tellsTemper_18 (by decide) ?_
  refine lv_iload_n hx hb dX7_tellsTemper_19 rfl (lv_at hl 1 rfl) ?_
  refine lv_iadd hx hb dX7_tellsTemper_20 ?_
  refine lv_iload_n hx hb dX7_tellsTemper_21 rfl (lv_at hl 2 rfl) ?_
  obtain ⟨g5, hg5, hf⟩ := o_b hf
  refine bVi (Bs' := [wX7 G a g5.2 a_spare a_images a_kept a_text a_length a_refused a_items a_many a_at a_sort a_start a_size a_due a_rung a_anywhere]) C hP hD hS (tX7_becomes l G a a_book a_spare a_images a_kept a_text a_length a_refused a_items a_many a_at a_sort a_start a_size a_due a_rung a_anywhere (4 + p0) p1 g5 hg5) gX7_tellsTemper_X7_becomes rfl ⟨rfl, rfl⟩ hdX7_becomes ⟨Nat.le_of_ble_eq_true rfl, Nat.le_of_ble_eq_true rfl⟩ rfl hl.1 rfl (Nat.le_of_ble_eq_true rfl) ⟨Nat.le_of_ble_eq_true rfl, Nat.le_of_ble_eq_true rfl⟩ [0] rfl rfl rfl rfl rfl (ci := 7) (q0 := 0) rfl rfl rfl dX7_tellsTemper_22 (fun H locs hP hD hS => ?_)
  have hP : va_P G.1 vwCl (flat [wX7 G a g5.2 a_spare a_images a_kept a_text a_length a_refused a_items a_many a_at a_sort a_start a_size a_due a_rung a_anywhere]) H := hP
  have hD : va_D A (flat [wX7 G a g5.2 a_spare a_images a_kept a_text a_length a_refused a_items a_many a_at a_sort a_start a_size a_due a_rung a_anywhere]) := hD
  refine lv_goto (tgt := 30) hx hb dX7_tellsTemper_25 (by decide) ?_
  have e9 := Option.some.inj hf
  subst e9
  exact rt_i C hP hS rfl dX7_tellsTemper_30

/-! RX7 tellsFriend(II)I -/
theorem hdX7_tellsFriend : yX7_tellsFriend.cls = RX7 ∧ yX7_tellsFriend.cls ≠ "java/lang/invoke/MethodHandle" ∧ yX7_tellsFriend.cls ≠ "java/lang/invoke/VarHandle" ∧ (parseMethodDescriptor yX7_tellsFriend.desc).map (fun d => d.parameters.length) = some 2 := by decide +kernel
abbrev rmX7_tellsFriend : Room := { frames := 2, cells := 0, slots := 0, locals := 43 }
set_option maxHeartbeats 4000000 in
set_option maxRecDepth 100000 in
theorem tX7_tellsFriend (l : Launch) (G : GG) (a : Nat → Nat) (a_book : Nat → Int32) (a_spare : Nat → Int32) (a_images : Nat → Int32) (a_kept : Nat → Int32) (a_text : Nat → Int32) (a_length : Int32) (a_refused : Nat → Int32) (a_items : Nat → Int32) (a_many : Int32) (a_at : Int32) (a_sort : Int32) (a_start : Int32) (a_size : Int32) (a_due : Nat → Int32) (a_rung : Nat → Int32) (a_anywhere : Nat → Int32) (p0 : Int32) (p1 : Int32) (out : Int32 × (Nat → Int32)) (hf : fX7_tellsFriend a_book p0 p1 = some out) : cMi l G yX7_tellsFriend wsX7_tellsFriend rmX7_tellsFriend [.ref (a 0), .int p0, .int p1] (flat [wX7 G a a_book a_spare a_images a_kept a_text a_length a_refused a_items a_many a_at a_sort a_start a_size a_due a_rung a_anywhere]) out.1 (flat [wX7 G a out.2 a_spare a_images a_kept a_text a_length a_refused a_items a_many a_at a_sort a_start a_size a_due a_rung a_anywhere]) := by
  intro sz
  refine met_of (cc := cX7_tellsFriend) (nL := 3) (ret := (some .int)) (Qc := fun A9 => QI G A9 out.1 (flat [wX7 G a out.2 a_spare a_images a_kept a_text a_length a_refused a_items a_many a_at a_sort a_start a_size a_due a_rung a_anywhere])) (by decide) rfl (Nat.le_of_ble_eq_true rfl) ?_
  intro p e s m args below meth c A ls C hP hD hS hl
  obtain ⟨⟨hx, hb, hml, hown, hts⟩, hr, hlocks, hK, hN, hE, hA⟩ := id C
  have hl : lv_has ls 3 [(0, .ref (a 0)), (1, .int p0), (2, .int p1)] := hl
  unfold fX7_tellsFriend at hf
  refine lv_aload_n hx hb dX7_tellsFriend_0 rfl (lv_at hl 0 rfl) ?_
  refine lv_iload_n hx hb dX7_tellsFriend_1 rfl (lv_at hl 1 rfl) ?_
  obtain ⟨g1, hg1, hf⟩ := o_b hf
  refine bVi C hP hD hS (tX7_isOne l G a a_book a_spare a_images a_kept a_text a_length a_refused a_items a_many a_at a_sort a_start a_size a_due a_rung a_anywhere p0 g1 hg1) gX7_tellsFriend_X7_isOne rfl ⟨rfl, rfl⟩ hdX7_isOne ⟨Nat.le_of_ble_eq_true rfl, Nat.le_of_ble_eq_true rfl⟩ rfl hl.1 rfl (Nat.le_of_ble_eq_true rfl) ⟨Nat.le_of_ble_eq_true rfl, Nat.le_of_ble_eq_true rfl⟩ [0] rfl rfl rfl (setB_same _ _ _ rfl) rfl (ci := 7) (q0 := 0) rfl rfl rfl dX7_tellsFriend_2 (fun H locs hP hD hS => ?_)
  refine lv_if_eq (tgt := 28) hx hb dX7_tellsFriend_5 (by decide) (fun c2 => ?_) (fun c2 => ?_)
  · have hf := (o_i hf).1 c2
    refine lv_bipush (v := (-2)) hx hb dX7_tellsFriend_28 (by decide) ?_
    have e9 := Option.some.inj hf
    subst e9
    exact rt_i C hP hS rfl dX7_tellsFriend_30
  have hf := (o_i hf).2 c2
  refine lv_aload_n hx hb dX7_tellsFriend_8 rfl (lv_at hl 0 rfl) ?_
  refine lv_iload_n hx hb dX7_tellsFriend_9 rfl (lv_at hl 2 rfl) ?_
  obtain ⟨g3, hg3, hf⟩ := o_b hf
  refine bVi C hP hD hS (tX7_isOne l G a a_book a_spare a_images a_kept a_text a_length a_refused a_items a_many a_at a_sort a_start a_size a_due a_rung a_anywhere p1 g3 hg3) gX7_tellsFriend_X7_isOne rfl ⟨rfl, rfl⟩ hdX7_isOne ⟨Nat.le_of_ble_eq_true rfl, Nat.le_of_ble_eq_true rfl⟩ rfl hl.1 rfl (Nat.le_of_ble_eq_true rfl) ⟨Nat.le_of_ble_eq_true rfl, Nat.le_of_ble_eq_true rfl⟩ [0] rfl rfl rfl (setB_same _ _ _ rfl) rfl (ci := 7) (q0 := 0) rfl rfl rfl dX7_tellsFriend_10 (fun H locs hP hD hS => ?_)
  refine lv_if_eq (tgt := 28) hx hb dX7_tellsFriend_13 (by decide) (fun c4 => ?_) (fun c4 => ?_)
  · have hf := (o_i hf).1 c4
    refine lv_bipush (v := (-2)) hx hb dX7_tellsFriend_28 (by decide) ?_
    have e9 := Option.some.inj hf
    subst e9
    exact rt_i C hP hS rfl dX7_tellsFriend_30
  have hf := (o_i hf).2 c4
  refine lv_aload_n hx hb dX7_tellsFriend_16 rfl (lv_at hl 0 rfl) ?_
  refine lv_bipush (v := 10) hx hb dX7_tellsFriend_17 (by decide) ?_
  refine lv_iload_n hx hb dX7_tellsFriend_19 rfl (lv_at hl 1 rfl) ?_
  refine lv_iadd hx hb dX7_tellsFriend_20 ?_
  refine lv_iload_n hx hb dX7_tellsFriend_21 rfl (lv_at hl 2 rfl) ?_
  obtain ⟨g5, hg5, hf⟩ := o_b hf
  refine bVi (Bs' := [wX7 G a g5.2 a_spare a_images a_kept a_text a_length a_refused a_items a_many a_at a_sort a_start a_size a_due a_rung a_anywhere]) C hP hD hS (tX7_becomes l G a a_book a_spare a_images a_kept a_text a_length a_refused a_items a_many a_at a_sort a_start a_size a_due a_rung a_anywhere (10 + p0) p1 g5 hg5) gX7_tellsFriend_X7_becomes rfl ⟨rfl, rfl⟩ hdX7_becomes ⟨Nat.le_of_ble_eq_true rfl, Nat.le_of_ble_eq_true rfl⟩ rfl hl.1 rfl (Nat.le_of_ble_eq_true rfl) ⟨Nat.le_of_ble_eq_true rfl, Nat.le_of_ble_eq_true rfl⟩ [0] rfl rfl rfl rfl rfl (ci := 7) (q0 := 0) rfl rfl rfl dX7_tellsFriend_22 (fun H locs hP hD hS => ?_)
  have hP : va_P G.1 vwCl (flat [wX7 G a g5.2 a_spare a_images a_kept a_text a_length a_refused a_items a_many a_at a_sort a_start a_size a_due a_rung a_anywhere]) H := hP
  have hD : va_D A (flat [wX7 G a g5.2 a_spare a_images a_kept a_text a_length a_refused a_items a_many a_at a_sort a_start a_size a_due a_rung a_anywhere]) := hD
  refine lv_goto (tgt := 30) hx hb dX7_tellsFriend_25 (by decide) ?_
  have e9 := Option.some.inj hf
  subst e9
  exact rt_i C hP hS rfl dX7_tellsFriend_30

/-! RX7 tellsNeed(III)I -/
theorem iiX7_tellsNeed_X7 : ∀ w ∈ wsX70, w ∈ wsX7_tellsNeed := by decide +kernel
theorem mmX7_tellsNeed_1 : (Cond.fieldLink RX7 7 "BlindBellsModel" "book" "[I") ∈ wsX7_tellsNeed := by decide +kernel
theorem hdX7_tellsNeed : yX7_tellsNeed.cls = RX7 ∧ yX7_tellsNeed.cls ≠ "java/lang/invoke/MethodHandle" ∧ yX7_tellsNeed.cls ≠ "java/lang/invoke/VarHandle" ∧ (parseMethodDescriptor yX7_tellsNeed.desc).map (fun d => d.parameters.length) = some 3 := by decide +kernel
abbrev rmX7_tellsNeed : Room := { frames := 2, cells := 0, slots := 0, locals := 43 }
set_option maxHeartbeats 4000000 in
set_option maxRecDepth 100000 in
theorem tX7_tellsNeed (l : Launch) (G : GG) (a : Nat → Nat) (a_book : Nat → Int32) (a_spare : Nat → Int32) (a_images : Nat → Int32) (a_kept : Nat → Int32) (a_text : Nat → Int32) (a_length : Int32) (a_refused : Nat → Int32) (a_items : Nat → Int32) (a_many : Int32) (a_at : Int32) (a_sort : Int32) (a_start : Int32) (a_size : Int32) (a_due : Nat → Int32) (a_rung : Nat → Int32) (a_anywhere : Nat → Int32) (p0 : Int32) (p1 : Int32) (p2 : Int32) (out : Int32 × (Nat → Int32)) (hf : fX7_tellsNeed a_book p0 p1 p2 = some out) : cMi l G yX7_tellsNeed wsX7_tellsNeed rmX7_tellsNeed [.ref (a 0), .int p0, .int p1, .int p2] (flat [wX7 G a a_book a_spare a_images a_kept a_text a_length a_refused a_items a_many a_at a_sort a_start a_size a_due a_rung a_anywhere]) out.1 (flat [wX7 G a out.2 a_spare a_images a_kept a_text a_length a_refused a_items a_many a_at a_sort a_start a_size a_due a_rung a_anywhere]) := by
  intro sz
  refine met_of (cc := cX7_tellsNeed) (nL := 5) (ret := (some .int)) (Qc := fun A9 => QI G A9 out.1 (flat [wX7 G a out.2 a_spare a_images a_kept a_text a_length a_refused a_items a_many a_at a_sort a_start a_size a_due a_rung a_anywhere])) (by decide) rfl (Nat.le_of_ble_eq_true rfl) ?_
  intro p e s m args below meth c A ls C hP hD hS hl
  obtain ⟨⟨hx, hb, hml, hown, hts⟩, hr, hlocks, hK, hN, hE, hA⟩ := id C
  have hl : lv_has ls 5 [(0, .ref (a 0)), (1, .int p0), (2, .int p1), (3, .int p2)] := hl
  unfold fX7_tellsNeed at hf
  refine lv_aload_n hx hb dX7_tellsNeed_0 rfl (lv_at hl 0 rfl) ?_
  refine lv_iload_n hx hb dX7_tellsNeed_1 rfl (lv_at hl 1 rfl) ?_
  obtain ⟨g1, hg1, hf⟩ := o_b hf
  refine bVi C hP hD hS (tX7_isOne l G a a_book a_spare a_images a_kept a_text a_length a_refused a_items a_many a_at a_sort a_start a_size a_due a_rung a_anywhere p0 g1 hg1) gX7_tellsNeed_X7_isOne rfl ⟨rfl, rfl⟩ hdX7_isOne ⟨Nat.le_of_ble_eq_true rfl, Nat.le_of_ble_eq_true rfl⟩ rfl hl.1 rfl (Nat.le_of_ble_eq_true rfl) ⟨Nat.le_of_ble_eq_true rfl, Nat.le_of_ble_eq_true rfl⟩ [0] rfl rfl rfl (setB_same _ _ _ rfl) rfl (ci := 7) (q0 := 0) rfl rfl rfl dX7_tellsNeed_2 (fun H locs hP hD hS => ?_)
  refine lv_if_eq (tgt := 34) hx hb dX7_tellsNeed_5 (by decide) (fun c2 => ?_) (fun c2 => ?_)
  · have hf := (o_i hf).1 c2
    refine lv_bipush (v := (-2)) hx hb dX7_tellsNeed_34 (by decide) ?_
    have e9 := Option.some.inj hf
    subst e9
    exact rt_i C hP hS rfl dX7_tellsNeed_36
  have hf := (o_i hf).2 c2
  refine lv_iload_n hx hb dX7_tellsNeed_8 rfl (lv_at hl 2 rfl) ?_
  refine lv_iconst (v := 0) hx hb dX7_tellsNeed_9 (by decide) ?_
  refine lv_iconst (v := 3) hx hb dX7_tellsNeed_10 (by decide) ?_
  obtain ⟨g3, hg3, hf⟩ := o_b hf
  refine bSi C hP hD hS (tX7_in l G p1 0 3 g3 hg3) gX7_tellsNeed_X7_in rfl ⟨rfl, rfl⟩ hdX7_in ⟨Nat.le_of_ble_eq_true rfl, Nat.le_of_ble_eq_true rfl⟩ rfl hl.1 rfl (Nat.le_of_ble_eq_true rfl) ⟨Nat.le_of_ble_eq_true rfl, Nat.le_of_ble_eq_true rfl⟩ [] rfl rfl rfl (setB_same _ _ _ rfl) rfl dX7_tellsNeed_11 (fun H locs hP hD hS => ?_)
  refine lv_if_eq (tgt := 34) hx hb dX7_tellsNeed_14 (by decide) (fun c4 => ?_) (fun c4 => ?_)
  · have hf := (o_i hf).1 c4
    refine lv_bipush (v := (-2)) hx hb dX7_tellsNeed_34 (by decide) ?_
    have e9 := Option.some.inj hf
    subst e9
    exact rt_i C hP hS rfl dX7_tellsNeed_36
  have hf := (o_i hf).2 c4
  refine lv_aload_n hx hb dX7_tellsNeed_17 rfl (lv_at hl 0 rfl) ?_
  refine lv_iload_n hx hb dX7_tellsNeed_18 rfl (lv_at hl 3 rfl) ?_
  obtain ⟨g5, hg5, hf⟩ := o_b hf
  refine bVi C hP hD hS (tX7_isSet l G a a_book a_spare a_images a_kept a_text a_length a_refused a_items a_many a_at a_sort a_start a_size a_due a_rung a_anywhere p2 g5 hg5) gX7_tellsNeed_X7_isSet rfl ⟨rfl, rfl⟩ hdX7_isSet ⟨Nat.le_of_ble_eq_true rfl, Nat.le_of_ble_eq_true rfl⟩ rfl hl.1 rfl (Nat.le_of_ble_eq_true rfl) ⟨Nat.le_of_ble_eq_true rfl, Nat.le_of_ble_eq_true rfl⟩ [0] rfl rfl rfl (setB_same _ _ _ rfl) rfl (ci := 7) (q0 := 0) rfl rfl rfl dX7_tellsNeed_19 (fun H locs hP hD hS => ?_)
  refine lv_if_eq (tgt := 34) hx hb dX7_tellsNeed_22 (by decide) (fun c6 => ?_) (fun c6 => ?_)
  · have hf := (o_i hf).1 c6
    refine lv_bipush (v := (-2)) hx hb dX7_tellsNeed_34 (by decide) ?_
    have e9 := Option.some.inj hf
    subst e9
    exact rt_i C hP hS rfl dX7_tellsNeed_36
  have hf := (o_i hf).2 c6
  refine lv_iload_n hx hb dX7_tellsNeed_25 rfl (lv_at hl 3 rfl) ?_
  refine lv_iload_n hx hb dX7_tellsNeed_26 rfl (lv_at hl 1 rfl) ?_
  refine lv_ishr hx hb dX7_tellsNeed_27 ?_
  refine lv_iconst (v := 1) hx hb dX7_tellsNeed_28 (by decide) ?_
  refine lv_iand hx hb dX7_tellsNeed_29 ?_
  refine lv_iconst (v := 1) hx hb dX7_tellsNeed_30 (by decide) ?_
  refine lv_icmp_ne (tgt := 37) hx hb dX7_tellsNeed_31 (by decide) (fun c7 => ?_) (fun c7 => ?_)
  · have hf := (o_i hf).2 c7
    refine lv_aload_n hx hb dX7_tellsNeed_37 rfl (lv_at hl 0 rfl) ?_
    refine va_get (D := G.1) (ci := 7) (v := .ref (a 1)) (C := RX7) (T := TX7) (N := 16) hx hb hts iiX7_tellsNeed_X7 hown hK hP 0 rfl rfl 0 (by decide) (hts _ mmX7_tellsNeed_1) (fun _ h9 => h9) rfl dX7_tellsNeed_38 ?_
    refine lv_iconst (v := 2) hx hb dX7_tellsNeed_41 (by decide) ?_
    obtain ⟨z8, hz8, hf⟩ := o_b hf
    refine k_iald hx hb hK hP 1 0 rfl rfl hz8 dX7_tellsNeed_42 ?_
    refine lv_bipush (v := 12) hx hb dX7_tellsNeed_43 (by decide) ?_
    refine lv_icmp_ne (tgt := 51) hx hb dX7_tellsNeed_45 (by decide) (fun c9 => ?_) (fun c9 => ?_)
    · have hf := (o_i hf).2 c9
      refine lv_aload_n hx hb dX7_tellsNeed_51 rfl (lv_at hl 0 rfl) ?_
      refine va_get (D := G.1) (ci := 7) (v := .ref (a 1)) (C := RX7) (T := TX7) (N := 16) hx hb hts iiX7_tellsNeed_X7 hown hK hP 0 rfl rfl 0 (by decide) (hts _ mmX7_tellsNeed_1) (fun _ h9 => h9) rfl dX7_tellsNeed_52 ?_
      refine lv_iconst (v := 2) hx hb dX7_tellsNeed_55 (by decide) ?_
      obtain ⟨z10, hz10, hf⟩ := o_b hf
      refine k_iald hx hb hK hP 1 0 rfl rfl hz10 dX7_tellsNeed_56 ?_
      refine lv_istore (lv' := [(4, .int z10), (0, .ref (a 0)), (1, .int p0), (2, .int p1), (3, .int p2)]) hx hb dX7_tellsNeed_57 hl (by decide) rfl (fun ls hl => ?_)
      refine lv_aload_n hx hb dX7_tellsNeed_59 rfl (lv_at hl 1 rfl) ?_
      refine va_get (D := G.1) (ci := 7) (v := .ref (a 1)) (C := RX7) (T := TX7) (N := 16) hx hb hts iiX7_tellsNeed_X7 hown hK hP 0 rfl rfl 0 (by decide) (hts _ mmX7_tellsNeed_1) (fun _ h9 => h9) rfl dX7_tellsNeed_60 ?_
      refine lv_bipush (v := 62) hx hb dX7_tellsNeed_63 (by decide) ?_
      refine lv_iload hx hb dX7_tellsNeed_65 (lv_at hl 0 rfl) ?_
      refine at_pc (pc' := 67) rfl ?_
      refine lv_iadd hx hb dX7_tellsNeed_67 ?_
      refine lv_iload_n hx hb dX7_tellsNeed_68 rfl (lv_at hl 2 rfl) ?_
      obtain ⟨u11, hu11, hf⟩ := o_b hf
      refine k_iast hx hb hK hP hD hS 1 0 rfl rfl hu11 dX7_tellsNeed_69 (fun H locs hP hD hS => ?_)
      have hP : va_P G.1 vwCl (flat [wX7 G a u11 a_spare a_images a_kept a_text a_length a_refused a_items a_many a_at a_sort a_start a_size a_due a_rung a_anywhere]) H := hP
      have hD : va_D A (flat [wX7 G a u11 a_spare a_images a_kept a_text a_length a_refused a_items a_many a_at a_sort a_start a_size a_due a_rung a_anywhere]) := hD
      refine lv_aload_n hx hb dX7_tellsNeed_70 rfl (lv_at hl 1 rfl) ?_
      refine va_get (D := G.1) (ci := 7) (v := .ref (a 1)) (C := RX7) (T := TX7) (N := 16) hx hb hts iiX7_tellsNeed_X7 hown hK hP 0 rfl rfl 0 (by decide) (hts _ mmX7_tellsNeed_1) (fun _ h9 => h9) rfl dX7_tellsNeed_71 ?_
      refine lv_bipush (v := 74) hx hb dX7_tellsNeed_74 (by decide) ?_
      refine lv_iload hx hb dX7_tellsNeed_76 (lv_at hl 0 rfl) ?_
      refine lv_iadd hx hb dX7_tellsNeed_78 ?_
      refine lv_iload_n hx hb dX7_tellsNeed_79 rfl (lv_at hl 3 rfl) ?_
      obtain ⟨u12, hu12, hf⟩ := o_b hf
      refine k_iast hx hb hK hP hD hS 1 0 rfl rfl hu12 dX7_tellsNeed_80 (fun H locs hP hD hS => ?_)
      have hP : va_P G.1 vwCl (flat [wX7 G a u12 a_spare a_images a_kept a_text a_length a_refused a_items a_many a_at a_sort a_start a_size a_due a_rung a_anywhere]) H := hP
      have hD : va_D A (flat [wX7 G a u12 a_spare a_images a_kept a_text a_length a_refused a_items a_many a_at a_sort a_start a_size a_due a_rung a_anywhere]) := hD
      refine at_pc (pc' := 81) rfl ?_
      refine lv_aload_n hx hb dX7_tellsNeed_81 rfl (lv_at hl 1 rfl) ?_
      refine va_get (D := G.1) (ci := 7) (v := .ref (a 1)) (C := RX7) (T := TX7) (N := 16) hx hb hts iiX7_tellsNeed_X7 hown hK hP 0 rfl rfl 0 (by decide) (hts _ mmX7_tellsNeed_1) (fun _ h9 => h9) rfl dX7_tellsNeed_82 ?_
      refine lv_bipush (v := 86) hx hb dX7_tellsNeed_85 (by decide) ?_
      refine lv_iload hx hb dX7_tellsNeed_87 (lv_at hl 0 rfl) ?_
      refine lv_iadd hx hb dX7_tellsNeed_89 ?_
      refine lv_iload_n hx hb dX7_tellsNeed_90 rfl (lv_at hl 4 rfl) ?_
      obtain ⟨u13, hu13, hf⟩ := o_b hf
      refine k_iast hx hb hK hP hD hS 1 0 rfl rfl hu13 dX7_tellsNeed_91 (fun H locs hP hD hS => ?_)
      have hP : va_P G.1 vwCl (flat [wX7 G a u13 a_spare a_images a_kept a_text a_length a_refused a_items a_many a_at a_sort a_start a_size a_due a_rung a_anywhere]) H := hP
      have hD : va_D A (flat [wX7 G a u13 a_spare a_images a_kept a_text a_length a_refused a_items a_many a_at a_sort a_start a_size a_due a_rung a_anywhere]) := hD
      refine lv_aload_n hx hb dX7_tellsNeed_92 rfl (lv_at hl 1 rfl) ?_
      refine va_get (D := G.1) (ci := 7) (v := .ref (a 1)) (C := RX7) (T := TX7) (N := 16) hx hb hts iiX7_tellsNeed_X7 hown hK hP 0 rfl rfl 0 (by decide) (hts _ mmX7_tellsNeed_1) (fun _ h9 => h9) rfl dX7_tellsNeed_93 ?_
      refine lv_iconst (v := 2) hx hb dX7_tellsNeed_96 (by decide) ?_
      refine at_pc (pc' := 97) rfl ?_
      refine lv_dup2_11 hx hb dX7_tellsNeed_97 rfl rfl ?_
      obtain ⟨z14, hz14, hf⟩ := o_b hf
      refine k_iald hx hb hK hP 1 0 rfl rfl hz14 dX7_tellsNeed_98 ?_
      refine lv_iconst (v := 1) hx hb dX7_tellsNeed_99 (by decide) ?_
      refine lv_iadd hx hb dX7_tellsNeed_100 ?_
      obtain ⟨u15, hu15, hf⟩ := o_b hf
      refine k_iast hx hb hK hP hD hS 1 0 rfl rfl hu15 dX7_tellsNeed_101 (fun H locs hP hD hS => ?_)
      have hP : va_P G.1 vwCl (flat [wX7 G a u15 a_spare a_images a_kept a_text a_length a_refused a_items a_many a_at a_sort a_start a_size a_due a_rung a_anywhere]) H := hP
      have hD : va_D A (flat [wX7 G a u15 a_spare a_images a_kept a_text a_length a_refused a_items a_many a_at a_sort a_start a_size a_due a_rung a_anywhere]) := hD
      refine lv_iload hx hb dX7_tellsNeed_102 (lv_at hl 0 rfl) ?_
      have e9 := Option.some.inj hf
      subst e9
      exact rt_i C hP hS rfl dX7_tellsNeed_104
    have hf := (o_i hf).1 c9
    refine lv_bipush (v := (-4)) hx hb dX7_tellsNeed_48 (by decide) ?_
    have e9 := Option.some.inj hf
    subst e9
    exact rt_i C hP hS rfl dX7_tellsNeed_50
  have hf := (o_i hf).1 c7
  refine lv_bipush (v := (-2)) hx hb dX7_tellsNeed_34 (by decide) ?_
  have e9 := Option.some.inj hf
  subst e9
  exact rt_i C hP hS rfl dX7_tellsNeed_36

/-! RX7 told(I)I -/
theorem iiX7_told_X7 : ∀ w ∈ wsX70, w ∈ wsX7_told := by decide +kernel
theorem mmX7_told_1 : (Cond.fieldLink RX7 26 "BlindBellsModel" "refused" "[I") ∈ wsX7_told := by decide +kernel
theorem hdX7_told : yX7_told.cls = RX7 ∧ yX7_told.cls ≠ "java/lang/invoke/MethodHandle" ∧ yX7_told.cls ≠ "java/lang/invoke/VarHandle" ∧ (parseMethodDescriptor yX7_told.desc).map (fun d => d.parameters.length) = some 1 := by decide +kernel
abbrev rmX7_told : Room := { frames := 0, cells := 0, slots := 0, locals := 0 }
set_option maxHeartbeats 4000000 in
set_option maxRecDepth 100000 in
theorem tX7_told (l : Launch) (G : GG) (a : Nat → Nat) (a_book : Nat → Int32) (a_spare : Nat → Int32) (a_images : Nat → Int32) (a_kept : Nat → Int32) (a_text : Nat → Int32) (a_length : Int32) (a_refused : Nat → Int32) (a_items : Nat → Int32) (a_many : Int32) (a_at : Int32) (a_sort : Int32) (a_start : Int32) (a_size : Int32) (a_due : Nat → Int32) (a_rung : Nat → Int32) (a_anywhere : Nat → Int32) (p0 : Int32) (out : Int32 × (Nat → Int32)) (hf : fX7_told a_refused p0 = some out) : cMi l G yX7_told wsX7_told rmX7_told [.ref (a 0), .int p0] (flat [wX7 G a a_book a_spare a_images a_kept a_text a_length a_refused a_items a_many a_at a_sort a_start a_size a_due a_rung a_anywhere]) out.1 (flat [wX7 G a a_book a_spare a_images a_kept a_text a_length out.2 a_items a_many a_at a_sort a_start a_size a_due a_rung a_anywhere]) := by
  intro sz
  refine met_of (cc := cX7_told) (nL := 2) (ret := (some .int)) (Qc := fun A9 => QI G A9 out.1 (flat [wX7 G a a_book a_spare a_images a_kept a_text a_length out.2 a_items a_many a_at a_sort a_start a_size a_due a_rung a_anywhere])) (by decide) rfl (Nat.le_of_ble_eq_true rfl) ?_
  intro p e s m args below meth c A ls C hP hD hS hl
  obtain ⟨⟨hx, hb, hml, hown, hts⟩, hr, hlocks, hK, hN, hE, hA⟩ := id C
  have hl : lv_has ls 2 [(0, .ref (a 0)), (1, .int p0)] := hl
  unfold fX7_told at hf
  refine lv_iload_n hx hb dX7_told_0 rfl (lv_at hl 1 rfl) ?_
  refine lv_iconst (v := (-1)) hx hb dX7_told_1 (by decide) ?_
  refine lv_icmp_ge (tgt := 18) hx hb dX7_told_2 (by decide) (fun c1 => ?_) (fun c1 => ?_)
  · have hf := (o_i hf).1 c1
    refine lv_iload_n hx hb dX7_told_18 rfl (lv_at hl 1 rfl) ?_
    have e9 := Option.some.inj hf
    subst e9
    exact rt_i C hP hS rfl dX7_told_19
  have hf := (o_i hf).2 c1
  refine lv_aload_n hx hb dX7_told_5 rfl (lv_at hl 0 rfl) ?_
  refine va_get (D := G.1) (ci := 7) (v := .ref (a 6)) (C := RX7) (T := TX7) (N := 16) hx hb hts iiX7_told_X7 hown hK hP 0 rfl rfl 6 (by decide) (hts _ mmX7_told_1) (fun _ h9 => h9) rfl dX7_told_6 ?_
  refine lv_bipush (v := (-2)) hx hb dX7_told_9 (by decide) ?_
  refine lv_iload_n hx hb dX7_told_11 rfl (lv_at hl 1 rfl) ?_
  refine lv_isub hx hb dX7_told_12 ?_
  refine lv_dup2_11 hx hb dX7_told_13 rfl rfl ?_
  obtain ⟨z2, hz2, hf⟩ := o_b hf
  refine k_iald hx hb hK hP 6 0 rfl rfl hz2 dX7_told_14 ?_
  refine lv_iconst (v := 1) hx hb dX7_told_15 (by decide) ?_
  refine lv_iadd hx hb dX7_told_16 ?_
  refine at_pc (pc' := 17) rfl ?_
  obtain ⟨u3, hu3, hf⟩ := o_b hf
  refine k_iast hx hb hK hP hD hS 6 0 rfl rfl hu3 dX7_told_17 (fun H locs hP hD hS => ?_)
  have hP : va_P G.1 vwCl (flat [wX7 G a a_book a_spare a_images a_kept a_text a_length u3 a_items a_many a_at a_sort a_start a_size a_due a_rung a_anywhere]) H := hP
  have hD : va_D A (flat [wX7 G a a_book a_spare a_images a_kept a_text a_length u3 a_items a_many a_at a_sort a_start a_size a_due a_rung a_anywhere]) := hD
  refine lv_iload_n hx hb dX7_told_18 rfl (lv_at hl 1 rfl) ?_
  have e9 := Option.some.inj hf
  subst e9
  exact rt_i C hP hS rfl dX7_told_19

/-! RX7 villages(I)I -/
theorem iiX7_villages_X7 : ∀ w ∈ wsX70, w ∈ wsX7_villages := by decide +kernel
theorem mmX7_villages_1 : (Cond.fieldLink RX7 7 "BlindBellsModel" "book" "[I") ∈ wsX7_villages := by decide +kernel
theorem hdX7_villages : yX7_villages.cls = RX7 ∧ yX7_villages.cls ≠ "java/lang/invoke/MethodHandle" ∧ yX7_villages.cls ≠ "java/lang/invoke/VarHandle" ∧ (parseMethodDescriptor yX7_villages.desc).map (fun d => d.parameters.length) = some 1 := by decide +kernel
abbrev rmX7_villages : Room := { frames := 2, cells := 0, slots := 0, locals := 42 }
set_option maxHeartbeats 4000000 in
set_option maxRecDepth 100000 in
theorem tX7_villages (l : Launch) (G : GG) (a : Nat → Nat) (a_book : Nat → Int32) (a_spare : Nat → Int32) (a_images : Nat → Int32) (a_kept : Nat → Int32) (a_text : Nat → Int32) (a_length : Int32) (a_refused : Nat → Int32) (a_items : Nat → Int32) (a_many : Int32) (a_at : Int32) (a_sort : Int32) (a_start : Int32) (a_size : Int32) (a_due : Nat → Int32) (a_rung : Nat → Int32) (a_anywhere : Nat → Int32) (p0 : Int32) (out : Int32 × (Nat → Int32) × (Nat → Int32)) (hf : fX7_villages a_book a_refused p0 = some out) : cMi l G yX7_villages wsX7_villages rmX7_villages [.ref (a 0), .int p0] (flat [wX7 G a a_book a_spare a_images a_kept a_text a_length a_refused a_items a_many a_at a_sort a_start a_size a_due a_rung a_anywhere]) out.1 (flat [wX7 G a out.2.1 a_spare a_images a_kept a_text a_length out.2.2 a_items a_many a_at a_sort a_start a_size a_due a_rung a_anywhere]) := by
  intro sz
  refine met_of (cc := cX7_villages) (nL := 3) (ret := (some .int)) (Qc := fun A9 => QI G A9 out.1 (flat [wX7 G a out.2.1 a_spare a_images a_kept a_text a_length out.2.2 a_items a_many a_at a_sort a_start a_size a_due a_rung a_anywhere])) (by decide) rfl (Nat.le_of_ble_eq_true rfl) ?_
  intro p e s m args below meth c A ls C hP hD hS hl
  obtain ⟨⟨hx, hb, hml, hown, hts⟩, hr, hlocks, hK, hN, hE, hA⟩ := id C
  have hl : lv_has ls 3 [(0, .ref (a 0)), (1, .int p0)] := hl
  unfold fX7_villages at hf
  refine lv_iload_n hx hb dX7_villages_0 rfl (lv_at hl 1 rfl) ?_
  refine lv_iconst (v := 2) hx hb dX7_villages_1 (by decide) ?_
  refine lv_bipush (v := 6) hx hb dX7_villages_2 (by decide) ?_
  obtain ⟨g1, hg1, hf⟩ := o_b hf
  refine bSi C hP hD hS (tX7_in l G p0 2 6 g1 hg1) gX7_villages_X7_in rfl ⟨rfl, rfl⟩ hdX7_in ⟨Nat.le_of_ble_eq_true rfl, Nat.le_of_ble_eq_true rfl⟩ rfl hl.1 rfl (Nat.le_of_ble_eq_true rfl) ⟨Nat.le_of_ble_eq_true rfl, Nat.le_of_ble_eq_true rfl⟩ [] rfl rfl rfl (setB_same _ _ _ rfl) rfl dX7_villages_4 (fun H locs hP hD hS => ?_)
  refine lv_if_ne (tgt := 15) hx hb dX7_villages_7 (by decide) (fun c2 => ?_) (fun c2 => ?_)
  · have hf := (o_i hf).2 c2
    refine lv_aload_n hx hb dX7_villages_15 rfl (lv_at hl 0 rfl) ?_
    refine va_get (D := G.1) (ci := 7) (v := .ref (a 1)) (C := RX7) (T := TX7) (N := 16) hx hb hts iiX7_villages_X7 hown hK hP 0 rfl rfl 0 (by decide) (hts _ mmX7_villages_1) (fun _ h9 => h9) rfl dX7_villages_16 ?_
    refine lv_iconst (v := 0) hx hb dX7_villages_19 (by decide) ?_
    obtain ⟨z3, hz3, hf⟩ := o_b hf
    refine k_iald hx hb hK hP 1 0 rfl rfl hz3 dX7_villages_20 ?_
    refine lv_istore_n (lv' := [(2, .int z3), (0, .ref (a 0)), (1, .int p0)]) hx hb dX7_villages_21 rfl hl (by decide) rfl (fun ls hl => ?_)
    refine lv_aload_n hx hb dX7_villages_22 rfl (lv_at hl 1 rfl) ?_
    refine lv_iload_n hx hb dX7_villages_23 rfl (lv_at hl 2 rfl) ?_
    obtain ⟨g4, hg4, hf⟩ := o_b hf
    refine bVv (Bs' := [wX7 G a g4 a_spare a_images a_kept a_text a_length a_refused a_items a_many a_at a_sort a_start a_size a_due a_rung a_anywhere]) C hP hD hS (tX7_begins l G a a_book a_spare a_images a_kept a_text a_length a_refused a_items a_many a_at a_sort a_start a_size a_due a_rung a_anywhere p0 g4 hg4) gX7_villages_X7_begins rfl ⟨rfl, rfl⟩ hdX7_begins ⟨Nat.le_of_ble_eq_true rfl, Nat.le_of_ble_eq_true rfl⟩ rfl hl.1 rfl (Nat.le_of_ble_eq_true rfl) ⟨Nat.le_of_ble_eq_true rfl, Nat.le_of_ble_eq_true rfl⟩ [0] rfl rfl rfl rfl rfl (ci := 7) (q0 := 0) rfl rfl rfl dX7_villages_24 (fun H locs hP hD hS => ?_)
    have hP : va_P G.1 vwCl (flat [wX7 G a g4 a_spare a_images a_kept a_text a_length a_refused a_items a_many a_at a_sort a_start a_size a_due a_rung a_anywhere]) H := hP
    have hD : va_D A (flat [wX7 G a g4 a_spare a_images a_kept a_text a_length a_refused a_items a_many a_at a_sort a_start a_size a_due a_rung a_anywhere]) := hD
    refine lv_iload_n hx hb dX7_villages_27 rfl (lv_at hl 0 rfl) ?_
    refine at_pc (pc' := 28) rfl ?_
    have e9 := Option.some.inj hf
    subst e9
    exact rt_i C hP hS rfl dX7_villages_28
  have hf := (o_i hf).1 c2
  refine lv_aload_n hx hb dX7_villages_10 rfl (lv_at hl 0 rfl) ?_
  obtain ⟨g5, hg5, hf⟩ := o_b hf
  refine bVi (Bs' := [wX7 G a a_book a_spare a_images a_kept a_text a_length g5.2 a_items a_many a_at a_sort a_start a_size a_due a_rung a_anywhere]) C hP hD hS (tX7_bad l G a a_book a_spare a_images a_kept a_text a_length a_refused a_items a_many a_at a_sort a_start a_size a_due a_rung a_anywhere g5 hg5) gX7_villages_X7_bad rfl ⟨rfl, rfl⟩ hdX7_bad ⟨Nat.le_of_ble_eq_true rfl, Nat.le_of_ble_eq_true rfl⟩ rfl hl.1 rfl (Nat.le_of_ble_eq_true rfl) ⟨Nat.le_of_ble_eq_true rfl, Nat.le_of_ble_eq_true rfl⟩ [0] rfl rfl rfl rfl rfl (ci := 7) (q0 := 0) rfl rfl rfl dX7_villages_11 (fun H locs hP hD hS => ?_)
  have hP : va_P G.1 vwCl (flat [wX7 G a a_book a_spare a_images a_kept a_text a_length g5.2 a_items a_many a_at a_sort a_start a_size a_due a_rung a_anywhere]) H := hP
  have hD : va_D A (flat [wX7 G a a_book a_spare a_images a_kept a_text a_length g5.2 a_items a_many a_at a_sort a_start a_size a_due a_rung a_anywhere]) := hD
  have e9 := Option.some.inj hf
  subst e9
  exact rt_i C hP hS rfl dX7_villages_14

/-! RX7 hears(IIIZ)I -/
theorem hdX7_hears : yX7_hears.cls = RX7 ∧ yX7_hears.cls ≠ "java/lang/invoke/MethodHandle" ∧ yX7_hears.cls ≠ "java/lang/invoke/VarHandle" ∧ (parseMethodDescriptor yX7_hears.desc).map (fun d => d.parameters.length) = some 4 := by decide +kernel
abbrev rmX7_hears : Room := { frames := 3, cells := 0, slots := 0, locals := 68 }
set_option maxHeartbeats 4000000 in
set_option maxRecDepth 100000 in
theorem tX7_hears (l : Launch) (G : GG) (a : Nat → Nat) (a_book : Nat → Int32) (a_spare : Nat → Int32) (a_images : Nat → Int32) (a_kept : Nat → Int32) (a_text : Nat → Int32) (a_length : Int32) (a_refused : Nat → Int32) (a_items : Nat → Int32) (a_many : Int32) (a_at : Int32) (a_sort : Int32) (a_start : Int32) (a_size : Int32) (a_due : Nat → Int32) (a_rung : Nat → Int32) (a_anywhere : Nat → Int32) (p0 : Int32) (p1 : Int32) (p2 : Int32) (p3 : Int32) (out : Int32 × (Nat → Int32) × (Nat → Int32)) (hf : fX7_hears a_book a_refused p0 p1 p2 p3 = some out) : cMi l G yX7_hears wsX7_hears rmX7_hears [.ref (a 0), .int p0, .int p1, .int p2, .int p3] (flat [wX7 G a a_book a_spare a_images a_kept a_text a_length a_refused a_items a_many a_at a_sort a_start a_size a_due a_rung a_anywhere]) out.1 (flat [wX7 G a out.2.1 a_spare a_images a_kept a_text a_length out.2.2 a_items a_many a_at a_sort a_start a_size a_due a_rung a_anywhere]) := by
  intro sz
  refine met_of (cc := cX7_hears) (nL := 5) (ret := (some .int)) (Qc := fun A9 => QI G A9 out.1 (flat [wX7 G a out.2.1 a_spare a_images a_kept a_text a_length out.2.2 a_items a_many a_at a_sort a_start a_size a_due a_rung a_anywhere])) (by decide) rfl (Nat.le_of_ble_eq_true rfl) ?_
  intro p e s m args below meth c A ls C hP hD hS hl
  obtain ⟨⟨hx, hb, hml, hown, hts⟩, hr, hlocks, hK, hN, hE, hA⟩ := id C
  have hl : lv_has ls 5 [(0, .ref (a 0)), (1, .int p0), (2, .int p1), (3, .int p2), (4, .int p3)] := hl
  unfold fX7_hears at hf
  refine lv_aload_n hx hb dX7_hears_0 rfl (lv_at hl 0 rfl) ?_
  refine lv_aload_n hx hb dX7_hears_1 rfl (lv_at hl 0 rfl) ?_
  refine lv_iload_n hx hb dX7_hears_2 rfl (lv_at hl 1 rfl) ?_
  refine lv_iload_n hx hb dX7_hears_3 rfl (lv_at hl 2 rfl) ?_
  refine lv_iload_n hx hb dX7_hears_4 rfl (lv_at hl 3 rfl) ?_
  refine lv_iload hx hb dX7_hears_5 (lv_at hl 4 rfl) ?_
  obtain ⟨g1, hg1, hf⟩ := o_b hf
  refine bVi (Bs' := [wX7 G a g1.2 a_spare a_images a_kept a_text a_length a_refused a_items a_many a_at a_sort a_start a_size a_due a_rung a_anywhere]) C hP hD hS (tX7_tellsHears l G a a_book a_spare a_images a_kept a_text a_length a_refused a_items a_many a_at a_sort a_start a_size a_due a_rung a_anywhere p0 p1 p2 p3 g1 hg1) gX7_hears_X7_tellsHears rfl ⟨rfl, rfl⟩ hdX7_tellsHears ⟨Nat.le_of_ble_eq_true rfl, Nat.le_of_ble_eq_true rfl⟩ rfl hl.1 rfl (Nat.le_of_ble_eq_true rfl) ⟨Nat.le_of_ble_eq_true rfl, Nat.le_of_ble_eq_true rfl⟩ [0] rfl rfl rfl rfl rfl (ci := 7) (q0 := 0) rfl rfl rfl dX7_hears_7 (fun H locs hP hD hS => ?_)
  have hP : va_P G.1 vwCl (flat [wX7 G a g1.2 a_spare a_images a_kept a_text a_length a_refused a_items a_many a_at a_sort a_start a_size a_due a_rung a_anywhere]) H := hP
  have hD : va_D A (flat [wX7 G a g1.2 a_spare a_images a_kept a_text a_length a_refused a_items a_many a_at a_sort a_start a_size a_due a_rung a_anywhere]) := hD
  obtain ⟨g2, hg2, hf⟩ := o_b hf
  refine bVi (Bs' := [wX7 G a g1.2 a_spare a_images a_kept a_text a_length g2.2 a_items a_many a_at a_sort a_start a_size a_due a_rung a_anywhere]) C hP hD hS (tX7_told l G a g1.2 a_spare a_images a_kept a_text a_length a_refused a_items a_many a_at a_sort a_start a_size a_due a_rung a_anywhere g1.1 g2 hg2) gX7_hears_X7_told rfl ⟨rfl, rfl⟩ hdX7_told ⟨Nat.le_of_ble_eq_true rfl, Nat.le_of_ble_eq_true rfl⟩ rfl hl.1 rfl (Nat.le_of_ble_eq_true rfl) ⟨Nat.le_of_ble_eq_true rfl, Nat.le_of_ble_eq_true rfl⟩ [0] rfl rfl rfl rfl rfl (ci := 7) (q0 := 0) rfl rfl rfl dX7_hears_10 (fun H locs hP hD hS => ?_)
  have hP : va_P G.1 vwCl (flat [wX7 G a g1.2 a_spare a_images a_kept a_text a_length g2.2 a_items a_many a_at a_sort a_start a_size a_due a_rung a_anywhere]) H := hP
  have hD : va_D A (flat [wX7 G a g1.2 a_spare a_images a_kept a_text a_length g2.2 a_items a_many a_at a_sort a_start a_size a_due a_rung a_anywhere]) := hD
  have e9 := Option.some.inj hf
  subst e9
  exact rt_i C hP hS rfl dX7_hears_13

/-! RX7 wood(II)I -/
theorem hdX7_wood : yX7_wood.cls = RX7 ∧ yX7_wood.cls ≠ "java/lang/invoke/MethodHandle" ∧ yX7_wood.cls ≠ "java/lang/invoke/VarHandle" ∧ (parseMethodDescriptor yX7_wood.desc).map (fun d => d.parameters.length) = some 2 := by decide +kernel
abbrev rmX7_wood : Room := { frames := 3, cells := 0, slots := 0, locals := 65 }
set_option maxHeartbeats 4000000 in
set_option maxRecDepth 100000 in
theorem tX7_wood (l : Launch) (G : GG) (a : Nat → Nat) (a_book : Nat → Int32) (a_spare : Nat → Int32) (a_images : Nat → Int32) (a_kept : Nat → Int32) (a_text : Nat → Int32) (a_length : Int32) (a_refused : Nat → Int32) (a_items : Nat → Int32) (a_many : Int32) (a_at : Int32) (a_sort : Int32) (a_start : Int32) (a_size : Int32) (a_due : Nat → Int32) (a_rung : Nat → Int32) (a_anywhere : Nat → Int32) (p0 : Int32) (p1 : Int32) (out : Int32 × (Nat → Int32) × (Nat → Int32)) (hf : fX7_wood a_book a_refused p0 p1 = some out) : cMi l G yX7_wood wsX7_wood rmX7_wood [.ref (a 0), .int p0, .int p1] (flat [wX7 G a a_book a_spare a_images a_kept a_text a_length a_refused a_items a_many a_at a_sort a_start a_size a_due a_rung a_anywhere]) out.1 (flat [wX7 G a out.2.1 a_spare a_images a_kept a_text a_length out.2.2 a_items a_many a_at a_sort a_start a_size a_due a_rung a_anywhere]) := by
  intro sz
  refine met_of (cc := cX7_wood) (nL := 3) (ret := (some .int)) (Qc := fun A9 => QI G A9 out.1 (flat [wX7 G a out.2.1 a_spare a_images a_kept a_text a_length out.2.2 a_items a_many a_at a_sort a_start a_size a_due a_rung a_anywhere])) (by decide) rfl (Nat.le_of_ble_eq_true rfl) ?_
  intro p e s m args below meth c A ls C hP hD hS hl
  obtain ⟨⟨hx, hb, hml, hown, hts⟩, hr, hlocks, hK, hN, hE, hA⟩ := id C
  have hl : lv_has ls 3 [(0, .ref (a 0)), (1, .int p0), (2, .int p1)] := hl
  unfold fX7_wood at hf
  refine lv_aload_n hx hb dX7_wood_0 rfl (lv_at hl 0 rfl) ?_
  refine lv_aload_n hx hb dX7_wood_1 rfl (lv_at hl 0 rfl) ?_
  refine lv_iload_n hx hb dX7_wood_2 rfl (lv_at hl 1 rfl) ?_
  refine lv_iload_n hx hb dX7_wood_3 rfl (lv_at hl 2 rfl) ?_
  obtain ⟨g1, hg1, hf⟩ := o_b hf
  refine bVi (Bs' := [wX7 G a g1.2 a_spare a_images a_kept a_text a_length a_refused a_items a_many a_at a_sort a_start a_size a_due a_rung a_anywhere]) C hP hD hS (tX7_tellsWood l G a a_book a_spare a_images a_kept a_text a_length a_refused a_items a_many a_at a_sort a_start a_size a_due a_rung a_anywhere p0 p1 g1 hg1) gX7_wood_X7_tellsWood rfl ⟨rfl, rfl⟩ hdX7_tellsWood ⟨Nat.le_of_ble_eq_true rfl, Nat.le_of_ble_eq_true rfl⟩ rfl hl.1 rfl (Nat.le_of_ble_eq_true rfl) ⟨Nat.le_of_ble_eq_true rfl, Nat.le_of_ble_eq_true rfl⟩ [0] rfl rfl rfl rfl rfl (ci := 7) (q0 := 0) rfl rfl rfl dX7_wood_4 (fun H locs hP hD hS => ?_)
  have hP : va_P G.1 vwCl (flat [wX7 G a g1.2 a_spare a_images a_kept a_text a_length a_refused a_items a_many a_at a_sort a_start a_size a_due a_rung a_anywhere]) H := hP
  have hD : va_D A (flat [wX7 G a g1.2 a_spare a_images a_kept a_text a_length a_refused a_items a_many a_at a_sort a_start a_size a_due a_rung a_anywhere]) := hD
  obtain ⟨g2, hg2, hf⟩ := o_b hf
  refine bVi (Bs' := [wX7 G a g1.2 a_spare a_images a_kept a_text a_length g2.2 a_items a_many a_at a_sort a_start a_size a_due a_rung a_anywhere]) C hP hD hS (tX7_told l G a g1.2 a_spare a_images a_kept a_text a_length a_refused a_items a_many a_at a_sort a_start a_size a_due a_rung a_anywhere g1.1 g2 hg2) gX7_wood_X7_told rfl ⟨rfl, rfl⟩ hdX7_told ⟨Nat.le_of_ble_eq_true rfl, Nat.le_of_ble_eq_true rfl⟩ rfl hl.1 rfl (Nat.le_of_ble_eq_true rfl) ⟨Nat.le_of_ble_eq_true rfl, Nat.le_of_ble_eq_true rfl⟩ [0] rfl rfl rfl rfl rfl (ci := 7) (q0 := 0) rfl rfl rfl dX7_wood_7 (fun H locs hP hD hS => ?_)
  have hP : va_P G.1 vwCl (flat [wX7 G a g1.2 a_spare a_images a_kept a_text a_length g2.2 a_items a_many a_at a_sort a_start a_size a_due a_rung a_anywhere]) H := hP
  have hD : va_D A (flat [wX7 G a g1.2 a_spare a_images a_kept a_text a_length g2.2 a_items a_many a_at a_sort a_start a_size a_due a_rung a_anywhere]) := hD
  have e9 := Option.some.inj hf
  subst e9
  exact rt_i C hP hS rfl dX7_wood_10

/-! RX7 temper(II)I -/
theorem hdX7_temper : yX7_temper.cls = RX7 ∧ yX7_temper.cls ≠ "java/lang/invoke/MethodHandle" ∧ yX7_temper.cls ≠ "java/lang/invoke/VarHandle" ∧ (parseMethodDescriptor yX7_temper.desc).map (fun d => d.parameters.length) = some 2 := by decide +kernel
abbrev rmX7_temper : Room := { frames := 3, cells := 0, slots := 0, locals := 65 }
set_option maxHeartbeats 4000000 in
set_option maxRecDepth 100000 in
theorem tX7_temper (l : Launch) (G : GG) (a : Nat → Nat) (a_book : Nat → Int32) (a_spare : Nat → Int32) (a_images : Nat → Int32) (a_kept : Nat → Int32) (a_text : Nat → Int32) (a_length : Int32) (a_refused : Nat → Int32) (a_items : Nat → Int32) (a_many : Int32) (a_at : Int32) (a_sort : Int32) (a_start : Int32) (a_size : Int32) (a_due : Nat → Int32) (a_rung : Nat → Int32) (a_anywhere : Nat → Int32) (p0 : Int32) (p1 : Int32) (out : Int32 × (Nat → Int32) × (Nat → Int32)) (hf : fX7_temper a_book a_refused p0 p1 = some out) : cMi l G yX7_temper wsX7_temper rmX7_temper [.ref (a 0), .int p0, .int p1] (flat [wX7 G a a_book a_spare a_images a_kept a_text a_length a_refused a_items a_many a_at a_sort a_start a_size a_due a_rung a_anywhere]) out.1 (flat [wX7 G a out.2.1 a_spare a_images a_kept a_text a_length out.2.2 a_items a_many a_at a_sort a_start a_size a_due a_rung a_anywhere]) := by
  intro sz
  refine met_of (cc := cX7_temper) (nL := 3) (ret := (some .int)) (Qc := fun A9 => QI G A9 out.1 (flat [wX7 G a out.2.1 a_spare a_images a_kept a_text a_length out.2.2 a_items a_many a_at a_sort a_start a_size a_due a_rung a_anywhere])) (by decide) rfl (Nat.le_of_ble_eq_true rfl) ?_
  intro p e s m args below meth c A ls C hP hD hS hl
  obtain ⟨⟨hx, hb, hml, hown, hts⟩, hr, hlocks, hK, hN, hE, hA⟩ := id C
  have hl : lv_has ls 3 [(0, .ref (a 0)), (1, .int p0), (2, .int p1)] := hl
  unfold fX7_temper at hf
  refine lv_aload_n hx hb dX7_temper_0 rfl (lv_at hl 0 rfl) ?_
  refine lv_aload_n hx hb dX7_temper_1 rfl (lv_at hl 0 rfl) ?_
  refine lv_iload_n hx hb dX7_temper_2 rfl (lv_at hl 1 rfl) ?_
  refine lv_iload_n hx hb dX7_temper_3 rfl (lv_at hl 2 rfl) ?_
  obtain ⟨g1, hg1, hf⟩ := o_b hf
  refine bVi (Bs' := [wX7 G a g1.2 a_spare a_images a_kept a_text a_length a_refused a_items a_many a_at a_sort a_start a_size a_due a_rung a_anywhere]) C hP hD hS (tX7_tellsTemper l G a a_book a_spare a_images a_kept a_text a_length a_refused a_items a_many a_at a_sort a_start a_size a_due a_rung a_anywhere p0 p1 g1 hg1) gX7_temper_X7_tellsTemper rfl ⟨rfl, rfl⟩ hdX7_tellsTemper ⟨Nat.le_of_ble_eq_true rfl, Nat.le_of_ble_eq_true rfl⟩ rfl hl.1 rfl (Nat.le_of_ble_eq_true rfl) ⟨Nat.le_of_ble_eq_true rfl, Nat.le_of_ble_eq_true rfl⟩ [0] rfl rfl rfl rfl rfl (ci := 7) (q0 := 0) rfl rfl rfl dX7_temper_4 (fun H locs hP hD hS => ?_)
  have hP : va_P G.1 vwCl (flat [wX7 G a g1.2 a_spare a_images a_kept a_text a_length a_refused a_items a_many a_at a_sort a_start a_size a_due a_rung a_anywhere]) H := hP
  have hD : va_D A (flat [wX7 G a g1.2 a_spare a_images a_kept a_text a_length a_refused a_items a_many a_at a_sort a_start a_size a_due a_rung a_anywhere]) := hD
  obtain ⟨g2, hg2, hf⟩ := o_b hf
  refine bVi (Bs' := [wX7 G a g1.2 a_spare a_images a_kept a_text a_length g2.2 a_items a_many a_at a_sort a_start a_size a_due a_rung a_anywhere]) C hP hD hS (tX7_told l G a g1.2 a_spare a_images a_kept a_text a_length a_refused a_items a_many a_at a_sort a_start a_size a_due a_rung a_anywhere g1.1 g2 hg2) gX7_temper_X7_told rfl ⟨rfl, rfl⟩ hdX7_told ⟨Nat.le_of_ble_eq_true rfl, Nat.le_of_ble_eq_true rfl⟩ rfl hl.1 rfl (Nat.le_of_ble_eq_true rfl) ⟨Nat.le_of_ble_eq_true rfl, Nat.le_of_ble_eq_true rfl⟩ [0] rfl rfl rfl rfl rfl (ci := 7) (q0 := 0) rfl rfl rfl dX7_temper_7 (fun H locs hP hD hS => ?_)
  have hP : va_P G.1 vwCl (flat [wX7 G a g1.2 a_spare a_images a_kept a_text a_length g2.2 a_items a_many a_at a_sort a_start a_size a_due a_rung a_anywhere]) H := hP
  have hD : va_D A (flat [wX7 G a g1.2 a_spare a_images a_kept a_text a_length g2.2 a_items a_many a_at a_sort a_start a_size a_due a_rung a_anywhere]) := hD
  have e9 := Option.some.inj hf
  subst e9
  exact rt_i C hP hS rfl dX7_temper_10

/-! RX7 friendOf(II)I -/
theorem hdX7_friendOf : yX7_friendOf.cls = RX7 ∧ yX7_friendOf.cls ≠ "java/lang/invoke/MethodHandle" ∧ yX7_friendOf.cls ≠ "java/lang/invoke/VarHandle" ∧ (parseMethodDescriptor yX7_friendOf.desc).map (fun d => d.parameters.length) = some 2 := by decide +kernel
abbrev rmX7_friendOf : Room := { frames := 3, cells := 0, slots := 0, locals := 65 }
set_option maxHeartbeats 4000000 in
set_option maxRecDepth 100000 in
theorem tX7_friendOf (l : Launch) (G : GG) (a : Nat → Nat) (a_book : Nat → Int32) (a_spare : Nat → Int32) (a_images : Nat → Int32) (a_kept : Nat → Int32) (a_text : Nat → Int32) (a_length : Int32) (a_refused : Nat → Int32) (a_items : Nat → Int32) (a_many : Int32) (a_at : Int32) (a_sort : Int32) (a_start : Int32) (a_size : Int32) (a_due : Nat → Int32) (a_rung : Nat → Int32) (a_anywhere : Nat → Int32) (p0 : Int32) (p1 : Int32) (out : Int32 × (Nat → Int32) × (Nat → Int32)) (hf : fX7_friendOf a_book a_refused p0 p1 = some out) : cMi l G yX7_friendOf wsX7_friendOf rmX7_friendOf [.ref (a 0), .int p0, .int p1] (flat [wX7 G a a_book a_spare a_images a_kept a_text a_length a_refused a_items a_many a_at a_sort a_start a_size a_due a_rung a_anywhere]) out.1 (flat [wX7 G a out.2.1 a_spare a_images a_kept a_text a_length out.2.2 a_items a_many a_at a_sort a_start a_size a_due a_rung a_anywhere]) := by
  intro sz
  refine met_of (cc := cX7_friendOf) (nL := 3) (ret := (some .int)) (Qc := fun A9 => QI G A9 out.1 (flat [wX7 G a out.2.1 a_spare a_images a_kept a_text a_length out.2.2 a_items a_many a_at a_sort a_start a_size a_due a_rung a_anywhere])) (by decide) rfl (Nat.le_of_ble_eq_true rfl) ?_
  intro p e s m args below meth c A ls C hP hD hS hl
  obtain ⟨⟨hx, hb, hml, hown, hts⟩, hr, hlocks, hK, hN, hE, hA⟩ := id C
  have hl : lv_has ls 3 [(0, .ref (a 0)), (1, .int p0), (2, .int p1)] := hl
  unfold fX7_friendOf at hf
  refine lv_aload_n hx hb dX7_friendOf_0 rfl (lv_at hl 0 rfl) ?_
  refine lv_aload_n hx hb dX7_friendOf_1 rfl (lv_at hl 0 rfl) ?_
  refine lv_iload_n hx hb dX7_friendOf_2 rfl (lv_at hl 1 rfl) ?_
  refine lv_iload_n hx hb dX7_friendOf_3 rfl (lv_at hl 2 rfl) ?_
  obtain ⟨g1, hg1, hf⟩ := o_b hf
  refine bVi (Bs' := [wX7 G a g1.2 a_spare a_images a_kept a_text a_length a_refused a_items a_many a_at a_sort a_start a_size a_due a_rung a_anywhere]) C hP hD hS (tX7_tellsFriend l G a a_book a_spare a_images a_kept a_text a_length a_refused a_items a_many a_at a_sort a_start a_size a_due a_rung a_anywhere p0 p1 g1 hg1) gX7_friendOf_X7_tellsFriend rfl ⟨rfl, rfl⟩ hdX7_tellsFriend ⟨Nat.le_of_ble_eq_true rfl, Nat.le_of_ble_eq_true rfl⟩ rfl hl.1 rfl (Nat.le_of_ble_eq_true rfl) ⟨Nat.le_of_ble_eq_true rfl, Nat.le_of_ble_eq_true rfl⟩ [0] rfl rfl rfl rfl rfl (ci := 7) (q0 := 0) rfl rfl rfl dX7_friendOf_4 (fun H locs hP hD hS => ?_)
  have hP : va_P G.1 vwCl (flat [wX7 G a g1.2 a_spare a_images a_kept a_text a_length a_refused a_items a_many a_at a_sort a_start a_size a_due a_rung a_anywhere]) H := hP
  have hD : va_D A (flat [wX7 G a g1.2 a_spare a_images a_kept a_text a_length a_refused a_items a_many a_at a_sort a_start a_size a_due a_rung a_anywhere]) := hD
  obtain ⟨g2, hg2, hf⟩ := o_b hf
  refine bVi (Bs' := [wX7 G a g1.2 a_spare a_images a_kept a_text a_length g2.2 a_items a_many a_at a_sort a_start a_size a_due a_rung a_anywhere]) C hP hD hS (tX7_told l G a g1.2 a_spare a_images a_kept a_text a_length a_refused a_items a_many a_at a_sort a_start a_size a_due a_rung a_anywhere g1.1 g2 hg2) gX7_friendOf_X7_told rfl ⟨rfl, rfl⟩ hdX7_told ⟨Nat.le_of_ble_eq_true rfl, Nat.le_of_ble_eq_true rfl⟩ rfl hl.1 rfl (Nat.le_of_ble_eq_true rfl) ⟨Nat.le_of_ble_eq_true rfl, Nat.le_of_ble_eq_true rfl⟩ [0] rfl rfl rfl rfl rfl (ci := 7) (q0 := 0) rfl rfl rfl dX7_friendOf_7 (fun H locs hP hD hS => ?_)
  have hP : va_P G.1 vwCl (flat [wX7 G a g1.2 a_spare a_images a_kept a_text a_length g2.2 a_items a_many a_at a_sort a_start a_size a_due a_rung a_anywhere]) H := hP
  have hD : va_D A (flat [wX7 G a g1.2 a_spare a_images a_kept a_text a_length g2.2 a_items a_many a_at a_sort a_start a_size a_due a_rung a_anywhere]) := hD
  have e9 := Option.some.inj hf
  subst e9
  exact rt_i C hP hS rfl dX7_friendOf_10

/-! RX7 change(II)I -/
theorem iiX7_change_X7 : ∀ w ∈ wsX70, w ∈ wsX7_change := by decide +kernel
theorem mmX7_change_1 : (Cond.fieldLink RX7 7 "BlindBellsModel" "book" "[I") ∈ wsX7_change := by decide +kernel
theorem hdX7_change : yX7_change.cls = RX7 ∧ yX7_change.cls ≠ "java/lang/invoke/MethodHandle" ∧ yX7_change.cls ≠ "java/lang/invoke/VarHandle" ∧ (parseMethodDescriptor yX7_change.desc).map (fun d => d.parameters.length) = some 2 := by decide +kernel
abbrev rmX7_change : Room := { frames := 2, cells := 0, slots := 0, locals := 43 }
set_option maxHeartbeats 4000000 in
set_option maxRecDepth 100000 in
theorem tX7_change (l : Launch) (G : GG) (a : Nat → Nat) (a_book : Nat → Int32) (a_spare : Nat → Int32) (a_images : Nat → Int32) (a_kept : Nat → Int32) (a_text : Nat → Int32) (a_length : Int32) (a_refused : Nat → Int32) (a_items : Nat → Int32) (a_many : Int32) (a_at : Int32) (a_sort : Int32) (a_start : Int32) (a_size : Int32) (a_due : Nat → Int32) (a_rung : Nat → Int32) (a_anywhere : Nat → Int32) (p0 : Int32) (p1 : Int32) (out : Int32 × (Nat → Int32) × (Nat → Int32)) (hf : fX7_change a_book a_refused p0 p1 = some out) : cMi l G yX7_change wsX7_change rmX7_change [.ref (a 0), .int p0, .int p1] (flat [wX7 G a a_book a_spare a_images a_kept a_text a_length a_refused a_items a_many a_at a_sort a_start a_size a_due a_rung a_anywhere]) out.1 (flat [wX7 G a out.2.1 a_spare a_images a_kept a_text a_length out.2.2 a_items a_many a_at a_sort a_start a_size a_due a_rung a_anywhere]) := by
  intro sz
  refine met_of (cc := cX7_change) (nL := 4) (ret := (some .int)) (Qc := fun A9 => QI G A9 out.1 (flat [wX7 G a out.2.1 a_spare a_images a_kept a_text a_length out.2.2 a_items a_many a_at a_sort a_start a_size a_due a_rung a_anywhere])) (by decide) rfl (Nat.le_of_ble_eq_true rfl) ?_
  intro p e s m args below meth c A ls C hP hD hS hl
  obtain ⟨⟨hx, hb, hml, hown, hts⟩, hr, hlocks, hK, hN, hE, hA⟩ := id C
  have hl : lv_has ls 4 [(0, .ref (a 0)), (1, .int p0), (2, .int p1)] := hl
  unfold fX7_change at hf
  refine lv_aload_n hx hb dX7_change_0 rfl (lv_at hl 0 rfl) ?_
  refine lv_iload_n hx hb dX7_change_1 rfl (lv_at hl 1 rfl) ?_
  obtain ⟨g1, hg1, hf⟩ := o_b hf
  refine bVi C hP hD hS (tX7_isOne l G a a_book a_spare a_images a_kept a_text a_length a_refused a_items a_many a_at a_sort a_start a_size a_due a_rung a_anywhere p0 g1 hg1) gX7_change_X7_isOne rfl ⟨rfl, rfl⟩ hdX7_isOne ⟨Nat.le_of_ble_eq_true rfl, Nat.le_of_ble_eq_true rfl⟩ rfl hl.1 rfl (Nat.le_of_ble_eq_true rfl) ⟨Nat.le_of_ble_eq_true rfl, Nat.le_of_ble_eq_true rfl⟩ [0] rfl rfl rfl (setB_same _ _ _ rfl) rfl (ci := 7) (q0 := 0) rfl rfl rfl dX7_change_2 (fun H locs hP hD hS => ?_)
  refine lv_if_eq (tgt := 21) hx hb dX7_change_5 (by decide) (fun c2 => ?_) (fun c2 => ?_)
  · have hf := (o_i hf).1 c2
    refine lv_aload_n hx hb dX7_change_21 rfl (lv_at hl 0 rfl) ?_
    obtain ⟨g3, hg3, hf⟩ := o_b hf
    refine bVi (Bs' := [wX7 G a a_book a_spare a_images a_kept a_text a_length g3.2 a_items a_many a_at a_sort a_start a_size a_due a_rung a_anywhere]) C hP hD hS (tX7_bad l G a a_book a_spare a_images a_kept a_text a_length a_refused a_items a_many a_at a_sort a_start a_size a_due a_rung a_anywhere g3 hg3) gX7_change_X7_bad rfl ⟨rfl, rfl⟩ hdX7_bad ⟨Nat.le_of_ble_eq_true rfl, Nat.le_of_ble_eq_true rfl⟩ rfl hl.1 rfl (Nat.le_of_ble_eq_true rfl) ⟨Nat.le_of_ble_eq_true rfl, Nat.le_of_ble_eq_true rfl⟩ [0] rfl rfl rfl rfl rfl (ci := 7) (q0 := 0) rfl rfl rfl dX7_change_22 (fun H locs hP hD hS => ?_)
    have hP : va_P G.1 vwCl (flat [wX7 G a a_book a_spare a_images a_kept a_text a_length g3.2 a_items a_many a_at a_sort a_start a_size a_due a_rung a_anywhere]) H := hP
    have hD : va_D A (flat [wX7 G a a_book a_spare a_images a_kept a_text a_length g3.2 a_items a_many a_at a_sort a_start a_size a_due a_rung a_anywhere]) := hD
    have e9 := Option.some.inj hf
    subst e9
    exact rt_i C hP hS rfl dX7_change_25
  have hf := (o_i hf).2 c2
  refine lv_aload_n hx hb dX7_change_8 rfl (lv_at hl 0 rfl) ?_
  refine lv_iload_n hx hb dX7_change_9 rfl (lv_at hl 2 rfl) ?_
  obtain ⟨g4, hg4, hf⟩ := o_b hf
  refine bVi C hP hD hS (tX7_isOne l G a a_book a_spare a_images a_kept a_text a_length a_refused a_items a_many a_at a_sort a_start a_size a_due a_rung a_anywhere p1 g4 hg4) gX7_change_X7_isOne rfl ⟨rfl, rfl⟩ hdX7_isOne ⟨Nat.le_of_ble_eq_true rfl, Nat.le_of_ble_eq_true rfl⟩ rfl hl.1 rfl (Nat.le_of_ble_eq_true rfl) ⟨Nat.le_of_ble_eq_true rfl, Nat.le_of_ble_eq_true rfl⟩ [0] rfl rfl rfl (setB_same _ _ _ rfl) rfl (ci := 7) (q0 := 0) rfl rfl rfl dX7_change_10 (fun H locs hP hD hS => ?_)
  refine lv_if_eq (tgt := 21) hx hb dX7_change_13 (by decide) (fun c5 => ?_) (fun c5 => ?_)
  · have hf := (o_i hf).1 c5
    refine lv_aload_n hx hb dX7_change_21 rfl (lv_at hl 0 rfl) ?_
    obtain ⟨g6, hg6, hf⟩ := o_b hf
    refine bVi (Bs' := [wX7 G a a_book a_spare a_images a_kept a_text a_length g6.2 a_items a_many a_at a_sort a_start a_size a_due a_rung a_anywhere]) C hP hD hS (tX7_bad l G a a_book a_spare a_images a_kept a_text a_length a_refused a_items a_many a_at a_sort a_start a_size a_due a_rung a_anywhere g6 hg6) gX7_change_X7_bad rfl ⟨rfl, rfl⟩ hdX7_bad ⟨Nat.le_of_ble_eq_true rfl, Nat.le_of_ble_eq_true rfl⟩ rfl hl.1 rfl (Nat.le_of_ble_eq_true rfl) ⟨Nat.le_of_ble_eq_true rfl, Nat.le_of_ble_eq_true rfl⟩ [0] rfl rfl rfl rfl rfl (ci := 7) (q0 := 0) rfl rfl rfl dX7_change_22 (fun H locs hP hD hS => ?_)
    have hP : va_P G.1 vwCl (flat [wX7 G a a_book a_spare a_images a_kept a_text a_length g6.2 a_items a_many a_at a_sort a_start a_size a_due a_rung a_anywhere]) H := hP
    have hD : va_D A (flat [wX7 G a a_book a_spare a_images a_kept a_text a_length g6.2 a_items a_many a_at a_sort a_start a_size a_due a_rung a_anywhere]) := hD
    have e9 := Option.some.inj hf
    subst e9
    exact rt_i C hP hS rfl dX7_change_25
  have hf := (o_i hf).2 c5
  refine lv_iload_n hx hb dX7_change_16 rfl (lv_at hl 1 rfl) ?_
  refine lv_iload_n hx hb dX7_change_17 rfl (lv_at hl 2 rfl) ?_
  refine lv_icmp_ne (tgt := 26) hx hb dX7_change_18 (by decide) (fun c7 => ?_) (fun c7 => ?_)
  · have hf := (o_i hf).2 c7
    refine lv_aload_n hx hb dX7_change_26 rfl (lv_at hl 0 rfl) ?_
    refine lv_bipush (v := 16) hx hb dX7_change_27 (by decide) ?_
    refine lv_iload_n hx hb dX7_change_29 rfl (lv_at hl 1 rfl) ?_
    refine lv_iadd hx hb dX7_change_30 ?_
    refine lv_aload_n hx hb dX7_change_31 rfl (lv_at hl 0 rfl) ?_
    refine va_get (D := G.1) (ci := 7) (v := .ref (a 1)) (C := RX7) (T := TX7) (N := 16) hx hb hts iiX7_change_X7 hown hK hP 0 rfl rfl 0 (by decide) (hts _ mmX7_change_1) (fun _ h9 => h9) rfl dX7_change_32 ?_
    refine lv_bipush (v := 16) hx hb dX7_change_35 (by decide) ?_
    refine lv_iload_n hx hb dX7_change_37 rfl (lv_at hl 2 rfl) ?_
    refine lv_iadd hx hb dX7_change_38 ?_
    refine at_pc (pc' := 39) rfl ?_
    obtain ⟨z8, hz8, hf⟩ := o_b hf
    refine k_iald hx hb hK hP 1 0 rfl rfl hz8 dX7_change_39 ?_
    obtain ⟨g9, hg9, hf⟩ := o_b hf
    refine bVi (Bs' := [wX7 G a g9.2 a_spare a_images a_kept a_text a_length a_refused a_items a_many a_at a_sort a_start a_size a_due a_rung a_anywhere]) C hP hD hS (tX7_becomes l G a a_book a_spare a_images a_kept a_text a_length a_refused a_items a_many a_at a_sort a_start a_size a_due a_rung a_anywhere (16 + p0) z8 g9 hg9) gX7_change_X7_becomes rfl ⟨rfl, rfl⟩ hdX7_becomes ⟨Nat.le_of_ble_eq_true rfl, Nat.le_of_ble_eq_true rfl⟩ rfl hl.1 rfl (Nat.le_of_ble_eq_true rfl) ⟨Nat.le_of_ble_eq_true rfl, Nat.le_of_ble_eq_true rfl⟩ [0] rfl rfl rfl rfl rfl (ci := 7) (q0 := 0) rfl rfl rfl dX7_change_40 (fun H locs hP hD hS => ?_)
    have hP : va_P G.1 vwCl (flat [wX7 G a g9.2 a_spare a_images a_kept a_text a_length a_refused a_items a_many a_at a_sort a_start a_size a_due a_rung a_anywhere]) H := hP
    have hD : va_D A (flat [wX7 G a g9.2 a_spare a_images a_kept a_text a_length a_refused a_items a_many a_at a_sort a_start a_size a_due a_rung a_anywhere]) := hD
    refine lv_istore_n (lv' := [(3, .int g9.1), (0, .ref (a 0)), (1, .int p0), (2, .int p1)]) hx hb dX7_change_43 rfl hl (by decide) rfl (fun ls hl => ?_)
    refine lv_aload_n hx hb dX7_change_44 rfl (lv_at hl 1 rfl) ?_
    refine va_get (D := G.1) (ci := 7) (v := .ref (a 1)) (C := RX7) (T := TX7) (N := 16) hx hb hts iiX7_change_X7 hown hK hP 0 rfl rfl 0 (by decide) (hts _ mmX7_change_1) (fun _ h9 => h9) rfl dX7_change_45 ?_
    refine lv_bipush (v := 16) hx hb dX7_change_48 (by decide) ?_
    refine lv_iload_n hx hb dX7_change_50 rfl (lv_at hl 3 rfl) ?_
    refine lv_iadd hx hb dX7_change_51 ?_
    refine lv_iload_n hx hb dX7_change_52 rfl (lv_at hl 0 rfl) ?_
    obtain ⟨u10, hu10, hf⟩ := o_b hf
    refine k_iast hx hb hK hP hD hS 1 0 rfl rfl hu10 dX7_change_53 (fun H locs hP hD hS => ?_)
    have hP : va_P G.1 vwCl (flat [wX7 G a u10 a_spare a_images a_kept a_text a_length a_refused a_items a_many a_at a_sort a_start a_size a_due a_rung a_anywhere]) H := hP
    have hD : va_D A (flat [wX7 G a u10 a_spare a_images a_kept a_text a_length a_refused a_items a_many a_at a_sort a_start a_size a_due a_rung a_anywhere]) := hD
    refine at_pc (pc' := 54) rfl ?_
    refine lv_iconst (v := 1) hx hb dX7_change_54 (by decide) ?_
    have e9 := Option.some.inj hf
    subst e9
    exact rt_i C hP hS rfl dX7_change_55
  have hf := (o_i hf).1 c7
  refine lv_aload_n hx hb dX7_change_21 rfl (lv_at hl 0 rfl) ?_
  obtain ⟨g11, hg11, hf⟩ := o_b hf
  refine bVi (Bs' := [wX7 G a a_book a_spare a_images a_kept a_text a_length g11.2 a_items a_many a_at a_sort a_start a_size a_due a_rung a_anywhere]) C hP hD hS (tX7_bad l G a a_book a_spare a_images a_kept a_text a_length a_refused a_items a_many a_at a_sort a_start a_size a_due a_rung a_anywhere g11 hg11) gX7_change_X7_bad rfl ⟨rfl, rfl⟩ hdX7_bad ⟨Nat.le_of_ble_eq_true rfl, Nat.le_of_ble_eq_true rfl⟩ rfl hl.1 rfl (Nat.le_of_ble_eq_true rfl) ⟨Nat.le_of_ble_eq_true rfl, Nat.le_of_ble_eq_true rfl⟩ [0] rfl rfl rfl rfl rfl (ci := 7) (q0 := 0) rfl rfl rfl dX7_change_22 (fun H locs hP hD hS => ?_)
  have hP : va_P G.1 vwCl (flat [wX7 G a a_book a_spare a_images a_kept a_text a_length g11.2 a_items a_many a_at a_sort a_start a_size a_due a_rung a_anywhere]) H := hP
  have hD : va_D A (flat [wX7 G a a_book a_spare a_images a_kept a_text a_length g11.2 a_items a_many a_at a_sort a_start a_size a_due a_rung a_anywhere]) := hD
  have e9 := Option.some.inj hf
  subst e9
  exact rt_i C hP hS rfl dX7_change_25

/-! RX7 need(III)I -/
theorem hdX7_need : yX7_need.cls = RX7 ∧ yX7_need.cls ≠ "java/lang/invoke/MethodHandle" ∧ yX7_need.cls ≠ "java/lang/invoke/VarHandle" ∧ (parseMethodDescriptor yX7_need.desc).map (fun d => d.parameters.length) = some 3 := by decide +kernel
abbrev rmX7_need : Room := { frames := 3, cells := 0, slots := 0, locals := 67 }
set_option maxHeartbeats 4000000 in
set_option maxRecDepth 100000 in
theorem tX7_need (l : Launch) (G : GG) (a : Nat → Nat) (a_book : Nat → Int32) (a_spare : Nat → Int32) (a_images : Nat → Int32) (a_kept : Nat → Int32) (a_text : Nat → Int32) (a_length : Int32) (a_refused : Nat → Int32) (a_items : Nat → Int32) (a_many : Int32) (a_at : Int32) (a_sort : Int32) (a_start : Int32) (a_size : Int32) (a_due : Nat → Int32) (a_rung : Nat → Int32) (a_anywhere : Nat → Int32) (p0 : Int32) (p1 : Int32) (p2 : Int32) (out : Int32 × (Nat → Int32) × (Nat → Int32)) (hf : fX7_need a_book a_refused p0 p1 p2 = some out) : cMi l G yX7_need wsX7_need rmX7_need [.ref (a 0), .int p0, .int p1, .int p2] (flat [wX7 G a a_book a_spare a_images a_kept a_text a_length a_refused a_items a_many a_at a_sort a_start a_size a_due a_rung a_anywhere]) out.1 (flat [wX7 G a out.2.1 a_spare a_images a_kept a_text a_length out.2.2 a_items a_many a_at a_sort a_start a_size a_due a_rung a_anywhere]) := by
  intro sz
  refine met_of (cc := cX7_need) (nL := 4) (ret := (some .int)) (Qc := fun A9 => QI G A9 out.1 (flat [wX7 G a out.2.1 a_spare a_images a_kept a_text a_length out.2.2 a_items a_many a_at a_sort a_start a_size a_due a_rung a_anywhere])) (by decide) rfl (Nat.le_of_ble_eq_true rfl) ?_
  intro p e s m args below meth c A ls C hP hD hS hl
  obtain ⟨⟨hx, hb, hml, hown, hts⟩, hr, hlocks, hK, hN, hE, hA⟩ := id C
  have hl : lv_has ls 4 [(0, .ref (a 0)), (1, .int p0), (2, .int p1), (3, .int p2)] := hl
  unfold fX7_need at hf
  refine lv_aload_n hx hb dX7_need_0 rfl (lv_at hl 0 rfl) ?_
  refine lv_aload_n hx hb dX7_need_1 rfl (lv_at hl 0 rfl) ?_
  refine lv_iload_n hx hb dX7_need_2 rfl (lv_at hl 1 rfl) ?_
  refine lv_iload_n hx hb dX7_need_3 rfl (lv_at hl 2 rfl) ?_
  refine lv_iload_n hx hb dX7_need_4 rfl (lv_at hl 3 rfl) ?_
  obtain ⟨g1, hg1, hf⟩ := o_b hf
  refine bVi (Bs' := [wX7 G a g1.2 a_spare a_images a_kept a_text a_length a_refused a_items a_many a_at a_sort a_start a_size a_due a_rung a_anywhere]) C hP hD hS (tX7_tellsNeed l G a a_book a_spare a_images a_kept a_text a_length a_refused a_items a_many a_at a_sort a_start a_size a_due a_rung a_anywhere p0 p1 p2 g1 hg1) gX7_need_X7_tellsNeed rfl ⟨rfl, rfl⟩ hdX7_tellsNeed ⟨Nat.le_of_ble_eq_true rfl, Nat.le_of_ble_eq_true rfl⟩ rfl hl.1 rfl (Nat.le_of_ble_eq_true rfl) ⟨Nat.le_of_ble_eq_true rfl, Nat.le_of_ble_eq_true rfl⟩ [0] rfl rfl rfl rfl rfl (ci := 7) (q0 := 0) rfl rfl rfl dX7_need_5 (fun H locs hP hD hS => ?_)
  have hP : va_P G.1 vwCl (flat [wX7 G a g1.2 a_spare a_images a_kept a_text a_length a_refused a_items a_many a_at a_sort a_start a_size a_due a_rung a_anywhere]) H := hP
  have hD : va_D A (flat [wX7 G a g1.2 a_spare a_images a_kept a_text a_length a_refused a_items a_many a_at a_sort a_start a_size a_due a_rung a_anywhere]) := hD
  obtain ⟨g2, hg2, hf⟩ := o_b hf
  refine bVi (Bs' := [wX7 G a g1.2 a_spare a_images a_kept a_text a_length g2.2 a_items a_many a_at a_sort a_start a_size a_due a_rung a_anywhere]) C hP hD hS (tX7_told l G a g1.2 a_spare a_images a_kept a_text a_length a_refused a_items a_many a_at a_sort a_start a_size a_due a_rung a_anywhere g1.1 g2 hg2) gX7_need_X7_told rfl ⟨rfl, rfl⟩ hdX7_told ⟨Nat.le_of_ble_eq_true rfl, Nat.le_of_ble_eq_true rfl⟩ rfl hl.1 rfl (Nat.le_of_ble_eq_true rfl) ⟨Nat.le_of_ble_eq_true rfl, Nat.le_of_ble_eq_true rfl⟩ [0] rfl rfl rfl rfl rfl (ci := 7) (q0 := 0) rfl rfl rfl dX7_need_8 (fun H locs hP hD hS => ?_)
  have hP : va_P G.1 vwCl (flat [wX7 G a g1.2 a_spare a_images a_kept a_text a_length g2.2 a_items a_many a_at a_sort a_start a_size a_due a_rung a_anywhere]) H := hP
  have hD : va_D A (flat [wX7 G a g1.2 a_spare a_images a_kept a_text a_length g2.2 a_items a_many a_at a_sort a_start a_size a_due a_rung a_anywhere]) := hD
  have e9 := Option.some.inj hf
  subst e9
  exact rt_i C hP hS rfl dX7_need_11

/-! RX7 undo()I -/
theorem iiX7_undo_X7 : ∀ w ∈ wsX70, w ∈ wsX7_undo := by decide +kernel
theorem mmX7_undo_1 : (Cond.fieldLink RX7 7 "BlindBellsModel" "book" "[I") ∈ wsX7_undo := by decide +kernel
theorem hdX7_undo : yX7_undo.cls = RX7 ∧ yX7_undo.cls ≠ "java/lang/invoke/MethodHandle" ∧ yX7_undo.cls ≠ "java/lang/invoke/VarHandle" ∧ (parseMethodDescriptor yX7_undo.desc).map (fun d => d.parameters.length) = some 0 := by decide +kernel
abbrev rmX7_undo : Room := { frames := 1, cells := 0, slots := 0, locals := 22 }
set_option maxHeartbeats 4000000 in
set_option maxRecDepth 100000 in
theorem tX7_undo (l : Launch) (G : GG) (a : Nat → Nat) (a_book : Nat → Int32) (a_spare : Nat → Int32) (a_images : Nat → Int32) (a_kept : Nat → Int32) (a_text : Nat → Int32) (a_length : Int32) (a_refused : Nat → Int32) (a_items : Nat → Int32) (a_many : Int32) (a_at : Int32) (a_sort : Int32) (a_start : Int32) (a_size : Int32) (a_due : Nat → Int32) (a_rung : Nat → Int32) (a_anywhere : Nat → Int32) (out : Int32 × (Nat → Int32) × (Nat → Int32)) (hf : fX7_undo a_book a_refused = some out) : cMi l G yX7_undo wsX7_undo rmX7_undo [.ref (a 0)] (flat [wX7 G a a_book a_spare a_images a_kept a_text a_length a_refused a_items a_many a_at a_sort a_start a_size a_due a_rung a_anywhere]) out.1 (flat [wX7 G a out.2.1 a_spare a_images a_kept a_text a_length out.2.2 a_items a_many a_at a_sort a_start a_size a_due a_rung a_anywhere]) := by
  intro sz
  refine met_of (cc := cX7_undo) (nL := 1) (ret := (some .int)) (Qc := fun A9 => QI G A9 out.1 (flat [wX7 G a out.2.1 a_spare a_images a_kept a_text a_length out.2.2 a_items a_many a_at a_sort a_start a_size a_due a_rung a_anywhere])) (by decide) rfl (Nat.le_of_ble_eq_true rfl) ?_
  intro p e s m args below meth c A ls C hP hD hS hl
  obtain ⟨⟨hx, hb, hml, hown, hts⟩, hr, hlocks, hK, hN, hE, hA⟩ := id C
  have hl : lv_has ls 1 [(0, .ref (a 0))] := hl
  unfold fX7_undo at hf
  refine lv_aload_n hx hb dX7_undo_0 rfl (lv_at hl 0 rfl) ?_
  refine va_get (D := G.1) (ci := 7) (v := .ref (a 1)) (C := RX7) (T := TX7) (N := 16) hx hb hts iiX7_undo_X7 hown hK hP 0 rfl rfl 0 (by decide) (hts _ mmX7_undo_1) (fun _ h9 => h9) rfl dX7_undo_1 ?_
  refine lv_iconst (v := 2) hx hb dX7_undo_4 (by decide) ?_
  obtain ⟨z1, hz1, hf⟩ := o_b hf
  refine k_iald hx hb hK hP 1 0 rfl rfl hz1 dX7_undo_5 ?_
  refine lv_if_ne (tgt := 17) hx hb dX7_undo_6 (by decide) (fun c2 => ?_) (fun c2 => ?_)
  · have hf := (o_i hf).2 c2
    refine lv_aload_n hx hb dX7_undo_17 rfl (lv_at hl 0 rfl) ?_
    refine va_get (D := G.1) (ci := 7) (v := .ref (a 1)) (C := RX7) (T := TX7) (N := 16) hx hb hts iiX7_undo_X7 hown hK hP 0 rfl rfl 0 (by decide) (hts _ mmX7_undo_1) (fun _ h9 => h9) rfl dX7_undo_18 ?_
    refine lv_iconst (v := 2) hx hb dX7_undo_21 (by decide) ?_
    refine lv_dup2_11 hx hb dX7_undo_22 rfl rfl ?_
    obtain ⟨z3, hz3, hf⟩ := o_b hf
    refine k_iald hx hb hK hP 1 0 rfl rfl hz3 dX7_undo_23 ?_
    refine lv_iconst (v := 1) hx hb dX7_undo_24 (by decide) ?_
    refine lv_isub hx hb dX7_undo_25 ?_
    obtain ⟨u4, hu4, hf⟩ := o_b hf
    refine k_iast hx hb hK hP hD hS 1 0 rfl rfl hu4 dX7_undo_26 (fun H locs hP hD hS => ?_)
    have hP : va_P G.1 vwCl (flat [wX7 G a u4 a_spare a_images a_kept a_text a_length a_refused a_items a_many a_at a_sort a_start a_size a_due a_rung a_anywhere]) H := hP
    have hD : va_D A (flat [wX7 G a u4 a_spare a_images a_kept a_text a_length a_refused a_items a_many a_at a_sort a_start a_size a_due a_rung a_anywhere]) := hD
    refine lv_aload_n hx hb dX7_undo_27 rfl (lv_at hl 0 rfl) ?_
    refine at_pc (pc' := 28) rfl ?_
    refine va_get (D := G.1) (ci := 7) (v := .ref (a 1)) (C := RX7) (T := TX7) (N := 16) hx hb hts iiX7_undo_X7 hown hK hP 0 rfl rfl 0 (by decide) (hts _ mmX7_undo_1) (fun _ h9 => h9) rfl dX7_undo_28 ?_
    refine lv_iconst (v := 2) hx hb dX7_undo_31 (by decide) ?_
    obtain ⟨z5, hz5, hf⟩ := o_b hf
    refine k_iald hx hb hK hP 1 0 rfl rfl hz5 dX7_undo_32 ?_
    have e9 := Option.some.inj hf
    subst e9
    exact rt_i C hP hS rfl dX7_undo_33
  have hf := (o_i hf).1 c2
  refine lv_aload_n hx hb dX7_undo_9 rfl (lv_at hl 0 rfl) ?_
  refine lv_iconst (v := 1) hx hb dX7_undo_10 (by decide) ?_
  refine lv_bipush (v := (-3)) hx hb dX7_undo_11 (by decide) ?_
  obtain ⟨g6, hg6, hf⟩ := o_b hf
  refine bVi (Bs' := [wX7 G a a_book a_spare a_images a_kept a_text a_length g6.2 a_items a_many a_at a_sort a_start a_size a_due a_rung a_anywhere]) C hP hD hS (tX7_refuses l G a a_book a_spare a_images a_kept a_text a_length a_refused a_items a_many a_at a_sort a_start a_size a_due a_rung a_anywhere 1 ((-3)) g6 hg6) gX7_undo_X7_refuses rfl ⟨rfl, rfl⟩ hdX7_refuses ⟨Nat.le_of_ble_eq_true rfl, Nat.le_of_ble_eq_true rfl⟩ rfl hl.1 rfl (Nat.le_of_ble_eq_true rfl) ⟨Nat.le_of_ble_eq_true rfl, Nat.le_of_ble_eq_true rfl⟩ [0] rfl rfl rfl rfl rfl (ci := 7) (q0 := 0) rfl rfl rfl dX7_undo_13 (fun H locs hP hD hS => ?_)
  have hP : va_P G.1 vwCl (flat [wX7 G a a_book a_spare a_images a_kept a_text a_length g6.2 a_items a_many a_at a_sort a_start a_size a_due a_rung a_anywhere]) H := hP
  have hD : va_D A (flat [wX7 G a a_book a_spare a_images a_kept a_text a_length g6.2 a_items a_many a_at a_sort a_start a_size a_due a_rung a_anywhere]) := hD
  have e9 := Option.some.inj hf
  subst e9
  exact rt_i C hP hS rfl dX7_undo_16

/-! RX7 sounds(III)I -/
theorem iiX7_sounds_X7 : ∀ w ∈ wsX70, w ∈ wsX7_sounds := by decide +kernel
theorem mmX7_sounds_1 : (Cond.fieldLink RX7 7 "BlindBellsModel" "book" "[I") ∈ wsX7_sounds := by decide +kernel
theorem hdX7_sounds : yX7_sounds.cls = RX7 ∧ yX7_sounds.cls ≠ "java/lang/invoke/MethodHandle" ∧ yX7_sounds.cls ≠ "java/lang/invoke/VarHandle" ∧ (parseMethodDescriptor yX7_sounds.desc).map (fun d => d.parameters.length) = some 3 := by decide +kernel
abbrev rmX7_sounds : Room := { frames := 0, cells := 0, slots := 0, locals := 0 }
set_option maxHeartbeats 4000000 in
set_option maxRecDepth 100000 in
theorem lX7_sounds_18 {p : Program} {e : Env} {s : State} {m : MethodId} {args : Array Value} {below : List Frame} {meth : Method} {c : Code} {A : Nat → Prop} (l : Launch) (G : GG) (C : Cx p m c cX7_sounds 6 s args wsX7_sounds RX7 meth (some .int) G A) (a : Nat → Nat) (a_book : Nat → Int32) (a_spare : Nat → Int32) (a_images : Nat → Int32) (a_kept : Nat → Int32) (a_text : Nat → Int32) (a_length : Int32) (a_refused : Nat → Int32) (a_items : Nat → Int32) (a_many : Int32) (a_at : Int32) (a_sort : Int32) (a_start : Int32) (a_size : Int32) (a_due : Nat → Int32) (a_rung : Nat → Int32) (a_anywhere : Nat → Int32) (p0 : Int32) (p1 : Int32) (p2 : Int32) (out : Int32) (kx : Int32 → Int32 → Option (Int32)) (HX : ∀ (x4_18 : Int32) (x5_18 : Int32) (H : Heap) (locs : List Loc) (ls : Array Slot), va_P G.1 vwCl (flat [wX7 G a a_book a_spare a_images a_kept a_text a_length a_refused a_items a_many a_at a_sort a_start a_size a_due a_rung a_anywhere]) H → va_D A (flat [wX7 G a a_book a_spare a_images a_kept a_text a_length a_refused a_items a_many a_at a_sort a_start a_size a_due a_rung a_anywhere]) → va_S A s.heap H locs → lv_has ls 6 [(0, .ref (a 0)), (1, .int p0), (2, .int p1), (3, .int p2), (4, .int x4_18), (5, .int x5_18)] → kx x4_18 x5_18 = some out → W p l e rmX7_sounds s m args below meth c H locs 0 0 (MQ below (QI G A out (flat [wX7 G a a_book a_spare a_images a_kept a_text a_length a_refused a_items a_many a_at a_sort a_start a_size a_due a_rung a_anywhere])) args s 0 0 A) (F0 m 82 ls [])) : ∀ (n : Nat) (x4_18 : Int32) (x5_18 : Int32) (H : Heap) (locs : List Loc) (ls : Array Slot), va_P G.1 vwCl (flat [wX7 G a a_book a_spare a_images a_kept a_text a_length a_refused a_items a_many a_at a_sort a_start a_size a_due a_rung a_anywhere]) H → va_D A (flat [wX7 G a a_book a_spare a_images a_kept a_text a_length a_refused a_items a_many a_at a_sort a_start a_size a_due a_rung a_anywhere]) → va_S A s.heap H locs → lv_has ls 6 [(0, .ref (a 0)), (1, .int p0), (2, .int p1), (3, .int p2), (4, .int x4_18), (5, .int x5_18)] → fX7_sounds_18 p0 p2 a_book kx n x4_18 x5_18 = some out → W p l e rmX7_sounds s m args below meth c H locs 0 0 (MQ below (QI G A out (flat [wX7 G a a_book a_spare a_images a_kept a_text a_length a_refused a_items a_many a_at a_sort a_start a_size a_due a_rung a_anywhere])) args s 0 0 A) (F0 m 18 ls []) := by
  obtain ⟨⟨hx, hb, hml, hown, hts⟩, hr, hlocks, hK, hN, hE, hA⟩ := id C
  intro n
  induction n with
  | zero =>
    intro x4_18 x5_18 H locs ls hP hD hS hl hf
    exact absurd (show (none : Option (Int32)) = some out from hf) (by intro q9; cases q9)
  | succ n ih =>
    intro x4_18 x5_18 H locs ls hP hD hS hl hf
    rw [fX7_sounds_18] at hf
    refine lv_iload hx hb dX7_sounds_18 (lv_at hl 5 rfl) ?_
    refine lv_aload_n hx hb dX7_sounds_20 rfl (lv_at hl 0 rfl) ?_
    refine va_get (D := G.1) (ci := 7) (v := .ref (a 1)) (C := RX7) (T := TX7) (N := 16) hx hb hts iiX7_sounds_X7 hown hK hP 0 rfl rfl 0 (by decide) (hts _ mmX7_sounds_1) (fun _ h9 => h9) rfl dX7_sounds_21 ?_
    refine lv_iconst (v := 1) hx hb dX7_sounds_24 (by decide) ?_
    obtain ⟨z2, hz2, hf⟩ := o_b hf
    refine k_iald hx hb hK hP 1 0 rfl rfl hz2 dX7_sounds_25 ?_
    refine lv_icmp_ge (tgt := 82) hx hb dX7_sounds_26 (by decide) (fun c3 => ?_) (fun c3 => ?_)
    · have hf := (o_i hf).1 c3
      exact HX _ _ _ _ _ hP hD hS (lv_sub hl [0, 1, 2, 3, 4, 5] rfl) hf
    have hf := (o_i hf).2 c3
    refine lv_iload hx hb dX7_sounds_29 (lv_at hl 4 rfl) ?_
    refine lv_iload_n hx hb dX7_sounds_31 rfl (lv_at hl 3 rfl) ?_
    refine lv_iload hx hb dX7_sounds_32 (lv_at hl 5 rfl) ?_
    refine lv_ishr hx hb dX7_sounds_34 ?_
    refine lv_iconst (v := 1) hx hb dX7_sounds_35 (by decide) ?_
    refine lv_iand hx hb dX7_sounds_36 ?_
    refine lv_iconst (v := 1) hx hb dX7_sounds_37 (by decide) ?_
    refine lv_icmp_ne (tgt := 72) hx hb dX7_sounds_38 (by decide) (fun c4 => ?_) (fun c4 => ?_)
    · have hf := (o_i hf).2 c4
      refine lv_iconst (v := (-1)) hx hb dX7_sounds_72 (by decide) ?_
      refine lv_iand hx hb dX7_sounds_73 ?_
      refine lv_istore (lv' := [(4, .int (x4_18 &&& ((-1)))), (0, .ref (a 0)), (1, .int p0), (2, .int p1), (3, .int p2), (5, .int x5_18)]) hx hb dX7_sounds_74 hl (by decide) rfl (fun ls hl => ?_)
      refine lv_iinc (v := x5_18 + 1) (lv' := [(5, .int (x5_18 + 1)), (4, .int (x4_18 &&& ((-1)))), (0, .ref (a 0)), (1, .int p0), (2, .int p1), (3, .int p2)]) hx hb dX7_sounds_76 hl (k := 5) rfl (congrArg (fun z => x5_18 + z) (by decide)) (by decide) rfl (fun ls hl => ?_)
      refine lv_goto (tgt := 18) hx hb dX7_sounds_79 (by decide) ?_
      exact ih _ _ _ _ _ hP hD hS (lv_sub hl [2, 3, 4, 5, 1, 0] rfl) hf
    have hf := (o_i hf).1 c4
    refine lv_aload_n hx hb dX7_sounds_41 rfl (lv_at hl 0 rfl) ?_
    refine va_get (D := G.1) (ci := 7) (v := .ref (a 1)) (C := RX7) (T := TX7) (N := 16) hx hb hts iiX7_sounds_X7 hown hK hP 0 rfl rfl 0 (by decide) (hts _ mmX7_sounds_1) (fun _ h9 => h9) rfl dX7_sounds_42 ?_
    refine lv_bipush (v := 46) hx hb dX7_sounds_45 (by decide) ?_
    refine lv_iload hx hb dX7_sounds_47 (lv_at hl 5 rfl) ?_
    refine lv_iadd hx hb dX7_sounds_49 ?_
    obtain ⟨z5, hz5, hf⟩ := o_b hf
    refine k_iald hx hb hK hP 1 0 rfl rfl hz5 dX7_sounds_50 ?_
    refine lv_iload_n hx hb dX7_sounds_51 rfl (lv_at hl 1 rfl) ?_
    refine lv_icmp_ne (tgt := 72) hx hb dX7_sounds_52 (by decide) (fun c6 => ?_) (fun c6 => ?_)
    · have hf := (o_i hf).2 c6
      refine lv_iconst (v := (-1)) hx hb dX7_sounds_72 (by decide) ?_
      refine lv_iand hx hb dX7_sounds_73 ?_
      refine lv_istore (lv' := [(4, .int (x4_18 &&& ((-1)))), (0, .ref (a 0)), (1, .int p0), (2, .int p1), (3, .int p2), (5, .int x5_18)]) hx hb dX7_sounds_74 hl (by decide) rfl (fun ls hl => ?_)
      refine lv_iinc (v := x5_18 + 1) (lv' := [(5, .int (x5_18 + 1)), (4, .int (x4_18 &&& ((-1)))), (0, .ref (a 0)), (1, .int p0), (2, .int p1), (3, .int p2)]) hx hb dX7_sounds_76 hl (k := 5) rfl (congrArg (fun z => x5_18 + z) (by decide)) (by decide) rfl (fun ls hl => ?_)
      refine lv_goto (tgt := 18) hx hb dX7_sounds_79 (by decide) ?_
      exact ih _ _ _ _ _ hP hD hS (lv_sub hl [2, 3, 4, 5, 1, 0] rfl) hf
    have hf := (o_i hf).1 c6
    refine lv_iconst (v := 1) hx hb dX7_sounds_55 (by decide) ?_
    refine lv_aload_n hx hb dX7_sounds_56 rfl (lv_at hl 0 rfl) ?_
    refine va_get (D := G.1) (ci := 7) (v := .ref (a 1)) (C := RX7) (T := TX7) (N := 16) hx hb hts iiX7_sounds_X7 hown hK hP 0 rfl rfl 0 (by decide) (hts _ mmX7_sounds_1) (fun _ h9 => h9) rfl dX7_sounds_57 ?_
    refine lv_bipush (v := 54) hx hb dX7_sounds_60 (by decide) ?_
    refine lv_iload hx hb dX7_sounds_62 (lv_at hl 5 rfl) ?_
    refine lv_iadd hx hb dX7_sounds_64 ?_
    obtain ⟨z7, hz7, hf⟩ := o_b hf
    refine k_iald hx hb hK hP 1 0 rfl rfl hz7 dX7_sounds_65 ?_
    refine lv_ishl hx hb dX7_sounds_66 ?_
    refine lv_iconst (v := (-1)) hx hb dX7_sounds_67 (by decide) ?_
    refine at_pc (pc' := 68) rfl ?_
    refine lv_ixor hx hb dX7_sounds_68 ?_
    refine lv_goto (tgt := 73) hx hb dX7_sounds_69 (by decide) ?_
    refine lv_iand hx hb dX7_sounds_73 ?_
    refine lv_istore (lv' := [(4, .int (x4_18 &&& ((1 <<< (z7 &&& 31)) ^^^ ((-1))))), (0, .ref (a 0)), (1, .int p0), (2, .int p1), (3, .int p2), (5, .int x5_18)]) hx hb dX7_sounds_74 hl (by decide) rfl (fun ls hl => ?_)
    refine lv_iinc (v := x5_18 + 1) (lv' := [(5, .int (x5_18 + 1)), (4, .int (x4_18 &&& ((1 <<< (z7 &&& 31)) ^^^ ((-1))))), (0, .ref (a 0)), (1, .int p0), (2, .int p1), (3, .int p2)]) hx hb dX7_sounds_76 hl (k := 5) rfl (congrArg (fun z => x5_18 + z) (by decide)) (by decide) rfl (fun ls hl => ?_)
    refine lv_goto (tgt := 18) hx hb dX7_sounds_79 (by decide) ?_
    exact ih _ _ _ _ _ hP hD hS (lv_sub hl [2, 3, 4, 5, 1, 0] rfl) hf
set_option maxHeartbeats 4000000 in
set_option maxRecDepth 100000 in
theorem tX7_sounds (l : Launch) (G : GG) (a : Nat → Nat) (a_book : Nat → Int32) (a_spare : Nat → Int32) (a_images : Nat → Int32) (a_kept : Nat → Int32) (a_text : Nat → Int32) (a_length : Int32) (a_refused : Nat → Int32) (a_items : Nat → Int32) (a_many : Int32) (a_at : Int32) (a_sort : Int32) (a_start : Int32) (a_size : Int32) (a_due : Nat → Int32) (a_rung : Nat → Int32) (a_anywhere : Nat → Int32) (p0 : Int32) (p1 : Int32) (p2 : Int32) (out : Int32) (hf : fX7_sounds a_book p0 p1 p2 = some out) : cMi l G yX7_sounds wsX7_sounds rmX7_sounds [.ref (a 0), .int p0, .int p1, .int p2] (flat [wX7 G a a_book a_spare a_images a_kept a_text a_length a_refused a_items a_many a_at a_sort a_start a_size a_due a_rung a_anywhere]) out (flat [wX7 G a a_book a_spare a_images a_kept a_text a_length a_refused a_items a_many a_at a_sort a_start a_size a_due a_rung a_anywhere]) := by
  intro sz
  refine met_of (cc := cX7_sounds) (nL := 6) (ret := (some .int)) (Qc := fun A9 => QI G A9 out (flat [wX7 G a a_book a_spare a_images a_kept a_text a_length a_refused a_items a_many a_at a_sort a_start a_size a_due a_rung a_anywhere])) (by decide) rfl (Nat.le_of_ble_eq_true rfl) ?_
  intro p e s m args below meth c A ls C hP hD hS hl
  obtain ⟨⟨hx, hb, hml, hown, hts⟩, hr, hlocks, hK, hN, hE, hA⟩ := id C
  have hl : lv_has ls 6 [(0, .ref (a 0)), (1, .int p0), (2, .int p1), (3, .int p2)] := hl
  unfold fX7_sounds at hf
  refine lv_aload_n hx hb dX7_sounds_0 rfl (lv_at hl 0 rfl) ?_
  refine va_get (D := G.1) (ci := 7) (v := .ref (a 1)) (C := RX7) (T := TX7) (N := 16) hx hb hts iiX7_sounds_X7 hown hK hP 0 rfl rfl 0 (by decide) (hts _ mmX7_sounds_1) (fun _ h9 => h9) rfl dX7_sounds_1 ?_
  refine lv_bipush (v := 22) hx hb dX7_sounds_4 (by decide) ?_
  refine lv_iconst (v := 4) hx hb dX7_sounds_6 (by decide) ?_
  refine lv_iload_n hx hb dX7_sounds_7 rfl (lv_at hl 1 rfl) ?_
  refine lv_imul hx hb dX7_sounds_8 ?_
  refine lv_iadd hx hb dX7_sounds_9 ?_
  refine lv_iload_n hx hb dX7_sounds_10 rfl (lv_at hl 2 rfl) ?_
  refine lv_iadd hx hb dX7_sounds_11 ?_
  refine at_pc (pc' := 12) rfl ?_
  obtain ⟨z1, hz1, hf⟩ := o_b hf
  refine k_iald hx hb hK hP 1 0 rfl rfl hz1 dX7_sounds_12 ?_
  refine lv_istore (lv' := [(4, .int z1), (0, .ref (a 0)), (1, .int p0), (2, .int p1), (3, .int p2)]) hx hb dX7_sounds_13 hl (by decide) rfl (fun ls hl => ?_)
  refine lv_iconst (v := 0) hx hb dX7_sounds_15 (by decide) ?_
  refine lv_istore (lv' := [(5, .int 0), (4, .int z1), (0, .ref (a 0)), (1, .int p0), (2, .int p1), (3, .int p2)]) hx hb dX7_sounds_16 hl (by decide) rfl (fun ls hl => ?_)
  refine lX7_sounds_18 l G C a a_book a_spare a_images a_kept a_text a_length a_refused a_items a_many a_at a_sort a_start a_size a_due a_rung a_anywhere p0 p1 p2 out _ (fun x4_18_8 x5_18_9 H locs ls hP hD hS hl hf => ?_) fu z1 0 _ _ _ hP hD hS (lv_sub hl [2, 3, 4, 5, 1, 0] rfl) hf
  refine lv_iload hx hb dX7_sounds_82 (lv_at hl 4 rfl) ?_
  have e9 := Option.some.inj hf
  subst e9
  exact rt_i C hP hS rfl dX7_sounds_84

/-! RX7 hall(II)I -/
theorem hdX7_hall : yX7_hall.cls = RX7 ∧ yX7_hall.cls ≠ "java/lang/invoke/MethodHandle" ∧ yX7_hall.cls ≠ "java/lang/invoke/VarHandle" ∧ (parseMethodDescriptor yX7_hall.desc).map (fun d => d.parameters.length) = some 2 := by decide +kernel
abbrev rmX7_hall : Room := { frames := 1, cells := 0, slots := 0, locals := 25 }
set_option maxHeartbeats 4000000 in
set_option maxRecDepth 100000 in
theorem tX7_hall (l : Launch) (G : GG) (a : Nat → Nat) (a_book : Nat → Int32) (a_spare : Nat → Int32) (a_images : Nat → Int32) (a_kept : Nat → Int32) (a_text : Nat → Int32) (a_length : Int32) (a_refused : Nat → Int32) (a_items : Nat → Int32) (a_many : Int32) (a_at : Int32) (a_sort : Int32) (a_start : Int32) (a_size : Int32) (a_due : Nat → Int32) (a_rung : Nat → Int32) (a_anywhere : Nat → Int32) (p0 : Int32) (p1 : Int32) (out : Int32) (hf : fX7_hall a_book p0 p1 = some out) : cMi l G yX7_hall wsX7_hall rmX7_hall [.ref (a 0), .int p0, .int p1] (flat [wX7 G a a_book a_spare a_images a_kept a_text a_length a_refused a_items a_many a_at a_sort a_start a_size a_due a_rung a_anywhere]) out (flat [wX7 G a a_book a_spare a_images a_kept a_text a_length a_refused a_items a_many a_at a_sort a_start a_size a_due a_rung a_anywhere]) := by
  intro sz
  refine met_of (cc := cX7_hall) (nL := 3) (ret := (some .int)) (Qc := fun A9 => QI G A9 out (flat [wX7 G a a_book a_spare a_images a_kept a_text a_length a_refused a_items a_many a_at a_sort a_start a_size a_due a_rung a_anywhere])) (by decide) rfl (Nat.le_of_ble_eq_true rfl) ?_
  intro p e s m args below meth c A ls C hP hD hS hl
  obtain ⟨⟨hx, hb, hml, hown, hts⟩, hr, hlocks, hK, hN, hE, hA⟩ := id C
  have hl : lv_has ls 3 [(0, .ref (a 0)), (1, .int p0), (2, .int p1)] := hl
  unfold fX7_hall at hf
  refine lv_aload_n hx hb dX7_hall_0 rfl (lv_at hl 0 rfl) ?_
  refine lv_iload_n hx hb dX7_hall_1 rfl (lv_at hl 1 rfl) ?_
  refine lv_iload_n hx hb dX7_hall_2 rfl (lv_at hl 2 rfl) ?_
  refine lv_sipush (v := 255) hx hb dX7_hall_3 (by decide) ?_
  obtain ⟨g1, hg1, hf⟩ := o_b hf
  refine bVi C hP hD hS (tX7_sounds l G a a_book a_spare a_images a_kept a_text a_length a_refused a_items a_many a_at a_sort a_start a_size a_due a_rung a_anywhere p0 p1 255 g1 hg1) gX7_hall_X7_sounds rfl ⟨rfl, rfl⟩ hdX7_sounds ⟨Nat.le_of_ble_eq_true rfl, Nat.le_of_ble_eq_true rfl⟩ rfl hl.1 rfl (Nat.le_of_ble_eq_true rfl) ⟨Nat.le_of_ble_eq_true rfl, Nat.le_of_ble_eq_true rfl⟩ [0] rfl rfl rfl (setB_same _ _ _ rfl) rfl (ci := 7) (q0 := 0) rfl rfl rfl dX7_hall_6 (fun H locs hP hD hS => ?_)
  have e9 := Option.some.inj hf
  subst e9
  exact rt_i C hP hS rfl dX7_hall_9

/-! RX7 heard(II)I -/
theorem hdX7_heard : yX7_heard.cls = RX7 ∧ yX7_heard.cls ≠ "java/lang/invoke/MethodHandle" ∧ yX7_heard.cls ≠ "java/lang/invoke/VarHandle" ∧ (parseMethodDescriptor yX7_heard.desc).map (fun d => d.parameters.length) = some 2 := by decide +kernel
abbrev rmX7_heard : Room := { frames := 2, cells := 0, slots := 0, locals := 47 }
set_option maxHeartbeats 4000000 in
set_option maxRecDepth 100000 in
theorem tX7_heard (l : Launch) (G : GG) (a : Nat → Nat) (a_book : Nat → Int32) (a_spare : Nat → Int32) (a_images : Nat → Int32) (a_kept : Nat → Int32) (a_text : Nat → Int32) (a_length : Int32) (a_refused : Nat → Int32) (a_items : Nat → Int32) (a_many : Int32) (a_at : Int32) (a_sort : Int32) (a_start : Int32) (a_size : Int32) (a_due : Nat → Int32) (a_rung : Nat → Int32) (a_anywhere : Nat → Int32) (p0 : Int32) (p1 : Int32) (out : Int32 × (Nat → Int32)) (hf : fX7_heard a_book a_refused p0 p1 = some out) : cMi l G yX7_heard wsX7_heard rmX7_heard [.ref (a 0), .int p0, .int p1] (flat [wX7 G a a_book a_spare a_images a_kept a_text a_length a_refused a_items a_many a_at a_sort a_start a_size a_due a_rung a_anywhere]) out.1 (flat [wX7 G a a_book a_spare a_images a_kept a_text a_length out.2 a_items a_many a_at a_sort a_start a_size a_due a_rung a_anywhere]) := by
  intro sz
  refine met_of (cc := cX7_heard) (nL := 3) (ret := (some .int)) (Qc := fun A9 => QI G A9 out.1 (flat [wX7 G a a_book a_spare a_images a_kept a_text a_length out.2 a_items a_many a_at a_sort a_start a_size a_due a_rung a_anywhere])) (by decide) rfl (Nat.le_of_ble_eq_true rfl) ?_
  intro p e s m args below meth c A ls C hP hD hS hl
  obtain ⟨⟨hx, hb, hml, hown, hts⟩, hr, hlocks, hK, hN, hE, hA⟩ := id C
  have hl : lv_has ls 3 [(0, .ref (a 0)), (1, .int p0), (2, .int p1)] := hl
  unfold fX7_heard at hf
  refine lv_aload_n hx hb dX7_heard_0 rfl (lv_at hl 0 rfl) ?_
  refine lv_iload_n hx hb dX7_heard_1 rfl (lv_at hl 1 rfl) ?_
  obtain ⟨g1, hg1, hf⟩ := o_b hf
  refine bVi C hP hD hS (tX7_isOne l G a a_book a_spare a_images a_kept a_text a_length a_refused a_items a_many a_at a_sort a_start a_size a_due a_rung a_anywhere p0 g1 hg1) gX7_heard_X7_isOne rfl ⟨rfl, rfl⟩ hdX7_isOne ⟨Nat.le_of_ble_eq_true rfl, Nat.le_of_ble_eq_true rfl⟩ rfl hl.1 rfl (Nat.le_of_ble_eq_true rfl) ⟨Nat.le_of_ble_eq_true rfl, Nat.le_of_ble_eq_true rfl⟩ [0] rfl rfl rfl (setB_same _ _ _ rfl) rfl (ci := 7) (q0 := 0) rfl rfl rfl dX7_heard_2 (fun H locs hP hD hS => ?_)
  refine lv_if_eq (tgt := 26) hx hb dX7_heard_5 (by decide) (fun c2 => ?_) (fun c2 => ?_)
  · have hf := (o_i hf).1 c2
    refine lv_aload_n hx hb dX7_heard_26 rfl (lv_at hl 0 rfl) ?_
    obtain ⟨g3, hg3, hf⟩ := o_b hf
    refine bVi (Bs' := [wX7 G a a_book a_spare a_images a_kept a_text a_length g3.2 a_items a_many a_at a_sort a_start a_size a_due a_rung a_anywhere]) C hP hD hS (tX7_bad l G a a_book a_spare a_images a_kept a_text a_length a_refused a_items a_many a_at a_sort a_start a_size a_due a_rung a_anywhere g3 hg3) gX7_heard_X7_bad rfl ⟨rfl, rfl⟩ hdX7_bad ⟨Nat.le_of_ble_eq_true rfl, Nat.le_of_ble_eq_true rfl⟩ rfl hl.1 rfl (Nat.le_of_ble_eq_true rfl) ⟨Nat.le_of_ble_eq_true rfl, Nat.le_of_ble_eq_true rfl⟩ [0] rfl rfl rfl rfl rfl (ci := 7) (q0 := 0) rfl rfl rfl dX7_heard_27 (fun H locs hP hD hS => ?_)
    have hP : va_P G.1 vwCl (flat [wX7 G a a_book a_spare a_images a_kept a_text a_length g3.2 a_items a_many a_at a_sort a_start a_size a_due a_rung a_anywhere]) H := hP
    have hD : va_D A (flat [wX7 G a a_book a_spare a_images a_kept a_text a_length g3.2 a_items a_many a_at a_sort a_start a_size a_due a_rung a_anywhere]) := hD
    have e9 := Option.some.inj hf
    subst e9
    exact rt_i C hP hS rfl dX7_heard_30
  have hf := (o_i hf).2 c2
  refine lv_iload_n hx hb dX7_heard_8 rfl (lv_at hl 2 rfl) ?_
  refine lv_iconst (v := 0) hx hb dX7_heard_9 (by decide) ?_
  refine lv_iconst (v := 3) hx hb dX7_heard_10 (by decide) ?_
  obtain ⟨g4, hg4, hf⟩ := o_b hf
  refine bSi C hP hD hS (tX7_in l G p1 0 3 g4 hg4) gX7_heard_X7_in rfl ⟨rfl, rfl⟩ hdX7_in ⟨Nat.le_of_ble_eq_true rfl, Nat.le_of_ble_eq_true rfl⟩ rfl hl.1 rfl (Nat.le_of_ble_eq_true rfl) ⟨Nat.le_of_ble_eq_true rfl, Nat.le_of_ble_eq_true rfl⟩ [] rfl rfl rfl (setB_same _ _ _ rfl) rfl dX7_heard_11 (fun H locs hP hD hS => ?_)
  refine lv_if_eq (tgt := 26) hx hb dX7_heard_14 (by decide) (fun c5 => ?_) (fun c5 => ?_)
  · have hf := (o_i hf).1 c5
    refine lv_aload_n hx hb dX7_heard_26 rfl (lv_at hl 0 rfl) ?_
    obtain ⟨g6, hg6, hf⟩ := o_b hf
    refine bVi (Bs' := [wX7 G a a_book a_spare a_images a_kept a_text a_length g6.2 a_items a_many a_at a_sort a_start a_size a_due a_rung a_anywhere]) C hP hD hS (tX7_bad l G a a_book a_spare a_images a_kept a_text a_length a_refused a_items a_many a_at a_sort a_start a_size a_due a_rung a_anywhere g6 hg6) gX7_heard_X7_bad rfl ⟨rfl, rfl⟩ hdX7_bad ⟨Nat.le_of_ble_eq_true rfl, Nat.le_of_ble_eq_true rfl⟩ rfl hl.1 rfl (Nat.le_of_ble_eq_true rfl) ⟨Nat.le_of_ble_eq_true rfl, Nat.le_of_ble_eq_true rfl⟩ [0] rfl rfl rfl rfl rfl (ci := 7) (q0 := 0) rfl rfl rfl dX7_heard_27 (fun H locs hP hD hS => ?_)
    have hP : va_P G.1 vwCl (flat [wX7 G a a_book a_spare a_images a_kept a_text a_length g6.2 a_items a_many a_at a_sort a_start a_size a_due a_rung a_anywhere]) H := hP
    have hD : va_D A (flat [wX7 G a a_book a_spare a_images a_kept a_text a_length g6.2 a_items a_many a_at a_sort a_start a_size a_due a_rung a_anywhere]) := hD
    have e9 := Option.some.inj hf
    subst e9
    exact rt_i C hP hS rfl dX7_heard_30
  have hf := (o_i hf).2 c5
  refine lv_aload_n hx hb dX7_heard_17 rfl (lv_at hl 0 rfl) ?_
  refine lv_iload_n hx hb dX7_heard_18 rfl (lv_at hl 1 rfl) ?_
  refine lv_iload_n hx hb dX7_heard_19 rfl (lv_at hl 2 rfl) ?_
  obtain ⟨g7, hg7, hf⟩ := o_b hf
  refine bVi C hP hD hS (tX7_hall l G a a_book a_spare a_images a_kept a_text a_length a_refused a_items a_many a_at a_sort a_start a_size a_due a_rung a_anywhere p0 p1 g7 hg7) gX7_heard_X7_hall rfl ⟨rfl, rfl⟩ hdX7_hall ⟨Nat.le_of_ble_eq_true rfl, Nat.le_of_ble_eq_true rfl⟩ rfl hl.1 rfl (Nat.le_of_ble_eq_true rfl) ⟨Nat.le_of_ble_eq_true rfl, Nat.le_of_ble_eq_true rfl⟩ [0] rfl rfl rfl (setB_same _ _ _ rfl) rfl (ci := 7) (q0 := 0) rfl rfl rfl dX7_heard_20 (fun H locs hP hD hS => ?_)
  refine lv_goto (tgt := 30) hx hb dX7_heard_23 (by decide) ?_
  have e9 := Option.some.inj hf
  subst e9
  exact rt_i C hP hS rfl dX7_heard_30

/-! RX7 type(JI)I -/
theorem iiX7_type_X7 : ∀ w ∈ wsX70, w ∈ wsX7_type := by decide +kernel
theorem mmX7_type_1 : (Cond.fieldLink RX7 94 "BlindBellsModel" "length" "I") ∈ wsX7_type := by decide +kernel
theorem mmX7_type_2 : (Cond.fieldLink RX7 23 "BlindBellsModel" "text" "[I") ∈ wsX7_type := by decide +kernel
theorem mmX7_type_3 : (Cond.constantLong RX7 98 (255)) ∈ wsX7_type := by decide +kernel
theorem hdX7_type : yX7_type.cls = RX7 ∧ yX7_type.cls ≠ "java/lang/invoke/MethodHandle" ∧ yX7_type.cls ≠ "java/lang/invoke/VarHandle" ∧ (parseMethodDescriptor yX7_type.desc).map (fun d => d.parameters.length) = some 2 := by decide +kernel
abbrev rmX7_type : Room := { frames := 2, cells := 0, slots := 0, locals := 42 }
set_option maxHeartbeats 4000000 in
set_option maxRecDepth 100000 in
theorem lX7_type_40 {p : Program} {e : Env} {s : State} {m : MethodId} {args : Array Value} {below : List Frame} {meth : Method} {c : Code} {A : Nat → Prop} (l : Launch) (G : GG) (C : Cx p m c cX7_type 5 s args wsX7_type RX7 meth (some .int) G A) (a : Nat → Nat) (a_book : Nat → Int32) (a_spare : Nat → Int32) (a_images : Nat → Int32) (a_kept : Nat → Int32) (a_text : Nat → Int32) (a_length : Int32) (a_refused : Nat → Int32) (a_items : Nat → Int32) (a_many : Int32) (a_at : Int32) (a_sort : Int32) (a_start : Int32) (a_size : Int32) (a_due : Nat → Int32) (a_rung : Nat → Int32) (a_anywhere : Nat → Int32) (p0 : Int64) (p1 : Int32) (out : Int32 × (Nat → Int32) × Int32 × (Nat → Int32)) (kx : Int32 → (Nat → Int32) → Int32 → Option (Int32 × (Nat → Int32) × Int32 × (Nat → Int32))) (HX : ∀ (x4_40 : Int32) (a_text_40 : Nat → Int32) (a_length_40 : Int32) (H : Heap) (locs : List Loc) (ls : Array Slot), va_P G.1 vwCl (flat [wX7 G a a_book a_spare a_images a_kept a_text_40 a_length_40 a_refused a_items a_many a_at a_sort a_start a_size a_due a_rung a_anywhere]) H → va_D A (flat [wX7 G a a_book a_spare a_images a_kept a_text_40 a_length_40 a_refused a_items a_many a_at a_sort a_start a_size a_due a_rung a_anywhere]) → va_S A s.heap H locs → lv_has ls 5 [(0, .ref (a 0)), (1, .long p0), (3, .int p1), (4, .int x4_40)] → kx x4_40 a_text_40 a_length_40 = some out → W p l e rmX7_type s m args below meth c H locs 0 0 (MQ below (QI G A out.1 (flat [wX7 G a a_book a_spare a_images a_kept out.2.1 out.2.2.1 out.2.2.2 a_items a_many a_at a_sort a_start a_size a_due a_rung a_anywhere])) args s 0 0 A) (F0 m 82 ls [])) : ∀ (n : Nat) (x4_40 : Int32) (a_text_40 : Nat → Int32) (a_length_40 : Int32) (H : Heap) (locs : List Loc) (ls : Array Slot), va_P G.1 vwCl (flat [wX7 G a a_book a_spare a_images a_kept a_text_40 a_length_40 a_refused a_items a_many a_at a_sort a_start a_size a_due a_rung a_anywhere]) H → va_D A (flat [wX7 G a a_book a_spare a_images a_kept a_text_40 a_length_40 a_refused a_items a_many a_at a_sort a_start a_size a_due a_rung a_anywhere]) → va_S A s.heap H locs → lv_has ls 5 [(0, .ref (a 0)), (1, .long p0), (3, .int p1), (4, .int x4_40)] → fX7_type_40 p0 kx n x4_40 a_text_40 a_length_40 = some out → W p l e rmX7_type s m args below meth c H locs 0 0 (MQ below (QI G A out.1 (flat [wX7 G a a_book a_spare a_images a_kept out.2.1 out.2.2.1 out.2.2.2 a_items a_many a_at a_sort a_start a_size a_due a_rung a_anywhere])) args s 0 0 A) (F0 m 40 ls []) := by
  obtain ⟨⟨hx, hb, hml, hown, hts⟩, hr, hlocks, hK, hN, hE, hA⟩ := id C
  intro n
  induction n with
  | zero =>
    intro x4_40 a_text_40 a_length_40 H locs ls hP hD hS hl hf
    exact absurd (show (none : Option (Int32 × (Nat → Int32) × Int32 × (Nat → Int32))) = some out from hf) (by intro q9; cases q9)
  | succ n ih =>
    intro x4_40 a_text_40 a_length_40 H locs ls hP hD hS hl hf
    rw [fX7_type_40] at hf
    refine lv_iload hx hb dX7_type_40 (lv_at hl 3 rfl) ?_
    refine lv_if_lt (tgt := 82) hx hb dX7_type_42 (by decide) (fun c4 => ?_) (fun c4 => ?_)
    · have hf := (o_i hf).1 c4
      exact HX _ _ _ _ _ _ hP hD hS (lv_sub hl [0, 1, 2, 3] rfl) hf
    have hf := (o_i hf).2 c4
    refine lv_aload_n hx hb dX7_type_45 rfl (lv_at hl 0 rfl) ?_
    refine va_get (D := G.1) (ci := 7) (v := .ref (a 5)) (C := RX7) (T := TX7) (N := 16) hx hb hts iiX7_type_X7 hown hK hP 0 rfl rfl 4 (by decide) (hts _ mmX7_type_2) (fun _ h9 => h9) rfl dX7_type_46 ?_
    refine lv_aload_n hx hb dX7_type_49 rfl (lv_at hl 0 rfl) ?_
    refine va_get (D := G.1) (ci := 7) (v := .int a_length_40) (C := RX7) (T := TX7) (N := 16) hx hb hts iiX7_type_X7 hown hK hP 0 rfl rfl 5 (by decide) (hts _ mmX7_type_1) (fun _ h9 => h9) rfl dX7_type_50 ?_
    refine lv_lload_n hx hb dX7_type_53 rfl (lv_at hl 1 rfl) ?_
    refine lv_bipush (v := 8) hx hb dX7_type_54 (by decide) ?_
    refine lv_iload hx hb dX7_type_56 (lv_at hl 3 rfl) ?_
    refine lv_imul hx hb dX7_type_58 ?_
    refine lv_lshr (v := p0 >>> ((8 * x4_40).toInt64 &&& 63)) hx hb dX7_type_59 rfl ?_
    refine at_pc (pc' := 60) rfl ?_
    refine lv_ldc2 (v := 255) hx hb hown (hts _ mmX7_type_3) dX7_type_60 ?_
    refine lv_land hx hb dX7_type_63 ?_
    refine lv_l2i (v := ((p0 >>> ((8 * x4_40).toInt64 &&& 63)) &&& 255).toInt32) hx hb dX7_type_64 rfl ?_
    obtain ⟨u5, hu5, hf⟩ := o_b hf
    refine k_iast hx hb hK hP hD hS 5 0 rfl rfl hu5 dX7_type_65 (fun H locs hP hD hS => ?_)
    have hP : va_P G.1 vwCl (flat [wX7 G a a_book a_spare a_images a_kept u5 a_length_40 a_refused a_items a_many a_at a_sort a_start a_size a_due a_rung a_anywhere]) H := hP
    have hD : va_D A (flat [wX7 G a a_book a_spare a_images a_kept u5 a_length_40 a_refused a_items a_many a_at a_sort a_start a_size a_due a_rung a_anywhere]) := hD
    refine lv_aload_n hx hb dX7_type_66 rfl (lv_at hl 0 rfl) ?_
    refine lv_dup hx hb dX7_type_67 rfl ?_
    refine va_get (D := G.1) (ci := 7) (v := .int a_length_40) (C := RX7) (T := TX7) (N := 16) hx hb hts iiX7_type_X7 hown hK hP 0 rfl rfl 5 (by decide) (hts _ mmX7_type_1) (fun _ h9 => h9) rfl dX7_type_68 ?_
    refine lv_iconst (v := 1) hx hb dX7_type_71 (by decide) ?_
    refine lv_iadd hx hb dX7_type_72 ?_
    refine va_put (D := G.1) (ci := 7) (v := .int (a_length_40 + 1)) (ty := .int) (C := RX7) (T := TX7) (N := 16) hx hb hts iiX7_type_X7 tyX7 tyX7_ok nmX7 hown hK hP hD hS 0 rfl rfl 5 (by decide) (hts _ mmX7_type_1) (fun _ h9 => h9) rfl (by decide +kernel) rfl rfl (Nat.le_of_ble_eq_true rfl) dX7_type_73 (fun H locs hP hD hS => ?_)
    have hP : va_P G.1 vwCl (flat [wX7 G a a_book a_spare a_images a_kept u5 (a_length_40 + 1) a_refused a_items a_many a_at a_sort a_start a_size a_due a_rung a_anywhere]) H := hP
    have hD : va_D A (flat [wX7 G a a_book a_spare a_images a_kept u5 (a_length_40 + 1) a_refused a_items a_many a_at a_sort a_start a_size a_due a_rung a_anywhere]) := hD
    refine at_pc (pc' := 76) rfl ?_
    refine lv_iinc (v := x4_40 + (-1)) (lv' := [(4, .int (x4_40 + (-1))), (0, .ref (a 0)), (1, .long p0), (3, .int p1)]) hx hb dX7_type_76 hl (k := 3) rfl (congrArg (fun z => x4_40 + z) (by decide)) (by decide) rfl (fun ls hl => ?_)
    refine lv_goto (tgt := 40) hx hb dX7_type_79 (by decide) ?_
    exact ih _ _ _ _ _ _ hP hD hS (lv_sub hl [1, 2, 3, 0] rfl) hf
set_option maxHeartbeats 4000000 in
set_option maxRecDepth 100000 in
theorem tX7_type (l : Launch) (G : GG) (a : Nat → Nat) (a_book : Nat → Int32) (a_spare : Nat → Int32) (a_images : Nat → Int32) (a_kept : Nat → Int32) (a_text : Nat → Int32) (a_length : Int32) (a_refused : Nat → Int32) (a_items : Nat → Int32) (a_many : Int32) (a_at : Int32) (a_sort : Int32) (a_start : Int32) (a_size : Int32) (a_due : Nat → Int32) (a_rung : Nat → Int32) (a_anywhere : Nat → Int32) (p0 : Int64) (p1 : Int32) (out : Int32 × (Nat → Int32) × Int32 × (Nat → Int32)) (hf : fX7_type a_text a_length a_refused p0 p1 = some out) : cMi l G yX7_type wsX7_type rmX7_type [.ref (a 0), .long p0, .int p1] (flat [wX7 G a a_book a_spare a_images a_kept a_text a_length a_refused a_items a_many a_at a_sort a_start a_size a_due a_rung a_anywhere]) out.1 (flat [wX7 G a a_book a_spare a_images a_kept out.2.1 out.2.2.1 out.2.2.2 a_items a_many a_at a_sort a_start a_size a_due a_rung a_anywhere]) := by
  intro sz
  refine met_of (cc := cX7_type) (nL := 5) (ret := (some .int)) (Qc := fun A9 => QI G A9 out.1 (flat [wX7 G a a_book a_spare a_images a_kept out.2.1 out.2.2.1 out.2.2.2 a_items a_many a_at a_sort a_start a_size a_due a_rung a_anywhere])) (by decide) rfl (Nat.le_of_ble_eq_true rfl) ?_
  intro p e s m args below meth c A ls C hP hD hS hl
  obtain ⟨⟨hx, hb, hml, hown, hts⟩, hr, hlocks, hK, hN, hE, hA⟩ := id C
  have hl : lv_has ls 5 [(0, .ref (a 0)), (1, .long p0), (3, .int p1)] := hl
  unfold fX7_type at hf
  refine lv_iload_n hx hb dX7_type_0 rfl (lv_at hl 2 rfl) ?_
  refine lv_iconst (v := 1) hx hb dX7_type_1 (by decide) ?_
  refine lv_bipush (v := 8) hx hb dX7_type_2 (by decide) ?_
  obtain ⟨g1, hg1, hf⟩ := o_b hf
  refine bSi C hP hD hS (tX7_in l G p1 1 8 g1 hg1) gX7_type_X7_in rfl ⟨rfl, rfl⟩ hdX7_in ⟨Nat.le_of_ble_eq_true rfl, Nat.le_of_ble_eq_true rfl⟩ rfl hl.1 rfl (Nat.le_of_ble_eq_true rfl) ⟨Nat.le_of_ble_eq_true rfl, Nat.le_of_ble_eq_true rfl⟩ [] rfl rfl rfl (setB_same _ _ _ rfl) rfl dX7_type_4 (fun H locs hP hD hS => ?_)
  refine lv_if_ne (tgt := 15) hx hb dX7_type_7 (by decide) (fun c2 => ?_) (fun c2 => ?_)
  · have hf := (o_i hf).2 c2
    refine lv_aload_n hx hb dX7_type_15 rfl (lv_at hl 0 rfl) ?_
    refine va_get (D := G.1) (ci := 7) (v := .int a_length) (C := RX7) (T := TX7) (N := 16) hx hb hts iiX7_type_X7 hown hK hP 0 rfl rfl 5 (by decide) (hts _ mmX7_type_1) (fun _ h9 => h9) rfl dX7_type_16 ?_
    refine lv_iload_n hx hb dX7_type_19 rfl (lv_at hl 2 rfl) ?_
    refine lv_iadd hx hb dX7_type_20 ?_
    refine lv_sipush (v := 250) hx hb dX7_type_21 (by decide) ?_
    refine lv_icmp_le (tgt := 35) hx hb dX7_type_24 (by decide) (fun c3 => ?_) (fun c3 => ?_)
    · have hf := (o_i hf).1 c3
      refine lv_iload_n hx hb dX7_type_35 rfl (lv_at hl 2 rfl) ?_
      refine lv_iconst (v := 1) hx hb dX7_type_36 (by decide) ?_
      refine lv_isub hx hb dX7_type_37 ?_
      refine lv_istore (lv' := [(4, .int (p1 - 1)), (0, .ref (a 0)), (1, .long p0), (3, .int p1)]) hx hb dX7_type_38 hl (by decide) rfl (fun ls hl => ?_)
      refine lX7_type_40 l G C a a_book a_spare a_images a_kept a_text a_length a_refused a_items a_many a_at a_sort a_start a_size a_due a_rung a_anywhere p0 p1 out _ (fun x4_40_6 a_text_40_7 a_length_40_8 H locs ls hP hD hS hl hf => ?_) fu (p1 - 1) a_text a_length _ _ _ hP hD hS (lv_sub hl [1, 2, 3, 0] rfl) hf
      refine lv_aload_n hx hb dX7_type_82 rfl (lv_at hl 0 rfl) ?_
      refine va_get (D := G.1) (ci := 7) (v := .int a_length_40_8) (C := RX7) (T := TX7) (N := 16) hx hb hts iiX7_type_X7 hown hK hP 0 rfl rfl 5 (by decide) (hts _ mmX7_type_1) (fun _ h9 => h9) rfl dX7_type_83 ?_
      have e9 := Option.some.inj hf
      subst e9
      exact rt_i C hP hS rfl dX7_type_86
    have hf := (o_i hf).2 c3
    refine lv_aload_n hx hb dX7_type_27 rfl (lv_at hl 0 rfl) ?_
    refine lv_iconst (v := 2) hx hb dX7_type_28 (by decide) ?_
    refine lv_bipush (v := (-4)) hx hb dX7_type_29 (by decide) ?_
    obtain ⟨g9, hg9, hf⟩ := o_b hf
    refine bVi (Bs' := [wX7 G a a_book a_spare a_images a_kept a_text a_length g9.2 a_items a_many a_at a_sort a_start a_size a_due a_rung a_anywhere]) C hP hD hS (tX7_refuses l G a a_book a_spare a_images a_kept a_text a_length a_refused a_items a_many a_at a_sort a_start a_size a_due a_rung a_anywhere 2 ((-4)) g9 hg9) gX7_type_X7_refuses rfl ⟨rfl, rfl⟩ hdX7_refuses ⟨Nat.le_of_ble_eq_true rfl, Nat.le_of_ble_eq_true rfl⟩ rfl hl.1 rfl (Nat.le_of_ble_eq_true rfl) ⟨Nat.le_of_ble_eq_true rfl, Nat.le_of_ble_eq_true rfl⟩ [0] rfl rfl rfl rfl rfl (ci := 7) (q0 := 0) rfl rfl rfl dX7_type_31 (fun H locs hP hD hS => ?_)
    have hP : va_P G.1 vwCl (flat [wX7 G a a_book a_spare a_images a_kept a_text a_length g9.2 a_items a_many a_at a_sort a_start a_size a_due a_rung a_anywhere]) H := hP
    have hD : va_D A (flat [wX7 G a a_book a_spare a_images a_kept a_text a_length g9.2 a_items a_many a_at a_sort a_start a_size a_due a_rung a_anywhere]) := hD
    have e9 := Option.some.inj hf
    subst e9
    exact rt_i C hP hS rfl dX7_type_34
  have hf := (o_i hf).1 c2
  refine lv_aload_n hx hb dX7_type_10 rfl (lv_at hl 0 rfl) ?_
  obtain ⟨g10, hg10, hf⟩ := o_b hf
  refine bVi (Bs' := [wX7 G a a_book a_spare a_images a_kept a_text a_length g10.2 a_items a_many a_at a_sort a_start a_size a_due a_rung a_anywhere]) C hP hD hS (tX7_bad l G a a_book a_spare a_images a_kept a_text a_length a_refused a_items a_many a_at a_sort a_start a_size a_due a_rung a_anywhere g10 hg10) gX7_type_X7_bad rfl ⟨rfl, rfl⟩ hdX7_bad ⟨Nat.le_of_ble_eq_true rfl, Nat.le_of_ble_eq_true rfl⟩ rfl hl.1 rfl (Nat.le_of_ble_eq_true rfl) ⟨Nat.le_of_ble_eq_true rfl, Nat.le_of_ble_eq_true rfl⟩ [0] rfl rfl rfl rfl rfl (ci := 7) (q0 := 0) rfl rfl rfl dX7_type_11 (fun H locs hP hD hS => ?_)
  have hP : va_P G.1 vwCl (flat [wX7 G a a_book a_spare a_images a_kept a_text a_length g10.2 a_items a_many a_at a_sort a_start a_size a_due a_rung a_anywhere]) H := hP
  have hD : va_D A (flat [wX7 G a a_book a_spare a_images a_kept a_text a_length g10.2 a_items a_many a_at a_sort a_start a_size a_due a_rung a_anywhere]) := hD
  have e9 := Option.some.inj hf
  subst e9
  exact rt_i C hP hS rfl dX7_type_14

/-! RX7 clear()I -/
theorem iiX7_clear_X7 : ∀ w ∈ wsX70, w ∈ wsX7_clear := by decide +kernel
theorem mmX7_clear_1 : (Cond.fieldLink RX7 94 "BlindBellsModel" "length" "I") ∈ wsX7_clear := by decide +kernel
theorem hdX7_clear : yX7_clear.cls = RX7 ∧ yX7_clear.cls ≠ "java/lang/invoke/MethodHandle" ∧ yX7_clear.cls ≠ "java/lang/invoke/VarHandle" ∧ (parseMethodDescriptor yX7_clear.desc).map (fun d => d.parameters.length) = some 0 := by decide +kernel
abbrev rmX7_clear : Room := { frames := 0, cells := 0, slots := 0, locals := 0 }
set_option maxHeartbeats 4000000 in
set_option maxRecDepth 100000 in
theorem tX7_clear (l : Launch) (G : GG) (a : Nat → Nat) (a_book : Nat → Int32) (a_spare : Nat → Int32) (a_images : Nat → Int32) (a_kept : Nat → Int32) (a_text : Nat → Int32) (a_length : Int32) (a_refused : Nat → Int32) (a_items : Nat → Int32) (a_many : Int32) (a_at : Int32) (a_sort : Int32) (a_start : Int32) (a_size : Int32) (a_due : Nat → Int32) (a_rung : Nat → Int32) (a_anywhere : Nat → Int32) (out : Int32 × Int32) (hf : fX7_clear a_length = some out) : cMi l G yX7_clear wsX7_clear rmX7_clear [.ref (a 0)] (flat [wX7 G a a_book a_spare a_images a_kept a_text a_length a_refused a_items a_many a_at a_sort a_start a_size a_due a_rung a_anywhere]) out.1 (flat [wX7 G a a_book a_spare a_images a_kept a_text out.2 a_refused a_items a_many a_at a_sort a_start a_size a_due a_rung a_anywhere]) := by
  intro sz
  refine met_of (cc := cX7_clear) (nL := 2) (ret := (some .int)) (Qc := fun A9 => QI G A9 out.1 (flat [wX7 G a a_book a_spare a_images a_kept a_text out.2 a_refused a_items a_many a_at a_sort a_start a_size a_due a_rung a_anywhere])) (by decide) rfl (Nat.le_of_ble_eq_true rfl) ?_
  intro p e s m args below meth c A ls C hP hD hS hl
  obtain ⟨⟨hx, hb, hml, hown, hts⟩, hr, hlocks, hK, hN, hE, hA⟩ := id C
  have hl : lv_has ls 2 [(0, .ref (a 0))] := hl
  unfold fX7_clear at hf
  refine lv_aload_n hx hb dX7_clear_0 rfl (lv_at hl 0 rfl) ?_
  refine va_get (D := G.1) (ci := 7) (v := .int a_length) (C := RX7) (T := TX7) (N := 16) hx hb hts iiX7_clear_X7 hown hK hP 0 rfl rfl 5 (by decide) (hts _ mmX7_clear_1) (fun _ h9 => h9) rfl dX7_clear_1 ?_
  refine lv_istore_n (lv' := [(1, .int a_length), (0, .ref (a 0))]) hx hb dX7_clear_4 rfl hl (by decide) rfl (fun ls hl => ?_)
  refine lv_aload_n hx hb dX7_clear_5 rfl (lv_at hl 1 rfl) ?_
  refine lv_iconst (v := 0) hx hb dX7_clear_6 (by decide) ?_
  refine va_put (D := G.1) (ci := 7) (v := .int 0) (ty := .int) (C := RX7) (T := TX7) (N := 16) hx hb hts iiX7_clear_X7 tyX7 tyX7_ok nmX7 hown hK hP hD hS 0 rfl rfl 5 (by decide) (hts _ mmX7_clear_1) (fun _ h9 => h9) rfl (by decide +kernel) rfl rfl (Nat.le_of_ble_eq_true rfl) dX7_clear_7 (fun H locs hP hD hS => ?_)
  have hP : va_P G.1 vwCl (flat [wX7 G a a_book a_spare a_images a_kept a_text 0 a_refused a_items a_many a_at a_sort a_start a_size a_due a_rung a_anywhere]) H := hP
  have hD : va_D A (flat [wX7 G a a_book a_spare a_images a_kept a_text 0 a_refused a_items a_many a_at a_sort a_start a_size a_due a_rung a_anywhere]) := hD
  refine lv_iload_n hx hb dX7_clear_10 rfl (lv_at hl 0 rfl) ?_
  have e9 := Option.some.inj hf
  subst e9
  exact rt_i C hP hS rfl dX7_clear_11

/-! RX7 byteAt(I)I -/
theorem iiX7_byteAt_X7 : ∀ w ∈ wsX70, w ∈ wsX7_byteAt := by decide +kernel
theorem mmX7_byteAt_1 : (Cond.fieldLink RX7 94 "BlindBellsModel" "length" "I") ∈ wsX7_byteAt := by decide +kernel
theorem mmX7_byteAt_2 : (Cond.fieldLink RX7 23 "BlindBellsModel" "text" "[I") ∈ wsX7_byteAt := by decide +kernel
theorem hdX7_byteAt : yX7_byteAt.cls = RX7 ∧ yX7_byteAt.cls ≠ "java/lang/invoke/MethodHandle" ∧ yX7_byteAt.cls ≠ "java/lang/invoke/VarHandle" ∧ (parseMethodDescriptor yX7_byteAt.desc).map (fun d => d.parameters.length) = some 1 := by decide +kernel
abbrev rmX7_byteAt : Room := { frames := 0, cells := 0, slots := 0, locals := 0 }
set_option maxHeartbeats 4000000 in
set_option maxRecDepth 100000 in
theorem tX7_byteAt (l : Launch) (G : GG) (a : Nat → Nat) (a_book : Nat → Int32) (a_spare : Nat → Int32) (a_images : Nat → Int32) (a_kept : Nat → Int32) (a_text : Nat → Int32) (a_length : Int32) (a_refused : Nat → Int32) (a_items : Nat → Int32) (a_many : Int32) (a_at : Int32) (a_sort : Int32) (a_start : Int32) (a_size : Int32) (a_due : Nat → Int32) (a_rung : Nat → Int32) (a_anywhere : Nat → Int32) (p0 : Int32) (out : Int32) (hf : fX7_byteAt a_text a_length p0 = some out) : cMi l G yX7_byteAt wsX7_byteAt rmX7_byteAt [.ref (a 0), .int p0] (flat [wX7 G a a_book a_spare a_images a_kept a_text a_length a_refused a_items a_many a_at a_sort a_start a_size a_due a_rung a_anywhere]) out (flat [wX7 G a a_book a_spare a_images a_kept a_text a_length a_refused a_items a_many a_at a_sort a_start a_size a_due a_rung a_anywhere]) := by
  intro sz
  refine met_of (cc := cX7_byteAt) (nL := 2) (ret := (some .int)) (Qc := fun A9 => QI G A9 out (flat [wX7 G a a_book a_spare a_images a_kept a_text a_length a_refused a_items a_many a_at a_sort a_start a_size a_due a_rung a_anywhere])) (by decide) rfl (Nat.le_of_ble_eq_true rfl) ?_
  intro p e s m args below meth c A ls C hP hD hS hl
  obtain ⟨⟨hx, hb, hml, hown, hts⟩, hr, hlocks, hK, hN, hE, hA⟩ := id C
  have hl : lv_has ls 2 [(0, .ref (a 0)), (1, .int p0)] := hl
  unfold fX7_byteAt at hf
  refine lv_iload_n hx hb dX7_byteAt_0 rfl (lv_at hl 1 rfl) ?_
  refine lv_aload_n hx hb dX7_byteAt_1 rfl (lv_at hl 0 rfl) ?_
  refine va_get (D := G.1) (ci := 7) (v := .int a_length) (C := RX7) (T := TX7) (N := 16) hx hb hts iiX7_byteAt_X7 hown hK hP 0 rfl rfl 5 (by decide) (hts _ mmX7_byteAt_1) (fun _ h9 => h9) rfl dX7_byteAt_2 ?_
  refine lv_icmp_ge (tgt := 17) hx hb dX7_byteAt_5 (by decide) (fun c1 => ?_) (fun c1 => ?_)
  · have hf := (o_i hf).1 c1
    refine lv_iconst (v := (-1)) hx hb dX7_byteAt_17 (by decide) ?_
    have e9 := Option.some.inj hf
    subst e9
    exact rt_i C hP hS rfl dX7_byteAt_18
  have hf := (o_i hf).2 c1
  refine lv_aload_n hx hb dX7_byteAt_8 rfl (lv_at hl 0 rfl) ?_
  refine va_get (D := G.1) (ci := 7) (v := .ref (a 5)) (C := RX7) (T := TX7) (N := 16) hx hb hts iiX7_byteAt_X7 hown hK hP 0 rfl rfl 4 (by decide) (hts _ mmX7_byteAt_2) (fun _ h9 => h9) rfl dX7_byteAt_9 ?_
  refine lv_iload_n hx hb dX7_byteAt_12 rfl (lv_at hl 1 rfl) ?_
  obtain ⟨z2, hz2, hf⟩ := o_b hf
  refine k_iald hx hb hK hP 5 0 rfl rfl hz2 dX7_byteAt_13 ?_
  refine lv_goto (tgt := 18) hx hb dX7_byteAt_14 (by decide) ?_
  have e9 := Option.some.inj hf
  subst e9
  exact rt_i C hP hS rfl dX7_byteAt_18

/-! RX7 sortOf(I)I -/
theorem hdX7_sortOf : yX7_sortOf.cls ≠ "java/lang/invoke/MethodHandle" ∧ yX7_sortOf.cls ≠ "java/lang/invoke/VarHandle" ∧ (parseMethodDescriptor yX7_sortOf.desc).map (fun d => d.parameters.length) = some 1 := by decide +kernel
abbrev rmX7_sortOf : Room := { frames := 1, cells := 0, slots := 0, locals := 22 }
set_option maxHeartbeats 4000000 in
set_option maxRecDepth 100000 in
theorem tX7_sortOf (l : Launch) (G : GG) (p0 : Int32) (out : Int32) (hf : fX7_sortOf p0 = some out) : cMi l G yX7_sortOf wsX7_sortOf rmX7_sortOf [.int p0] (flat []) out (flat []) := by
  intro sz
  refine met_of (cc := cX7_sortOf) (nL := 1) (ret := (some .int)) (Qc := fun A9 => QI G A9 out (flat [])) (by decide) rfl (Nat.le_of_ble_eq_true rfl) ?_
  intro p e s m args below meth c A ls C hP hD hS hl
  obtain ⟨⟨hx, hb, hml, hown, hts⟩, hr, hlocks, hK, hN, hE, hA⟩ := id C
  have hl : lv_has ls 1 [(0, .int p0)] := hl
  unfold fX7_sortOf at hf
  refine lv_iload_n hx hb dX7_sortOf_0 rfl (lv_at hl 0 rfl) ?_
  refine lv_if_ge (tgt := 8) hx hb dX7_sortOf_1 (by decide) (fun c1 => ?_) (fun c1 => ?_)
  · have hf := (o_i hf).1 c1
    refine lv_iload_n hx hb dX7_sortOf_8 rfl (lv_at hl 0 rfl) ?_
    refine lv_bipush (v := 97) hx hb dX7_sortOf_9 (by decide) ?_
    refine lv_bipush (v := 122) hx hb dX7_sortOf_11 (by decide) ?_
    obtain ⟨g2, hg2, hf⟩ := o_b hf
    refine bSi C hP hD hS (tX7_in l G p0 97 122 g2 hg2) gX7_sortOf_X7_in rfl ⟨rfl, rfl⟩ hdX7_in ⟨Nat.le_of_ble_eq_true rfl, Nat.le_of_ble_eq_true rfl⟩ rfl hl.1 rfl (Nat.le_of_ble_eq_true rfl) ⟨Nat.le_of_ble_eq_true rfl, Nat.le_of_ble_eq_true rfl⟩ [] rfl rfl rfl (setB_same _ _ _ rfl) rfl dX7_sortOf_13 (fun H locs hP hD hS => ?_)
    refine lv_if_eq (tgt := 23) hx hb dX7_sortOf_16 (by decide) (fun c3 => ?_) (fun c3 => ?_)
    · have hf := (o_i hf).1 c3
      refine lv_iload_n hx hb dX7_sortOf_23 rfl (lv_at hl 0 rfl) ?_
      refine lv_bipush (v := 48) hx hb dX7_sortOf_24 (by decide) ?_
      refine lv_bipush (v := 57) hx hb dX7_sortOf_26 (by decide) ?_
      obtain ⟨g4, hg4, hf⟩ := o_b hf
      refine bSi C hP hD hS (tX7_in l G p0 48 57 g4 hg4) gX7_sortOf_X7_in rfl ⟨rfl, rfl⟩ hdX7_in ⟨Nat.le_of_ble_eq_true rfl, Nat.le_of_ble_eq_true rfl⟩ rfl hl.1 rfl (Nat.le_of_ble_eq_true rfl) ⟨Nat.le_of_ble_eq_true rfl, Nat.le_of_ble_eq_true rfl⟩ [] rfl rfl rfl (setB_same _ _ _ rfl) rfl dX7_sortOf_28 (fun H locs hP hD hS => ?_)
      refine lv_if_eq (tgt := 38) hx hb dX7_sortOf_31 (by decide) (fun c5 => ?_) (fun c5 => ?_)
      · have hf := (o_i hf).1 c5
        refine lv_iload_n hx hb dX7_sortOf_38 rfl (lv_at hl 0 rfl) ?_
        refine lv_bipush (v := 59) hx hb dX7_sortOf_39 (by decide) ?_
        refine lv_icmp_ne (tgt := 48) hx hb dX7_sortOf_41 (by decide) (fun c6 => ?_) (fun c6 => ?_)
        · have hf := (o_i hf).2 c6
          refine lv_iconst (v := 4) hx hb dX7_sortOf_48 (by decide) ?_
          have e9 := Option.some.inj hf
          subst e9
          exact rt_i C hP hS rfl dX7_sortOf_49
        have hf := (o_i hf).1 c6
        refine lv_iconst (v := 3) hx hb dX7_sortOf_44 (by decide) ?_
        refine lv_goto (tgt := 49) hx hb dX7_sortOf_45 (by decide) ?_
        have e9 := Option.some.inj hf
        subst e9
        exact rt_i C hP hS rfl dX7_sortOf_49
      have hf := (o_i hf).2 c5
      refine lv_iconst (v := 2) hx hb dX7_sortOf_34 (by decide) ?_
      refine lv_goto (tgt := 49) hx hb dX7_sortOf_35 (by decide) ?_
      have e9 := Option.some.inj hf
      subst e9
      exact rt_i C hP hS rfl dX7_sortOf_49
    have hf := (o_i hf).2 c3
    refine lv_iconst (v := 1) hx hb dX7_sortOf_19 (by decide) ?_
    refine lv_goto (tgt := 49) hx hb dX7_sortOf_20 (by decide) ?_
    have e9 := Option.some.inj hf
    subst e9
    exact rt_i C hP hS rfl dX7_sortOf_49
  have hf := (o_i hf).2 c1
  refine lv_iconst (v := 0) hx hb dX7_sortOf_4 (by decide) ?_
  refine lv_goto (tgt := 49) hx hb dX7_sortOf_5 (by decide) ?_
  have e9 := Option.some.inj hf
  subst e9
  exact rt_i C hP hS rfl dX7_sortOf_49

/-! RX7 token()V -/
theorem iiX7_token_X7 : ∀ w ∈ wsX70, w ∈ wsX7_token := by decide +kernel
theorem mmX7_token_1 : (Cond.fieldLink RX7 100 "BlindBellsModel" "at" "I") ∈ wsX7_token := by decide +kernel
theorem mmX7_token_2 : (Cond.fieldLink RX7 106 "BlindBellsModel" "start" "I") ∈ wsX7_token := by decide +kernel
theorem mmX7_token_3 : (Cond.fieldLink RX7 112 "BlindBellsModel" "sort" "I") ∈ wsX7_token := by decide +kernel
theorem mmX7_token_4 : (Cond.fieldLink RX7 115 "BlindBellsModel" "size" "I") ∈ wsX7_token := by decide +kernel
theorem hdX7_token : yX7_token.cls = RX7 ∧ yX7_token.cls ≠ "java/lang/invoke/MethodHandle" ∧ yX7_token.cls ≠ "java/lang/invoke/VarHandle" ∧ (parseMethodDescriptor yX7_token.desc).map (fun d => d.parameters.length) = some 0 := by decide +kernel
abbrev rmX7_token : Room := { frames := 2, cells := 0, slots := 0, locals := 42 }
set_option maxHeartbeats 4000000 in
set_option maxRecDepth 100000 in
theorem lX7_token_0 {p : Program} {e : Env} {s : State} {m : MethodId} {args : Array Value} {below : List Frame} {meth : Method} {c : Code} {A : Nat → Prop} (l : Launch) (G : GG) (C : Cx p m c cX7_token 1 s args wsX7_token RX7 meth none G A) (a : Nat → Nat) (a_book : Nat → Int32) (a_spare : Nat → Int32) (a_images : Nat → Int32) (a_kept : Nat → Int32) (a_text : Nat → Int32) (a_length : Int32) (a_refused : Nat → Int32) (a_items : Nat → Int32) (a_many : Int32) (a_at : Int32) (a_sort : Int32) (a_start : Int32) (a_size : Int32) (a_due : Nat → Int32) (a_rung : Nat → Int32) (a_anywhere : Nat → Int32)  (out : Int32 × Int32 × Int32 × Int32) (kx : Int32 → Option (Int32 × Int32 × Int32 × Int32)) (HX : ∀ (a_at_0 : Int32) (H : Heap) (locs : List Loc) (ls : Array Slot), va_P G.1 vwCl (flat [wX7 G a a_book a_spare a_images a_kept a_text a_length a_refused a_items a_many a_at_0 a_sort a_start a_size a_due a_rung a_anywhere]) H → va_D A (flat [wX7 G a a_book a_spare a_images a_kept a_text a_length a_refused a_items a_many a_at_0 a_sort a_start a_size a_due a_rung a_anywhere]) → va_S A s.heap H locs → lv_has ls 1 [(0, .ref (a 0))] → kx a_at_0 = some out → W p l e rmX7_token s m args below meth c H locs 0 0 (MQ below (QV G A (flat [wX7 G a a_book a_spare a_images a_kept a_text a_length a_refused a_items a_many out.1 out.2.1 out.2.2.1 out.2.2.2 a_due a_rung a_anywhere])) args s 0 0 A) (F0 m 26 ls [])) : ∀ (n : Nat) (a_at_0 : Int32) (H : Heap) (locs : List Loc) (ls : Array Slot), va_P G.1 vwCl (flat [wX7 G a a_book a_spare a_images a_kept a_text a_length a_refused a_items a_many a_at_0 a_sort a_start a_size a_due a_rung a_anywhere]) H → va_D A (flat [wX7 G a a_book a_spare a_images a_kept a_text a_length a_refused a_items a_many a_at_0 a_sort a_start a_size a_due a_rung a_anywhere]) → va_S A s.heap H locs → lv_has ls 1 [(0, .ref (a 0))] → fX7_token_0 a_text a_length kx n a_at_0 = some out → W p l e rmX7_token s m args below meth c H locs 0 0 (MQ below (QV G A (flat [wX7 G a a_book a_spare a_images a_kept a_text a_length a_refused a_items a_many out.1 out.2.1 out.2.2.1 out.2.2.2 a_due a_rung a_anywhere])) args s 0 0 A) (F0 m 0 ls []) := by
  obtain ⟨⟨hx, hb, hml, hown, hts⟩, hr, hlocks, hK, hN, hE, hA⟩ := id C
  intro n
  induction n with
  | zero =>
    intro a_at_0 H locs ls hP hD hS hl hf
    exact absurd (show (none : Option (Int32 × Int32 × Int32 × Int32)) = some out from hf) (by intro q9; cases q9)
  | succ n ih =>
    intro a_at_0 H locs ls hP hD hS hl hf
    rw [fX7_token_0] at hf
    refine lv_aload_n hx hb dX7_token_0 rfl (lv_at hl 0 rfl) ?_
    refine lv_aload_n hx hb dX7_token_1 rfl (lv_at hl 0 rfl) ?_
    refine va_get (D := G.1) (ci := 7) (v := .int a_at_0) (C := RX7) (T := TX7) (N := 16) hx hb hts iiX7_token_X7 hown hK hP 0 rfl rfl 9 (by decide) (hts _ mmX7_token_1) (fun _ h9 => h9) rfl dX7_token_2 ?_
    obtain ⟨g1, hg1, hf⟩ := o_b hf
    refine bVi C hP hD hS (tX7_byteAt l G a a_book a_spare a_images a_kept a_text a_length a_refused a_items a_many a_at_0 a_sort a_start a_size a_due a_rung a_anywhere a_at_0 g1 hg1) gX7_token_X7_byteAt rfl ⟨rfl, rfl⟩ hdX7_byteAt ⟨Nat.le_of_ble_eq_true rfl, Nat.le_of_ble_eq_true rfl⟩ rfl hl.1 rfl (Nat.le_of_ble_eq_true rfl) ⟨Nat.le_of_ble_eq_true rfl, Nat.le_of_ble_eq_true rfl⟩ [0] rfl rfl rfl (setB_same _ _ _ rfl) rfl (ci := 7) (q0 := 0) rfl rfl rfl dX7_token_5 (fun H locs hP hD hS => ?_)
    refine lv_bipush (v := 32) hx hb dX7_token_8 (by decide) ?_
    refine lv_icmp_ne (tgt := 26) hx hb dX7_token_10 (by decide) (fun c2 => ?_) (fun c2 => ?_)
    · have hf := (o_i hf).2 c2
      exact HX _ _ _ _ hP hD hS (lv_sub hl [0] rfl) hf
    have hf := (o_i hf).1 c2
    refine lv_aload_n hx hb dX7_token_13 rfl (lv_at hl 0 rfl) ?_
    refine lv_dup hx hb dX7_token_14 rfl ?_
    refine va_get (D := G.1) (ci := 7) (v := .int a_at_0) (C := RX7) (T := TX7) (N := 16) hx hb hts iiX7_token_X7 hown hK hP 0 rfl rfl 9 (by decide) (hts _ mmX7_token_1) (fun _ h9 => h9) rfl dX7_token_15 ?_
    refine lv_iconst (v := 1) hx hb dX7_token_18 (by decide) ?_
    refine lv_iadd hx hb dX7_token_19 ?_
    refine va_put (D := G.1) (ci := 7) (v := .int (a_at_0 + 1)) (ty := .int) (C := RX7) (T := TX7) (N := 16) hx hb hts iiX7_token_X7 tyX7 tyX7_ok nmX7 hown hK hP hD hS 0 rfl rfl 9 (by decide) (hts _ mmX7_token_1) (fun _ h9 => h9) rfl (by decide +kernel) rfl rfl (Nat.le_of_ble_eq_true rfl) dX7_token_20 (fun H locs hP hD hS => ?_)
    have hP : va_P G.1 vwCl (flat [wX7 G a a_book a_spare a_images a_kept a_text a_length a_refused a_items a_many (a_at_0 + 1) a_sort a_start a_size a_due a_rung a_anywhere]) H := hP
    have hD : va_D A (flat [wX7 G a a_book a_spare a_images a_kept a_text a_length a_refused a_items a_many (a_at_0 + 1) a_sort a_start a_size a_due a_rung a_anywhere]) := hD
    refine lv_goto (tgt := 0) hx hb dX7_token_23 (by decide) ?_
    exact ih _ _ _ _ hP hD hS (lv_sub hl [0] rfl) hf
set_option maxHeartbeats 4000000 in
set_option maxRecDepth 100000 in
theorem lX7_token_54 {p : Program} {e : Env} {s : State} {m : MethodId} {args : Array Value} {below : List Frame} {meth : Method} {c : Code} {A : Nat → Prop} (l : Launch) (G : GG) (C : Cx p m c cX7_token 1 s args wsX7_token RX7 meth none G A) (a : Nat → Nat) (a_book : Nat → Int32) (a_spare : Nat → Int32) (a_images : Nat → Int32) (a_kept : Nat → Int32) (a_text : Nat → Int32) (a_length : Int32) (a_refused : Nat → Int32) (a_items : Nat → Int32) (a_many : Int32) (a_at : Int32) (a_sort : Int32) (a_start : Int32) (a_size : Int32) (a_due : Nat → Int32) (a_rung : Nat → Int32) (a_anywhere : Nat → Int32) (a_at_0_3 : Int32) (g5 : Int32) (out : Int32 × Int32 × Int32 × Int32) (kx : Int32 → Int32 → Option (Int32 × Int32 × Int32 × Int32)) (HX : ∀ (a_at_54 : Int32) (a_size_54 : Int32) (H : Heap) (locs : List Loc) (ls : Array Slot), va_P G.1 vwCl (flat [wX7 G a a_book a_spare a_images a_kept a_text a_length a_refused a_items a_many a_at_54 g5 a_at_0_3 a_size_54 a_due a_rung a_anywhere]) H → va_D A (flat [wX7 G a a_book a_spare a_images a_kept a_text a_length a_refused a_items a_many a_at_54 g5 a_at_0_3 a_size_54 a_due a_rung a_anywhere]) → va_S A s.heap H locs → lv_has ls 1 [(0, .ref (a 0))] → kx a_at_54 a_size_54 = some out → W p l e rmX7_token s m args below meth c H locs 0 0 (MQ below (QV G A (flat [wX7 G a a_book a_spare a_images a_kept a_text a_length a_refused a_items a_many out.1 out.2.1 out.2.2.1 out.2.2.2 a_due a_rung a_anywhere])) args s 0 0 A) (F0 m 125 ls [])) : ∀ (n : Nat) (a_at_54 : Int32) (a_size_54 : Int32) (H : Heap) (locs : List Loc) (ls : Array Slot), va_P G.1 vwCl (flat [wX7 G a a_book a_spare a_images a_kept a_text a_length a_refused a_items a_many a_at_54 g5 a_at_0_3 a_size_54 a_due a_rung a_anywhere]) H → va_D A (flat [wX7 G a a_book a_spare a_images a_kept a_text a_length a_refused a_items a_many a_at_54 g5 a_at_0_3 a_size_54 a_due a_rung a_anywhere]) → va_S A s.heap H locs → lv_has ls 1 [(0, .ref (a 0))] → fX7_token_54 a_text a_length g5 kx n a_at_54 a_size_54 = some out → W p l e rmX7_token s m args below meth c H locs 0 0 (MQ below (QV G A (flat [wX7 G a a_book a_spare a_images a_kept a_text a_length a_refused a_items a_many out.1 out.2.1 out.2.2.1 out.2.2.2 a_due a_rung a_anywhere])) args s 0 0 A) (F0 m 54 ls []) := by
  obtain ⟨⟨hx, hb, hml, hown, hts⟩, hr, hlocks, hK, hN, hE, hA⟩ := id C
  intro n
  induction n with
  | zero =>
    intro a_at_54 a_size_54 H locs ls hP hD hS hl hf
    exact absurd (show (none : Option (Int32 × Int32 × Int32 × Int32)) = some out from hf) (by intro q9; cases q9)
  | succ n ih =>
    intro a_at_54 a_size_54 H locs ls hP hD hS hl hf
    rw [fX7_token_54] at hf
    refine lv_aload_n hx hb dX7_token_54 rfl (lv_at hl 0 rfl) ?_
    refine va_get (D := G.1) (ci := 7) (v := .int a_size_54) (C := RX7) (T := TX7) (N := 16) hx hb hts iiX7_token_X7 hown hK hP 0 rfl rfl 12 (by decide) (hts _ mmX7_token_4) (fun _ h9 => h9) rfl dX7_token_55 ?_
    refine lv_if_ne (tgt := 68) hx hb dX7_token_58 (by decide) (fun c6 => ?_) (fun c6 => ?_)
    · have hf := (o_i hf).2 c6
      refine lv_aload_n hx hb dX7_token_68 rfl (lv_at hl 0 rfl) ?_
      refine va_get (D := G.1) (ci := 7) (v := .int g5) (C := RX7) (T := TX7) (N := 16) hx hb hts iiX7_token_X7 hown hK hP 0 rfl rfl 10 (by decide) (hts _ mmX7_token_3) (fun _ h9 => h9) rfl dX7_token_69 ?_
      refine lv_iconst (v := 1) hx hb dX7_token_72 (by decide) ?_
      refine lv_icmp_eq (tgt := 84) hx hb dX7_token_73 (by decide) (fun c7 => ?_) (fun c7 => ?_)
      · have hf := (o_i hf).1 c7
        refine lv_aload_n hx hb dX7_token_84 rfl (lv_at hl 0 rfl) ?_
        refine lv_aload_n hx hb dX7_token_85 rfl (lv_at hl 0 rfl) ?_
        refine va_get (D := G.1) (ci := 7) (v := .int a_at_54) (C := RX7) (T := TX7) (N := 16) hx hb hts iiX7_token_X7 hown hK hP 0 rfl rfl 9 (by decide) (hts _ mmX7_token_1) (fun _ h9 => h9) rfl dX7_token_86 ?_
        obtain ⟨g8, hg8, hf⟩ := o_b hf
        refine bVi C hP hD hS (tX7_byteAt l G a a_book a_spare a_images a_kept a_text a_length a_refused a_items a_many a_at_54 g5 a_at_0_3 a_size_54 a_due a_rung a_anywhere a_at_54 g8 hg8) gX7_token_X7_byteAt rfl ⟨rfl, rfl⟩ hdX7_byteAt ⟨Nat.le_of_ble_eq_true rfl, Nat.le_of_ble_eq_true rfl⟩ rfl hl.1 rfl (Nat.le_of_ble_eq_true rfl) ⟨Nat.le_of_ble_eq_true rfl, Nat.le_of_ble_eq_true rfl⟩ [0] rfl rfl rfl (setB_same _ _ _ rfl) rfl (ci := 7) (q0 := 0) rfl rfl rfl dX7_token_89 (fun H locs hP hD hS => ?_)
        obtain ⟨g9, hg9, hf⟩ := o_b hf
        refine bSi C hP hD hS (tX7_sortOf l G g8 g9 hg9) gX7_token_X7_sortOf rfl ⟨rfl, rfl⟩ hdX7_sortOf ⟨Nat.le_of_ble_eq_true rfl, Nat.le_of_ble_eq_true rfl⟩ rfl hl.1 rfl (Nat.le_of_ble_eq_true rfl) ⟨Nat.le_of_ble_eq_true rfl, Nat.le_of_ble_eq_true rfl⟩ [] rfl rfl rfl (setB_same _ _ _ rfl) rfl dX7_token_92 (fun H locs hP hD hS => ?_)
        refine lv_aload_n hx hb dX7_token_95 rfl (lv_at hl 0 rfl) ?_
        refine va_get (D := G.1) (ci := 7) (v := .int g5) (C := RX7) (T := TX7) (N := 16) hx hb hts iiX7_token_X7 hown hK hP 0 rfl rfl 10 (by decide) (hts _ mmX7_token_3) (fun _ h9 => h9) rfl dX7_token_96 ?_
        refine lv_icmp_ne (tgt := 125) hx hb dX7_token_99 (by decide) (fun c10 => ?_) (fun c10 => ?_)
        · have hf := (o_i hf).2 c10
          exact HX _ _ _ _ _ hP hD hS (lv_sub hl [0] rfl) hf
        have hf := (o_i hf).1 c10
        refine lv_aload_n hx hb dX7_token_102 rfl (lv_at hl 0 rfl) ?_
        refine lv_dup hx hb dX7_token_103 rfl ?_
        refine va_get (D := G.1) (ci := 7) (v := .int a_at_54) (C := RX7) (T := TX7) (N := 16) hx hb hts iiX7_token_X7 hown hK hP 0 rfl rfl 9 (by decide) (hts _ mmX7_token_1) (fun _ h9 => h9) rfl dX7_token_104 ?_
        refine lv_iconst (v := 1) hx hb dX7_token_107 (by decide) ?_
        refine lv_iadd hx hb dX7_token_108 ?_
        refine va_put (D := G.1) (ci := 7) (v := .int (a_at_54 + 1)) (ty := .int) (C := RX7) (T := TX7) (N := 16) hx hb hts iiX7_token_X7 tyX7 tyX7_ok nmX7 hown hK hP hD hS 0 rfl rfl 9 (by decide) (hts _ mmX7_token_1) (fun _ h9 => h9) rfl (by decide +kernel) rfl rfl (Nat.le_of_ble_eq_true rfl) dX7_token_109 (fun H locs hP hD hS => ?_)
        have hP : va_P G.1 vwCl (flat [wX7 G a a_book a_spare a_images a_kept a_text a_length a_refused a_items a_many (a_at_54 + 1) g5 a_at_0_3 a_size_54 a_due a_rung a_anywhere]) H := hP
        have hD : va_D A (flat [wX7 G a a_book a_spare a_images a_kept a_text a_length a_refused a_items a_many (a_at_54 + 1) g5 a_at_0_3 a_size_54 a_due a_rung a_anywhere]) := hD
        refine lv_aload_n hx hb dX7_token_112 rfl (lv_at hl 0 rfl) ?_
        refine lv_dup hx hb dX7_token_113 rfl ?_
        refine va_get (D := G.1) (ci := 7) (v := .int a_size_54) (C := RX7) (T := TX7) (N := 16) hx hb hts iiX7_token_X7 hown hK hP 0 rfl rfl 12 (by decide) (hts _ mmX7_token_4) (fun _ h9 => h9) rfl dX7_token_114 ?_
        refine at_pc (pc' := 117) rfl ?_
        refine lv_iconst (v := 1) hx hb dX7_token_117 (by decide) ?_
        refine lv_iadd hx hb dX7_token_118 ?_
        refine va_put (D := G.1) (ci := 7) (v := .int (a_size_54 + 1)) (ty := .int) (C := RX7) (T := TX7) (N := 16) hx hb hts iiX7_token_X7 tyX7 tyX7_ok nmX7 hown hK hP hD hS 0 rfl rfl 12 (by decide) (hts _ mmX7_token_4) (fun _ h9 => h9) rfl (by decide +kernel) rfl rfl (Nat.le_of_ble_eq_true rfl) dX7_token_119 (fun H locs hP hD hS => ?_)
        have hP : va_P G.1 vwCl (flat [wX7 G a a_book a_spare a_images a_kept a_text a_length a_refused a_items a_many (a_at_54 + 1) g5 a_at_0_3 (a_size_54 + 1) a_due a_rung a_anywhere]) H := hP
        have hD : va_D A (flat [wX7 G a a_book a_spare a_images a_kept a_text a_length a_refused a_items a_many (a_at_54 + 1) g5 a_at_0_3 (a_size_54 + 1) a_due a_rung a_anywhere]) := hD
        refine lv_goto (tgt := 54) hx hb dX7_token_122 (by decide) ?_
        exact ih _ _ _ _ _ hP hD hS (lv_sub hl [0] rfl) hf
      have hf := (o_i hf).2 c7
      refine lv_aload_n hx hb dX7_token_76 rfl (lv_at hl 0 rfl) ?_
      refine va_get (D := G.1) (ci := 7) (v := .int g5) (C := RX7) (T := TX7) (N := 16) hx hb hts iiX7_token_X7 hown hK hP 0 rfl rfl 10 (by decide) (hts _ mmX7_token_3) (fun _ h9 => h9) rfl dX7_token_77 ?_
      refine lv_iconst (v := 2) hx hb dX7_token_80 (by decide) ?_
      refine lv_icmp_ne (tgt := 125) hx hb dX7_token_81 (by decide) (fun c11 => ?_) (fun c11 => ?_)
      · have hf := (o_i hf).2 c11
        exact HX _ _ _ _ _ hP hD hS (lv_sub hl [0] rfl) hf
      have hf := (o_i hf).1 c11
      refine lv_aload_n hx hb dX7_token_84 rfl (lv_at hl 0 rfl) ?_
      refine lv_aload_n hx hb dX7_token_85 rfl (lv_at hl 0 rfl) ?_
      refine va_get (D := G.1) (ci := 7) (v := .int a_at_54) (C := RX7) (T := TX7) (N := 16) hx hb hts iiX7_token_X7 hown hK hP 0 rfl rfl 9 (by decide) (hts _ mmX7_token_1) (fun _ h9 => h9) rfl dX7_token_86 ?_
      obtain ⟨g12, hg12, hf⟩ := o_b hf
      refine bVi C hP hD hS (tX7_byteAt l G a a_book a_spare a_images a_kept a_text a_length a_refused a_items a_many a_at_54 g5 a_at_0_3 a_size_54 a_due a_rung a_anywhere a_at_54 g12 hg12) gX7_token_X7_byteAt rfl ⟨rfl, rfl⟩ hdX7_byteAt ⟨Nat.le_of_ble_eq_true rfl, Nat.le_of_ble_eq_true rfl⟩ rfl hl.1 rfl (Nat.le_of_ble_eq_true rfl) ⟨Nat.le_of_ble_eq_true rfl, Nat.le_of_ble_eq_true rfl⟩ [0] rfl rfl rfl (setB_same _ _ _ rfl) rfl (ci := 7) (q0 := 0) rfl rfl rfl dX7_token_89 (fun H locs hP hD hS => ?_)
      obtain ⟨g13, hg13, hf⟩ := o_b hf
      refine bSi C hP hD hS (tX7_sortOf l G g12 g13 hg13) gX7_token_X7_sortOf rfl ⟨rfl, rfl⟩ hdX7_sortOf ⟨Nat.le_of_ble_eq_true rfl, Nat.le_of_ble_eq_true rfl⟩ rfl hl.1 rfl (Nat.le_of_ble_eq_true rfl) ⟨Nat.le_of_ble_eq_true rfl, Nat.le_of_ble_eq_true rfl⟩ [] rfl rfl rfl (setB_same _ _ _ rfl) rfl dX7_token_92 (fun H locs hP hD hS => ?_)
      refine lv_aload_n hx hb dX7_token_95 rfl (lv_at hl 0 rfl) ?_
      refine va_get (D := G.1) (ci := 7) (v := .int g5) (C := RX7) (T := TX7) (N := 16) hx hb hts iiX7_token_X7 hown hK hP 0 rfl rfl 10 (by decide) (hts _ mmX7_token_3) (fun _ h9 => h9) rfl dX7_token_96 ?_
      refine lv_icmp_ne (tgt := 125) hx hb dX7_token_99 (by decide) (fun c14 => ?_) (fun c14 => ?_)
      · have hf := (o_i hf).2 c14
        exact HX _ _ _ _ _ hP hD hS (lv_sub hl [0] rfl) hf
      have hf := (o_i hf).1 c14
      refine lv_aload_n hx hb dX7_token_102 rfl (lv_at hl 0 rfl) ?_
      refine lv_dup hx hb dX7_token_103 rfl ?_
      refine va_get (D := G.1) (ci := 7) (v := .int a_at_54) (C := RX7) (T := TX7) (N := 16) hx hb hts iiX7_token_X7 hown hK hP 0 rfl rfl 9 (by decide) (hts _ mmX7_token_1) (fun _ h9 => h9) rfl dX7_token_104 ?_
      refine lv_iconst (v := 1) hx hb dX7_token_107 (by decide) ?_
      refine lv_iadd hx hb dX7_token_108 ?_
      refine va_put (D := G.1) (ci := 7) (v := .int (a_at_54 + 1)) (ty := .int) (C := RX7) (T := TX7) (N := 16) hx hb hts iiX7_token_X7 tyX7 tyX7_ok nmX7 hown hK hP hD hS 0 rfl rfl 9 (by decide) (hts _ mmX7_token_1) (fun _ h9 => h9) rfl (by decide +kernel) rfl rfl (Nat.le_of_ble_eq_true rfl) dX7_token_109 (fun H locs hP hD hS => ?_)
      have hP : va_P G.1 vwCl (flat [wX7 G a a_book a_spare a_images a_kept a_text a_length a_refused a_items a_many (a_at_54 + 1) g5 a_at_0_3 a_size_54 a_due a_rung a_anywhere]) H := hP
      have hD : va_D A (flat [wX7 G a a_book a_spare a_images a_kept a_text a_length a_refused a_items a_many (a_at_54 + 1) g5 a_at_0_3 a_size_54 a_due a_rung a_anywhere]) := hD
      refine lv_aload_n hx hb dX7_token_112 rfl (lv_at hl 0 rfl) ?_
      refine lv_dup hx hb dX7_token_113 rfl ?_
      refine va_get (D := G.1) (ci := 7) (v := .int a_size_54) (C := RX7) (T := TX7) (N := 16) hx hb hts iiX7_token_X7 hown hK hP 0 rfl rfl 12 (by decide) (hts _ mmX7_token_4) (fun _ h9 => h9) rfl dX7_token_114 ?_
      refine at_pc (pc' := 117) rfl ?_
      refine lv_iconst (v := 1) hx hb dX7_token_117 (by decide) ?_
      refine lv_iadd hx hb dX7_token_118 ?_
      refine va_put (D := G.1) (ci := 7) (v := .int (a_size_54 + 1)) (ty := .int) (C := RX7) (T := TX7) (N := 16) hx hb hts iiX7_token_X7 tyX7 tyX7_ok nmX7 hown hK hP hD hS 0 rfl rfl 12 (by decide) (hts _ mmX7_token_4) (fun _ h9 => h9) rfl (by decide +kernel) rfl rfl (Nat.le_of_ble_eq_true rfl) dX7_token_119 (fun H locs hP hD hS => ?_)
      have hP : va_P G.1 vwCl (flat [wX7 G a a_book a_spare a_images a_kept a_text a_length a_refused a_items a_many (a_at_54 + 1) g5 a_at_0_3 (a_size_54 + 1) a_due a_rung a_anywhere]) H := hP
      have hD : va_D A (flat [wX7 G a a_book a_spare a_images a_kept a_text a_length a_refused a_items a_many (a_at_54 + 1) g5 a_at_0_3 (a_size_54 + 1) a_due a_rung a_anywhere]) := hD
      refine lv_goto (tgt := 54) hx hb dX7_token_122 (by decide) ?_
      exact ih _ _ _ _ _ hP hD hS (lv_sub hl [0] rfl) hf
    have hf := (o_i hf).1 c6
    refine lv_aload_n hx hb dX7_token_61 rfl (lv_at hl 0 rfl) ?_
    refine va_get (D := G.1) (ci := 7) (v := .int g5) (C := RX7) (T := TX7) (N := 16) hx hb hts iiX7_token_X7 hown hK hP 0 rfl rfl 10 (by decide) (hts _ mmX7_token_3) (fun _ h9 => h9) rfl dX7_token_62 ?_
    refine lv_if_ne (tgt := 102) hx hb dX7_token_65 (by decide) (fun c15 => ?_) (fun c15 => ?_)
    · have hf := (o_i hf).2 c15
      refine lv_aload_n hx hb dX7_token_102 rfl (lv_at hl 0 rfl) ?_
      refine lv_dup hx hb dX7_token_103 rfl ?_
      refine va_get (D := G.1) (ci := 7) (v := .int a_at_54) (C := RX7) (T := TX7) (N := 16) hx hb hts iiX7_token_X7 hown hK hP 0 rfl rfl 9 (by decide) (hts _ mmX7_token_1) (fun _ h9 => h9) rfl dX7_token_104 ?_
      refine lv_iconst (v := 1) hx hb dX7_token_107 (by decide) ?_
      refine lv_iadd hx hb dX7_token_108 ?_
      refine va_put (D := G.1) (ci := 7) (v := .int (a_at_54 + 1)) (ty := .int) (C := RX7) (T := TX7) (N := 16) hx hb hts iiX7_token_X7 tyX7 tyX7_ok nmX7 hown hK hP hD hS 0 rfl rfl 9 (by decide) (hts _ mmX7_token_1) (fun _ h9 => h9) rfl (by decide +kernel) rfl rfl (Nat.le_of_ble_eq_true rfl) dX7_token_109 (fun H locs hP hD hS => ?_)
      have hP : va_P G.1 vwCl (flat [wX7 G a a_book a_spare a_images a_kept a_text a_length a_refused a_items a_many (a_at_54 + 1) g5 a_at_0_3 a_size_54 a_due a_rung a_anywhere]) H := hP
      have hD : va_D A (flat [wX7 G a a_book a_spare a_images a_kept a_text a_length a_refused a_items a_many (a_at_54 + 1) g5 a_at_0_3 a_size_54 a_due a_rung a_anywhere]) := hD
      refine lv_aload_n hx hb dX7_token_112 rfl (lv_at hl 0 rfl) ?_
      refine lv_dup hx hb dX7_token_113 rfl ?_
      refine va_get (D := G.1) (ci := 7) (v := .int a_size_54) (C := RX7) (T := TX7) (N := 16) hx hb hts iiX7_token_X7 hown hK hP 0 rfl rfl 12 (by decide) (hts _ mmX7_token_4) (fun _ h9 => h9) rfl dX7_token_114 ?_
      refine at_pc (pc' := 117) rfl ?_
      refine lv_iconst (v := 1) hx hb dX7_token_117 (by decide) ?_
      refine lv_iadd hx hb dX7_token_118 ?_
      refine va_put (D := G.1) (ci := 7) (v := .int (a_size_54 + 1)) (ty := .int) (C := RX7) (T := TX7) (N := 16) hx hb hts iiX7_token_X7 tyX7 tyX7_ok nmX7 hown hK hP hD hS 0 rfl rfl 12 (by decide) (hts _ mmX7_token_4) (fun _ h9 => h9) rfl (by decide +kernel) rfl rfl (Nat.le_of_ble_eq_true rfl) dX7_token_119 (fun H locs hP hD hS => ?_)
      have hP : va_P G.1 vwCl (flat [wX7 G a a_book a_spare a_images a_kept a_text a_length a_refused a_items a_many (a_at_54 + 1) g5 a_at_0_3 (a_size_54 + 1) a_due a_rung a_anywhere]) H := hP
      have hD : va_D A (flat [wX7 G a a_book a_spare a_images a_kept a_text a_length a_refused a_items a_many (a_at_54 + 1) g5 a_at_0_3 (a_size_54 + 1) a_due a_rung a_anywhere]) := hD
      refine lv_goto (tgt := 54) hx hb dX7_token_122 (by decide) ?_
      exact ih _ _ _ _ _ hP hD hS (lv_sub hl [0] rfl) hf
    have hf := (o_i hf).1 c15
    refine lv_aload_n hx hb dX7_token_68 rfl (lv_at hl 0 rfl) ?_
    refine va_get (D := G.1) (ci := 7) (v := .int g5) (C := RX7) (T := TX7) (N := 16) hx hb hts iiX7_token_X7 hown hK hP 0 rfl rfl 10 (by decide) (hts _ mmX7_token_3) (fun _ h9 => h9) rfl dX7_token_69 ?_
    refine lv_iconst (v := 1) hx hb dX7_token_72 (by decide) ?_
    refine lv_icmp_eq (tgt := 84) hx hb dX7_token_73 (by decide) (fun c16 => ?_) (fun c16 => ?_)
    · have hf := (o_i hf).1 c16
      refine lv_aload_n hx hb dX7_token_84 rfl (lv_at hl 0 rfl) ?_
      refine lv_aload_n hx hb dX7_token_85 rfl (lv_at hl 0 rfl) ?_
      refine va_get (D := G.1) (ci := 7) (v := .int a_at_54) (C := RX7) (T := TX7) (N := 16) hx hb hts iiX7_token_X7 hown hK hP 0 rfl rfl 9 (by decide) (hts _ mmX7_token_1) (fun _ h9 => h9) rfl dX7_token_86 ?_
      obtain ⟨g17, hg17, hf⟩ := o_b hf
      refine bVi C hP hD hS (tX7_byteAt l G a a_book a_spare a_images a_kept a_text a_length a_refused a_items a_many a_at_54 g5 a_at_0_3 a_size_54 a_due a_rung a_anywhere a_at_54 g17 hg17) gX7_token_X7_byteAt rfl ⟨rfl, rfl⟩ hdX7_byteAt ⟨Nat.le_of_ble_eq_true rfl, Nat.le_of_ble_eq_true rfl⟩ rfl hl.1 rfl (Nat.le_of_ble_eq_true rfl) ⟨Nat.le_of_ble_eq_true rfl, Nat.le_of_ble_eq_true rfl⟩ [0] rfl rfl rfl (setB_same _ _ _ rfl) rfl (ci := 7) (q0 := 0) rfl rfl rfl dX7_token_89 (fun H locs hP hD hS => ?_)
      obtain ⟨g18, hg18, hf⟩ := o_b hf
      refine bSi C hP hD hS (tX7_sortOf l G g17 g18 hg18) gX7_token_X7_sortOf rfl ⟨rfl, rfl⟩ hdX7_sortOf ⟨Nat.le_of_ble_eq_true rfl, Nat.le_of_ble_eq_true rfl⟩ rfl hl.1 rfl (Nat.le_of_ble_eq_true rfl) ⟨Nat.le_of_ble_eq_true rfl, Nat.le_of_ble_eq_true rfl⟩ [] rfl rfl rfl (setB_same _ _ _ rfl) rfl dX7_token_92 (fun H locs hP hD hS => ?_)
      refine lv_aload_n hx hb dX7_token_95 rfl (lv_at hl 0 rfl) ?_
      refine va_get (D := G.1) (ci := 7) (v := .int g5) (C := RX7) (T := TX7) (N := 16) hx hb hts iiX7_token_X7 hown hK hP 0 rfl rfl 10 (by decide) (hts _ mmX7_token_3) (fun _ h9 => h9) rfl dX7_token_96 ?_
      refine lv_icmp_ne (tgt := 125) hx hb dX7_token_99 (by decide) (fun c19 => ?_) (fun c19 => ?_)
      · have hf := (o_i hf).2 c19
        exact HX _ _ _ _ _ hP hD hS (lv_sub hl [0] rfl) hf
      have hf := (o_i hf).1 c19
      refine lv_aload_n hx hb dX7_token_102 rfl (lv_at hl 0 rfl) ?_
      refine lv_dup hx hb dX7_token_103 rfl ?_
      refine va_get (D := G.1) (ci := 7) (v := .int a_at_54) (C := RX7) (T := TX7) (N := 16) hx hb hts iiX7_token_X7 hown hK hP 0 rfl rfl 9 (by decide) (hts _ mmX7_token_1) (fun _ h9 => h9) rfl dX7_token_104 ?_
      refine lv_iconst (v := 1) hx hb dX7_token_107 (by decide) ?_
      refine lv_iadd hx hb dX7_token_108 ?_
      refine va_put (D := G.1) (ci := 7) (v := .int (a_at_54 + 1)) (ty := .int) (C := RX7) (T := TX7) (N := 16) hx hb hts iiX7_token_X7 tyX7 tyX7_ok nmX7 hown hK hP hD hS 0 rfl rfl 9 (by decide) (hts _ mmX7_token_1) (fun _ h9 => h9) rfl (by decide +kernel) rfl rfl (Nat.le_of_ble_eq_true rfl) dX7_token_109 (fun H locs hP hD hS => ?_)
      have hP : va_P G.1 vwCl (flat [wX7 G a a_book a_spare a_images a_kept a_text a_length a_refused a_items a_many (a_at_54 + 1) g5 a_at_0_3 a_size_54 a_due a_rung a_anywhere]) H := hP
      have hD : va_D A (flat [wX7 G a a_book a_spare a_images a_kept a_text a_length a_refused a_items a_many (a_at_54 + 1) g5 a_at_0_3 a_size_54 a_due a_rung a_anywhere]) := hD
      refine lv_aload_n hx hb dX7_token_112 rfl (lv_at hl 0 rfl) ?_
      refine lv_dup hx hb dX7_token_113 rfl ?_
      refine va_get (D := G.1) (ci := 7) (v := .int a_size_54) (C := RX7) (T := TX7) (N := 16) hx hb hts iiX7_token_X7 hown hK hP 0 rfl rfl 12 (by decide) (hts _ mmX7_token_4) (fun _ h9 => h9) rfl dX7_token_114 ?_
      refine at_pc (pc' := 117) rfl ?_
      refine lv_iconst (v := 1) hx hb dX7_token_117 (by decide) ?_
      refine lv_iadd hx hb dX7_token_118 ?_
      refine va_put (D := G.1) (ci := 7) (v := .int (a_size_54 + 1)) (ty := .int) (C := RX7) (T := TX7) (N := 16) hx hb hts iiX7_token_X7 tyX7 tyX7_ok nmX7 hown hK hP hD hS 0 rfl rfl 12 (by decide) (hts _ mmX7_token_4) (fun _ h9 => h9) rfl (by decide +kernel) rfl rfl (Nat.le_of_ble_eq_true rfl) dX7_token_119 (fun H locs hP hD hS => ?_)
      have hP : va_P G.1 vwCl (flat [wX7 G a a_book a_spare a_images a_kept a_text a_length a_refused a_items a_many (a_at_54 + 1) g5 a_at_0_3 (a_size_54 + 1) a_due a_rung a_anywhere]) H := hP
      have hD : va_D A (flat [wX7 G a a_book a_spare a_images a_kept a_text a_length a_refused a_items a_many (a_at_54 + 1) g5 a_at_0_3 (a_size_54 + 1) a_due a_rung a_anywhere]) := hD
      refine lv_goto (tgt := 54) hx hb dX7_token_122 (by decide) ?_
      exact ih _ _ _ _ _ hP hD hS (lv_sub hl [0] rfl) hf
    have hf := (o_i hf).2 c16
    refine lv_aload_n hx hb dX7_token_76 rfl (lv_at hl 0 rfl) ?_
    refine va_get (D := G.1) (ci := 7) (v := .int g5) (C := RX7) (T := TX7) (N := 16) hx hb hts iiX7_token_X7 hown hK hP 0 rfl rfl 10 (by decide) (hts _ mmX7_token_3) (fun _ h9 => h9) rfl dX7_token_77 ?_
    refine lv_iconst (v := 2) hx hb dX7_token_80 (by decide) ?_
    refine lv_icmp_ne (tgt := 125) hx hb dX7_token_81 (by decide) (fun c20 => ?_) (fun c20 => ?_)
    · have hf := (o_i hf).2 c20
      exact HX _ _ _ _ _ hP hD hS (lv_sub hl [0] rfl) hf
    have hf := (o_i hf).1 c20
    refine lv_aload_n hx hb dX7_token_84 rfl (lv_at hl 0 rfl) ?_
    refine lv_aload_n hx hb dX7_token_85 rfl (lv_at hl 0 rfl) ?_
    refine va_get (D := G.1) (ci := 7) (v := .int a_at_54) (C := RX7) (T := TX7) (N := 16) hx hb hts iiX7_token_X7 hown hK hP 0 rfl rfl 9 (by decide) (hts _ mmX7_token_1) (fun _ h9 => h9) rfl dX7_token_86 ?_
    obtain ⟨g21, hg21, hf⟩ := o_b hf
    refine bVi C hP hD hS (tX7_byteAt l G a a_book a_spare a_images a_kept a_text a_length a_refused a_items a_many a_at_54 g5 a_at_0_3 a_size_54 a_due a_rung a_anywhere a_at_54 g21 hg21) gX7_token_X7_byteAt rfl ⟨rfl, rfl⟩ hdX7_byteAt ⟨Nat.le_of_ble_eq_true rfl, Nat.le_of_ble_eq_true rfl⟩ rfl hl.1 rfl (Nat.le_of_ble_eq_true rfl) ⟨Nat.le_of_ble_eq_true rfl, Nat.le_of_ble_eq_true rfl⟩ [0] rfl rfl rfl (setB_same _ _ _ rfl) rfl (ci := 7) (q0 := 0) rfl rfl rfl dX7_token_89 (fun H locs hP hD hS => ?_)
    obtain ⟨g22, hg22, hf⟩ := o_b hf
    refine bSi C hP hD hS (tX7_sortOf l G g21 g22 hg22) gX7_token_X7_sortOf rfl ⟨rfl, rfl⟩ hdX7_sortOf ⟨Nat.le_of_ble_eq_true rfl, Nat.le_of_ble_eq_true rfl⟩ rfl hl.1 rfl (Nat.le_of_ble_eq_true rfl) ⟨Nat.le_of_ble_eq_true rfl, Nat.le_of_ble_eq_true rfl⟩ [] rfl rfl rfl (setB_same _ _ _ rfl) rfl dX7_token_92 (fun H locs hP hD hS => ?_)
    refine lv_aload_n hx hb dX7_token_95 rfl (lv_at hl 0 rfl) ?_
    refine va_get (D := G.1) (ci := 7) (v := .int g5) (C := RX7) (T := TX7) (N := 16) hx hb hts iiX7_token_X7 hown hK hP 0 rfl rfl 10 (by decide) (hts _ mmX7_token_3) (fun _ h9 => h9) rfl dX7_token_96 ?_
    refine lv_icmp_ne (tgt := 125) hx hb dX7_token_99 (by decide) (fun c23 => ?_) (fun c23 => ?_)
    · have hf := (o_i hf).2 c23
      exact HX _ _ _ _ _ hP hD hS (lv_sub hl [0] rfl) hf
    have hf := (o_i hf).1 c23
    refine lv_aload_n hx hb dX7_token_102 rfl (lv_at hl 0 rfl) ?_
    refine lv_dup hx hb dX7_token_103 rfl ?_
    refine va_get (D := G.1) (ci := 7) (v := .int a_at_54) (C := RX7) (T := TX7) (N := 16) hx hb hts iiX7_token_X7 hown hK hP 0 rfl rfl 9 (by decide) (hts _ mmX7_token_1) (fun _ h9 => h9) rfl dX7_token_104 ?_
    refine lv_iconst (v := 1) hx hb dX7_token_107 (by decide) ?_
    refine lv_iadd hx hb dX7_token_108 ?_
    refine va_put (D := G.1) (ci := 7) (v := .int (a_at_54 + 1)) (ty := .int) (C := RX7) (T := TX7) (N := 16) hx hb hts iiX7_token_X7 tyX7 tyX7_ok nmX7 hown hK hP hD hS 0 rfl rfl 9 (by decide) (hts _ mmX7_token_1) (fun _ h9 => h9) rfl (by decide +kernel) rfl rfl (Nat.le_of_ble_eq_true rfl) dX7_token_109 (fun H locs hP hD hS => ?_)
    have hP : va_P G.1 vwCl (flat [wX7 G a a_book a_spare a_images a_kept a_text a_length a_refused a_items a_many (a_at_54 + 1) g5 a_at_0_3 a_size_54 a_due a_rung a_anywhere]) H := hP
    have hD : va_D A (flat [wX7 G a a_book a_spare a_images a_kept a_text a_length a_refused a_items a_many (a_at_54 + 1) g5 a_at_0_3 a_size_54 a_due a_rung a_anywhere]) := hD
    refine lv_aload_n hx hb dX7_token_112 rfl (lv_at hl 0 rfl) ?_
    refine lv_dup hx hb dX7_token_113 rfl ?_
    refine va_get (D := G.1) (ci := 7) (v := .int a_size_54) (C := RX7) (T := TX7) (N := 16) hx hb hts iiX7_token_X7 hown hK hP 0 rfl rfl 12 (by decide) (hts _ mmX7_token_4) (fun _ h9 => h9) rfl dX7_token_114 ?_
    refine at_pc (pc' := 117) rfl ?_
    refine lv_iconst (v := 1) hx hb dX7_token_117 (by decide) ?_
    refine lv_iadd hx hb dX7_token_118 ?_
    refine va_put (D := G.1) (ci := 7) (v := .int (a_size_54 + 1)) (ty := .int) (C := RX7) (T := TX7) (N := 16) hx hb hts iiX7_token_X7 tyX7 tyX7_ok nmX7 hown hK hP hD hS 0 rfl rfl 12 (by decide) (hts _ mmX7_token_4) (fun _ h9 => h9) rfl (by decide +kernel) rfl rfl (Nat.le_of_ble_eq_true rfl) dX7_token_119 (fun H locs hP hD hS => ?_)
    have hP : va_P G.1 vwCl (flat [wX7 G a a_book a_spare a_images a_kept a_text a_length a_refused a_items a_many (a_at_54 + 1) g5 a_at_0_3 (a_size_54 + 1) a_due a_rung a_anywhere]) H := hP
    have hD : va_D A (flat [wX7 G a a_book a_spare a_images a_kept a_text a_length a_refused a_items a_many (a_at_54 + 1) g5 a_at_0_3 (a_size_54 + 1) a_due a_rung a_anywhere]) := hD
    refine lv_goto (tgt := 54) hx hb dX7_token_122 (by decide) ?_
    exact ih _ _ _ _ _ hP hD hS (lv_sub hl [0] rfl) hf
set_option maxHeartbeats 4000000 in
set_option maxRecDepth 100000 in
theorem tX7_token (l : Launch) (G : GG) (a : Nat → Nat) (a_book : Nat → Int32) (a_spare : Nat → Int32) (a_images : Nat → Int32) (a_kept : Nat → Int32) (a_text : Nat → Int32) (a_length : Int32) (a_refused : Nat → Int32) (a_items : Nat → Int32) (a_many : Int32) (a_at : Int32) (a_sort : Int32) (a_start : Int32) (a_size : Int32) (a_due : Nat → Int32) (a_rung : Nat → Int32) (a_anywhere : Nat → Int32) (out : Int32 × Int32 × Int32 × Int32) (hf : fX7_token a_text a_length a_at = some out) : cMv l G yX7_token wsX7_token rmX7_token [.ref (a 0)] (flat [wX7 G a a_book a_spare a_images a_kept a_text a_length a_refused a_items a_many a_at a_sort a_start a_size a_due a_rung a_anywhere]) (flat [wX7 G a a_book a_spare a_images a_kept a_text a_length a_refused a_items a_many out.1 out.2.1 out.2.2.1 out.2.2.2 a_due a_rung a_anywhere]) := by
  intro sz
  refine met_of (cc := cX7_token) (nL := 1) (ret := none) (Qc := fun A9 => QV G A9 (flat [wX7 G a a_book a_spare a_images a_kept a_text a_length a_refused a_items a_many out.1 out.2.1 out.2.2.1 out.2.2.2 a_due a_rung a_anywhere])) (by decide) rfl (Nat.le_of_ble_eq_true rfl) ?_
  intro p e s m args below meth c A ls C hP hD hS hl
  obtain ⟨⟨hx, hb, hml, hown, hts⟩, hr, hlocks, hK, hN, hE, hA⟩ := id C
  have hl : lv_has ls 1 [(0, .ref (a 0))] := hl
  unfold fX7_token at hf
  refine lX7_token_0 l G C a a_book a_spare a_images a_kept a_text a_length a_refused a_items a_many a_at a_sort a_start a_size a_due a_rung a_anywhere out _ (fun a_at_0_3 H locs ls hP hD hS hl hf => ?_) fu a_at _ _ _ hP hD hS (lv_sub hl [0] rfl) hf
  refine lv_aload_n hx hb dX7_token_26 rfl (lv_at hl 0 rfl) ?_
  refine lv_aload_n hx hb dX7_token_27 rfl (lv_at hl 0 rfl) ?_
  refine va_get (D := G.1) (ci := 7) (v := .int a_at_0_3) (C := RX7) (T := TX7) (N := 16) hx hb hts iiX7_token_X7 hown hK hP 0 rfl rfl 9 (by decide) (hts _ mmX7_token_1) (fun _ h9 => h9) rfl dX7_token_28 ?_
  refine va_put (D := G.1) (ci := 7) (v := .int a_at_0_3) (ty := .int) (C := RX7) (T := TX7) (N := 16) hx hb hts iiX7_token_X7 tyX7 tyX7_ok nmX7 hown hK hP hD hS 0 rfl rfl 11 (by decide) (hts _ mmX7_token_2) (fun _ h9 => h9) rfl (by decide +kernel) rfl rfl (Nat.le_of_ble_eq_true rfl) dX7_token_31 (fun H locs hP hD hS => ?_)
  have hP : va_P G.1 vwCl (flat [wX7 G a a_book a_spare a_images a_kept a_text a_length a_refused a_items a_many a_at_0_3 a_sort a_at_0_3 a_size a_due a_rung a_anywhere]) H := hP
  have hD : va_D A (flat [wX7 G a a_book a_spare a_images a_kept a_text a_length a_refused a_items a_many a_at_0_3 a_sort a_at_0_3 a_size a_due a_rung a_anywhere]) := hD
  refine lv_aload_n hx hb dX7_token_34 rfl (lv_at hl 0 rfl) ?_
  refine lv_aload_n hx hb dX7_token_35 rfl (lv_at hl 0 rfl) ?_
  refine lv_aload_n hx hb dX7_token_36 rfl (lv_at hl 0 rfl) ?_
  refine va_get (D := G.1) (ci := 7) (v := .int a_at_0_3) (C := RX7) (T := TX7) (N := 16) hx hb hts iiX7_token_X7 hown hK hP 0 rfl rfl 9 (by decide) (hts _ mmX7_token_1) (fun _ h9 => h9) rfl dX7_token_37 ?_
  obtain ⟨g4, hg4, hf⟩ := o_b hf
  refine bVi C hP hD hS (tX7_byteAt l G a a_book a_spare a_images a_kept a_text a_length a_refused a_items a_many a_at_0_3 a_sort a_at_0_3 a_size a_due a_rung a_anywhere a_at_0_3 g4 hg4) gX7_token_X7_byteAt rfl ⟨rfl, rfl⟩ hdX7_byteAt ⟨Nat.le_of_ble_eq_true rfl, Nat.le_of_ble_eq_true rfl⟩ rfl hl.1 rfl (Nat.le_of_ble_eq_true rfl) ⟨Nat.le_of_ble_eq_true rfl, Nat.le_of_ble_eq_true rfl⟩ [0] rfl rfl rfl (setB_same _ _ _ rfl) rfl (ci := 7) (q0 := 0) rfl rfl rfl dX7_token_40 (fun H locs hP hD hS => ?_)
  refine at_pc (pc' := 43) rfl ?_
  obtain ⟨g5, hg5, hf⟩ := o_b hf
  refine bSi C hP hD hS (tX7_sortOf l G g4 g5 hg5) gX7_token_X7_sortOf rfl ⟨rfl, rfl⟩ hdX7_sortOf ⟨Nat.le_of_ble_eq_true rfl, Nat.le_of_ble_eq_true rfl⟩ rfl hl.1 rfl (Nat.le_of_ble_eq_true rfl) ⟨Nat.le_of_ble_eq_true rfl, Nat.le_of_ble_eq_true rfl⟩ [] rfl rfl rfl (setB_same _ _ _ rfl) rfl dX7_token_43 (fun H locs hP hD hS => ?_)
  refine va_put (D := G.1) (ci := 7) (v := .int g5) (ty := .int) (C := RX7) (T := TX7) (N := 16) hx hb hts iiX7_token_X7 tyX7 tyX7_ok nmX7 hown hK hP hD hS 0 rfl rfl 10 (by decide) (hts _ mmX7_token_3) (fun _ h9 => h9) rfl (by decide +kernel) rfl rfl (Nat.le_of_ble_eq_true rfl) dX7_token_46 (fun H locs hP hD hS => ?_)
  have hP : va_P G.1 vwCl (flat [wX7 G a a_book a_spare a_images a_kept a_text a_length a_refused a_items a_many a_at_0_3 g5 a_at_0_3 a_size a_due a_rung a_anywhere]) H := hP
  have hD : va_D A (flat [wX7 G a a_book a_spare a_images a_kept a_text a_length a_refused a_items a_many a_at_0_3 g5 a_at_0_3 a_size a_due a_rung a_anywhere]) := hD
  refine lv_aload_n hx hb dX7_token_49 rfl (lv_at hl 0 rfl) ?_
  refine lv_iconst (v := 0) hx hb dX7_token_50 (by decide) ?_
  refine va_put (D := G.1) (ci := 7) (v := .int 0) (ty := .int) (C := RX7) (T := TX7) (N := 16) hx hb hts iiX7_token_X7 tyX7 tyX7_ok nmX7 hown hK hP hD hS 0 rfl rfl 12 (by decide) (hts _ mmX7_token_4) (fun _ h9 => h9) rfl (by decide +kernel) rfl rfl (Nat.le_of_ble_eq_true rfl) dX7_token_51 (fun H locs hP hD hS => ?_)
  have hP : va_P G.1 vwCl (flat [wX7 G a a_book a_spare a_images a_kept a_text a_length a_refused a_items a_many a_at_0_3 g5 a_at_0_3 0 a_due a_rung a_anywhere]) H := hP
  have hD : va_D A (flat [wX7 G a a_book a_spare a_images a_kept a_text a_length a_refused a_items a_many a_at_0_3 g5 a_at_0_3 0 a_due a_rung a_anywhere]) := hD
  refine lX7_token_54 l G C a a_book a_spare a_images a_kept a_text a_length a_refused a_items a_many a_at a_sort a_start a_size a_due a_rung a_anywhere a_at_0_3 g5 out _ (fun a_at_54_24 a_size_54_25 H locs ls hP hD hS hl hf => ?_) fu a_at_0_3 0 _ _ _ hP hD hS (lv_sub hl [0] rfl) hf
  have e9 := Option.some.inj hf
  subst e9
  exact rt_v C hP hS dX7_token_125

/-! RX7 verb()I -/
theorem iiX7_verb_X7 : ∀ w ∈ wsX70, w ∈ wsX7_verb := by decide +kernel
theorem mmX7_verb_1 : (Cond.fieldLink RX7 115 "BlindBellsModel" "size" "I") ∈ wsX7_verb := by decide +kernel
theorem mmX7_verb_2 : (Cond.fieldLink RX7 112 "BlindBellsModel" "sort" "I") ∈ wsX7_verb := by decide +kernel
theorem mmX7_verb_3 : (Cond.constantLong RX7 118 (256)) ∈ wsX7_verb := by decide +kernel
theorem mmX7_verb_4 : (Cond.fieldLink RX7 106 "BlindBellsModel" "start" "I") ∈ wsX7_verb := by decide +kernel
theorem mmX7_verb_5 : (Cond.constantLong RX7 120 (8532470181776549235)) ∈ wsX7_verb := by decide +kernel
theorem mmX7_verb_6 : (Cond.constantLong RX7 122 (448377483891)) ∈ wsX7_verb := by decide +kernel
theorem mmX7_verb_7 : (Cond.constantLong RX7 124 (2003791716)) ∈ wsX7_verb := by decide +kernel
theorem mmX7_verb_8 : (Cond.constantLong RX7 126 (127978976601458)) ∈ wsX7_verb := by decide +kernel
theorem mmX7_verb_9 : (Cond.constantLong RX7 128 (112641580559972)) ∈ wsX7_verb := by decide +kernel
theorem mmX7_verb_10 : (Cond.constantLong RX7 130 (1852138852)) ∈ wsX7_verb := by decide +kernel
theorem hdX7_verb : yX7_verb.cls = RX7 ∧ yX7_verb.cls ≠ "java/lang/invoke/MethodHandle" ∧ yX7_verb.cls ≠ "java/lang/invoke/VarHandle" ∧ (parseMethodDescriptor yX7_verb.desc).map (fun d => d.parameters.length) = some 0 := by decide +kernel
abbrev rmX7_verb : Room := { frames := 1, cells := 0, slots := 0, locals := 21 }
set_option maxHeartbeats 4000000 in
set_option maxRecDepth 100000 in
theorem lX7_verb_4 {p : Program} {e : Env} {s : State} {m : MethodId} {args : Array Value} {below : List Frame} {meth : Method} {c : Code} {A : Nat → Prop} (l : Launch) (G : GG) (C : Cx p m c cX7_verb 4 s args wsX7_verb RX7 meth (some .int) G A) (a : Nat → Nat) (a_book : Nat → Int32) (a_spare : Nat → Int32) (a_images : Nat → Int32) (a_kept : Nat → Int32) (a_text : Nat → Int32) (a_length : Int32) (a_refused : Nat → Int32) (a_items : Nat → Int32) (a_many : Int32) (a_at : Int32) (a_sort : Int32) (a_start : Int32) (a_size : Int32) (a_due : Nat → Int32) (a_rung : Nat → Int32) (a_anywhere : Nat → Int32)  (out : Int32) (kx : Int64 → Int32 → Option (Int32)) (HX : ∀ (x1_4 : Int64) (x3_4 : Int32) (H : Heap) (locs : List Loc) (ls : Array Slot), va_P G.1 vwCl (flat [wX7 G a a_book a_spare a_images a_kept a_text a_length a_refused a_items a_many a_at a_sort a_start a_size a_due a_rung a_anywhere]) H → va_D A (flat [wX7 G a a_book a_spare a_images a_kept a_text a_length a_refused a_items a_many a_at a_sort a_start a_size a_due a_rung a_anywhere]) → va_S A s.heap H locs → lv_has ls 4 [(0, .ref (a 0)), (1, .long x1_4), (3, .int x3_4)] → kx x1_4 x3_4 = some out → W p l e rmX7_verb s m args below meth c H locs 0 0 (MQ below (QI G A out (flat [wX7 G a a_book a_spare a_images a_kept a_text a_length a_refused a_items a_many a_at a_sort a_start a_size a_due a_rung a_anywhere])) args s 0 0 A) (F0 m 53 ls [])) : ∀ (n : Nat) (x1_4 : Int64) (x3_4 : Int32) (H : Heap) (locs : List Loc) (ls : Array Slot), va_P G.1 vwCl (flat [wX7 G a a_book a_spare a_images a_kept a_text a_length a_refused a_items a_many a_at a_sort a_start a_size a_due a_rung a_anywhere]) H → va_D A (flat [wX7 G a a_book a_spare a_images a_kept a_text a_length a_refused a_items a_many a_at a_sort a_start a_size a_due a_rung a_anywhere]) → va_S A s.heap H locs → lv_has ls 4 [(0, .ref (a 0)), (1, .long x1_4), (3, .int x3_4)] → fX7_verb_4 a_text a_length a_sort a_start a_size kx n x1_4 x3_4 = some out → W p l e rmX7_verb s m args below meth c H locs 0 0 (MQ below (QI G A out (flat [wX7 G a a_book a_spare a_images a_kept a_text a_length a_refused a_items a_many a_at a_sort a_start a_size a_due a_rung a_anywhere])) args s 0 0 A) (F0 m 4 ls []) := by
  obtain ⟨⟨hx, hb, hml, hown, hts⟩, hr, hlocks, hK, hN, hE, hA⟩ := id C
  intro n
  induction n with
  | zero =>
    intro x1_4 x3_4 H locs ls hP hD hS hl hf
    exact absurd (show (none : Option (Int32)) = some out from hf) (by intro q9; cases q9)
  | succ n ih =>
    intro x1_4 x3_4 H locs ls hP hD hS hl hf
    rw [fX7_verb_4] at hf
    refine lv_iload_n hx hb dX7_verb_4 rfl (lv_at hl 2 rfl) ?_
    refine lv_aload_n hx hb dX7_verb_5 rfl (lv_at hl 0 rfl) ?_
    refine va_get (D := G.1) (ci := 7) (v := .int a_size) (C := RX7) (T := TX7) (N := 16) hx hb hts iiX7_verb_X7 hown hK hP 0 rfl rfl 12 (by decide) (hts _ mmX7_verb_1) (fun _ h9 => h9) rfl dX7_verb_6 ?_
    refine lv_icmp_ge (tgt := 53) hx hb dX7_verb_9 (by decide) (fun c1 => ?_) (fun c1 => ?_)
    · have hf := (o_i hf).1 c1
      exact HX _ _ _ _ _ hP hD hS (lv_sub hl [0, 1, 2] rfl) hf
    have hf := (o_i hf).2 c1
    refine lv_aload_n hx hb dX7_verb_12 rfl (lv_at hl 0 rfl) ?_
    refine va_get (D := G.1) (ci := 7) (v := .int a_size) (C := RX7) (T := TX7) (N := 16) hx hb hts iiX7_verb_X7 hown hK hP 0 rfl rfl 12 (by decide) (hts _ mmX7_verb_1) (fun _ h9 => h9) rfl dX7_verb_13 ?_
    refine lv_bipush (v := 9) hx hb dX7_verb_16 (by decide) ?_
    refine lv_icmp_ge (tgt := 53) hx hb dX7_verb_18 (by decide) (fun c2 => ?_) (fun c2 => ?_)
    · have hf := (o_i hf).1 c2
      exact HX _ _ _ _ _ hP hD hS (lv_sub hl [0, 1, 2] rfl) hf
    have hf := (o_i hf).2 c2
    refine lv_aload_n hx hb dX7_verb_21 rfl (lv_at hl 0 rfl) ?_
    refine va_get (D := G.1) (ci := 7) (v := .int a_sort) (C := RX7) (T := TX7) (N := 16) hx hb hts iiX7_verb_X7 hown hK hP 0 rfl rfl 10 (by decide) (hts _ mmX7_verb_2) (fun _ h9 => h9) rfl dX7_verb_22 ?_
    refine lv_iconst (v := 1) hx hb dX7_verb_25 (by decide) ?_
    refine lv_icmp_ne (tgt := 53) hx hb dX7_verb_26 (by decide) (fun c3 => ?_) (fun c3 => ?_)
    · have hf := (o_i hf).2 c3
      exact HX _ _ _ _ _ hP hD hS (lv_sub hl [0, 1, 2] rfl) hf
    have hf := (o_i hf).1 c3
    refine lv_ldc2 (v := 256) hx hb hown (hts _ mmX7_verb_3) dX7_verb_29 ?_
    refine lv_lload_n hx hb dX7_verb_32 rfl (lv_at hl 1 rfl) ?_
    refine lv_lmul hx hb dX7_verb_33 ?_
    refine lv_aload_n hx hb dX7_verb_34 rfl (lv_at hl 0 rfl) ?_
    refine lv_aload_n hx hb dX7_verb_35 rfl (lv_at hl 0 rfl) ?_
    refine va_get (D := G.1) (ci := 7) (v := .int a_start) (C := RX7) (T := TX7) (N := 16) hx hb hts iiX7_verb_X7 hown hK hP 0 rfl rfl 11 (by decide) (hts _ mmX7_verb_4) (fun _ h9 => h9) rfl dX7_verb_36 ?_
    refine lv_iload_n hx hb dX7_verb_39 rfl (lv_at hl 2 rfl) ?_
    refine lv_iadd hx hb dX7_verb_40 ?_
    obtain ⟨g4, hg4, hf⟩ := o_b hf
    refine bVi C hP hD hS (tX7_byteAt l G a a_book a_spare a_images a_kept a_text a_length a_refused a_items a_many a_at a_sort a_start a_size a_due a_rung a_anywhere (a_start + x3_4) g4 hg4) gX7_verb_X7_byteAt rfl ⟨rfl, rfl⟩ hdX7_byteAt ⟨Nat.le_of_ble_eq_true rfl, Nat.le_of_ble_eq_true rfl⟩ rfl hl.1 rfl (Nat.le_of_ble_eq_true rfl) ⟨Nat.le_of_ble_eq_true rfl, Nat.le_of_ble_eq_true rfl⟩ [0] rfl rfl rfl (setB_same _ _ _ rfl) rfl (ci := 7) (q0 := 0) rfl rfl rfl dX7_verb_41 (fun H locs hP hD hS => ?_)
    refine at_pc (pc' := 44) rfl ?_
    refine lv_i2l (v := g4.toInt64) hx hb dX7_verb_44 rfl ?_
    refine lv_ladd hx hb dX7_verb_45 ?_
    refine lv_lstore_n (lv' := [(1, .long ((256 * x1_4) + g4.toInt64)), (0, .ref (a 0)), (3, .int x3_4)]) hx hb dX7_verb_46 rfl hl (by decide) rfl (fun ls hl => ?_)
    refine lv_iinc (v := x3_4 + 1) (lv' := [(3, .int (x3_4 + 1)), (1, .long ((256 * x1_4) + g4.toInt64)), (0, .ref (a 0))]) hx hb dX7_verb_47 hl (k := 2) rfl (congrArg (fun z => x3_4 + z) (by decide)) (by decide) rfl (fun ls hl => ?_)
    refine lv_goto (tgt := 4) hx hb dX7_verb_50 (by decide) ?_
    exact ih _ _ _ _ _ hP hD hS (lv_sub hl [2, 1, 0] rfl) hf
set_option maxHeartbeats 4000000 in
set_option maxRecDepth 100000 in
theorem tX7_verb (l : Launch) (G : GG) (a : Nat → Nat) (a_book : Nat → Int32) (a_spare : Nat → Int32) (a_images : Nat → Int32) (a_kept : Nat → Int32) (a_text : Nat → Int32) (a_length : Int32) (a_refused : Nat → Int32) (a_items : Nat → Int32) (a_many : Int32) (a_at : Int32) (a_sort : Int32) (a_start : Int32) (a_size : Int32) (a_due : Nat → Int32) (a_rung : Nat → Int32) (a_anywhere : Nat → Int32) (out : Int32) (hf : fX7_verb a_text a_length a_sort a_start a_size = some out) : cMi l G yX7_verb wsX7_verb rmX7_verb [.ref (a 0)] (flat [wX7 G a a_book a_spare a_images a_kept a_text a_length a_refused a_items a_many a_at a_sort a_start a_size a_due a_rung a_anywhere]) out (flat [wX7 G a a_book a_spare a_images a_kept a_text a_length a_refused a_items a_many a_at a_sort a_start a_size a_due a_rung a_anywhere]) := by
  intro sz
  refine met_of (cc := cX7_verb) (nL := 4) (ret := (some .int)) (Qc := fun A9 => QI G A9 out (flat [wX7 G a a_book a_spare a_images a_kept a_text a_length a_refused a_items a_many a_at a_sort a_start a_size a_due a_rung a_anywhere])) (by decide) rfl (Nat.le_of_ble_eq_true rfl) ?_
  intro p e s m args below meth c A ls C hP hD hS hl
  obtain ⟨⟨hx, hb, hml, hown, hts⟩, hr, hlocks, hK, hN, hE, hA⟩ := id C
  have hl : lv_has ls 4 [(0, .ref (a 0))] := hl
  unfold fX7_verb at hf
  refine lv_lconst (v := 0) hx hb dX7_verb_0 (by decide) ?_
  refine lv_lstore_n (lv' := [(1, .long 0), (0, .ref (a 0))]) hx hb dX7_verb_1 rfl hl (by decide) rfl (fun ls hl => ?_)
  refine lv_iconst (v := 0) hx hb dX7_verb_2 (by decide) ?_
  refine lv_istore_n (lv' := [(3, .int 0), (1, .long 0), (0, .ref (a 0))]) hx hb dX7_verb_3 rfl hl (by decide) rfl (fun ls hl => ?_)
  refine lX7_verb_4 l G C a a_book a_spare a_images a_kept a_text a_length a_refused a_items a_many a_at a_sort a_start a_size a_due a_rung a_anywhere out _ (fun x1_4_5 x3_4_6 H locs ls hP hD hS hl hf => ?_) fu 0 0 _ _ _ hP hD hS (lv_sub hl [2, 1, 0] rfl) hf
  refine lv_lload_n hx hb dX7_verb_53 rfl (lv_at hl 1 rfl) ?_
  refine lv_ldc2 (v := 8532470181776549235) hx hb hown (hts _ mmX7_verb_5) dX7_verb_54 ?_
  refine W.lcmp hx hb dX7_verb_57 ?_
  obtain ⟨f8, hf8, hf⟩ := o_b hf
  have hJ : ∀ (H : Heap) (locs : List Loc) (ls : Array Slot), va_P G.1 vwCl (flat [wX7 G a a_book a_spare a_images a_kept a_text a_length a_refused a_items a_many a_at a_sort a_start a_size a_due a_rung a_anywhere]) H → va_D A (flat [wX7 G a a_book a_spare a_images a_kept a_text a_length a_refused a_items a_many a_at a_sort a_start a_size a_due a_rung a_anywhere]) → va_S A s.heap H locs → lv_has ls 4 [(0, .ref (a 0)), (1, .long x1_4_5), (3, .int x3_4_6)] → W p l e rmX7_verb s m args below meth c H locs 0 0 (MQ below (QI G A out (flat [wX7 G a a_book a_spare a_images a_kept a_text a_length a_refused a_items a_many a_at a_sort a_start a_size a_due a_rung a_anywhere])) args s 0 0 A) (F0 m 90 ls [.int f8]) := by
    intro H locs ls hP hD hS hl
    refine lv_istore_n (lv' := [(3, .int f8), (0, .ref (a 0)), (1, .long x1_4_5)]) hx hb dX7_verb_90 rfl hl (by decide) rfl (fun ls hl => ?_)
    refine lv_iload_n hx hb dX7_verb_91 rfl (lv_at hl 0 rfl) ?_
    refine lv_iconst (v := (-1)) hx hb dX7_verb_92 (by decide) ?_
    refine lv_icmp_eq (tgt := 100) hx hb dX7_verb_93 (by decide) (fun c11 => ?_) (fun c11 => ?_)
    · have hf := (o_i hf).1 c11
      refine lv_lload_n hx hb dX7_verb_100 rfl (lv_at hl 2 rfl) ?_
      refine lv_ldc2 (v := 127978976601458) hx hb hown (hts _ mmX7_verb_8) dX7_verb_101 ?_
      refine W.lcmp hx hb dX7_verb_104 ?_
      refine lv_if_ne (tgt := 112) hx hb dX7_verb_105 (by decide) (fun c12 => ?_) (fun c12 => ?_)
      · have hf := (o_i hf).2 c12
        refine lv_lload_n hx hb dX7_verb_112 rfl (lv_at hl 2 rfl) ?_
        refine lv_ldc2 (v := 112641580559972) hx hb hown (hts _ mmX7_verb_9) dX7_verb_113 ?_
        refine W.lcmp hx hb dX7_verb_116 ?_
        refine lv_if_ne (tgt := 124) hx hb dX7_verb_117 (by decide) (fun c13 => ?_) (fun c13 => ?_)
        · have hf := (o_i hf).2 c13
          refine lv_lload_n hx hb dX7_verb_124 rfl (lv_at hl 2 rfl) ?_
          refine lv_ldc2 (v := 1852138852) hx hb hown (hts _ mmX7_verb_10) dX7_verb_125 ?_
          refine W.lcmp hx hb dX7_verb_128 ?_
          refine lv_if_ne (tgt := 136) hx hb dX7_verb_129 (by decide) (fun c14 => ?_) (fun c14 => ?_)
          · have hf := (o_i hf).2 c14
            refine lv_iconst (v := (-1)) hx hb dX7_verb_136 (by decide) ?_
            have e9 := Option.some.inj hf
            subst e9
            exact rt_i C hP hS rfl dX7_verb_137
          have hf := (o_i hf).1 c14
          refine lv_iconst (v := 5) hx hb dX7_verb_132 (by decide) ?_
          refine lv_goto (tgt := 137) hx hb dX7_verb_133 (by decide) ?_
          have e9 := Option.some.inj hf
          subst e9
          exact rt_i C hP hS rfl dX7_verb_137
        have hf := (o_i hf).1 c13
        refine lv_iconst (v := 4) hx hb dX7_verb_120 (by decide) ?_
        refine lv_goto (tgt := 137) hx hb dX7_verb_121 (by decide) ?_
        have e9 := Option.some.inj hf
        subst e9
        exact rt_i C hP hS rfl dX7_verb_137
      have hf := (o_i hf).1 c12
      refine lv_iconst (v := 3) hx hb dX7_verb_108 (by decide) ?_
      refine lv_goto (tgt := 137) hx hb dX7_verb_109 (by decide) ?_
      have e9 := Option.some.inj hf
      subst e9
      exact rt_i C hP hS rfl dX7_verb_137
    have hf := (o_i hf).2 c11
    refine lv_iload_n hx hb dX7_verb_96 rfl (lv_at hl 0 rfl) ?_
    refine lv_goto (tgt := 137) hx hb dX7_verb_97 (by decide) ?_
    have e9 := Option.some.inj hf
    subst e9
    exact rt_i C hP hS rfl dX7_verb_137
  clear hf
  have hf := hf8
  refine lv_if_ne (tgt := 65) hx hb dX7_verb_58 (by decide) (fun c7 => ?_) (fun c7 => ?_)
  · have hf := (o_i hf).2 c7
    refine lv_lload_n hx hb dX7_verb_65 rfl (lv_at hl 1 rfl) ?_
    refine lv_ldc2 (v := 448377483891) hx hb hown (hts _ mmX7_verb_6) dX7_verb_66 ?_
    refine W.lcmp hx hb dX7_verb_69 ?_
    refine lv_if_ne (tgt := 77) hx hb dX7_verb_70 (by decide) (fun c9 => ?_) (fun c9 => ?_)
    · have hf := (o_i hf).2 c9
      refine lv_lload_n hx hb dX7_verb_77 rfl (lv_at hl 1 rfl) ?_
      refine lv_ldc2 (v := 2003791716) hx hb hown (hts _ mmX7_verb_7) dX7_verb_78 ?_
      refine W.lcmp hx hb dX7_verb_81 ?_
      refine lv_if_ne (tgt := 89) hx hb dX7_verb_82 (by decide) (fun c10 => ?_) (fun c10 => ?_)
      · have hf := (o_i hf).2 c10
        refine lv_iconst (v := (-1)) hx hb dX7_verb_89 (by decide) ?_
        have e9 := Option.some.inj hf
        subst e9
        exact hJ _ _ _ hP hD hS (lv_sub hl [0, 1, 2] rfl)
      have hf := (o_i hf).1 c10
      refine lv_iconst (v := 2) hx hb dX7_verb_85 (by decide) ?_
      refine lv_goto (tgt := 90) hx hb dX7_verb_86 (by decide) ?_
      have e9 := Option.some.inj hf
      subst e9
      exact hJ _ _ _ hP hD hS (lv_sub hl [0, 1, 2] rfl)
    have hf := (o_i hf).1 c9
    refine lv_iconst (v := 1) hx hb dX7_verb_73 (by decide) ?_
    refine lv_goto (tgt := 90) hx hb dX7_verb_74 (by decide) ?_
    have e9 := Option.some.inj hf
    subst e9
    exact hJ _ _ _ hP hD hS (lv_sub hl [0, 1, 2] rfl)
  have hf := (o_i hf).1 c7
  refine lv_iconst (v := 0) hx hb dX7_verb_61 (by decide) ?_
  refine lv_goto (tgt := 90) hx hb dX7_verb_62 (by decide) ?_
  have e9 := Option.some.inj hf
  subst e9
  exact hJ _ _ _ hP hD hS (lv_sub hl [0, 1, 2] rfl)

/-! RX7 number()I -/
theorem iiX7_number_X7 : ∀ w ∈ wsX70, w ∈ wsX7_number := by decide +kernel
theorem mmX7_number_1 : (Cond.fieldLink RX7 112 "BlindBellsModel" "sort" "I") ∈ wsX7_number := by decide +kernel
theorem mmX7_number_2 : (Cond.fieldLink RX7 115 "BlindBellsModel" "size" "I") ∈ wsX7_number := by decide +kernel
theorem mmX7_number_3 : (Cond.fieldLink RX7 106 "BlindBellsModel" "start" "I") ∈ wsX7_number := by decide +kernel
theorem hdX7_number : yX7_number.cls = RX7 ∧ yX7_number.cls ≠ "java/lang/invoke/MethodHandle" ∧ yX7_number.cls ≠ "java/lang/invoke/VarHandle" ∧ (parseMethodDescriptor yX7_number.desc).map (fun d => d.parameters.length) = some 0 := by decide +kernel
abbrev rmX7_number : Room := { frames := 3, cells := 0, slots := 0, locals := 62 }
set_option maxHeartbeats 4000000 in
set_option maxRecDepth 100000 in
theorem tX7_number (l : Launch) (G : GG) (a : Nat → Nat) (a_book : Nat → Int32) (a_spare : Nat → Int32) (a_images : Nat → Int32) (a_kept : Nat → Int32) (a_text : Nat → Int32) (a_length : Int32) (a_refused : Nat → Int32) (a_items : Nat → Int32) (a_many : Int32) (a_at : Int32) (a_sort : Int32) (a_start : Int32) (a_size : Int32) (a_due : Nat → Int32) (a_rung : Nat → Int32) (a_anywhere : Nat → Int32) (out : Int32 × Int32 × Int32 × Int32 × Int32) (hf : fX7_number a_text a_length a_at = some out) : cMi l G yX7_number wsX7_number rmX7_number [.ref (a 0)] (flat [wX7 G a a_book a_spare a_images a_kept a_text a_length a_refused a_items a_many a_at a_sort a_start a_size a_due a_rung a_anywhere]) out.1 (flat [wX7 G a a_book a_spare a_images a_kept a_text a_length a_refused a_items a_many out.2.1 out.2.2.1 out.2.2.2.1 out.2.2.2.2 a_due a_rung a_anywhere]) := by
  intro sz
  refine met_of (cc := cX7_number) (nL := 2) (ret := (some .int)) (Qc := fun A9 => QI G A9 out.1 (flat [wX7 G a a_book a_spare a_images a_kept a_text a_length a_refused a_items a_many out.2.1 out.2.2.1 out.2.2.2.1 out.2.2.2.2 a_due a_rung a_anywhere])) (by decide) rfl (Nat.le_of_ble_eq_true rfl) ?_
  intro p e s m args below meth c A ls C hP hD hS hl
  obtain ⟨⟨hx, hb, hml, hown, hts⟩, hr, hlocks, hK, hN, hE, hA⟩ := id C
  have hl : lv_has ls 2 [(0, .ref (a 0))] := hl
  unfold fX7_number at hf
  refine lv_aload_n hx hb dX7_number_0 rfl (lv_at hl 0 rfl) ?_
  obtain ⟨g1, hg1, hf⟩ := o_b hf
  refine bVv (Bs' := [wX7 G a a_book a_spare a_images a_kept a_text a_length a_refused a_items a_many g1.1 g1.2.1 g1.2.2.1 g1.2.2.2 a_due a_rung a_anywhere]) C hP hD hS (tX7_token l G a a_book a_spare a_images a_kept a_text a_length a_refused a_items a_many a_at a_sort a_start a_size a_due a_rung a_anywhere g1 hg1) gX7_number_X7_token rfl ⟨rfl, rfl⟩ hdX7_token ⟨Nat.le_of_ble_eq_true rfl, Nat.le_of_ble_eq_true rfl⟩ rfl hl.1 rfl (Nat.le_of_ble_eq_true rfl) ⟨Nat.le_of_ble_eq_true rfl, Nat.le_of_ble_eq_true rfl⟩ [0] rfl rfl rfl rfl rfl (ci := 7) (q0 := 0) rfl rfl rfl dX7_number_1 (fun H locs hP hD hS => ?_)
  have hP : va_P G.1 vwCl (flat [wX7 G a a_book a_spare a_images a_kept a_text a_length a_refused a_items a_many g1.1 g1.2.1 g1.2.2.1 g1.2.2.2 a_due a_rung a_anywhere]) H := hP
  have hD : va_D A (flat [wX7 G a a_book a_spare a_images a_kept a_text a_length a_refused a_items a_many g1.1 g1.2.1 g1.2.2.1 g1.2.2.2 a_due a_rung a_anywhere]) := hD
  refine lv_aload_n hx hb dX7_number_4 rfl (lv_at hl 0 rfl) ?_
  refine va_get (D := G.1) (ci := 7) (v := .int g1.2.1) (C := RX7) (T := TX7) (N := 16) hx hb hts iiX7_number_X7 hown hK hP 0 rfl rfl 10 (by decide) (hts _ mmX7_number_1) (fun _ h9 => h9) rfl dX7_number_5 ?_
  refine lv_iconst (v := 2) hx hb dX7_number_8 (by decide) ?_
  refine lv_icmp_ne (tgt := 20) hx hb dX7_number_9 (by decide) (fun c2 => ?_) (fun c2 => ?_)
  · have hf := (o_i hf).2 c2
    refine lv_iconst (v := (-1)) hx hb dX7_number_20 (by decide) ?_
    have e9 := Option.some.inj hf
    subst e9
    exact rt_i C hP hS rfl dX7_number_21
  have hf := (o_i hf).1 c2
  refine lv_aload_n hx hb dX7_number_12 rfl (lv_at hl 0 rfl) ?_
  refine va_get (D := G.1) (ci := 7) (v := .int g1.2.2.2) (C := RX7) (T := TX7) (N := 16) hx hb hts iiX7_number_X7 hown hK hP 0 rfl rfl 12 (by decide) (hts _ mmX7_number_2) (fun _ h9 => h9) rfl dX7_number_13 ?_
  refine lv_iconst (v := 2) hx hb dX7_number_16 (by decide) ?_
  refine lv_icmp_le (tgt := 22) hx hb dX7_number_17 (by decide) (fun c3 => ?_) (fun c3 => ?_)
  · have hf := (o_i hf).1 c3
    refine lv_aload_n hx hb dX7_number_22 rfl (lv_at hl 0 rfl) ?_
    refine lv_aload_n hx hb dX7_number_23 rfl (lv_at hl 0 rfl) ?_
    refine va_get (D := G.1) (ci := 7) (v := .int g1.2.2.1) (C := RX7) (T := TX7) (N := 16) hx hb hts iiX7_number_X7 hown hK hP 0 rfl rfl 11 (by decide) (hts _ mmX7_number_3) (fun _ h9 => h9) rfl dX7_number_24 ?_
    obtain ⟨g4, hg4, hf⟩ := o_b hf
    refine bVi C hP hD hS (tX7_byteAt l G a a_book a_spare a_images a_kept a_text a_length a_refused a_items a_many g1.1 g1.2.1 g1.2.2.1 g1.2.2.2 a_due a_rung a_anywhere g1.2.2.1 g4 hg4) gX7_number_X7_byteAt rfl ⟨rfl, rfl⟩ hdX7_byteAt ⟨Nat.le_of_ble_eq_true rfl, Nat.le_of_ble_eq_true rfl⟩ rfl hl.1 rfl (Nat.le_of_ble_eq_true rfl) ⟨Nat.le_of_ble_eq_true rfl, Nat.le_of_ble_eq_true rfl⟩ [0] rfl rfl rfl (setB_same _ _ _ rfl) rfl (ci := 7) (q0 := 0) rfl rfl rfl dX7_number_27 (fun H locs hP hD hS => ?_)
    refine lv_bipush (v := 48) hx hb dX7_number_30 (by decide) ?_
    refine lv_isub hx hb dX7_number_32 ?_
    refine lv_istore_n (lv' := [(1, .int (g4 - 48)), (0, .ref (a 0))]) hx hb dX7_number_33 rfl hl (by decide) rfl (fun ls hl => ?_)
    refine lv_aload_n hx hb dX7_number_34 rfl (lv_at hl 1 rfl) ?_
    refine va_get (D := G.1) (ci := 7) (v := .int g1.2.2.2) (C := RX7) (T := TX7) (N := 16) hx hb hts iiX7_number_X7 hown hK hP 0 rfl rfl 12 (by decide) (hts _ mmX7_number_2) (fun _ h9 => h9) rfl dX7_number_35 ?_
    refine at_pc (pc' := 38) rfl ?_
    refine lv_iconst (v := 2) hx hb dX7_number_38 (by decide) ?_
    refine lv_icmp_ne (tgt := 63) hx hb dX7_number_39 (by decide) (fun c5 => ?_) (fun c5 => ?_)
    · have hf := (o_i hf).2 c5
      refine lv_iload_n hx hb dX7_number_63 rfl (lv_at hl 0 rfl) ?_
      have e9 := Option.some.inj hf
      subst e9
      exact rt_i C hP hS rfl dX7_number_64
    have hf := (o_i hf).1 c5
    refine lv_bipush (v := 10) hx hb dX7_number_42 (by decide) ?_
    refine lv_iload_n hx hb dX7_number_44 rfl (lv_at hl 0 rfl) ?_
    refine lv_imul hx hb dX7_number_45 ?_
    refine lv_aload_n hx hb dX7_number_46 rfl (lv_at hl 1 rfl) ?_
    refine lv_aload_n hx hb dX7_number_47 rfl (lv_at hl 1 rfl) ?_
    refine va_get (D := G.1) (ci := 7) (v := .int g1.2.2.1) (C := RX7) (T := TX7) (N := 16) hx hb hts iiX7_number_X7 hown hK hP 0 rfl rfl 11 (by decide) (hts _ mmX7_number_3) (fun _ h9 => h9) rfl dX7_number_48 ?_
    refine lv_iconst (v := 1) hx hb dX7_number_51 (by decide) ?_
    refine lv_iadd hx hb dX7_number_52 ?_
    obtain ⟨g6, hg6, hf⟩ := o_b hf
    refine bVi C hP hD hS (tX7_byteAt l G a a_book a_spare a_images a_kept a_text a_length a_refused a_items a_many g1.1 g1.2.1 g1.2.2.1 g1.2.2.2 a_due a_rung a_anywhere (g1.2.2.1 + 1) g6 hg6) gX7_number_X7_byteAt rfl ⟨rfl, rfl⟩ hdX7_byteAt ⟨Nat.le_of_ble_eq_true rfl, Nat.le_of_ble_eq_true rfl⟩ rfl hl.1 rfl (Nat.le_of_ble_eq_true rfl) ⟨Nat.le_of_ble_eq_true rfl, Nat.le_of_ble_eq_true rfl⟩ [0] rfl rfl rfl (setB_same _ _ _ rfl) rfl (ci := 7) (q0 := 0) rfl rfl rfl dX7_number_53 (fun H locs hP hD hS => ?_)
    refine at_pc (pc' := 56) rfl ?_
    refine lv_iadd hx hb dX7_number_56 ?_
    refine lv_bipush (v := 48) hx hb dX7_number_57 (by decide) ?_
    refine lv_isub hx hb dX7_number_59 ?_
    refine lv_goto (tgt := 64) hx hb dX7_number_60 (by decide) ?_
    have e9 := Option.some.inj hf
    subst e9
    exact rt_i C hP hS rfl dX7_number_64
  have hf := (o_i hf).2 c3
  refine lv_iconst (v := (-1)) hx hb dX7_number_20 (by decide) ?_
  have e9 := Option.some.inj hf
  subst e9
  exact rt_i C hP hS rfl dX7_number_21

/-! RX7 numbers(I)I -/
theorem hdX7_numbers : yX7_numbers.cls ≠ "java/lang/invoke/MethodHandle" ∧ yX7_numbers.cls ≠ "java/lang/invoke/VarHandle" ∧ (parseMethodDescriptor yX7_numbers.desc).map (fun d => d.parameters.length) = some 1 := by decide +kernel
abbrev rmX7_numbers : Room := { frames := 0, cells := 0, slots := 0, locals := 0 }
set_option maxHeartbeats 4000000 in
set_option maxRecDepth 100000 in
theorem tX7_numbers (l : Launch) (G : GG) (p0 : Int32) (out : Int32) (hf : fX7_numbers p0 = some out) : cMi l G yX7_numbers wsX7_numbers rmX7_numbers [.int p0] (flat []) out (flat []) := by
  intro sz
  refine met_of (cc := cX7_numbers) (nL := 1) (ret := (some .int)) (Qc := fun A9 => QI G A9 out (flat [])) (by decide) rfl (Nat.le_of_ble_eq_true rfl) ?_
  intro p e s m args below meth c A ls C hP hD hS hl
  obtain ⟨⟨hx, hb, hml, hown, hts⟩, hr, hlocks, hK, hN, hE, hA⟩ := id C
  have hl : lv_has ls 1 [(0, .int p0)] := hl
  unfold fX7_numbers at hf
  refine lv_iload_n hx hb dX7_numbers_0 rfl (lv_at hl 0 rfl) ?_
  refine lv_if_ne (tgt := 8) hx hb dX7_numbers_1 (by decide) (fun c1 => ?_) (fun c1 => ?_)
  · have hf := (o_i hf).2 c1
    refine lv_iload_n hx hb dX7_numbers_8 rfl (lv_at hl 0 rfl) ?_
    refine lv_iconst (v := 1) hx hb dX7_numbers_9 (by decide) ?_
    refine lv_icmp_eq (tgt := 18) hx hb dX7_numbers_10 (by decide) (fun c2 => ?_) (fun c2 => ?_)
    · have hf := (o_i hf).1 c2
      refine lv_iconst (v := 3) hx hb dX7_numbers_18 (by decide) ?_
      refine lv_goto (tgt := 23) hx hb dX7_numbers_19 (by decide) ?_
      have e9 := Option.some.inj hf
      subst e9
      exact rt_i C hP hS rfl dX7_numbers_23
    have hf := (o_i hf).2 c2
    refine lv_iload_n hx hb dX7_numbers_13 rfl (lv_at hl 0 rfl) ?_
    refine lv_iconst (v := 5) hx hb dX7_numbers_14 (by decide) ?_
    refine lv_icmp_ne (tgt := 22) hx hb dX7_numbers_15 (by decide) (fun c3 => ?_) (fun c3 => ?_)
    · have hf := (o_i hf).2 c3
      refine lv_iconst (v := 2) hx hb dX7_numbers_22 (by decide) ?_
      have e9 := Option.some.inj hf
      subst e9
      exact rt_i C hP hS rfl dX7_numbers_23
    have hf := (o_i hf).1 c3
    refine lv_iconst (v := 3) hx hb dX7_numbers_18 (by decide) ?_
    refine lv_goto (tgt := 23) hx hb dX7_numbers_19 (by decide) ?_
    have e9 := Option.some.inj hf
    subst e9
    exact rt_i C hP hS rfl dX7_numbers_23
  have hf := (o_i hf).1 c1
  refine lv_iconst (v := 1) hx hb dX7_numbers_4 (by decide) ?_
  refine lv_goto (tgt := 23) hx hb dX7_numbers_5 (by decide) ?_
  have e9 := Option.some.inj hf
  subst e9
  exact rt_i C hP hS rfl dX7_numbers_23

/-! RX7 reads()Z -/
theorem iiX7_reads_X7 : ∀ w ∈ wsX70, w ∈ wsX7_reads := by decide +kernel
theorem mmX7_reads_1 : (Cond.fieldLink RX7 100 "BlindBellsModel" "at" "I") ∈ wsX7_reads := by decide +kernel
theorem mmX7_reads_2 : (Cond.fieldLink RX7 135 "BlindBellsModel" "many" "I") ∈ wsX7_reads := by decide +kernel
theorem mmX7_reads_3 : (Cond.fieldLink RX7 29 "BlindBellsModel" "items" "[I") ∈ wsX7_reads := by decide +kernel
theorem mmX7_reads_4 : (Cond.fieldLink RX7 112 "BlindBellsModel" "sort" "I") ∈ wsX7_reads := by decide +kernel
theorem hdX7_reads : yX7_reads.cls = RX7 ∧ yX7_reads.cls ≠ "java/lang/invoke/MethodHandle" ∧ yX7_reads.cls ≠ "java/lang/invoke/VarHandle" ∧ (parseMethodDescriptor yX7_reads.desc).map (fun d => d.parameters.length) = some 0 := by decide +kernel
abbrev rmX7_reads : Room := { frames := 4, cells := 0, slots := 0, locals := 83 }
set_option maxHeartbeats 4000000 in
set_option maxRecDepth 100000 in
theorem lX7_reads_95 {p : Program} {e : Env} {s : State} {m : MethodId} {args : Array Value} {below : List Frame} {meth : Method} {c : Code} {A : Nat → Prop} (l : Launch) (G : GG) (C : Cx p m c cX7_reads 4 s args wsX7_reads RX7 meth (some .boolean) G A) (a : Nat → Nat) (a_book : Nat → Int32) (a_spare : Nat → Int32) (a_images : Nat → Int32) (a_kept : Nat → Int32) (a_text : Nat → Int32) (a_length : Int32) (a_refused : Nat → Int32) (a_items : Nat → Int32) (a_many : Int32) (a_at : Int32) (a_sort : Int32) (a_start : Int32) (a_size : Int32) (a_due : Nat → Int32) (a_rung : Nat → Int32) (a_anywhere : Nat → Int32) (a_many_14 : Int32) (g2 : Int32) (f10 : Int32) (out : Int32 × (Nat → Int32) × Int32 × Int32 × Int32 × Int32 × Int32) (kx : Int32 → (Nat → Int32) → Int32 → Int32 → Int32 → Int32 → Option (Int32 × (Nat → Int32) × Int32 × Int32 × Int32 × Int32 × Int32)) (HX : ∀ (x3_95 : Int32) (a_items_95 : Nat → Int32) (a_at_95 : Int32) (a_sort_95 : Int32) (a_start_95 : Int32) (a_size_95 : Int32) (H : Heap) (locs : List Loc) (ls : Array Slot), va_P G.1 vwCl (flat [wX7 G a a_book a_spare a_images a_kept a_text a_length a_refused a_items_95 a_many_14 a_at_95 a_sort_95 a_start_95 a_size_95 a_due a_rung a_anywhere]) H → va_D A (flat [wX7 G a a_book a_spare a_images a_kept a_text a_length a_refused a_items_95 a_many_14 a_at_95 a_sort_95 a_start_95 a_size_95 a_due a_rung a_anywhere]) → va_S A s.heap H locs → lv_has ls 4 [(0, .ref (a 0)), (1, .int g2), (2, .int f10), (3, .int x3_95)] → kx x3_95 a_items_95 a_at_95 a_sort_95 a_start_95 a_size_95 = some out → W p l e rmX7_reads s m args below meth c H locs 0 0 (MQ below (QI G A out.1 (flat [wX7 G a a_book a_spare a_images a_kept a_text a_length a_refused out.2.1 out.2.2.1 out.2.2.2.1 out.2.2.2.2.1 out.2.2.2.2.2.1 out.2.2.2.2.2.2 a_due a_rung a_anywhere])) args s 0 0 A) (F0 m 135 ls [])) : ∀ (n : Nat) (x3_95 : Int32) (a_items_95 : Nat → Int32) (a_at_95 : Int32) (a_sort_95 : Int32) (a_start_95 : Int32) (a_size_95 : Int32) (H : Heap) (locs : List Loc) (ls : Array Slot), va_P G.1 vwCl (flat [wX7 G a a_book a_spare a_images a_kept a_text a_length a_refused a_items_95 a_many_14 a_at_95 a_sort_95 a_start_95 a_size_95 a_due a_rung a_anywhere]) H → va_D A (flat [wX7 G a a_book a_spare a_images a_kept a_text a_length a_refused a_items_95 a_many_14 a_at_95 a_sort_95 a_start_95 a_size_95 a_due a_rung a_anywhere]) → va_S A s.heap H locs → lv_has ls 4 [(0, .ref (a 0)), (1, .int g2), (2, .int f10), (3, .int x3_95)] → fX7_reads_95 a_text a_length a_many_14 g2 f10 kx n x3_95 a_items_95 a_at_95 a_sort_95 a_start_95 a_size_95 = some out → W p l e rmX7_reads s m args below meth c H locs 0 0 (MQ below (QI G A out.1 (flat [wX7 G a a_book a_spare a_images a_kept a_text a_length a_refused out.2.1 out.2.2.1 out.2.2.2.1 out.2.2.2.2.1 out.2.2.2.2.2.1 out.2.2.2.2.2.2 a_due a_rung a_anywhere])) args s 0 0 A) (F0 m 95 ls []) := by
  obtain ⟨⟨hx, hb, hml, hown, hts⟩, hr, hlocks, hK, hN, hE, hA⟩ := id C
  intro n
  induction n with
  | zero =>
    intro x3_95 a_items_95 a_at_95 a_sort_95 a_start_95 a_size_95 H locs ls hP hD hS hl hf
    exact absurd (show (none : Option (Int32 × (Nat → Int32) × Int32 × Int32 × Int32 × Int32 × Int32)) = some out from hf) (by intro q9; cases q9)
  | succ n ih =>
    intro x3_95 a_items_95 a_at_95 a_sort_95 a_start_95 a_size_95 H locs ls hP hD hS hl hf
    rw [fX7_reads_95] at hf
    refine lv_iload_n hx hb dX7_reads_95 rfl (lv_at hl 3 rfl) ?_
    refine lv_iload_n hx hb dX7_reads_96 rfl (lv_at hl 1 rfl) ?_
    obtain ⟨g12, hg12, hf⟩ := o_b hf
    refine bSi C hP hD hS (tX7_numbers l G g2 g12 hg12) gX7_reads_X7_numbers rfl ⟨rfl, rfl⟩ hdX7_numbers ⟨Nat.le_of_ble_eq_true rfl, Nat.le_of_ble_eq_true rfl⟩ rfl hl.1 rfl (Nat.le_of_ble_eq_true rfl) ⟨Nat.le_of_ble_eq_true rfl, Nat.le_of_ble_eq_true rfl⟩ [] rfl rfl rfl (setB_same _ _ _ rfl) rfl dX7_reads_97 (fun H locs hP hD hS => ?_)
    refine lv_icmp_gt (tgt := 135) hx hb dX7_reads_100 (by decide) (fun c13 => ?_) (fun c13 => ?_)
    · have hf := (o_i hf).1 c13
      exact HX _ _ _ _ _ _ _ _ _ hP hD hS (lv_sub hl [0, 1, 2, 3] rfl) hf
    have hf := (o_i hf).2 c13
    refine lv_aload_n hx hb dX7_reads_103 rfl (lv_at hl 0 rfl) ?_
    refine va_get (D := G.1) (ci := 7) (v := .ref (a 7)) (C := RX7) (T := TX7) (N := 16) hx hb hts iiX7_reads_X7 hown hK hP 0 rfl rfl 7 (by decide) (hts _ mmX7_reads_3) (fun _ h9 => h9) rfl dX7_reads_104 ?_
    refine lv_iload_n hx hb dX7_reads_107 rfl (lv_at hl 2 rfl) ?_
    refine lv_iload_n hx hb dX7_reads_108 rfl (lv_at hl 3 rfl) ?_
    refine lv_iadd hx hb dX7_reads_109 ?_
    refine lv_aload_n hx hb dX7_reads_110 rfl (lv_at hl 0 rfl) ?_
    obtain ⟨g14, hg14, hf⟩ := o_b hf
    refine bVi (Bs' := [wX7 G a a_book a_spare a_images a_kept a_text a_length a_refused a_items_95 a_many_14 g14.2.1 g14.2.2.1 g14.2.2.2.1 g14.2.2.2.2 a_due a_rung a_anywhere]) C hP hD hS (tX7_number l G a a_book a_spare a_images a_kept a_text a_length a_refused a_items_95 a_many_14 a_at_95 a_sort_95 a_start_95 a_size_95 a_due a_rung a_anywhere g14 hg14) gX7_reads_X7_number rfl ⟨rfl, rfl⟩ hdX7_number ⟨Nat.le_of_ble_eq_true rfl, Nat.le_of_ble_eq_true rfl⟩ rfl hl.1 rfl (Nat.le_of_ble_eq_true rfl) ⟨Nat.le_of_ble_eq_true rfl, Nat.le_of_ble_eq_true rfl⟩ [0] rfl rfl rfl rfl rfl (ci := 7) (q0 := 0) rfl rfl rfl dX7_reads_111 (fun H locs hP hD hS => ?_)
    have hP : va_P G.1 vwCl (flat [wX7 G a a_book a_spare a_images a_kept a_text a_length a_refused a_items_95 a_many_14 g14.2.1 g14.2.2.1 g14.2.2.2.1 g14.2.2.2.2 a_due a_rung a_anywhere]) H := hP
    have hD : va_D A (flat [wX7 G a a_book a_spare a_images a_kept a_text a_length a_refused a_items_95 a_many_14 g14.2.1 g14.2.2.1 g14.2.2.2.1 g14.2.2.2.2 a_due a_rung a_anywhere]) := hD
    obtain ⟨u15, hu15, hf⟩ := o_b hf
    refine k_iast hx hb hK hP hD hS 7 0 rfl rfl hu15 dX7_reads_114 (fun H locs hP hD hS => ?_)
    have hP : va_P G.1 vwCl (flat [wX7 G a a_book a_spare a_images a_kept a_text a_length a_refused u15 a_many_14 g14.2.1 g14.2.2.1 g14.2.2.2.1 g14.2.2.2.2 a_due a_rung a_anywhere]) H := hP
    have hD : va_D A (flat [wX7 G a a_book a_spare a_images a_kept a_text a_length a_refused u15 a_many_14 g14.2.1 g14.2.2.1 g14.2.2.2.1 g14.2.2.2.2 a_due a_rung a_anywhere]) := hD
    refine lv_aload_n hx hb dX7_reads_115 rfl (lv_at hl 0 rfl) ?_
    refine at_pc (pc' := 116) rfl ?_
    refine va_get (D := G.1) (ci := 7) (v := .ref (a 7)) (C := RX7) (T := TX7) (N := 16) hx hb hts iiX7_reads_X7 hown hK hP 0 rfl rfl 7 (by decide) (hts _ mmX7_reads_3) (fun _ h9 => h9) rfl dX7_reads_116 ?_
    refine lv_iload_n hx hb dX7_reads_119 rfl (lv_at hl 2 rfl) ?_
    refine lv_iload_n hx hb dX7_reads_120 rfl (lv_at hl 3 rfl) ?_
    refine lv_iadd hx hb dX7_reads_121 ?_
    obtain ⟨z16, hz16, hf⟩ := o_b hf
    refine k_iald hx hb hK hP 7 0 rfl rfl hz16 dX7_reads_122 ?_
    refine lv_iconst (v := (-1)) hx hb dX7_reads_123 (by decide) ?_
    refine lv_icmp_ne (tgt := 129) hx hb dX7_reads_124 (by decide) (fun c17 => ?_) (fun c17 => ?_)
    · have hf := (o_i hf).2 c17
      refine lv_iinc (v := x3_95 + 1) (lv' := [(3, .int (x3_95 + 1)), (0, .ref (a 0)), (1, .int g2), (2, .int f10)]) hx hb dX7_reads_129 hl (k := 3) rfl (congrArg (fun z => x3_95 + z) (by decide)) (by decide) rfl (fun ls hl => ?_)
      refine lv_goto (tgt := 95) hx hb dX7_reads_132 (by decide) ?_
      exact ih _ _ _ _ _ _ _ _ _ hP hD hS (lv_sub hl [1, 2, 3, 0] rfl) hf
    have hf := (o_i hf).1 c17
    refine lv_iconst (v := 0) hx hb dX7_reads_127 (by decide) ?_
    have e9 := Option.some.inj hf
    subst e9
    exact rt_z C hP hS rfl rfl dX7_reads_128
set_option maxHeartbeats 4000000 in
set_option maxRecDepth 100000 in
theorem jX7_reads_28 {p : Program} {e : Env} {s : State} {m : MethodId} {args : Array Value} {below : List Frame} {meth : Method} {c : Code} {A : Nat → Prop} (l : Launch) (G : GG) (C : Cx p m c cX7_reads 4 s args wsX7_reads RX7 meth (some .boolean) G A) (a : Nat → Nat) (a_book : Nat → Int32) (a_spare : Nat → Int32) (a_images : Nat → Int32) (a_kept : Nat → Int32) (a_text : Nat → Int32) (a_length : Int32) (a_refused : Nat → Int32) (a_items : Nat → Int32) (a_many : Int32) (a_at : Int32) (a_sort : Int32) (a_start : Int32) (a_size : Int32) (a_due : Nat → Int32) (a_rung : Nat → Int32) (a_anywhere : Nat → Int32)  (out : Int32 × (Nat → Int32) × Int32 × Int32 × Int32 × Int32 × Int32) (kb kx : (Nat → Int32) → Int32 → Int32 → Int32 → Int32 → Int32 → Option (Int32 × (Nat → Int32) × Int32 × Int32 × Int32 × Int32 × Int32)) (HB : ∀ (a_items_14 : Nat → Int32) (a_many_14 : Int32) (a_at_14 : Int32) (a_sort_14 : Int32) (a_start_14 : Int32) (a_size_14 : Int32) (H : Heap) (locs : List Loc) (ls : Array Slot), va_P G.1 vwCl (flat [wX7 G a a_book a_spare a_images a_kept a_text a_length a_refused a_items_14 a_many_14 a_at_14 a_sort_14 a_start_14 a_size_14 a_due a_rung a_anywhere]) H → va_D A (flat [wX7 G a a_book a_spare a_images a_kept a_text a_length a_refused a_items_14 a_many_14 a_at_14 a_sort_14 a_start_14 a_size_14 a_due a_rung a_anywhere]) → va_S A s.heap H locs → lv_has ls 4 [(0, .ref (a 0))] → kb a_items_14 a_many_14 a_at_14 a_sort_14 a_start_14 a_size_14 = some out → W p l e rmX7_reads s m args below meth c H locs 0 0 (MQ below (QI G A out.1 (flat [wX7 G a a_book a_spare a_images a_kept a_text a_length a_refused out.2.1 out.2.2.1 out.2.2.2.1 out.2.2.2.2.1 out.2.2.2.2.2.1 out.2.2.2.2.2.2 a_due a_rung a_anywhere])) args s 0 0 A) (F0 m 14 ls [])) (HX : ∀ (a_items_14 : Nat → Int32) (a_many_14 : Int32) (a_at_14 : Int32) (a_sort_14 : Int32) (a_start_14 : Int32) (a_size_14 : Int32) (H : Heap) (locs : List Loc) (ls : Array Slot), va_P G.1 vwCl (flat [wX7 G a a_book a_spare a_images a_kept a_text a_length a_refused a_items_14 a_many_14 a_at_14 a_sort_14 a_start_14 a_size_14 a_due a_rung a_anywhere]) H → va_D A (flat [wX7 G a a_book a_spare a_images a_kept a_text a_length a_refused a_items_14 a_many_14 a_at_14 a_sort_14 a_start_14 a_size_14 a_due a_rung a_anywhere]) → va_S A s.heap H locs → lv_has ls 4 [(0, .ref (a 0))] → kx a_items_14 a_many_14 a_at_14 a_sort_14 a_start_14 a_size_14 = some out → W p l e rmX7_reads s m args below meth c H locs 0 0 (MQ below (QI G A out.1 (flat [wX7 G a a_book a_spare a_images a_kept a_text a_length a_refused out.2.1 out.2.2.1 out.2.2.2.1 out.2.2.2.2.1 out.2.2.2.2.2.1 out.2.2.2.2.2.2 a_due a_rung a_anywhere])) args s 0 0 A) (F0 m 166 ls [])) : ∀ (a_items_14 : Nat → Int32) (a_many_14 : Int32) (a_at_14 : Int32) (a_sort_14 : Int32) (a_start_14 : Int32) (a_size_14 : Int32) (H : Heap) (locs : List Loc) (ls : Array Slot), va_P G.1 vwCl (flat [wX7 G a a_book a_spare a_images a_kept a_text a_length a_refused a_items_14 a_many_14 a_at_14 a_sort_14 a_start_14 a_size_14 a_due a_rung a_anywhere]) H → va_D A (flat [wX7 G a a_book a_spare a_images a_kept a_text a_length a_refused a_items_14 a_many_14 a_at_14 a_sort_14 a_start_14 a_size_14 a_due a_rung a_anywhere]) → va_S A s.heap H locs → lv_has ls 4 [(0, .ref (a 0))] → fX7_reads_J28 a_text a_length kb kx a_items_14 a_many_14 a_at_14 a_sort_14 a_start_14 a_size_14 = some out → W p l e rmX7_reads s m args below meth c H locs 0 0 (MQ below (QI G A out.1 (flat [wX7 G a a_book a_spare a_images a_kept a_text a_length a_refused out.2.1 out.2.2.1 out.2.2.2.1 out.2.2.2.2.1 out.2.2.2.2.2.1 out.2.2.2.2.2.2 a_due a_rung a_anywhere])) args s 0 0 A) (F0 m 28 ls []) := by
  obtain ⟨⟨hx, hb, hml, hown, hts⟩, hr, hlocks, hK, hN, hE, hA⟩ := id C
  intro a_items_14 a_many_14 a_at_14 a_sort_14 a_start_14 a_size_14 H locs ls hP hD hS hl hf
  unfold fX7_reads_J28 at hf
  refine lv_aload_n hx hb dX7_reads_28 rfl (lv_at hl 0 rfl) ?_
  obtain ⟨g2, hg2, hf⟩ := o_b hf
  refine bVi C hP hD hS (tX7_verb l G a a_book a_spare a_images a_kept a_text a_length a_refused a_items_14 a_many_14 a_at_14 a_sort_14 a_start_14 a_size_14 a_due a_rung a_anywhere g2 hg2) gX7_reads_X7_verb rfl ⟨rfl, rfl⟩ hdX7_verb ⟨Nat.le_of_ble_eq_true rfl, Nat.le_of_ble_eq_true rfl⟩ rfl hl.1 rfl (Nat.le_of_ble_eq_true rfl) ⟨Nat.le_of_ble_eq_true rfl, Nat.le_of_ble_eq_true rfl⟩ [0] rfl rfl rfl (setB_same _ _ _ rfl) rfl (ci := 7) (q0 := 0) rfl rfl rfl dX7_reads_29 (fun H locs hP hD hS => ?_)
  refine lv_istore_n (lv' := [(1, .int g2), (0, .ref (a 0))]) hx hb dX7_reads_32 rfl hl (by decide) rfl (fun ls hl => ?_)
  refine lv_iload_n hx hb dX7_reads_33 rfl (lv_at hl 0 rfl) ?_
  refine lv_iconst (v := (-1)) hx hb dX7_reads_34 (by decide) ?_
  refine lv_icmp_eq (tgt := 62) hx hb dX7_reads_35 (by decide) (fun c3 => ?_) (fun c3 => ?_)
  · have hf := (o_i hf).1 c3
    refine lv_iconst (v := 0) hx hb dX7_reads_62 (by decide) ?_
    have e9 := Option.some.inj hf
    subst e9
    exact rt_z C hP hS rfl rfl dX7_reads_63
  have hf := (o_i hf).2 c3
  refine lv_iload_n hx hb dX7_reads_38 rfl (lv_at hl 0 rfl) ?_
  obtain ⟨f5, hf5, hf⟩ := o_b hf
  have hJ : ∀ (H : Heap) (locs : List Loc) (ls : Array Slot), va_P G.1 vwCl (flat [wX7 G a a_book a_spare a_images a_kept a_text a_length a_refused a_items_14 a_many_14 a_at_14 a_sort_14 a_start_14 a_size_14 a_due a_rung a_anywhere]) H → va_D A (flat [wX7 G a a_book a_spare a_images a_kept a_text a_length a_refused a_items_14 a_many_14 a_at_14 a_sort_14 a_start_14 a_size_14 a_due a_rung a_anywhere]) → va_S A s.heap H locs → lv_has ls 4 [(0, .ref (a 0)), (1, .int g2)] → W p l e rmX7_reads s m args below meth c H locs 0 0 (MQ below (QI G A out.1 (flat [wX7 G a a_book a_spare a_images a_kept a_text a_length a_refused out.2.1 out.2.2.1 out.2.2.2.1 out.2.2.2.2.1 out.2.2.2.2.2.1 out.2.2.2.2.2.2 a_due a_rung a_anywhere])) args s 0 0 A) (F0 m 47 ls [.int f5]) := by
    intro H locs ls hP hD hS hl
    refine lv_aload_n hx hb dX7_reads_47 rfl (lv_at hl 0 rfl) ?_
    refine va_get (D := G.1) (ci := 7) (v := .int a_many_14) (C := RX7) (T := TX7) (N := 16) hx hb hts iiX7_reads_X7 hown hK hP 0 rfl rfl 8 (by decide) (hts _ mmX7_reads_2) (fun _ h9 => h9) rfl dX7_reads_48 ?_
    obtain ⟨f7, hf7, hf⟩ := o_b hf
    have hJ : ∀ (H : Heap) (locs : List Loc) (ls : Array Slot), va_P G.1 vwCl (flat [wX7 G a a_book a_spare a_images a_kept a_text a_length a_refused a_items_14 a_many_14 a_at_14 a_sort_14 a_start_14 a_size_14 a_due a_rung a_anywhere]) H → va_D A (flat [wX7 G a a_book a_spare a_images a_kept a_text a_length a_refused a_items_14 a_many_14 a_at_14 a_sort_14 a_start_14 a_size_14 a_due a_rung a_anywhere]) → va_S A s.heap H locs → lv_has ls 4 [(0, .ref (a 0)), (1, .int g2)] → W p l e rmX7_reads s m args below meth c H locs 0 0 (MQ below (QI G A out.1 (flat [wX7 G a a_book a_spare a_images a_kept a_text a_length a_refused out.2.1 out.2.2.1 out.2.2.2.1 out.2.2.2.2.1 out.2.2.2.2.2.1 out.2.2.2.2.2.2 a_due a_rung a_anywhere])) args s 0 0 A) (F0 m 59 ls [.int f7, .int f5]) := by
      intro H locs ls hP hD hS hl
      refine lv_icmp_eq (tgt := 64) hx hb dX7_reads_59 (by decide) (fun c8 => ?_) (fun c8 => ?_)
      · have hf := (o_i hf).1 c8
        refine lv_aload_n hx hb dX7_reads_64 rfl (lv_at hl 0 rfl) ?_
        refine va_get (D := G.1) (ci := 7) (v := .int a_many_14) (C := RX7) (T := TX7) (N := 16) hx hb hts iiX7_reads_X7 hown hK hP 0 rfl rfl 8 (by decide) (hts _ mmX7_reads_2) (fun _ h9 => h9) rfl dX7_reads_65 ?_
        refine lv_bipush (v := 62) hx hb dX7_reads_68 (by decide) ?_
        obtain ⟨f10, hf10, hf⟩ := o_b hf
        have hJ : ∀ (H : Heap) (locs : List Loc) (ls : Array Slot), va_P G.1 vwCl (flat [wX7 G a a_book a_spare a_images a_kept a_text a_length a_refused a_items_14 a_many_14 a_at_14 a_sort_14 a_start_14 a_size_14 a_due a_rung a_anywhere]) H → va_D A (flat [wX7 G a a_book a_spare a_images a_kept a_text a_length a_refused a_items_14 a_many_14 a_at_14 a_sort_14 a_start_14 a_size_14 a_due a_rung a_anywhere]) → va_S A s.heap H locs → lv_has ls 4 [(0, .ref (a 0)), (1, .int g2)] → W p l e rmX7_reads s m args below meth c H locs 0 0 (MQ below (QI G A out.1 (flat [wX7 G a a_book a_spare a_images a_kept a_text a_length a_refused out.2.1 out.2.2.1 out.2.2.2.1 out.2.2.2.2.1 out.2.2.2.2.2.1 out.2.2.2.2.2.2 a_due a_rung a_anywhere])) args s 0 0 A) (F0 m 85 ls [.int f10]) := by
          intro H locs ls hP hD hS hl
          refine lv_istore_n (lv' := [(2, .int f10), (0, .ref (a 0)), (1, .int g2)]) hx hb dX7_reads_85 rfl hl (by decide) rfl (fun ls hl => ?_)
          refine lv_aload_n hx hb dX7_reads_86 rfl (lv_at hl 1 rfl) ?_
          refine va_get (D := G.1) (ci := 7) (v := .ref (a 7)) (C := RX7) (T := TX7) (N := 16) hx hb hts iiX7_reads_X7 hown hK hP 0 rfl rfl 7 (by decide) (hts _ mmX7_reads_3) (fun _ h9 => h9) rfl dX7_reads_87 ?_
          refine lv_iload_n hx hb dX7_reads_90 rfl (lv_at hl 0 rfl) ?_
          refine lv_iload_n hx hb dX7_reads_91 rfl (lv_at hl 2 rfl) ?_
          obtain ⟨u11, hu11, hf⟩ := o_b hf
          refine k_iast hx hb hK hP hD hS 7 0 rfl rfl hu11 dX7_reads_92 (fun H locs hP hD hS => ?_)
          have hP : va_P G.1 vwCl (flat [wX7 G a a_book a_spare a_images a_kept a_text a_length a_refused u11 a_many_14 a_at_14 a_sort_14 a_start_14 a_size_14 a_due a_rung a_anywhere]) H := hP
          have hD : va_D A (flat [wX7 G a a_book a_spare a_images a_kept a_text a_length a_refused u11 a_many_14 a_at_14 a_sort_14 a_start_14 a_size_14 a_due a_rung a_anywhere]) := hD
          refine lv_iconst (v := 1) hx hb dX7_reads_93 (by decide) ?_
          refine lv_istore_n (lv' := [(3, .int 1), (2, .int f10), (0, .ref (a 0)), (1, .int g2)]) hx hb dX7_reads_94 rfl hl (by decide) rfl (fun ls hl => ?_)
          refine lX7_reads_95 l G C a a_book a_spare a_images a_kept a_text a_length a_refused a_items a_many a_at a_sort a_start a_size a_due a_rung a_anywhere a_many_14 g2 f10 out _ (fun x3_95_18 a_items_95_19 a_at_95_20 a_sort_95_21 a_start_95_22 a_size_95_23 H locs ls hP hD hS hl hf => ?_) fu 1 u11 a_at_14 a_sort_14 a_start_14 a_size_14 _ _ _ hP hD hS (lv_sub hl [2, 3, 1, 0] rfl) hf
          refine lv_aload_n hx hb dX7_reads_135 rfl (lv_at hl 0 rfl) ?_
          obtain ⟨g24, hg24, hf⟩ := o_b hf
          refine bVv (Bs' := [wX7 G a a_book a_spare a_images a_kept a_text a_length a_refused a_items_95_19 a_many_14 g24.1 g24.2.1 g24.2.2.1 g24.2.2.2 a_due a_rung a_anywhere]) C hP hD hS (tX7_token l G a a_book a_spare a_images a_kept a_text a_length a_refused a_items_95_19 a_many_14 a_at_95_20 a_sort_95_21 a_start_95_22 a_size_95_23 a_due a_rung a_anywhere g24 hg24) gX7_reads_X7_token rfl ⟨rfl, rfl⟩ hdX7_token ⟨Nat.le_of_ble_eq_true rfl, Nat.le_of_ble_eq_true rfl⟩ rfl hl.1 rfl (Nat.le_of_ble_eq_true rfl) ⟨Nat.le_of_ble_eq_true rfl, Nat.le_of_ble_eq_true rfl⟩ [0] rfl rfl rfl rfl rfl (ci := 7) (q0 := 0) rfl rfl rfl dX7_reads_136 (fun H locs hP hD hS => ?_)
          have hP : va_P G.1 vwCl (flat [wX7 G a a_book a_spare a_images a_kept a_text a_length a_refused a_items_95_19 a_many_14 g24.1 g24.2.1 g24.2.2.1 g24.2.2.2 a_due a_rung a_anywhere]) H := hP
          have hD : va_D A (flat [wX7 G a a_book a_spare a_images a_kept a_text a_length a_refused a_items_95_19 a_many_14 g24.1 g24.2.1 g24.2.2.1 g24.2.2.2 a_due a_rung a_anywhere]) := hD
          refine lv_aload_n hx hb dX7_reads_139 rfl (lv_at hl 0 rfl) ?_
          refine va_get (D := G.1) (ci := 7) (v := .int g24.2.1) (C := RX7) (T := TX7) (N := 16) hx hb hts iiX7_reads_X7 hown hK hP 0 rfl rfl 10 (by decide) (hts _ mmX7_reads_4) (fun _ h9 => h9) rfl dX7_reads_140 ?_
          refine lv_iconst (v := 3) hx hb dX7_reads_143 (by decide) ?_
          refine lv_icmp_eq (tgt := 149) hx hb dX7_reads_144 (by decide) (fun c25 => ?_) (fun c25 => ?_)
          · have hf := (o_i hf).1 c25
            refine lv_aload_n hx hb dX7_reads_149 rfl (lv_at hl 0 rfl) ?_
            refine lv_dup hx hb dX7_reads_150 rfl ?_
            refine va_get (D := G.1) (ci := 7) (v := .int a_many_14) (C := RX7) (T := TX7) (N := 16) hx hb hts iiX7_reads_X7 hown hK hP 0 rfl rfl 8 (by decide) (hts _ mmX7_reads_2) (fun _ h9 => h9) rfl dX7_reads_151 ?_
            refine lv_iconst (v := 1) hx hb dX7_reads_154 (by decide) ?_
            refine lv_iadd hx hb dX7_reads_155 ?_
            refine va_put (D := G.1) (ci := 7) (v := .int (a_many_14 + 1)) (ty := .int) (C := RX7) (T := TX7) (N := 16) hx hb hts iiX7_reads_X7 tyX7 tyX7_ok nmX7 hown hK hP hD hS 0 rfl rfl 8 (by decide) (hts _ mmX7_reads_2) (fun _ h9 => h9) rfl (by decide +kernel) rfl rfl (Nat.le_of_ble_eq_true rfl) dX7_reads_156 (fun H locs hP hD hS => ?_)
            have hP : va_P G.1 vwCl (flat [wX7 G a a_book a_spare a_images a_kept a_text a_length a_refused a_items_95_19 (a_many_14 + 1) g24.1 g24.2.1 g24.2.2.1 g24.2.2.2 a_due a_rung a_anywhere]) H := hP
            have hD : va_D A (flat [wX7 G a a_book a_spare a_images a_kept a_text a_length a_refused a_items_95_19 (a_many_14 + 1) g24.1 g24.2.1 g24.2.2.1 g24.2.2.2 a_due a_rung a_anywhere]) := hD
            refine lv_aload_n hx hb dX7_reads_159 rfl (lv_at hl 0 rfl) ?_
            obtain ⟨g26, hg26, hf⟩ := o_b hf
            refine bVv (Bs' := [wX7 G a a_book a_spare a_images a_kept a_text a_length a_refused a_items_95_19 (a_many_14 + 1) g26.1 g26.2.1 g26.2.2.1 g26.2.2.2 a_due a_rung a_anywhere]) C hP hD hS (tX7_token l G a a_book a_spare a_images a_kept a_text a_length a_refused a_items_95_19 (a_many_14 + 1) g24.1 g24.2.1 g24.2.2.1 g24.2.2.2 a_due a_rung a_anywhere g26 hg26) gX7_reads_X7_token rfl ⟨rfl, rfl⟩ hdX7_token ⟨Nat.le_of_ble_eq_true rfl, Nat.le_of_ble_eq_true rfl⟩ rfl hl.1 rfl (Nat.le_of_ble_eq_true rfl) ⟨Nat.le_of_ble_eq_true rfl, Nat.le_of_ble_eq_true rfl⟩ [0] rfl rfl rfl rfl rfl (ci := 7) (q0 := 0) rfl rfl rfl dX7_reads_160 (fun H locs hP hD hS => ?_)
            have hP : va_P G.1 vwCl (flat [wX7 G a a_book a_spare a_images a_kept a_text a_length a_refused a_items_95_19 (a_many_14 + 1) g26.1 g26.2.1 g26.2.2.1 g26.2.2.2 a_due a_rung a_anywhere]) H := hP
            have hD : va_D A (flat [wX7 G a a_book a_spare a_images a_kept a_text a_length a_refused a_items_95_19 (a_many_14 + 1) g26.1 g26.2.1 g26.2.2.1 g26.2.2.2 a_due a_rung a_anywhere]) := hD
            refine lv_goto (tgt := 14) hx hb dX7_reads_163 (by decide) ?_
            exact HB _ _ _ _ _ _ _ _ _ hP hD hS (lv_sub hl [0] rfl) hf
          have hf := (o_i hf).2 c25
          refine lv_iconst (v := 0) hx hb dX7_reads_147 (by decide) ?_
          have e9 := Option.some.inj hf
          subst e9
          exact rt_z C hP hS rfl rfl dX7_reads_148
        clear hf
        have hf := hf10
        refine lv_icmp_ge (tgt := 82) hx hb dX7_reads_70 (by decide) (fun c9 => ?_) (fun c9 => ?_)
        · have hf := (o_i hf).1 c9
          refine lv_sipush (v := 244) hx hb dX7_reads_82 (by decide) ?_
          have e9 := Option.some.inj hf
          subst e9
          exact hJ _ _ _ hP hD hS (lv_sub hl [0, 1] rfl)
        have hf := (o_i hf).2 c9
        refine lv_iconst (v := 4) hx hb dX7_reads_73 (by decide) ?_
        refine lv_aload_n hx hb dX7_reads_74 rfl (lv_at hl 0 rfl) ?_
        refine va_get (D := G.1) (ci := 7) (v := .int a_many_14) (C := RX7) (T := TX7) (N := 16) hx hb hts iiX7_reads_X7 hown hK hP 0 rfl rfl 8 (by decide) (hts _ mmX7_reads_2) (fun _ h9 => h9) rfl dX7_reads_75 ?_
        refine lv_imul hx hb dX7_reads_78 ?_
        refine lv_goto (tgt := 85) hx hb dX7_reads_79 (by decide) ?_
        have e9 := Option.some.inj hf
        subst e9
        exact hJ _ _ _ hP hD hS (lv_sub hl [0, 1] rfl)
      have hf := (o_i hf).2 c8
      refine lv_iconst (v := 0) hx hb dX7_reads_62 (by decide) ?_
      have e9 := Option.some.inj hf
      subst e9
      exact rt_z C hP hS rfl rfl dX7_reads_63
    clear hf
    have hf := hf7
    refine lv_if_ne (tgt := 58) hx hb dX7_reads_51 (by decide) (fun c6 => ?_) (fun c6 => ?_)
    · have hf := (o_i hf).2 c6
      refine lv_iconst (v := 0) hx hb dX7_reads_58 (by decide) ?_
      have e9 := Option.some.inj hf
      subst e9
      exact hJ _ _ _ hP hD hS (lv_sub hl [0, 1] rfl)
    have hf := (o_i hf).1 c6
    refine lv_iconst (v := 1) hx hb dX7_reads_54 (by decide) ?_
    refine lv_goto (tgt := 59) hx hb dX7_reads_55 (by decide) ?_
    have e9 := Option.some.inj hf
    subst e9
    exact hJ _ _ _ hP hD hS (lv_sub hl [0, 1] rfl)
  clear hf
  have hf := hf5
  refine lv_if_ne (tgt := 46) hx hb dX7_reads_39 (by decide) (fun c4 => ?_) (fun c4 => ?_)
  · have hf := (o_i hf).2 c4
    refine lv_iconst (v := 0) hx hb dX7_reads_46 (by decide) ?_
    have e9 := Option.some.inj hf
    subst e9
    exact hJ _ _ _ hP hD hS (lv_sub hl [1, 0] rfl)
  have hf := (o_i hf).1 c4
  refine lv_iconst (v := 1) hx hb dX7_reads_42 (by decide) ?_
  refine lv_goto (tgt := 47) hx hb dX7_reads_43 (by decide) ?_
  have e9 := Option.some.inj hf
  subst e9
  exact hJ _ _ _ hP hD hS (lv_sub hl [1, 0] rfl)
set_option maxHeartbeats 4000000 in
set_option maxRecDepth 100000 in
theorem lX7_reads_14 {p : Program} {e : Env} {s : State} {m : MethodId} {args : Array Value} {below : List Frame} {meth : Method} {c : Code} {A : Nat → Prop} (l : Launch) (G : GG) (C : Cx p m c cX7_reads 4 s args wsX7_reads RX7 meth (some .boolean) G A) (a : Nat → Nat) (a_book : Nat → Int32) (a_spare : Nat → Int32) (a_images : Nat → Int32) (a_kept : Nat → Int32) (a_text : Nat → Int32) (a_length : Int32) (a_refused : Nat → Int32) (a_items : Nat → Int32) (a_many : Int32) (a_at : Int32) (a_sort : Int32) (a_start : Int32) (a_size : Int32) (a_due : Nat → Int32) (a_rung : Nat → Int32) (a_anywhere : Nat → Int32)  (out : Int32 × (Nat → Int32) × Int32 × Int32 × Int32 × Int32 × Int32) (kx : (Nat → Int32) → Int32 → Int32 → Int32 → Int32 → Int32 → Option (Int32 × (Nat → Int32) × Int32 × Int32 × Int32 × Int32 × Int32)) (HX : ∀ (a_items_14 : Nat → Int32) (a_many_14 : Int32) (a_at_14 : Int32) (a_sort_14 : Int32) (a_start_14 : Int32) (a_size_14 : Int32) (H : Heap) (locs : List Loc) (ls : Array Slot), va_P G.1 vwCl (flat [wX7 G a a_book a_spare a_images a_kept a_text a_length a_refused a_items_14 a_many_14 a_at_14 a_sort_14 a_start_14 a_size_14 a_due a_rung a_anywhere]) H → va_D A (flat [wX7 G a a_book a_spare a_images a_kept a_text a_length a_refused a_items_14 a_many_14 a_at_14 a_sort_14 a_start_14 a_size_14 a_due a_rung a_anywhere]) → va_S A s.heap H locs → lv_has ls 4 [(0, .ref (a 0))] → kx a_items_14 a_many_14 a_at_14 a_sort_14 a_start_14 a_size_14 = some out → W p l e rmX7_reads s m args below meth c H locs 0 0 (MQ below (QI G A out.1 (flat [wX7 G a a_book a_spare a_images a_kept a_text a_length a_refused out.2.1 out.2.2.1 out.2.2.2.1 out.2.2.2.2.1 out.2.2.2.2.2.1 out.2.2.2.2.2.2 a_due a_rung a_anywhere])) args s 0 0 A) (F0 m 166 ls [])) : ∀ (n : Nat) (a_items_14 : Nat → Int32) (a_many_14 : Int32) (a_at_14 : Int32) (a_sort_14 : Int32) (a_start_14 : Int32) (a_size_14 : Int32) (H : Heap) (locs : List Loc) (ls : Array Slot), va_P G.1 vwCl (flat [wX7 G a a_book a_spare a_images a_kept a_text a_length a_refused a_items_14 a_many_14 a_at_14 a_sort_14 a_start_14 a_size_14 a_due a_rung a_anywhere]) H → va_D A (flat [wX7 G a a_book a_spare a_images a_kept a_text a_length a_refused a_items_14 a_many_14 a_at_14 a_sort_14 a_start_14 a_size_14 a_due a_rung a_anywhere]) → va_S A s.heap H locs → lv_has ls 4 [(0, .ref (a 0))] → fX7_reads_14 a_text a_length kx n a_items_14 a_many_14 a_at_14 a_sort_14 a_start_14 a_size_14 = some out → W p l e rmX7_reads s m args below meth c H locs 0 0 (MQ below (QI G A out.1 (flat [wX7 G a a_book a_spare a_images a_kept a_text a_length a_refused out.2.1 out.2.2.1 out.2.2.2.1 out.2.2.2.2.1 out.2.2.2.2.2.1 out.2.2.2.2.2.2 a_due a_rung a_anywhere])) args s 0 0 A) (F0 m 14 ls []) := by
  obtain ⟨⟨hx, hb, hml, hown, hts⟩, hr, hlocks, hK, hN, hE, hA⟩ := id C
  intro n
  induction n with
  | zero =>
    intro a_items_14 a_many_14 a_at_14 a_sort_14 a_start_14 a_size_14 H locs ls hP hD hS hl hf
    exact absurd (show (none : Option (Int32 × (Nat → Int32) × Int32 × Int32 × Int32 × Int32 × Int32)) = some out from hf) (by intro q9; cases q9)
  | succ n ih =>
    intro a_items_14 a_many_14 a_at_14 a_sort_14 a_start_14 a_size_14 H locs ls hP hD hS hl hf
    rw [fX7_reads_14] at hf
    refine lv_aload_n hx hb dX7_reads_14 rfl (lv_at hl 0 rfl) ?_
    refine va_get (D := G.1) (ci := 7) (v := .int a_many_14) (C := RX7) (T := TX7) (N := 16) hx hb hts iiX7_reads_X7 hown hK hP 0 rfl rfl 8 (by decide) (hts _ mmX7_reads_2) (fun _ h9 => h9) rfl dX7_reads_15 ?_
    refine lv_if_eq (tgt := 28) hx hb dX7_reads_18 (by decide) (fun c27 => ?_) (fun c27 => ?_)
    · have hf := (o_i hf).1 c27
      exact jX7_reads_28 l G C a a_book a_spare a_images a_kept a_text a_length a_refused a_items a_many a_at a_sort a_start a_size a_due a_rung a_anywhere out _ _ ih HX _ _ _ _ _ _ _ _ _ hP hD hS (lv_sub hl [0] rfl) hf
    have hf := (o_i hf).2 c27
    refine lv_aload_n hx hb dX7_reads_21 rfl (lv_at hl 0 rfl) ?_
    refine va_get (D := G.1) (ci := 7) (v := .int a_sort_14) (C := RX7) (T := TX7) (N := 16) hx hb hts iiX7_reads_X7 hown hK hP 0 rfl rfl 10 (by decide) (hts _ mmX7_reads_4) (fun _ h9 => h9) rfl dX7_reads_22 ?_
    refine lv_if_eq (tgt := 166) hx hb dX7_reads_25 (by decide) (fun c28 => ?_) (fun c28 => ?_)
    · have hf := (o_i hf).1 c28
      exact HX _ _ _ _ _ _ _ _ _ hP hD hS (lv_sub hl [0] rfl) hf
    have hf := (o_i hf).2 c28
    exact jX7_reads_28 l G C a a_book a_spare a_images a_kept a_text a_length a_refused a_items a_many a_at a_sort a_start a_size a_due a_rung a_anywhere out _ _ ih HX _ _ _ _ _ _ _ _ _ hP hD hS (lv_sub hl [0] rfl) hf
set_option maxHeartbeats 4000000 in
set_option maxRecDepth 100000 in
theorem tX7_reads (l : Launch) (G : GG) (a : Nat → Nat) (a_book : Nat → Int32) (a_spare : Nat → Int32) (a_images : Nat → Int32) (a_kept : Nat → Int32) (a_text : Nat → Int32) (a_length : Int32) (a_refused : Nat → Int32) (a_items : Nat → Int32) (a_many : Int32) (a_at : Int32) (a_sort : Int32) (a_start : Int32) (a_size : Int32) (a_due : Nat → Int32) (a_rung : Nat → Int32) (a_anywhere : Nat → Int32) (out : Int32 × (Nat → Int32) × Int32 × Int32 × Int32 × Int32 × Int32) (hf : fX7_reads a_text a_length a_items = some out) : cMi l G yX7_reads wsX7_reads rmX7_reads [.ref (a 0)] (flat [wX7 G a a_book a_spare a_images a_kept a_text a_length a_refused a_items a_many a_at a_sort a_start a_size a_due a_rung a_anywhere]) out.1 (flat [wX7 G a a_book a_spare a_images a_kept a_text a_length a_refused out.2.1 out.2.2.1 out.2.2.2.1 out.2.2.2.2.1 out.2.2.2.2.2.1 out.2.2.2.2.2.2 a_due a_rung a_anywhere]) := by
  intro sz
  refine met_of (cc := cX7_reads) (nL := 4) (ret := (some .boolean)) (Qc := fun A9 => QI G A9 out.1 (flat [wX7 G a a_book a_spare a_images a_kept a_text a_length a_refused out.2.1 out.2.2.1 out.2.2.2.1 out.2.2.2.2.1 out.2.2.2.2.2.1 out.2.2.2.2.2.2 a_due a_rung a_anywhere])) (by decide) rfl (Nat.le_of_ble_eq_true rfl) ?_
  intro p e s m args below meth c A ls C hP hD hS hl
  obtain ⟨⟨hx, hb, hml, hown, hts⟩, hr, hlocks, hK, hN, hE, hA⟩ := id C
  have hl : lv_has ls 4 [(0, .ref (a 0))] := hl
  unfold fX7_reads at hf
  refine lv_aload_n hx hb dX7_reads_0 rfl (lv_at hl 0 rfl) ?_
  refine lv_iconst (v := 0) hx hb dX7_reads_1 (by decide) ?_
  refine va_put (D := G.1) (ci := 7) (v := .int 0) (ty := .int) (C := RX7) (T := TX7) (N := 16) hx hb hts iiX7_reads_X7 tyX7 tyX7_ok nmX7 hown hK hP hD hS 0 rfl rfl 9 (by decide) (hts _ mmX7_reads_1) (fun _ h9 => h9) rfl (by decide +kernel) rfl rfl (Nat.le_of_ble_eq_true rfl) dX7_reads_2 (fun H locs hP hD hS => ?_)
  have hP : va_P G.1 vwCl (flat [wX7 G a a_book a_spare a_images a_kept a_text a_length a_refused a_items a_many 0 a_sort a_start a_size a_due a_rung a_anywhere]) H := hP
  have hD : va_D A (flat [wX7 G a a_book a_spare a_images a_kept a_text a_length a_refused a_items a_many 0 a_sort a_start a_size a_due a_rung a_anywhere]) := hD
  refine lv_aload_n hx hb dX7_reads_5 rfl (lv_at hl 0 rfl) ?_
  refine lv_iconst (v := 0) hx hb dX7_reads_6 (by decide) ?_
  refine va_put (D := G.1) (ci := 7) (v := .int 0) (ty := .int) (C := RX7) (T := TX7) (N := 16) hx hb hts iiX7_reads_X7 tyX7 tyX7_ok nmX7 hown hK hP hD hS 0 rfl rfl 8 (by decide) (hts _ mmX7_reads_2) (fun _ h9 => h9) rfl (by decide +kernel) rfl rfl (Nat.le_of_ble_eq_true rfl) dX7_reads_7 (fun H locs hP hD hS => ?_)
  have hP : va_P G.1 vwCl (flat [wX7 G a a_book a_spare a_images a_kept a_text a_length a_refused a_items 0 0 a_sort a_start a_size a_due a_rung a_anywhere]) H := hP
  have hD : va_D A (flat [wX7 G a a_book a_spare a_images a_kept a_text a_length a_refused a_items 0 0 a_sort a_start a_size a_due a_rung a_anywhere]) := hD
  refine lv_aload_n hx hb dX7_reads_10 rfl (lv_at hl 0 rfl) ?_
  obtain ⟨g1, hg1, hf⟩ := o_b hf
  refine bVv (Bs' := [wX7 G a a_book a_spare a_images a_kept a_text a_length a_refused a_items 0 g1.1 g1.2.1 g1.2.2.1 g1.2.2.2 a_due a_rung a_anywhere]) C hP hD hS (tX7_token l G a a_book a_spare a_images a_kept a_text a_length a_refused a_items 0 0 a_sort a_start a_size a_due a_rung a_anywhere g1 hg1) gX7_reads_X7_token rfl ⟨rfl, rfl⟩ hdX7_token ⟨Nat.le_of_ble_eq_true rfl, Nat.le_of_ble_eq_true rfl⟩ rfl hl.1 rfl (Nat.le_of_ble_eq_true rfl) ⟨Nat.le_of_ble_eq_true rfl, Nat.le_of_ble_eq_true rfl⟩ [0] rfl rfl rfl rfl rfl (ci := 7) (q0 := 0) rfl rfl rfl dX7_reads_11 (fun H locs hP hD hS => ?_)
  have hP : va_P G.1 vwCl (flat [wX7 G a a_book a_spare a_images a_kept a_text a_length a_refused a_items 0 g1.1 g1.2.1 g1.2.2.1 g1.2.2.2 a_due a_rung a_anywhere]) H := hP
  have hD : va_D A (flat [wX7 G a a_book a_spare a_images a_kept a_text a_length a_refused a_items 0 g1.1 g1.2.1 g1.2.2.1 g1.2.2.2 a_due a_rung a_anywhere]) := hD
  refine lX7_reads_14 l G C a a_book a_spare a_images a_kept a_text a_length a_refused a_items a_many a_at a_sort a_start a_size a_due a_rung a_anywhere out _ (fun a_items_14_29 a_many_14_30 a_at_14_31 a_sort_14_32 a_start_14_33 a_size_14_34 H locs ls hP hD hS hl hf => ?_) fu a_items 0 g1.1 g1.2.1 g1.2.2.1 g1.2.2.2 _ _ _ hP hD hS (lv_sub hl [0] rfl) hf
  refine lv_iconst (v := 1) hx hb dX7_reads_166 (by decide) ?_
  have e9 := Option.some.inj hf
  subst e9
  exact rt_z C hP hS rfl rfl dX7_reads_167

/-! RX7 tells(I)I -/
theorem iiX7_tells_X7 : ∀ w ∈ wsX70, w ∈ wsX7_tells := by decide +kernel
theorem mmX7_tells_1 : (Cond.fieldLink RX7 29 "BlindBellsModel" "items" "[I") ∈ wsX7_tells := by decide +kernel
theorem hdX7_tells : yX7_tells.cls = RX7 ∧ yX7_tells.cls ≠ "java/lang/invoke/MethodHandle" ∧ yX7_tells.cls ≠ "java/lang/invoke/VarHandle" ∧ (parseMethodDescriptor yX7_tells.desc).map (fun d => d.parameters.length) = some 1 := by decide +kernel
abbrev rmX7_tells : Room := { frames := 3, cells := 0, slots := 0, locals := 68 }
set_option maxHeartbeats 4000000 in
set_option maxRecDepth 100000 in
theorem tX7_tells (l : Launch) (G : GG) (a : Nat → Nat) (a_book : Nat → Int32) (a_spare : Nat → Int32) (a_images : Nat → Int32) (a_kept : Nat → Int32) (a_text : Nat → Int32) (a_length : Int32) (a_refused : Nat → Int32) (a_items : Nat → Int32) (a_many : Int32) (a_at : Int32) (a_sort : Int32) (a_start : Int32) (a_size : Int32) (a_due : Nat → Int32) (a_rung : Nat → Int32) (a_anywhere : Nat → Int32) (p0 : Int32) (out : Int32 × (Nat → Int32)) (hf : fX7_tells a_book a_items p0 = some out) : cMi l G yX7_tells wsX7_tells rmX7_tells [.ref (a 0), .int p0] (flat [wX7 G a a_book a_spare a_images a_kept a_text a_length a_refused a_items a_many a_at a_sort a_start a_size a_due a_rung a_anywhere]) out.1 (flat [wX7 G a out.2 a_spare a_images a_kept a_text a_length a_refused a_items a_many a_at a_sort a_start a_size a_due a_rung a_anywhere]) := by
  intro sz
  refine met_of (cc := cX7_tells) (nL := 6) (ret := (some .int)) (Qc := fun A9 => QI G A9 out.1 (flat [wX7 G a out.2 a_spare a_images a_kept a_text a_length a_refused a_items a_many a_at a_sort a_start a_size a_due a_rung a_anywhere])) (by decide) rfl (Nat.le_of_ble_eq_true rfl) ?_
  intro p e s m args below meth c A ls C hP hD hS hl
  obtain ⟨⟨hx, hb, hml, hown, hts⟩, hr, hlocks, hK, hN, hE, hA⟩ := id C
  have hl : lv_has ls 6 [(0, .ref (a 0)), (1, .int p0)] := hl
  unfold fX7_tells at hf
  refine lv_aload_n hx hb dX7_tells_0 rfl (lv_at hl 0 rfl) ?_
  refine va_get (D := G.1) (ci := 7) (v := .ref (a 7)) (C := RX7) (T := TX7) (N := 16) hx hb hts iiX7_tells_X7 hown hK hP 0 rfl rfl 7 (by decide) (hts _ mmX7_tells_1) (fun _ h9 => h9) rfl dX7_tells_1 ?_
  refine lv_iconst (v := 4) hx hb dX7_tells_4 (by decide) ?_
  refine lv_iload_n hx hb dX7_tells_5 rfl (lv_at hl 1 rfl) ?_
  refine lv_imul hx hb dX7_tells_6 ?_
  obtain ⟨z1, hz1, hf⟩ := o_b hf
  refine k_iald hx hb hK hP 7 0 rfl rfl hz1 dX7_tells_7 ?_
  refine lv_istore_n (lv' := [(2, .int z1), (0, .ref (a 0)), (1, .int p0)]) hx hb dX7_tells_8 rfl hl (by decide) rfl (fun ls hl => ?_)
  refine lv_aload_n hx hb dX7_tells_9 rfl (lv_at hl 1 rfl) ?_
  refine va_get (D := G.1) (ci := 7) (v := .ref (a 7)) (C := RX7) (T := TX7) (N := 16) hx hb hts iiX7_tells_X7 hown hK hP 0 rfl rfl 7 (by decide) (hts _ mmX7_tells_1) (fun _ h9 => h9) rfl dX7_tells_10 ?_
  refine at_pc (pc' := 13) rfl ?_
  refine lv_iconst (v := 4) hx hb dX7_tells_13 (by decide) ?_
  refine lv_iload_n hx hb dX7_tells_14 rfl (lv_at hl 2 rfl) ?_
  refine lv_imul hx hb dX7_tells_15 ?_
  refine lv_iconst (v := 1) hx hb dX7_tells_16 (by decide) ?_
  refine lv_iadd hx hb dX7_tells_17 ?_
  obtain ⟨z2, hz2, hf⟩ := o_b hf
  refine k_iald hx hb hK hP 7 0 rfl rfl hz2 dX7_tells_18 ?_
  refine lv_istore_n (lv' := [(3, .int z2), (2, .int z1), (0, .ref (a 0)), (1, .int p0)]) hx hb dX7_tells_19 rfl hl (by decide) rfl (fun ls hl => ?_)
  refine lv_aload_n hx hb dX7_tells_20 rfl (lv_at hl 2 rfl) ?_
  refine va_get (D := G.1) (ci := 7) (v := .ref (a 7)) (C := RX7) (T := TX7) (N := 16) hx hb hts iiX7_tells_X7 hown hK hP 0 rfl rfl 7 (by decide) (hts _ mmX7_tells_1) (fun _ h9 => h9) rfl dX7_tells_21 ?_
  refine lv_iconst (v := 4) hx hb dX7_tells_24 (by decide) ?_
  refine at_pc (pc' := 25) rfl ?_
  refine lv_iload_n hx hb dX7_tells_25 rfl (lv_at hl 3 rfl) ?_
  refine lv_imul hx hb dX7_tells_26 ?_
  refine lv_iconst (v := 2) hx hb dX7_tells_27 (by decide) ?_
  refine lv_iadd hx hb dX7_tells_28 ?_
  obtain ⟨z3, hz3, hf⟩ := o_b hf
  refine k_iald hx hb hK hP 7 0 rfl rfl hz3 dX7_tells_29 ?_
  refine lv_istore (lv' := [(4, .int z3), (3, .int z2), (2, .int z1), (0, .ref (a 0)), (1, .int p0)]) hx hb dX7_tells_30 hl (by decide) rfl (fun ls hl => ?_)
  refine lv_aload_n hx hb dX7_tells_32 rfl (lv_at hl 3 rfl) ?_
  refine va_get (D := G.1) (ci := 7) (v := .ref (a 7)) (C := RX7) (T := TX7) (N := 16) hx hb hts iiX7_tells_X7 hown hK hP 0 rfl rfl 7 (by decide) (hts _ mmX7_tells_1) (fun _ h9 => h9) rfl dX7_tells_33 ?_
  refine lv_iconst (v := 4) hx hb dX7_tells_36 (by decide) ?_
  refine lv_iload_n hx hb dX7_tells_37 rfl (lv_at hl 4 rfl) ?_
  refine at_pc (pc' := 38) rfl ?_
  refine lv_imul hx hb dX7_tells_38 ?_
  refine lv_iconst (v := 3) hx hb dX7_tells_39 (by decide) ?_
  refine lv_iadd hx hb dX7_tells_40 ?_
  obtain ⟨z4, hz4, hf⟩ := o_b hf
  refine k_iald hx hb hK hP 7 0 rfl rfl hz4 dX7_tells_41 ?_
  refine lv_istore (lv' := [(5, .int z4), (4, .int z3), (3, .int z2), (2, .int z1), (0, .ref (a 0)), (1, .int p0)]) hx hb dX7_tells_42 hl (by decide) rfl (fun ls hl => ?_)
  refine lv_iload_n hx hb dX7_tells_44 rfl (lv_at hl 3 rfl) ?_
  refine lv_if_ne (tgt := 68) hx hb dX7_tells_45 (by decide) (fun c5 => ?_) (fun c5 => ?_)
  · have hf := (o_i hf).2 c5
    refine lv_iload_n hx hb dX7_tells_68 rfl (lv_at hl 3 rfl) ?_
    refine lv_iconst (v := 1) hx hb dX7_tells_69 (by decide) ?_
    refine lv_icmp_ne (tgt := 86) hx hb dX7_tells_70 (by decide) (fun c6 => ?_) (fun c6 => ?_)
    · have hf := (o_i hf).2 c6
      refine lv_iload_n hx hb dX7_tells_86 rfl (lv_at hl 3 rfl) ?_
      refine lv_iconst (v := 2) hx hb dX7_tells_87 (by decide) ?_
      refine lv_icmp_ne (tgt := 101) hx hb dX7_tells_88 (by decide) (fun c7 => ?_) (fun c7 => ?_)
      · have hf := (o_i hf).2 c7
        refine lv_iload_n hx hb dX7_tells_101 rfl (lv_at hl 3 rfl) ?_
        refine lv_iconst (v := 3) hx hb dX7_tells_102 (by decide) ?_
        refine lv_icmp_ne (tgt := 116) hx hb dX7_tells_103 (by decide) (fun c8 => ?_) (fun c8 => ?_)
        · have hf := (o_i hf).2 c8
          refine lv_iload_n hx hb dX7_tells_116 rfl (lv_at hl 3 rfl) ?_
          refine lv_iconst (v := 4) hx hb dX7_tells_117 (by decide) ?_
          refine lv_icmp_ne (tgt := 131) hx hb dX7_tells_118 (by decide) (fun c9 => ?_) (fun c9 => ?_)
          · have hf := (o_i hf).2 c9
            refine lv_aload_n hx hb dX7_tells_131 rfl (lv_at hl 4 rfl) ?_
            refine lv_iload_n hx hb dX7_tells_132 rfl (lv_at hl 2 rfl) ?_
            refine lv_iload hx hb dX7_tells_133 (lv_at hl 1 rfl) ?_
            refine lv_iload hx hb dX7_tells_135 (lv_at hl 0 rfl) ?_
            obtain ⟨g10, hg10, hf⟩ := o_b hf
            refine bVi (Bs' := [wX7 G a g10.2 a_spare a_images a_kept a_text a_length a_refused a_items a_many a_at a_sort a_start a_size a_due a_rung a_anywhere]) C hP hD hS (tX7_tellsNeed l G a a_book a_spare a_images a_kept a_text a_length a_refused a_items a_many a_at a_sort a_start a_size a_due a_rung a_anywhere z2 z3 z4 g10 hg10) gX7_tells_X7_tellsNeed rfl ⟨rfl, rfl⟩ hdX7_tellsNeed ⟨Nat.le_of_ble_eq_true rfl, Nat.le_of_ble_eq_true rfl⟩ rfl hl.1 rfl (Nat.le_of_ble_eq_true rfl) ⟨Nat.le_of_ble_eq_true rfl, Nat.le_of_ble_eq_true rfl⟩ [0] rfl rfl rfl rfl rfl (ci := 7) (q0 := 0) rfl rfl rfl dX7_tells_137 (fun H locs hP hD hS => ?_)
            have hP : va_P G.1 vwCl (flat [wX7 G a g10.2 a_spare a_images a_kept a_text a_length a_refused a_items a_many a_at a_sort a_start a_size a_due a_rung a_anywhere]) H := hP
            have hD : va_D A (flat [wX7 G a g10.2 a_spare a_images a_kept a_text a_length a_refused a_items a_many a_at a_sort a_start a_size a_due a_rung a_anywhere]) := hD
            have e9 := Option.some.inj hf
            subst e9
            exact rt_i C hP hS rfl dX7_tells_140
          have hf := (o_i hf).1 c9
          refine lv_aload_n hx hb dX7_tells_121 rfl (lv_at hl 4 rfl) ?_
          refine lv_iload_n hx hb dX7_tells_122 rfl (lv_at hl 2 rfl) ?_
          refine lv_iload hx hb dX7_tells_123 (lv_at hl 1 rfl) ?_
          obtain ⟨g11, hg11, hf⟩ := o_b hf
          refine bVi (Bs' := [wX7 G a g11.2 a_spare a_images a_kept a_text a_length a_refused a_items a_many a_at a_sort a_start a_size a_due a_rung a_anywhere]) C hP hD hS (tX7_tellsFriend l G a a_book a_spare a_images a_kept a_text a_length a_refused a_items a_many a_at a_sort a_start a_size a_due a_rung a_anywhere z2 z3 g11 hg11) gX7_tells_X7_tellsFriend rfl ⟨rfl, rfl⟩ hdX7_tellsFriend ⟨Nat.le_of_ble_eq_true rfl, Nat.le_of_ble_eq_true rfl⟩ rfl hl.1 rfl (Nat.le_of_ble_eq_true rfl) ⟨Nat.le_of_ble_eq_true rfl, Nat.le_of_ble_eq_true rfl⟩ [0] rfl rfl rfl rfl rfl (ci := 7) (q0 := 0) rfl rfl rfl dX7_tells_125 (fun H locs hP hD hS => ?_)
          have hP : va_P G.1 vwCl (flat [wX7 G a g11.2 a_spare a_images a_kept a_text a_length a_refused a_items a_many a_at a_sort a_start a_size a_due a_rung a_anywhere]) H := hP
          have hD : va_D A (flat [wX7 G a g11.2 a_spare a_images a_kept a_text a_length a_refused a_items a_many a_at a_sort a_start a_size a_due a_rung a_anywhere]) := hD
          refine lv_goto (tgt := 140) hx hb dX7_tells_128 (by decide) ?_
          have e9 := Option.some.inj hf
          subst e9
          exact rt_i C hP hS rfl dX7_tells_140
        have hf := (o_i hf).1 c8
        refine lv_aload_n hx hb dX7_tells_106 rfl (lv_at hl 4 rfl) ?_
        refine lv_iload_n hx hb dX7_tells_107 rfl (lv_at hl 2 rfl) ?_
        refine lv_iload hx hb dX7_tells_108 (lv_at hl 1 rfl) ?_
        obtain ⟨g12, hg12, hf⟩ := o_b hf
        refine bVi (Bs' := [wX7 G a g12.2 a_spare a_images a_kept a_text a_length a_refused a_items a_many a_at a_sort a_start a_size a_due a_rung a_anywhere]) C hP hD hS (tX7_tellsTemper l G a a_book a_spare a_images a_kept a_text a_length a_refused a_items a_many a_at a_sort a_start a_size a_due a_rung a_anywhere z2 z3 g12 hg12) gX7_tells_X7_tellsTemper rfl ⟨rfl, rfl⟩ hdX7_tellsTemper ⟨Nat.le_of_ble_eq_true rfl, Nat.le_of_ble_eq_true rfl⟩ rfl hl.1 rfl (Nat.le_of_ble_eq_true rfl) ⟨Nat.le_of_ble_eq_true rfl, Nat.le_of_ble_eq_true rfl⟩ [0] rfl rfl rfl rfl rfl (ci := 7) (q0 := 0) rfl rfl rfl dX7_tells_110 (fun H locs hP hD hS => ?_)
        have hP : va_P G.1 vwCl (flat [wX7 G a g12.2 a_spare a_images a_kept a_text a_length a_refused a_items a_many a_at a_sort a_start a_size a_due a_rung a_anywhere]) H := hP
        have hD : va_D A (flat [wX7 G a g12.2 a_spare a_images a_kept a_text a_length a_refused a_items a_many a_at a_sort a_start a_size a_due a_rung a_anywhere]) := hD
        refine lv_goto (tgt := 140) hx hb dX7_tells_113 (by decide) ?_
        have e9 := Option.some.inj hf
        subst e9
        exact rt_i C hP hS rfl dX7_tells_140
      have hf := (o_i hf).1 c7
      refine lv_aload_n hx hb dX7_tells_91 rfl (lv_at hl 4 rfl) ?_
      refine lv_iload_n hx hb dX7_tells_92 rfl (lv_at hl 2 rfl) ?_
      refine lv_iload hx hb dX7_tells_93 (lv_at hl 1 rfl) ?_
      obtain ⟨g13, hg13, hf⟩ := o_b hf
      refine bVi (Bs' := [wX7 G a g13.2 a_spare a_images a_kept a_text a_length a_refused a_items a_many a_at a_sort a_start a_size a_due a_rung a_anywhere]) C hP hD hS (tX7_tellsWood l G a a_book a_spare a_images a_kept a_text a_length a_refused a_items a_many a_at a_sort a_start a_size a_due a_rung a_anywhere z2 z3 g13 hg13) gX7_tells_X7_tellsWood rfl ⟨rfl, rfl⟩ hdX7_tellsWood ⟨Nat.le_of_ble_eq_true rfl, Nat.le_of_ble_eq_true rfl⟩ rfl hl.1 rfl (Nat.le_of_ble_eq_true rfl) ⟨Nat.le_of_ble_eq_true rfl, Nat.le_of_ble_eq_true rfl⟩ [0] rfl rfl rfl rfl rfl (ci := 7) (q0 := 0) rfl rfl rfl dX7_tells_95 (fun H locs hP hD hS => ?_)
      have hP : va_P G.1 vwCl (flat [wX7 G a g13.2 a_spare a_images a_kept a_text a_length a_refused a_items a_many a_at a_sort a_start a_size a_due a_rung a_anywhere]) H := hP
      have hD : va_D A (flat [wX7 G a g13.2 a_spare a_images a_kept a_text a_length a_refused a_items a_many a_at a_sort a_start a_size a_due a_rung a_anywhere]) := hD
      refine lv_goto (tgt := 140) hx hb dX7_tells_98 (by decide) ?_
      have e9 := Option.some.inj hf
      subst e9
      exact rt_i C hP hS rfl dX7_tells_140
    have hf := (o_i hf).1 c6
    refine lv_aload_n hx hb dX7_tells_73 rfl (lv_at hl 4 rfl) ?_
    refine lv_iload_n hx hb dX7_tells_74 rfl (lv_at hl 2 rfl) ?_
    refine lv_iload hx hb dX7_tells_75 (lv_at hl 1 rfl) ?_
    refine lv_iload hx hb dX7_tells_77 (lv_at hl 0 rfl) ?_
    refine lv_iconst (v := 1) hx hb dX7_tells_79 (by decide) ?_
    obtain ⟨g14, hg14, hf⟩ := o_b hf
    refine bVi (Bs' := [wX7 G a g14.2 a_spare a_images a_kept a_text a_length a_refused a_items a_many a_at a_sort a_start a_size a_due a_rung a_anywhere]) C hP hD hS (tX7_tellsHears l G a a_book a_spare a_images a_kept a_text a_length a_refused a_items a_many a_at a_sort a_start a_size a_due a_rung a_anywhere z2 z3 z4 1 g14 hg14) gX7_tells_X7_tellsHears rfl ⟨rfl, rfl⟩ hdX7_tellsHears ⟨Nat.le_of_ble_eq_true rfl, Nat.le_of_ble_eq_true rfl⟩ rfl hl.1 rfl (Nat.le_of_ble_eq_true rfl) ⟨Nat.le_of_ble_eq_true rfl, Nat.le_of_ble_eq_true rfl⟩ [0] rfl rfl rfl rfl rfl (ci := 7) (q0 := 0) rfl rfl rfl dX7_tells_80 (fun H locs hP hD hS => ?_)
    have hP : va_P G.1 vwCl (flat [wX7 G a g14.2 a_spare a_images a_kept a_text a_length a_refused a_items a_many a_at a_sort a_start a_size a_due a_rung a_anywhere]) H := hP
    have hD : va_D A (flat [wX7 G a g14.2 a_spare a_images a_kept a_text a_length a_refused a_items a_many a_at a_sort a_start a_size a_due a_rung a_anywhere]) := hD
    refine lv_goto (tgt := 140) hx hb dX7_tells_83 (by decide) ?_
    have e9 := Option.some.inj hf
    subst e9
    exact rt_i C hP hS rfl dX7_tells_140
  have hf := (o_i hf).1 c5
  refine lv_iload_n hx hb dX7_tells_48 rfl (lv_at hl 2 rfl) ?_
  refine lv_iconst (v := 2) hx hb dX7_tells_49 (by decide) ?_
  refine lv_bipush (v := 6) hx hb dX7_tells_50 (by decide) ?_
  obtain ⟨g15, hg15, hf⟩ := o_b hf
  refine bSi C hP hD hS (tX7_in l G z2 2 6 g15 hg15) gX7_tells_X7_in rfl ⟨rfl, rfl⟩ hdX7_in ⟨Nat.le_of_ble_eq_true rfl, Nat.le_of_ble_eq_true rfl⟩ rfl hl.1 rfl (Nat.le_of_ble_eq_true rfl) ⟨Nat.le_of_ble_eq_true rfl, Nat.le_of_ble_eq_true rfl⟩ [] rfl rfl rfl (setB_same _ _ _ rfl) rfl dX7_tells_52 (fun H locs hP hD hS => ?_)
  refine lv_if_ne (tgt := 61) hx hb dX7_tells_55 (by decide) (fun c16 => ?_) (fun c16 => ?_)
  · have hf := (o_i hf).2 c16
    refine lv_aload_n hx hb dX7_tells_61 rfl (lv_at hl 4 rfl) ?_
    refine lv_iload_n hx hb dX7_tells_62 rfl (lv_at hl 2 rfl) ?_
    obtain ⟨g17, hg17, hf⟩ := o_b hf
    refine bVv (Bs' := [wX7 G a g17 a_spare a_images a_kept a_text a_length a_refused a_items a_many a_at a_sort a_start a_size a_due a_rung a_anywhere]) C hP hD hS (tX7_begins l G a a_book a_spare a_images a_kept a_text a_length a_refused a_items a_many a_at a_sort a_start a_size a_due a_rung a_anywhere z2 g17 hg17) gX7_tells_X7_begins rfl ⟨rfl, rfl⟩ hdX7_begins ⟨Nat.le_of_ble_eq_true rfl, Nat.le_of_ble_eq_true rfl⟩ rfl hl.1 rfl (Nat.le_of_ble_eq_true rfl) ⟨Nat.le_of_ble_eq_true rfl, Nat.le_of_ble_eq_true rfl⟩ [0] rfl rfl rfl rfl rfl (ci := 7) (q0 := 0) rfl rfl rfl dX7_tells_63 (fun H locs hP hD hS => ?_)
    have hP : va_P G.1 vwCl (flat [wX7 G a g17 a_spare a_images a_kept a_text a_length a_refused a_items a_many a_at a_sort a_start a_size a_due a_rung a_anywhere]) H := hP
    have hD : va_D A (flat [wX7 G a g17 a_spare a_images a_kept a_text a_length a_refused a_items a_many a_at a_sort a_start a_size a_due a_rung a_anywhere]) := hD
    refine lv_iconst (v := 1) hx hb dX7_tells_66 (by decide) ?_
    have e9 := Option.some.inj hf
    subst e9
    exact rt_i C hP hS rfl dX7_tells_67
  have hf := (o_i hf).1 c16
  refine lv_bipush (v := (-2)) hx hb dX7_tells_58 (by decide) ?_
  have e9 := Option.some.inj hf
  subst e9
  exact rt_i C hP hS rfl dX7_tells_60

/-! RX7 read()I -/
theorem iiX7_read_X7 : ∀ w ∈ wsX70, w ∈ wsX7_read := by decide +kernel
theorem mmX7_read_1 : (Cond.fieldLink RX7 13 "BlindBellsModel" "spare" "[I") ∈ wsX7_read := by decide +kernel
theorem mmX7_read_2 : (Cond.fieldLink RX7 7 "BlindBellsModel" "book" "[I") ∈ wsX7_read := by decide +kernel
theorem mmX7_read_3 : (Cond.fieldLink RX7 135 "BlindBellsModel" "many" "I") ∈ wsX7_read := by decide +kernel
theorem mmX7_read_4 : (Cond.fieldLink RX7 106 "BlindBellsModel" "start" "I") ∈ wsX7_read := by decide +kernel
theorem hdX7_read : yX7_read.cls = RX7 ∧ yX7_read.cls ≠ "java/lang/invoke/MethodHandle" ∧ yX7_read.cls ≠ "java/lang/invoke/VarHandle" ∧ (parseMethodDescriptor yX7_read.desc).map (fun d => d.parameters.length) = some 0 := by decide +kernel
abbrev rmX7_read : Room := { frames := 5, cells := 0, slots := 0, locals := 106 }
set_option maxHeartbeats 4000000 in
set_option maxRecDepth 100000 in
theorem lX7_read_17 {p : Program} {e : Env} {s : State} {m : MethodId} {args : Array Value} {below : List Frame} {meth : Method} {c : Code} {A : Nat → Prop} (l : Launch) (G : GG) (C : Cx p m c cX7_read 3 s args wsX7_read RX7 meth (some .int) G A) (a : Nat → Nat) (a_book : Nat → Int32) (a_spare : Nat → Int32) (a_images : Nat → Int32) (a_kept : Nat → Int32) (a_text : Nat → Int32) (a_length : Int32) (a_refused : Nat → Int32) (a_items : Nat → Int32) (a_many : Int32) (a_at : Int32) (a_sort : Int32) (a_start : Int32) (a_size : Int32) (a_due : Nat → Int32) (a_rung : Nat → Int32) (a_anywhere : Nat → Int32) (g1 : Int32 × (Nat → Int32) × Int32 × Int32 × Int32 × Int32 × Int32) (out : Int32 × (Nat → Int32) × (Nat → Int32) × (Nat → Int32) × Int32 × Int32 × Int32 × Int32 × Int32) (kx : Int32 → (Nat → Int32) → Option (Int32 × (Nat → Int32) × (Nat → Int32) × (Nat → Int32) × Int32 × Int32 × Int32 × Int32 × Int32)) (HX : ∀ (x1_17 : Int32) (a_spare_17 : Nat → Int32) (H : Heap) (locs : List Loc) (ls : Array Slot), va_P G.1 vwCl (flat [wX7 G a a_book a_spare_17 a_images a_kept a_text a_length a_refused g1.2.1 g1.2.2.1 g1.2.2.2.1 g1.2.2.2.2.1 g1.2.2.2.2.2.1 g1.2.2.2.2.2.2 a_due a_rung a_anywhere]) H → va_D A (flat [wX7 G a a_book a_spare_17 a_images a_kept a_text a_length a_refused g1.2.1 g1.2.2.1 g1.2.2.2.1 g1.2.2.2.2.1 g1.2.2.2.2.2.1 g1.2.2.2.2.2.2 a_due a_rung a_anywhere]) → va_S A s.heap H locs → lv_has ls 3 [(0, .ref (a 0)), (1, .int x1_17)] → kx x1_17 a_spare_17 = some out → W p l e rmX7_read s m args below meth c H locs 0 0 (MQ below (QI G A out.1 (flat [wX7 G a out.2.1 out.2.2.1 a_images a_kept a_text a_length a_refused out.2.2.2.1 out.2.2.2.2.1 out.2.2.2.2.2.1 out.2.2.2.2.2.2.1 out.2.2.2.2.2.2.2.1 out.2.2.2.2.2.2.2.2 a_due a_rung a_anywhere])) args s 0 0 A) (F0 m 41 ls [])) : ∀ (n : Nat) (x1_17 : Int32) (a_spare_17 : Nat → Int32) (H : Heap) (locs : List Loc) (ls : Array Slot), va_P G.1 vwCl (flat [wX7 G a a_book a_spare_17 a_images a_kept a_text a_length a_refused g1.2.1 g1.2.2.1 g1.2.2.2.1 g1.2.2.2.2.1 g1.2.2.2.2.2.1 g1.2.2.2.2.2.2 a_due a_rung a_anywhere]) H → va_D A (flat [wX7 G a a_book a_spare_17 a_images a_kept a_text a_length a_refused g1.2.1 g1.2.2.1 g1.2.2.2.1 g1.2.2.2.2.1 g1.2.2.2.2.2.1 g1.2.2.2.2.2.2 a_due a_rung a_anywhere]) → va_S A s.heap H locs → lv_has ls 3 [(0, .ref (a 0)), (1, .int x1_17)] → fX7_read_17 a_book kx n x1_17 a_spare_17 = some out → W p l e rmX7_read s m args below meth c H locs 0 0 (MQ below (QI G A out.1 (flat [wX7 G a out.2.1 out.2.2.1 a_images a_kept a_text a_length a_refused out.2.2.2.1 out.2.2.2.2.1 out.2.2.2.2.2.1 out.2.2.2.2.2.2.1 out.2.2.2.2.2.2.2.1 out.2.2.2.2.2.2.2.2 a_due a_rung a_anywhere])) args s 0 0 A) (F0 m 17 ls []) := by
  obtain ⟨⟨hx, hb, hml, hown, hts⟩, hr, hlocks, hK, hN, hE, hA⟩ := id C
  intro n
  induction n with
  | zero =>
    intro x1_17 a_spare_17 H locs ls hP hD hS hl hf
    exact absurd (show (none : Option (Int32 × (Nat → Int32) × (Nat → Int32) × (Nat → Int32) × Int32 × Int32 × Int32 × Int32 × Int32)) = some out from hf) (by intro q9; cases q9)
  | succ n ih =>
    intro x1_17 a_spare_17 H locs ls hP hD hS hl hf
    rw [fX7_read_17] at hf
    refine lv_iload_n hx hb dX7_read_17 rfl (lv_at hl 1 rfl) ?_
    refine lv_bipush (v := 104) hx hb dX7_read_18 (by decide) ?_
    refine lv_icmp_ge (tgt := 41) hx hb dX7_read_20 (by decide) (fun c3 => ?_) (fun c3 => ?_)
    · have hf := (o_i hf).1 c3
      exact HX _ _ _ _ _ hP hD hS (lv_sub hl [0, 1] rfl) hf
    have hf := (o_i hf).2 c3
    refine lv_aload_n hx hb dX7_read_23 rfl (lv_at hl 0 rfl) ?_
    refine va_get (D := G.1) (ci := 7) (v := .ref (a 2)) (C := RX7) (T := TX7) (N := 16) hx hb hts iiX7_read_X7 hown hK hP 0 rfl rfl 1 (by decide) (hts _ mmX7_read_1) (fun _ h9 => h9) rfl dX7_read_24 ?_
    refine lv_iload_n hx hb dX7_read_27 rfl (lv_at hl 1 rfl) ?_
    refine lv_aload_n hx hb dX7_read_28 rfl (lv_at hl 0 rfl) ?_
    refine va_get (D := G.1) (ci := 7) (v := .ref (a 1)) (C := RX7) (T := TX7) (N := 16) hx hb hts iiX7_read_X7 hown hK hP 0 rfl rfl 0 (by decide) (hts _ mmX7_read_2) (fun _ h9 => h9) rfl dX7_read_29 ?_
    refine lv_iload_n hx hb dX7_read_32 rfl (lv_at hl 1 rfl) ?_
    obtain ⟨z4, hz4, hf⟩ := o_b hf
    refine k_iald hx hb hK hP 1 0 rfl rfl hz4 dX7_read_33 ?_
    obtain ⟨u5, hu5, hf⟩ := o_b hf
    refine k_iast hx hb hK hP hD hS 2 0 rfl rfl hu5 dX7_read_34 (fun H locs hP hD hS => ?_)
    have hP : va_P G.1 vwCl (flat [wX7 G a a_book u5 a_images a_kept a_text a_length a_refused g1.2.1 g1.2.2.1 g1.2.2.2.1 g1.2.2.2.2.1 g1.2.2.2.2.2.1 g1.2.2.2.2.2.2 a_due a_rung a_anywhere]) H := hP
    have hD : va_D A (flat [wX7 G a a_book u5 a_images a_kept a_text a_length a_refused g1.2.1 g1.2.2.1 g1.2.2.2.1 g1.2.2.2.2.1 g1.2.2.2.2.2.1 g1.2.2.2.2.2.2 a_due a_rung a_anywhere]) := hD
    refine lv_iinc (v := x1_17 + 1) (lv' := [(1, .int (x1_17 + 1)), (0, .ref (a 0))]) hx hb dX7_read_35 hl (k := 1) rfl (congrArg (fun z => x1_17 + z) (by decide)) (by decide) rfl (fun ls hl => ?_)
    refine at_pc (pc' := 38) rfl ?_
    refine lv_goto (tgt := 17) hx hb dX7_read_38 (by decide) ?_
    exact ih _ _ _ _ _ hP hD hS (lv_sub hl [1, 0] rfl) hf
set_option maxHeartbeats 4000000 in
set_option maxRecDepth 100000 in
theorem lX7_read_61 {p : Program} {e : Env} {s : State} {m : MethodId} {args : Array Value} {below : List Frame} {meth : Method} {c : Code} {A : Nat → Prop} (l : Launch) (G : GG) (C : Cx p m c cX7_read 3 s args wsX7_read RX7 meth (some .int) G A) (a : Nat → Nat) (a_book : Nat → Int32) (a_spare : Nat → Int32) (a_images : Nat → Int32) (a_kept : Nat → Int32) (a_text : Nat → Int32) (a_length : Int32) (a_refused : Nat → Int32) (a_items : Nat → Int32) (a_many : Int32) (a_at : Int32) (a_sort : Int32) (a_start : Int32) (a_size : Int32) (a_due : Nat → Int32) (a_rung : Nat → Int32) (a_anywhere : Nat → Int32) (g1 : Int32 × (Nat → Int32) × Int32 × Int32 × Int32 × Int32 × Int32) (a_spare_17_7 : Nat → Int32) (x1_43 : Int32) (out : Int32 × (Nat → Int32) × (Nat → Int32) × (Nat → Int32) × Int32 × Int32 × Int32 × Int32 × Int32) (kx : Int32 → (Nat → Int32) → Option (Int32 × (Nat → Int32) × (Nat → Int32) × (Nat → Int32) × Int32 × Int32 × Int32 × Int32 × Int32)) (HX : ∀ (x2_61 : Int32) (a_book_61 : Nat → Int32) (H : Heap) (locs : List Loc) (ls : Array Slot), va_P G.1 vwCl (flat [wX7 G a a_book_61 a_spare_17_7 a_images a_kept a_text a_length a_refused g1.2.1 g1.2.2.1 g1.2.2.2.1 g1.2.2.2.2.1 g1.2.2.2.2.2.1 g1.2.2.2.2.2.2 a_due a_rung a_anywhere]) H → va_D A (flat [wX7 G a a_book_61 a_spare_17_7 a_images a_kept a_text a_length a_refused g1.2.1 g1.2.2.1 g1.2.2.2.1 g1.2.2.2.2.1 g1.2.2.2.2.2.1 g1.2.2.2.2.2.2 a_due a_rung a_anywhere]) → va_S A s.heap H locs → lv_has ls 3 [(0, .ref (a 0)), (1, .int x1_43), (2, .int x2_61)] → kx x2_61 a_book_61 = some out → W p l e rmX7_read s m args below meth c H locs 0 0 (MQ below (QI G A out.1 (flat [wX7 G a out.2.1 out.2.2.1 a_images a_kept a_text a_length a_refused out.2.2.2.1 out.2.2.2.2.1 out.2.2.2.2.2.1 out.2.2.2.2.2.2.1 out.2.2.2.2.2.2.2.1 out.2.2.2.2.2.2.2.2 a_due a_rung a_anywhere])) args s 0 0 A) (F0 m 85 ls [])) : ∀ (n : Nat) (x2_61 : Int32) (a_book_61 : Nat → Int32) (H : Heap) (locs : List Loc) (ls : Array Slot), va_P G.1 vwCl (flat [wX7 G a a_book_61 a_spare_17_7 a_images a_kept a_text a_length a_refused g1.2.1 g1.2.2.1 g1.2.2.2.1 g1.2.2.2.2.1 g1.2.2.2.2.2.1 g1.2.2.2.2.2.2 a_due a_rung a_anywhere]) H → va_D A (flat [wX7 G a a_book_61 a_spare_17_7 a_images a_kept a_text a_length a_refused g1.2.1 g1.2.2.1 g1.2.2.2.1 g1.2.2.2.2.1 g1.2.2.2.2.2.1 g1.2.2.2.2.2.2 a_due a_rung a_anywhere]) → va_S A s.heap H locs → lv_has ls 3 [(0, .ref (a 0)), (1, .int x1_43), (2, .int x2_61)] → fX7_read_61 a_spare_17_7 kx n x2_61 a_book_61 = some out → W p l e rmX7_read s m args below meth c H locs 0 0 (MQ below (QI G A out.1 (flat [wX7 G a out.2.1 out.2.2.1 a_images a_kept a_text a_length a_refused out.2.2.2.1 out.2.2.2.2.1 out.2.2.2.2.2.1 out.2.2.2.2.2.2.1 out.2.2.2.2.2.2.2.1 out.2.2.2.2.2.2.2.2 a_due a_rung a_anywhere])) args s 0 0 A) (F0 m 61 ls []) := by
  obtain ⟨⟨hx, hb, hml, hown, hts⟩, hr, hlocks, hK, hN, hE, hA⟩ := id C
  intro n
  induction n with
  | zero =>
    intro x2_61 a_book_61 H locs ls hP hD hS hl hf
    exact absurd (show (none : Option (Int32 × (Nat → Int32) × (Nat → Int32) × (Nat → Int32) × Int32 × Int32 × Int32 × Int32 × Int32)) = some out from hf) (by intro q9; cases q9)
  | succ n ih =>
    intro x2_61 a_book_61 H locs ls hP hD hS hl hf
    rw [fX7_read_61] at hf
    refine lv_iload_n hx hb dX7_read_61 rfl (lv_at hl 2 rfl) ?_
    refine lv_bipush (v := 104) hx hb dX7_read_62 (by decide) ?_
    refine lv_icmp_ge (tgt := 85) hx hb dX7_read_64 (by decide) (fun c11 => ?_) (fun c11 => ?_)
    · have hf := (o_i hf).1 c11
      exact HX _ _ _ _ _ hP hD hS (lv_sub hl [0, 1, 2] rfl) hf
    have hf := (o_i hf).2 c11
    refine lv_aload_n hx hb dX7_read_67 rfl (lv_at hl 0 rfl) ?_
    refine va_get (D := G.1) (ci := 7) (v := .ref (a 1)) (C := RX7) (T := TX7) (N := 16) hx hb hts iiX7_read_X7 hown hK hP 0 rfl rfl 0 (by decide) (hts _ mmX7_read_2) (fun _ h9 => h9) rfl dX7_read_68 ?_
    refine lv_iload_n hx hb dX7_read_71 rfl (lv_at hl 2 rfl) ?_
    refine lv_aload_n hx hb dX7_read_72 rfl (lv_at hl 0 rfl) ?_
    refine va_get (D := G.1) (ci := 7) (v := .ref (a 2)) (C := RX7) (T := TX7) (N := 16) hx hb hts iiX7_read_X7 hown hK hP 0 rfl rfl 1 (by decide) (hts _ mmX7_read_1) (fun _ h9 => h9) rfl dX7_read_73 ?_
    refine lv_iload_n hx hb dX7_read_76 rfl (lv_at hl 2 rfl) ?_
    obtain ⟨z12, hz12, hf⟩ := o_b hf
    refine k_iald hx hb hK hP 2 0 rfl rfl hz12 dX7_read_77 ?_
    obtain ⟨u13, hu13, hf⟩ := o_b hf
    refine k_iast hx hb hK hP hD hS 1 0 rfl rfl hu13 dX7_read_78 (fun H locs hP hD hS => ?_)
    have hP : va_P G.1 vwCl (flat [wX7 G a u13 a_spare_17_7 a_images a_kept a_text a_length a_refused g1.2.1 g1.2.2.1 g1.2.2.2.1 g1.2.2.2.2.1 g1.2.2.2.2.2.1 g1.2.2.2.2.2.2 a_due a_rung a_anywhere]) H := hP
    have hD : va_D A (flat [wX7 G a u13 a_spare_17_7 a_images a_kept a_text a_length a_refused g1.2.1 g1.2.2.1 g1.2.2.2.1 g1.2.2.2.2.1 g1.2.2.2.2.2.1 g1.2.2.2.2.2.2 a_due a_rung a_anywhere]) := hD
    refine lv_iinc (v := x2_61 + 1) (lv' := [(2, .int (x2_61 + 1)), (0, .ref (a 0)), (1, .int x1_43)]) hx hb dX7_read_79 hl (k := 2) rfl (congrArg (fun z => x2_61 + z) (by decide)) (by decide) rfl (fun ls hl => ?_)
    refine at_pc (pc' := 82) rfl ?_
    refine lv_goto (tgt := 61) hx hb dX7_read_82 (by decide) ?_
    exact ih _ _ _ _ _ hP hD hS (lv_sub hl [1, 2, 0] rfl) hf
set_option maxHeartbeats 4000000 in
set_option maxRecDepth 100000 in
theorem lX7_read_43 {p : Program} {e : Env} {s : State} {m : MethodId} {args : Array Value} {below : List Frame} {meth : Method} {c : Code} {A : Nat → Prop} (l : Launch) (G : GG) (C : Cx p m c cX7_read 3 s args wsX7_read RX7 meth (some .int) G A) (a : Nat → Nat) (a_book : Nat → Int32) (a_spare : Nat → Int32) (a_images : Nat → Int32) (a_kept : Nat → Int32) (a_text : Nat → Int32) (a_length : Int32) (a_refused : Nat → Int32) (a_items : Nat → Int32) (a_many : Int32) (a_at : Int32) (a_sort : Int32) (a_start : Int32) (a_size : Int32) (a_due : Nat → Int32) (a_rung : Nat → Int32) (a_anywhere : Nat → Int32) (g1 : Int32 × (Nat → Int32) × Int32 × Int32 × Int32 × Int32 × Int32) (a_spare_17_7 : Nat → Int32) (out : Int32 × (Nat → Int32) × (Nat → Int32) × (Nat → Int32) × Int32 × Int32 × Int32 × Int32 × Int32) (kx : Int32 → (Nat → Int32) → Option (Int32 × (Nat → Int32) × (Nat → Int32) × (Nat → Int32) × Int32 × Int32 × Int32 × Int32 × Int32)) (HX : ∀ (x1_43 : Int32) (a_book_43 : Nat → Int32) (H : Heap) (locs : List Loc) (ls : Array Slot), va_P G.1 vwCl (flat [wX7 G a a_book_43 a_spare_17_7 a_images a_kept a_text a_length a_refused g1.2.1 g1.2.2.1 g1.2.2.2.1 g1.2.2.2.2.1 g1.2.2.2.2.2.1 g1.2.2.2.2.2.2 a_due a_rung a_anywhere]) H → va_D A (flat [wX7 G a a_book_43 a_spare_17_7 a_images a_kept a_text a_length a_refused g1.2.1 g1.2.2.1 g1.2.2.2.1 g1.2.2.2.2.1 g1.2.2.2.2.2.1 g1.2.2.2.2.2.2 a_due a_rung a_anywhere]) → va_S A s.heap H locs → lv_has ls 3 [(0, .ref (a 0)), (1, .int x1_43)] → kx x1_43 a_book_43 = some out → W p l e rmX7_read s m args below meth c H locs 0 0 (MQ below (QI G A out.1 (flat [wX7 G a out.2.1 out.2.2.1 a_images a_kept a_text a_length a_refused out.2.2.2.1 out.2.2.2.2.1 out.2.2.2.2.2.1 out.2.2.2.2.2.2.1 out.2.2.2.2.2.2.2.1 out.2.2.2.2.2.2.2.2 a_due a_rung a_anywhere])) args s 0 0 A) (F0 m 97 ls [])) : ∀ (n : Nat) (x1_43 : Int32) (a_book_43 : Nat → Int32) (H : Heap) (locs : List Loc) (ls : Array Slot), va_P G.1 vwCl (flat [wX7 G a a_book_43 a_spare_17_7 a_images a_kept a_text a_length a_refused g1.2.1 g1.2.2.1 g1.2.2.2.1 g1.2.2.2.2.1 g1.2.2.2.2.2.1 g1.2.2.2.2.2.2 a_due a_rung a_anywhere]) H → va_D A (flat [wX7 G a a_book_43 a_spare_17_7 a_images a_kept a_text a_length a_refused g1.2.1 g1.2.2.1 g1.2.2.2.1 g1.2.2.2.2.1 g1.2.2.2.2.2.1 g1.2.2.2.2.2.2 a_due a_rung a_anywhere]) → va_S A s.heap H locs → lv_has ls 3 [(0, .ref (a 0)), (1, .int x1_43)] → fX7_read_43 g1 a_spare_17_7 kx n x1_43 a_book_43 = some out → W p l e rmX7_read s m args below meth c H locs 0 0 (MQ below (QI G A out.1 (flat [wX7 G a out.2.1 out.2.2.1 a_images a_kept a_text a_length a_refused out.2.2.2.1 out.2.2.2.2.1 out.2.2.2.2.2.1 out.2.2.2.2.2.2.1 out.2.2.2.2.2.2.2.1 out.2.2.2.2.2.2.2.2 a_due a_rung a_anywhere])) args s 0 0 A) (F0 m 43 ls []) := by
  obtain ⟨⟨hx, hb, hml, hown, hts⟩, hr, hlocks, hK, hN, hE, hA⟩ := id C
  intro n
  induction n with
  | zero =>
    intro x1_43 a_book_43 H locs ls hP hD hS hl hf
    exact absurd (show (none : Option (Int32 × (Nat → Int32) × (Nat → Int32) × (Nat → Int32) × Int32 × Int32 × Int32 × Int32 × Int32)) = some out from hf) (by intro q9; cases q9)
  | succ n ih =>
    intro x1_43 a_book_43 H locs ls hP hD hS hl hf
    rw [fX7_read_43] at hf
    refine lv_iload_n hx hb dX7_read_43 rfl (lv_at hl 1 rfl) ?_
    refine lv_aload_n hx hb dX7_read_44 rfl (lv_at hl 0 rfl) ?_
    refine va_get (D := G.1) (ci := 7) (v := .int g1.2.2.1) (C := RX7) (T := TX7) (N := 16) hx hb hts iiX7_read_X7 hown hK hP 0 rfl rfl 8 (by decide) (hts _ mmX7_read_3) (fun _ h9 => h9) rfl dX7_read_45 ?_
    refine lv_icmp_ge (tgt := 97) hx hb dX7_read_48 (by decide) (fun c8 => ?_) (fun c8 => ?_)
    · have hf := (o_i hf).1 c8
      exact HX _ _ _ _ _ hP hD hS (lv_sub hl [0, 1] rfl) hf
    have hf := (o_i hf).2 c8
    refine lv_aload_n hx hb dX7_read_51 rfl (lv_at hl 0 rfl) ?_
    refine lv_iload_n hx hb dX7_read_52 rfl (lv_at hl 1 rfl) ?_
    obtain ⟨g9, hg9, hf⟩ := o_b hf
    refine bVi (Bs' := [wX7 G a g9.2 a_spare_17_7 a_images a_kept a_text a_length a_refused g1.2.1 g1.2.2.1 g1.2.2.2.1 g1.2.2.2.2.1 g1.2.2.2.2.2.1 g1.2.2.2.2.2.2 a_due a_rung a_anywhere]) C hP hD hS (tX7_tells l G a a_book_43 a_spare_17_7 a_images a_kept a_text a_length a_refused g1.2.1 g1.2.2.1 g1.2.2.2.1 g1.2.2.2.2.1 g1.2.2.2.2.2.1 g1.2.2.2.2.2.2 a_due a_rung a_anywhere x1_43 g9 hg9) gX7_read_X7_tells rfl ⟨rfl, rfl⟩ hdX7_tells ⟨Nat.le_of_ble_eq_true rfl, Nat.le_of_ble_eq_true rfl⟩ rfl hl.1 rfl (Nat.le_of_ble_eq_true rfl) ⟨Nat.le_of_ble_eq_true rfl, Nat.le_of_ble_eq_true rfl⟩ [0] rfl rfl rfl rfl rfl (ci := 7) (q0 := 0) rfl rfl rfl dX7_read_53 (fun H locs hP hD hS => ?_)
    have hP : va_P G.1 vwCl (flat [wX7 G a g9.2 a_spare_17_7 a_images a_kept a_text a_length a_refused g1.2.1 g1.2.2.1 g1.2.2.2.1 g1.2.2.2.2.1 g1.2.2.2.2.2.1 g1.2.2.2.2.2.2 a_due a_rung a_anywhere]) H := hP
    have hD : va_D A (flat [wX7 G a g9.2 a_spare_17_7 a_images a_kept a_text a_length a_refused g1.2.1 g1.2.2.1 g1.2.2.2.1 g1.2.2.2.2.1 g1.2.2.2.2.2.1 g1.2.2.2.2.2.2 a_due a_rung a_anywhere]) := hD
    refine lv_if_ge (tgt := 91) hx hb dX7_read_56 (by decide) (fun c10 => ?_) (fun c10 => ?_)
    · have hf := (o_i hf).1 c10
      refine lv_iinc (v := x1_43 + 1) (lv' := [(1, .int (x1_43 + 1)), (0, .ref (a 0))]) hx hb dX7_read_91 hl (k := 1) rfl (congrArg (fun z => x1_43 + z) (by decide)) (by decide) rfl (fun ls hl => ?_)
      refine lv_goto (tgt := 43) hx hb dX7_read_94 (by decide) ?_
      exact ih _ _ _ _ _ hP hD hS (lv_sub hl [1, 0] rfl) hf
    have hf := (o_i hf).2 c10
    refine lv_iconst (v := 0) hx hb dX7_read_59 (by decide) ?_
    refine lv_istore_n (lv' := [(2, .int 0), (0, .ref (a 0)), (1, .int x1_43)]) hx hb dX7_read_60 rfl hl (by decide) rfl (fun ls hl => ?_)
    refine lX7_read_61 l G C a a_book a_spare a_images a_kept a_text a_length a_refused a_items a_many a_at a_sort a_start a_size a_due a_rung a_anywhere g1 a_spare_17_7 x1_43 out _ (fun x2_61_14 a_book_61_15 H locs ls hP hD hS hl hf => ?_) fu 0 g9.2 _ _ _ hP hD hS (lv_sub hl [1, 2, 0] rfl) hf
    refine lv_sipush (v := (-1000)) hx hb dX7_read_85 (by decide) ?_
    refine lv_iload_n hx hb dX7_read_88 rfl (lv_at hl 1 rfl) ?_
    refine lv_isub hx hb dX7_read_89 ?_
    have e9 := Option.some.inj hf
    subst e9
    exact rt_i C hP hS rfl dX7_read_90
set_option maxHeartbeats 4000000 in
set_option maxRecDepth 100000 in
theorem tX7_read (l : Launch) (G : GG) (a : Nat → Nat) (a_book : Nat → Int32) (a_spare : Nat → Int32) (a_images : Nat → Int32) (a_kept : Nat → Int32) (a_text : Nat → Int32) (a_length : Int32) (a_refused : Nat → Int32) (a_items : Nat → Int32) (a_many : Int32) (a_at : Int32) (a_sort : Int32) (a_start : Int32) (a_size : Int32) (a_due : Nat → Int32) (a_rung : Nat → Int32) (a_anywhere : Nat → Int32) (out : Int32 × (Nat → Int32) × (Nat → Int32) × (Nat → Int32) × Int32 × Int32 × Int32 × Int32 × Int32) (hf : fX7_read a_book a_spare a_text a_length a_items = some out) : cMi l G yX7_read wsX7_read rmX7_read [.ref (a 0)] (flat [wX7 G a a_book a_spare a_images a_kept a_text a_length a_refused a_items a_many a_at a_sort a_start a_size a_due a_rung a_anywhere]) out.1 (flat [wX7 G a out.2.1 out.2.2.1 a_images a_kept a_text a_length a_refused out.2.2.2.1 out.2.2.2.2.1 out.2.2.2.2.2.1 out.2.2.2.2.2.2.1 out.2.2.2.2.2.2.2.1 out.2.2.2.2.2.2.2.2 a_due a_rung a_anywhere]) := by
  intro sz
  refine met_of (cc := cX7_read) (nL := 3) (ret := (some .int)) (Qc := fun A9 => QI G A9 out.1 (flat [wX7 G a out.2.1 out.2.2.1 a_images a_kept a_text a_length a_refused out.2.2.2.1 out.2.2.2.2.1 out.2.2.2.2.2.1 out.2.2.2.2.2.2.1 out.2.2.2.2.2.2.2.1 out.2.2.2.2.2.2.2.2 a_due a_rung a_anywhere])) (by decide) rfl (Nat.le_of_ble_eq_true rfl) ?_
  intro p e s m args below meth c A ls C hP hD hS hl
  obtain ⟨⟨hx, hb, hml, hown, hts⟩, hr, hlocks, hK, hN, hE, hA⟩ := id C
  have hl : lv_has ls 3 [(0, .ref (a 0))] := hl
  unfold fX7_read at hf
  refine lv_aload_n hx hb dX7_read_0 rfl (lv_at hl 0 rfl) ?_
  obtain ⟨g1, hg1, hf⟩ := o_b hf
  refine bVi (Bs' := [wX7 G a a_book a_spare a_images a_kept a_text a_length a_refused g1.2.1 g1.2.2.1 g1.2.2.2.1 g1.2.2.2.2.1 g1.2.2.2.2.2.1 g1.2.2.2.2.2.2 a_due a_rung a_anywhere]) C hP hD hS (tX7_reads l G a a_book a_spare a_images a_kept a_text a_length a_refused a_items a_many a_at a_sort a_start a_size a_due a_rung a_anywhere g1 hg1) gX7_read_X7_reads rfl ⟨rfl, rfl⟩ hdX7_reads ⟨Nat.le_of_ble_eq_true rfl, Nat.le_of_ble_eq_true rfl⟩ rfl hl.1 rfl (Nat.le_of_ble_eq_true rfl) ⟨Nat.le_of_ble_eq_true rfl, Nat.le_of_ble_eq_true rfl⟩ [0] rfl rfl rfl rfl rfl (ci := 7) (q0 := 0) rfl rfl rfl dX7_read_1 (fun H locs hP hD hS => ?_)
  have hP : va_P G.1 vwCl (flat [wX7 G a a_book a_spare a_images a_kept a_text a_length a_refused g1.2.1 g1.2.2.1 g1.2.2.2.1 g1.2.2.2.2.1 g1.2.2.2.2.2.1 g1.2.2.2.2.2.2 a_due a_rung a_anywhere]) H := hP
  have hD : va_D A (flat [wX7 G a a_book a_spare a_images a_kept a_text a_length a_refused g1.2.1 g1.2.2.1 g1.2.2.2.1 g1.2.2.2.2.1 g1.2.2.2.2.2.1 g1.2.2.2.2.2.2 a_due a_rung a_anywhere]) := hD
  refine lv_if_ne (tgt := 15) hx hb dX7_read_4 (by decide) (fun c2 => ?_) (fun c2 => ?_)
  · have hf := (o_i hf).2 c2
    refine lv_iconst (v := 0) hx hb dX7_read_15 (by decide) ?_
    refine lv_istore_n (lv' := [(1, .int 0), (0, .ref (a 0))]) hx hb dX7_read_16 rfl hl (by decide) rfl (fun ls hl => ?_)
    refine lX7_read_17 l G C a a_book a_spare a_images a_kept a_text a_length a_refused a_items a_many a_at a_sort a_start a_size a_due a_rung a_anywhere g1 out _ (fun x1_17_6 a_spare_17_7 H locs ls hP hD hS hl hf => ?_) fu 0 a_spare _ _ _ hP hD hS (lv_sub hl [1, 0] rfl) hf
    refine lv_iconst (v := 0) hx hb dX7_read_41 (by decide) ?_
    refine lv_istore_n (lv' := [(1, .int 0), (0, .ref (a 0))]) hx hb dX7_read_42 rfl hl (by decide) rfl (fun ls hl => ?_)
    refine lX7_read_43 l G C a a_book a_spare a_images a_kept a_text a_length a_refused a_items a_many a_at a_sort a_start a_size a_due a_rung a_anywhere g1 a_spare_17_7 out _ (fun x1_43_16 a_book_43_17 H locs ls hP hD hS hl hf => ?_) fu 0 a_book _ _ _ hP hD hS (lv_sub hl [1, 0] rfl) hf
    refine lv_aload_n hx hb dX7_read_97 rfl (lv_at hl 0 rfl) ?_
    refine va_get (D := G.1) (ci := 7) (v := .int g1.2.2.1) (C := RX7) (T := TX7) (N := 16) hx hb hts iiX7_read_X7 hown hK hP 0 rfl rfl 8 (by decide) (hts _ mmX7_read_3) (fun _ h9 => h9) rfl dX7_read_98 ?_
    have e9 := Option.some.inj hf
    subst e9
    exact rt_i C hP hS rfl dX7_read_101
  have hf := (o_i hf).1 c2
  refine lv_bipush (v := (-10)) hx hb dX7_read_7 (by decide) ?_
  refine lv_aload_n hx hb dX7_read_9 rfl (lv_at hl 0 rfl) ?_
  refine va_get (D := G.1) (ci := 7) (v := .int g1.2.2.2.2.2.1) (C := RX7) (T := TX7) (N := 16) hx hb hts iiX7_read_X7 hown hK hP 0 rfl rfl 11 (by decide) (hts _ mmX7_read_4) (fun _ h9 => h9) rfl dX7_read_10 ?_
  refine lv_isub hx hb dX7_read_13 ?_
  have e9 := Option.some.inj hf
  subst e9
  exact rt_i C hP hS rfl dX7_read_14

/-! RX7 reaches(IIII)Z -/
theorem iiX7_reaches_X7 : ∀ w ∈ wsX70, w ∈ wsX7_reaches := by decide +kernel
theorem mmX7_reaches_1 : (Cond.fieldLink RX7 7 "BlindBellsModel" "book" "[I") ∈ wsX7_reaches := by decide +kernel
theorem hdX7_reaches : yX7_reaches.cls = RX7 ∧ yX7_reaches.cls ≠ "java/lang/invoke/MethodHandle" ∧ yX7_reaches.cls ≠ "java/lang/invoke/VarHandle" ∧ (parseMethodDescriptor yX7_reaches.desc).map (fun d => d.parameters.length) = some 4 := by decide +kernel
abbrev rmX7_reaches : Room := { frames := 1, cells := 0, slots := 0, locals := 25 }
set_option maxHeartbeats 4000000 in
set_option maxRecDepth 100000 in
theorem lX7_reaches_6 {p : Program} {e : Env} {s : State} {m : MethodId} {args : Array Value} {below : List Frame} {meth : Method} {c : Code} {A : Nat → Prop} (l : Launch) (G : GG) (C : Cx p m c cX7_reaches 7 s args wsX7_reaches RX7 meth (some .boolean) G A) (a : Nat → Nat) (a_book : Nat → Int32) (a_spare : Nat → Int32) (a_images : Nat → Int32) (a_kept : Nat → Int32) (a_text : Nat → Int32) (a_length : Int32) (a_refused : Nat → Int32) (a_items : Nat → Int32) (a_many : Int32) (a_at : Int32) (a_sort : Int32) (a_start : Int32) (a_size : Int32) (a_due : Nat → Int32) (a_rung : Nat → Int32) (a_anywhere : Nat → Int32) (p0 : Int32) (p1 : Int32) (p2 : Int32) (p3 : Int32) (out : Int32) (kx : Int32 → Int32 → Option (Int32)) (HX : ∀ (x5_6 : Int32) (x6_6 : Int32) (H : Heap) (locs : List Loc) (ls : Array Slot), va_P G.1 vwCl (flat [wX7 G a a_book a_spare a_images a_kept a_text a_length a_refused a_items a_many a_at a_sort a_start a_size a_due a_rung a_anywhere]) H → va_D A (flat [wX7 G a a_book a_spare a_images a_kept a_text a_length a_refused a_items a_many a_at a_sort a_start a_size a_due a_rung a_anywhere]) → va_S A s.heap H locs → lv_has ls 7 [(0, .ref (a 0)), (1, .int p0), (2, .int p1), (3, .int p2), (4, .int p3), (5, .int x5_6), (6, .int x6_6)] → kx x5_6 x6_6 = some out → W p l e rmX7_reaches s m args below meth c H locs 0 0 (MQ below (QI G A out (flat [wX7 G a a_book a_spare a_images a_kept a_text a_length a_refused a_items a_many a_at a_sort a_start a_size a_due a_rung a_anywhere])) args s 0 0 A) (F0 m 66 ls [])) : ∀ (n : Nat) (x5_6 : Int32) (x6_6 : Int32) (H : Heap) (locs : List Loc) (ls : Array Slot), va_P G.1 vwCl (flat [wX7 G a a_book a_spare a_images a_kept a_text a_length a_refused a_items a_many a_at a_sort a_start a_size a_due a_rung a_anywhere]) H → va_D A (flat [wX7 G a a_book a_spare a_images a_kept a_text a_length a_refused a_items a_many a_at a_sort a_start a_size a_due a_rung a_anywhere]) → va_S A s.heap H locs → lv_has ls 7 [(0, .ref (a 0)), (1, .int p0), (2, .int p1), (3, .int p2), (4, .int p3), (5, .int x5_6), (6, .int x6_6)] → fX7_reaches_6 p0 p1 p2 p3 a_book kx n x5_6 x6_6 = some out → W p l e rmX7_reaches s m args below meth c H locs 0 0 (MQ below (QI G A out (flat [wX7 G a a_book a_spare a_images a_kept a_text a_length a_refused a_items a_many a_at a_sort a_start a_size a_due a_rung a_anywhere])) args s 0 0 A) (F0 m 6 ls []) := by
  obtain ⟨⟨hx, hb, hml, hown, hts⟩, hr, hlocks, hK, hN, hE, hA⟩ := id C
  intro n
  induction n with
  | zero =>
    intro x5_6 x6_6 H locs ls hP hD hS hl hf
    exact absurd (show (none : Option (Int32)) = some out from hf) (by intro q9; cases q9)
  | succ n ih =>
    intro x5_6 x6_6 H locs ls hP hD hS hl hf
    rw [fX7_reaches_6] at hf
    refine lv_iload hx hb dX7_reaches_6 (lv_at hl 6 rfl) ?_
    refine lv_aload_n hx hb dX7_reaches_8 rfl (lv_at hl 0 rfl) ?_
    refine va_get (D := G.1) (ci := 7) (v := .ref (a 1)) (C := RX7) (T := TX7) (N := 16) hx hb hts iiX7_reaches_X7 hown hK hP 0 rfl rfl 0 (by decide) (hts _ mmX7_reaches_1) (fun _ h9 => h9) rfl dX7_reaches_9 ?_
    refine lv_iconst (v := 0) hx hb dX7_reaches_12 (by decide) ?_
    obtain ⟨z1, hz1, hf⟩ := o_b hf
    refine k_iald hx hb hK hP 1 0 rfl rfl hz1 dX7_reaches_13 ?_
    refine lv_icmp_ge (tgt := 66) hx hb dX7_reaches_14 (by decide) (fun c2 => ?_) (fun c2 => ?_)
    · have hf := (o_i hf).1 c2
      exact HX _ _ _ _ _ hP hD hS (lv_sub hl [0, 1, 2, 3, 4, 5, 6] rfl) hf
    have hf := (o_i hf).2 c2
    refine lv_iload hx hb dX7_reaches_17 (lv_at hl 5 rfl) ?_
    refine lv_if_ne (tgt := 53) hx hb dX7_reaches_19 (by decide) (fun c3 => ?_) (fun c3 => ?_)
    · have hf := (o_i hf).2 c3
      refine lv_iconst (v := 1) hx hb dX7_reaches_53 (by decide) ?_
      refine lv_goto (tgt := 58) hx hb dX7_reaches_54 (by decide) ?_
      refine lv_istore (lv' := [(5, .int 1), (0, .ref (a 0)), (1, .int p0), (2, .int p1), (3, .int p2), (4, .int p3), (6, .int x6_6)]) hx hb dX7_reaches_58 hl (by decide) rfl (fun ls hl => ?_)
      refine lv_iinc (v := x6_6 + 1) (lv' := [(6, .int (x6_6 + 1)), (5, .int 1), (0, .ref (a 0)), (1, .int p0), (2, .int p1), (3, .int p2), (4, .int p3)]) hx hb dX7_reaches_60 hl (k := 6) rfl (congrArg (fun z => x6_6 + z) (by decide)) (by decide) rfl (fun ls hl => ?_)
      refine lv_goto (tgt := 6) hx hb dX7_reaches_63 (by decide) ?_
      exact ih _ _ _ _ _ hP hD hS (lv_sub hl [2, 3, 4, 5, 6, 1, 0] rfl) hf
    have hf := (o_i hf).1 c3
    refine lv_aload_n hx hb dX7_reaches_22 rfl (lv_at hl 0 rfl) ?_
    refine va_get (D := G.1) (ci := 7) (v := .ref (a 1)) (C := RX7) (T := TX7) (N := 16) hx hb hts iiX7_reaches_X7 hown hK hP 0 rfl rfl 0 (by decide) (hts _ mmX7_reaches_1) (fun _ h9 => h9) rfl dX7_reaches_23 ?_
    refine lv_bipush (v := 16) hx hb dX7_reaches_26 (by decide) ?_
    refine lv_iload hx hb dX7_reaches_28 (lv_at hl 6 rfl) ?_
    refine lv_iadd hx hb dX7_reaches_30 ?_
    obtain ⟨z4, hz4, hf⟩ := o_b hf
    refine k_iald hx hb hK hP 1 0 rfl rfl hz4 dX7_reaches_31 ?_
    refine lv_iload_n hx hb dX7_reaches_32 rfl (lv_at hl 1 rfl) ?_
    refine lv_icmp_ne (tgt := 57) hx hb dX7_reaches_33 (by decide) (fun c5 => ?_) (fun c5 => ?_)
    · have hf := (o_i hf).2 c5
      refine lv_iconst (v := 0) hx hb dX7_reaches_57 (by decide) ?_
      refine lv_istore (lv' := [(5, .int 0), (0, .ref (a 0)), (1, .int p0), (2, .int p1), (3, .int p2), (4, .int p3), (6, .int x6_6)]) hx hb dX7_reaches_58 hl (by decide) rfl (fun ls hl => ?_)
      refine lv_iinc (v := x6_6 + 1) (lv' := [(6, .int (x6_6 + 1)), (5, .int 0), (0, .ref (a 0)), (1, .int p0), (2, .int p1), (3, .int p2), (4, .int p3)]) hx hb dX7_reaches_60 hl (k := 6) rfl (congrArg (fun z => x6_6 + z) (by decide)) (by decide) rfl (fun ls hl => ?_)
      refine lv_goto (tgt := 6) hx hb dX7_reaches_63 (by decide) ?_
      exact ih _ _ _ _ _ hP hD hS (lv_sub hl [2, 3, 4, 5, 6, 1, 0] rfl) hf
    have hf := (o_i hf).1 c5
    refine lv_aload_n hx hb dX7_reaches_36 rfl (lv_at hl 0 rfl) ?_
    refine lv_iload hx hb dX7_reaches_37 (lv_at hl 6 rfl) ?_
    refine lv_iload_n hx hb dX7_reaches_39 rfl (lv_at hl 3 rfl) ?_
    refine lv_iload hx hb dX7_reaches_40 (lv_at hl 4 rfl) ?_
    obtain ⟨g6, hg6, hf⟩ := o_b hf
    refine bVi C hP hD hS (tX7_sounds l G a a_book a_spare a_images a_kept a_text a_length a_refused a_items a_many a_at a_sort a_start a_size a_due a_rung a_anywhere x6_6 p2 p3 g6 hg6) gX7_reaches_X7_sounds rfl ⟨rfl, rfl⟩ hdX7_sounds ⟨Nat.le_of_ble_eq_true rfl, Nat.le_of_ble_eq_true rfl⟩ rfl hl.1 rfl (Nat.le_of_ble_eq_true rfl) ⟨Nat.le_of_ble_eq_true rfl, Nat.le_of_ble_eq_true rfl⟩ [0] rfl rfl rfl (setB_same _ _ _ rfl) rfl (ci := 7) (q0 := 0) rfl rfl rfl dX7_reaches_42 (fun H locs hP hD hS => ?_)
    refine lv_iload_n hx hb dX7_reaches_45 rfl (lv_at hl 2 rfl) ?_
    refine lv_ishr hx hb dX7_reaches_46 ?_
    refine lv_iconst (v := 1) hx hb dX7_reaches_47 (by decide) ?_
    refine lv_iand hx hb dX7_reaches_48 ?_
    refine at_pc (pc' := 49) rfl ?_
    refine lv_iconst (v := 1) hx hb dX7_reaches_49 (by decide) ?_
    refine lv_icmp_ne (tgt := 57) hx hb dX7_reaches_50 (by decide) (fun c7 => ?_) (fun c7 => ?_)
    · have hf := (o_i hf).2 c7
      refine lv_iconst (v := 0) hx hb dX7_reaches_57 (by decide) ?_
      refine lv_istore (lv' := [(5, .int 0), (0, .ref (a 0)), (1, .int p0), (2, .int p1), (3, .int p2), (4, .int p3), (6, .int x6_6)]) hx hb dX7_reaches_58 hl (by decide) rfl (fun ls hl => ?_)
      refine lv_iinc (v := x6_6 + 1) (lv' := [(6, .int (x6_6 + 1)), (5, .int 0), (0, .ref (a 0)), (1, .int p0), (2, .int p1), (3, .int p2), (4, .int p3)]) hx hb dX7_reaches_60 hl (k := 6) rfl (congrArg (fun z => x6_6 + z) (by decide)) (by decide) rfl (fun ls hl => ?_)
      refine lv_goto (tgt := 6) hx hb dX7_reaches_63 (by decide) ?_
      exact ih _ _ _ _ _ hP hD hS (lv_sub hl [2, 3, 4, 5, 6, 1, 0] rfl) hf
    have hf := (o_i hf).1 c7
    refine lv_iconst (v := 1) hx hb dX7_reaches_53 (by decide) ?_
    refine lv_goto (tgt := 58) hx hb dX7_reaches_54 (by decide) ?_
    refine lv_istore (lv' := [(5, .int 1), (0, .ref (a 0)), (1, .int p0), (2, .int p1), (3, .int p2), (4, .int p3), (6, .int x6_6)]) hx hb dX7_reaches_58 hl (by decide) rfl (fun ls hl => ?_)
    refine lv_iinc (v := x6_6 + 1) (lv' := [(6, .int (x6_6 + 1)), (5, .int 1), (0, .ref (a 0)), (1, .int p0), (2, .int p1), (3, .int p2), (4, .int p3)]) hx hb dX7_reaches_60 hl (k := 6) rfl (congrArg (fun z => x6_6 + z) (by decide)) (by decide) rfl (fun ls hl => ?_)
    refine lv_goto (tgt := 6) hx hb dX7_reaches_63 (by decide) ?_
    exact ih _ _ _ _ _ hP hD hS (lv_sub hl [2, 3, 4, 5, 6, 1, 0] rfl) hf
set_option maxHeartbeats 4000000 in
set_option maxRecDepth 100000 in
theorem tX7_reaches (l : Launch) (G : GG) (a : Nat → Nat) (a_book : Nat → Int32) (a_spare : Nat → Int32) (a_images : Nat → Int32) (a_kept : Nat → Int32) (a_text : Nat → Int32) (a_length : Int32) (a_refused : Nat → Int32) (a_items : Nat → Int32) (a_many : Int32) (a_at : Int32) (a_sort : Int32) (a_start : Int32) (a_size : Int32) (a_due : Nat → Int32) (a_rung : Nat → Int32) (a_anywhere : Nat → Int32) (p0 : Int32) (p1 : Int32) (p2 : Int32) (p3 : Int32) (out : Int32) (hf : fX7_reaches a_book p0 p1 p2 p3 = some out) : cMi l G yX7_reaches wsX7_reaches rmX7_reaches [.ref (a 0), .int p0, .int p1, .int p2, .int p3] (flat [wX7 G a a_book a_spare a_images a_kept a_text a_length a_refused a_items a_many a_at a_sort a_start a_size a_due a_rung a_anywhere]) out (flat [wX7 G a a_book a_spare a_images a_kept a_text a_length a_refused a_items a_many a_at a_sort a_start a_size a_due a_rung a_anywhere]) := by
  intro sz
  refine met_of (cc := cX7_reaches) (nL := 7) (ret := (some .boolean)) (Qc := fun A9 => QI G A9 out (flat [wX7 G a a_book a_spare a_images a_kept a_text a_length a_refused a_items a_many a_at a_sort a_start a_size a_due a_rung a_anywhere])) (by decide) rfl (Nat.le_of_ble_eq_true rfl) ?_
  intro p e s m args below meth c A ls C hP hD hS hl
  obtain ⟨⟨hx, hb, hml, hown, hts⟩, hr, hlocks, hK, hN, hE, hA⟩ := id C
  have hl : lv_has ls 7 [(0, .ref (a 0)), (1, .int p0), (2, .int p1), (3, .int p2), (4, .int p3)] := hl
  unfold fX7_reaches at hf
  refine lv_iconst (v := 0) hx hb dX7_reaches_0 (by decide) ?_
  refine lv_istore (lv' := [(5, .int 0), (0, .ref (a 0)), (1, .int p0), (2, .int p1), (3, .int p2), (4, .int p3)]) hx hb dX7_reaches_1 hl (by decide) rfl (fun ls hl => ?_)
  refine lv_iconst (v := 0) hx hb dX7_reaches_3 (by decide) ?_
  refine lv_istore (lv' := [(6, .int 0), (5, .int 0), (0, .ref (a 0)), (1, .int p0), (2, .int p1), (3, .int p2), (4, .int p3)]) hx hb dX7_reaches_4 hl (by decide) rfl (fun ls hl => ?_)
  refine lX7_reaches_6 l G C a a_book a_spare a_images a_kept a_text a_length a_refused a_items a_many a_at a_sort a_start a_size a_due a_rung a_anywhere p0 p1 p2 p3 out _ (fun x5_6_8 x6_6_9 H locs ls hP hD hS hl hf => ?_) fu 0 0 _ _ _ hP hD hS (lv_sub hl [2, 3, 4, 5, 6, 1, 0] rfl) hf
  refine lv_iload hx hb dX7_reaches_66 (lv_at hl 5 rfl) ?_
  obtain ⟨z10, hz10, hf⟩ := o_b hf
  obtain ⟨hn9, e8⟩ := zb_ok hz10
  have e8 := e8.symm
  subst e8
  have e9 := Option.some.inj hf
  subst e9
  exact rt_z C hP hS rfl hn9 dX7_reaches_68
