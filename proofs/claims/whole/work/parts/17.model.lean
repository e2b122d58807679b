/-! RX7 dueFor(II)I -/
theorem iiX7_dueFor_X7 : ∀ w ∈ wsX70, w ∈ wsX7_dueFor := by decide +kernel
theorem mmX7_dueFor_1 : (Cond.fieldLink RX7 7 "BlindBellsModel" "book" "[I") ∈ wsX7_dueFor := by decide +kernel
theorem hdX7_dueFor : yX7_dueFor.cls = RX7 ∧ yX7_dueFor.cls ≠ "java/lang/invoke/MethodHandle" ∧ yX7_dueFor.cls ≠ "java/lang/invoke/VarHandle" ∧ (parseMethodDescriptor yX7_dueFor.desc).map (fun d => d.parameters.length) = some 2 := by decide +kernel
abbrev rmX7_dueFor : Room := { frames := 2, cells := 0, slots := 0, locals := 51 }
set_option maxHeartbeats 4000000 in
set_option maxRecDepth 100000 in
theorem lX7_dueFor_5 {p : Program} {e : Env} {s : State} {m : MethodId} {args : Array Value} {below : List Frame} {meth : Method} {c : Code} {A : Nat → Prop} (l : Launch) (G : GG) (C : Cx p m c cX7_dueFor 5 s args wsX7_dueFor RX7 meth (some .int) G A) (a : Nat → Nat) (a_book : Nat → Int32) (a_spare : Nat → Int32) (a_images : Nat → Int32) (a_kept : Nat → Int32) (a_text : Nat → Int32) (a_length : Int32) (a_refused : Nat → Int32) (a_items : Nat → Int32) (a_many : Int32) (a_at : Int32) (a_sort : Int32) (a_start : Int32) (a_size : Int32) (a_due : Nat → Int32) (a_rung : Nat → Int32) (a_anywhere : Nat → Int32) (p0 : Int32) (p1 : Int32) (out : Int32) (kx : Int32 → Int32 → Option (Int32)) (HX : ∀ (x3_5 : Int32) (x4_5 : Int32) (H : Heap) (locs : List Loc) (ls : Array Slot), va_P G.1 vwCl (flat [wX7 G a a_book a_spare a_images a_kept a_text a_length a_refused a_items a_many a_at a_sort a_start a_size a_due a_rung a_anywhere]) H → va_D A (flat [wX7 G a a_book a_spare a_images a_kept a_text a_length a_refused a_items a_many a_at a_sort a_start a_size a_due a_rung a_anywhere]) → va_S A s.heap H locs → lv_has ls 5 [(0, .ref (a 0)), (1, .int p0), (2, .int p1), (3, .int x3_5), (4, .int x4_5)] → kx x3_5 x4_5 = some out → W p l e rmX7_dueFor s m args below meth c H locs 0 0 (MQ below (QI G A out (flat [wX7 G a a_book a_spare a_images a_kept a_text a_length a_refused a_items a_many a_at a_sort a_start a_size a_due a_rung a_anywhere])) args s 0 0 A) (F0 m 79 ls [])) : ∀ (n : Nat) (x3_5 : Int32) (x4_5 : Int32) (H : Heap) (locs : List Loc) (ls : Array Slot), va_P G.1 vwCl (flat [wX7 G a a_book a_spare a_images a_kept a_text a_length a_refused a_items a_many a_at a_sort a_start a_size a_due a_rung a_anywhere]) H → va_D A (flat [wX7 G a a_book a_spare a_images a_kept a_text a_length a_refused a_items a_many a_at a_sort a_start a_size a_due a_rung a_anywhere]) → va_S A s.heap H locs → lv_has ls 5 [(0, .ref (a 0)), (1, .int p0), (2, .int p1), (3, .int x3_5), (4, .int x4_5)] → fX7_dueFor_5 p0 p1 a_book kx n x3_5 x4_5 = some out → W p l e rmX7_dueFor s m args below meth c H locs 0 0 (MQ below (QI G A out (flat [wX7 G a a_book a_spare a_images a_kept a_text a_length a_refused a_items a_many a_at a_sort a_start a_size a_due a_rung a_anywhere])) args s 0 0 A) (F0 m 5 ls []) := by
  obtain ⟨⟨hx, hb, hml, hown, hts⟩, hr, hlocks, hK, hN, hE, hA⟩ := id C
  intro n
  induction n with
  | zero =>
    intro x3_5 x4_5 H locs ls hP hD hS hl hf
    exact absurd (show (none : Option (Int32)) = some out from hf) (by intro q9; cases q9)
  | succ n ih =>
    intro x3_5 x4_5 H locs ls hP hD hS hl hf
    rw [fX7_dueFor_5] at hf
    refine lv_iload hx hb dX7_dueFor_5 (lv_at hl 4 rfl) ?_
    refine lv_aload_n hx hb dX7_dueFor_7 rfl (lv_at hl 0 rfl) ?_
    refine va_get (D := G.1) (ci := 7) (v := .ref (a 1)) (C := RX7) (T := TX7) (N := 16) hx hb hts iiX7_dueFor_X7 hown hK hP 0 rfl rfl 0 (by decide) (hts _ mmX7_dueFor_1) (fun _ h9 => h9) rfl dX7_dueFor_8 ?_
    refine lv_iconst (v := 0) hx hb dX7_dueFor_11 (by decide) ?_
    obtain ⟨z1, hz1, hf⟩ := o_b hf
    refine k_iald hx hb hK hP 1 0 rfl rfl hz1 dX7_dueFor_12 ?_
    refine lv_icmp_ge (tgt := 79) hx hb dX7_dueFor_13 (by decide) (fun c2 => ?_) (fun c2 => ?_)
    · have hf := (o_i hf).1 c2
      exact HX _ _ _ _ _ hP hD hS (lv_sub hl [0, 1, 2, 3, 4] rfl) hf
    have hf := (o_i hf).2 c2
    refine lv_iload_n hx hb dX7_dueFor_16 rfl (lv_at hl 3 rfl) ?_
    refine lv_aload_n hx hb dX7_dueFor_17 rfl (lv_at hl 0 rfl) ?_
    refine va_get (D := G.1) (ci := 7) (v := .ref (a 1)) (C := RX7) (T := TX7) (N := 16) hx hb hts iiX7_dueFor_X7 hown hK hP 0 rfl rfl 0 (by decide) (hts _ mmX7_dueFor_1) (fun _ h9 => h9) rfl dX7_dueFor_18 ?_
    refine lv_bipush (v := 86) hx hb dX7_dueFor_21 (by decide) ?_
    refine lv_iload_n hx hb dX7_dueFor_23 rfl (lv_at hl 1 rfl) ?_
    refine lv_iadd hx hb dX7_dueFor_24 ?_
    obtain ⟨z3, hz3, hf⟩ := o_b hf
    refine k_iald hx hb hK hP 1 0 rfl rfl hz3 dX7_dueFor_25 ?_
    refine lv_iload hx hb dX7_dueFor_26 (lv_at hl 4 rfl) ?_
    refine lv_ishr hx hb dX7_dueFor_28 ?_
    refine at_pc (pc' := 29) rfl ?_
    refine lv_iconst (v := 1) hx hb dX7_dueFor_29 (by decide) ?_
    refine lv_iand hx hb dX7_dueFor_30 ?_
    refine lv_iconst (v := 1) hx hb dX7_dueFor_31 (by decide) ?_
    refine lv_icmp_ne (tgt := 70) hx hb dX7_dueFor_32 (by decide) (fun c4 => ?_) (fun c4 => ?_)
    · have hf := (o_i hf).2 c4
      refine lv_iconst (v := 0) hx hb dX7_dueFor_70 (by decide) ?_
      refine lv_ior hx hb dX7_dueFor_71 ?_
      refine lv_istore_n (lv' := [(3, .int (x3_5 ||| 0)), (0, .ref (a 0)), (1, .int p0), (2, .int p1), (4, .int x4_5)]) hx hb dX7_dueFor_72 rfl hl (by decide) rfl (fun ls hl => ?_)
      refine lv_iinc (v := x4_5 + 1) (lv' := [(4, .int (x4_5 + 1)), (3, .int (x3_5 ||| 0)), (0, .ref (a 0)), (1, .int p0), (2, .int p1)]) hx hb dX7_dueFor_73 hl (k := 4) rfl (congrArg (fun z => x4_5 + z) (by decide)) (by decide) rfl (fun ls hl => ?_)
      refine lv_goto (tgt := 5) hx hb dX7_dueFor_76 (by decide) ?_
      exact ih _ _ _ _ _ hP hD hS (lv_sub hl [2, 3, 4, 1, 0] rfl) hf
    have hf := (o_i hf).1 c4
    refine lv_aload_n hx hb dX7_dueFor_35 rfl (lv_at hl 0 rfl) ?_
    refine lv_iload hx hb dX7_dueFor_36 (lv_at hl 4 rfl) ?_
    refine lv_aload_n hx hb dX7_dueFor_38 rfl (lv_at hl 0 rfl) ?_
    refine va_get (D := G.1) (ci := 7) (v := .ref (a 1)) (C := RX7) (T := TX7) (N := 16) hx hb hts iiX7_dueFor_X7 hown hK hP 0 rfl rfl 0 (by decide) (hts _ mmX7_dueFor_1) (fun _ h9 => h9) rfl dX7_dueFor_39 ?_
    refine lv_bipush (v := 62) hx hb dX7_dueFor_42 (by decide) ?_
    refine lv_iload_n hx hb dX7_dueFor_44 rfl (lv_at hl 1 rfl) ?_
    refine lv_iadd hx hb dX7_dueFor_45 ?_
    obtain ⟨z5, hz5, hf⟩ := o_b hf
    refine k_iald hx hb hK hP 1 0 rfl rfl hz5 dX7_dueFor_46 ?_
    refine lv_aload_n hx hb dX7_dueFor_47 rfl (lv_at hl 0 rfl) ?_
    refine at_pc (pc' := 48) rfl ?_
    refine va_get (D := G.1) (ci := 7) (v := .ref (a 1)) (C := RX7) (T := TX7) (N := 16) hx hb hts iiX7_dueFor_X7 hown hK hP 0 rfl rfl 0 (by decide) (hts _ mmX7_dueFor_1) (fun _ h9 => h9) rfl dX7_dueFor_48 ?_
    refine lv_bipush (v := 74) hx hb dX7_dueFor_51 (by decide) ?_
    refine lv_iload_n hx hb dX7_dueFor_53 rfl (lv_at hl 1 rfl) ?_
    refine lv_iadd hx hb dX7_dueFor_54 ?_
    obtain ⟨z6, hz6, hf⟩ := o_b hf
    refine k_iald hx hb hK hP 1 0 rfl rfl hz6 dX7_dueFor_55 ?_
    refine lv_iload_n hx hb dX7_dueFor_56 rfl (lv_at hl 2 rfl) ?_
    obtain ⟨g7, hg7, hf⟩ := o_b hf
    refine bVi C hP hD hS (tX7_reaches l G a a_book a_spare a_images a_kept a_text a_length a_refused a_items a_many a_at a_sort a_start a_size a_due a_rung a_anywhere x4_5 z5 z6 p1 g7 hg7) gX7_dueFor_X7_reaches rfl ⟨rfl, rfl⟩ hdX7_reaches ⟨Nat.le_of_ble_eq_true rfl, Nat.le_of_ble_eq_true rfl⟩ rfl hl.1 rfl (Nat.le_of_ble_eq_true rfl) ⟨Nat.le_of_ble_eq_true rfl, Nat.le_of_ble_eq_true rfl⟩ [0] rfl rfl rfl (setB_same _ _ _ rfl) rfl (ci := 7) (q0 := 0) rfl rfl rfl dX7_dueFor_57 (fun H locs hP hD hS => ?_)
    refine lv_if_eq (tgt := 70) hx hb dX7_dueFor_60 (by decide) (fun c8 => ?_) (fun c8 => ?_)
    · have hf := (o_i hf).1 c8
      refine lv_iconst (v := 0) hx hb dX7_dueFor_70 (by decide) ?_
      refine lv_ior hx hb dX7_dueFor_71 ?_
      refine lv_istore_n (lv' := [(3, .int (x3_5 ||| 0)), (0, .ref (a 0)), (1, .int p0), (2, .int p1), (4, .int x4_5)]) hx hb dX7_dueFor_72 rfl hl (by decide) rfl (fun ls hl => ?_)
      refine lv_iinc (v := x4_5 + 1) (lv' := [(4, .int (x4_5 + 1)), (3, .int (x3_5 ||| 0)), (0, .ref (a 0)), (1, .int p0), (2, .int p1)]) hx hb dX7_dueFor_73 hl (k := 4) rfl (congrArg (fun z => x4_5 + z) (by decide)) (by decide) rfl (fun ls hl => ?_)
      refine lv_goto (tgt := 5) hx hb dX7_dueFor_76 (by decide) ?_
      exact ih _ _ _ _ _ hP hD hS (lv_sub hl [2, 3, 4, 1, 0] rfl) hf
    have hf := (o_i hf).2 c8
    refine lv_iconst (v := 1) hx hb dX7_dueFor_63 (by decide) ?_
    refine lv_iload hx hb dX7_dueFor_64 (lv_at hl 4 rfl) ?_
    refine lv_ishl hx hb dX7_dueFor_66 ?_
    refine lv_goto (tgt := 71) hx hb dX7_dueFor_67 (by decide) ?_
    refine lv_ior hx hb dX7_dueFor_71 ?_
    refine lv_istore_n (lv' := [(3, .int (x3_5 ||| (1 <<< (x4_5 &&& 31)))), (0, .ref (a 0)), (1, .int p0), (2, .int p1), (4, .int x4_5)]) hx hb dX7_dueFor_72 rfl hl (by decide) rfl (fun ls hl => ?_)
    refine lv_iinc (v := x4_5 + 1) (lv' := [(4, .int (x4_5 + 1)), (3, .int (x3_5 ||| (1 <<< (x4_5 &&& 31)))), (0, .ref (a 0)), (1, .int p0), (2, .int p1)]) hx hb dX7_dueFor_73 hl (k := 4) rfl (congrArg (fun z => x4_5 + z) (by decide)) (by decide) rfl (fun ls hl => ?_)
    refine lv_goto (tgt := 5) hx hb dX7_dueFor_76 (by decide) ?_
    exact ih _ _ _ _ _ hP hD hS (lv_sub hl [2, 3, 4, 1, 0] rfl) hf
set_option maxHeartbeats 4000000 in
set_option maxRecDepth 100000 in
theorem tX7_dueFor (l : Launch) (G : GG) (a : Nat → Nat) (a_book : Nat → Int32) (a_spare : Nat → Int32) (a_images : Nat → Int32) (a_kept : Nat → Int32) (a_text : Nat → Int32) (a_length : Int32) (a_refused : Nat → Int32) (a_items : Nat → Int32) (a_many : Int32) (a_at : Int32) (a_sort : Int32) (a_start : Int32) (a_size : Int32) (a_due : Nat → Int32) (a_rung : Nat → Int32) (a_anywhere : Nat → Int32) (p0 : Int32) (p1 : Int32) (out : Int32) (hf : fX7_dueFor a_book p0 p1 = some out) : cMi l G yX7_dueFor wsX7_dueFor rmX7_dueFor [.ref (a 0), .int p0, .int p1] (flat [wX7 G a a_book a_spare a_images a_kept a_text a_length a_refused a_items a_many a_at a_sort a_start a_size a_due a_rung a_anywhere]) out (flat [wX7 G a a_book a_spare a_images a_kept a_text a_length a_refused a_items a_many a_at a_sort a_start a_size a_due a_rung a_anywhere]) := by
  intro sz
  refine met_of (cc := cX7_dueFor) (nL := 5) (ret := (some .int)) (Qc := fun A9 => QI G A9 out (flat [wX7 G a a_book a_spare a_images a_kept a_text a_length a_refused a_items a_many a_at a_sort a_start a_size a_due a_rung a_anywhere])) (by decide) rfl (Nat.le_of_ble_eq_true rfl) ?_
  intro p e s m args below meth c A ls C hP hD hS hl
  obtain ⟨⟨hx, hb, hml, hown, hts⟩, hr, hlocks, hK, hN, hE, hA⟩ := id C
  have hl : lv_has ls 5 [(0, .ref (a 0)), (1, .int p0), (2, .int p1)] := hl
  unfold fX7_dueFor at hf
  refine lv_iconst (v := 0) hx hb dX7_dueFor_0 (by decide) ?_
  refine lv_istore_n (lv' := [(3, .int 0), (0, .ref (a 0)), (1, .int p0), (2, .int p1)]) hx hb dX7_dueFor_1 rfl hl (by decide) rfl (fun ls hl => ?_)
  refine lv_iconst (v := 0) hx hb dX7_dueFor_2 (by decide) ?_
  refine lv_istore (lv' := [(4, .int 0), (3, .int 0), (0, .ref (a 0)), (1, .int p0), (2, .int p1)]) hx hb dX7_dueFor_3 hl (by decide) rfl (fun ls hl => ?_)
  refine lX7_dueFor_5 l G C a a_book a_spare a_images a_kept a_text a_length a_refused a_items a_many a_at a_sort a_start a_size a_due a_rung a_anywhere p0 p1 out _ (fun x3_5_9 x4_5_10 H locs ls hP hD hS hl hf => ?_) fu 0 0 _ _ _ hP hD hS (lv_sub hl [2, 3, 4, 1, 0] rfl) hf
  refine lv_iload_n hx hb dX7_dueFor_79 rfl (lv_at hl 3 rfl) ?_
  have e9 := Option.some.inj hf
  subst e9
  exact rt_i C hP hS rfl dX7_dueFor_80

/-! RX7 rangAhead(III)I -/
theorem iiX7_rangAhead_X7 : ∀ w ∈ wsX70, w ∈ wsX7_rangAhead := by decide +kernel
theorem mmX7_rangAhead_1 : (Cond.fieldLink RX7 7 "BlindBellsModel" "book" "[I") ∈ wsX7_rangAhead := by decide +kernel
theorem mmX7_rangAhead_2 : (Cond.fieldLink RX7 35 "BlindBellsModel" "rung" "[I") ∈ wsX7_rangAhead := by decide +kernel
theorem hdX7_rangAhead : yX7_rangAhead.cls = RX7 ∧ yX7_rangAhead.cls ≠ "java/lang/invoke/MethodHandle" ∧ yX7_rangAhead.cls ≠ "java/lang/invoke/VarHandle" ∧ (parseMethodDescriptor yX7_rangAhead.desc).map (fun d => d.parameters.length) = some 3 := by decide +kernel
abbrev rmX7_rangAhead : Room := { frames := 0, cells := 0, slots := 0, locals := 0 }
set_option maxHeartbeats 4000000 in
set_option maxRecDepth 100000 in
theorem lX7_rangAhead_6 {p : Program} {e : Env} {s : State} {m : MethodId} {args : Array Value} {below : List Frame} {meth : Method} {c : Code} {A : Nat → Prop} (l : Launch) (G : GG) (C : Cx p m c cX7_rangAhead 6 s args wsX7_rangAhead RX7 meth (some .int) G A) (a : Nat → Nat) (a_book : Nat → Int32) (a_spare : Nat → Int32) (a_images : Nat → Int32) (a_kept : Nat → Int32) (a_text : Nat → Int32) (a_length : Int32) (a_refused : Nat → Int32) (a_items : Nat → Int32) (a_many : Int32) (a_at : Int32) (a_sort : Int32) (a_start : Int32) (a_size : Int32) (a_due : Nat → Int32) (a_rung : Nat → Int32) (a_anywhere : Nat → Int32) (p0 : Int32) (p1 : Int32) (p2 : Int32) (out : Int32) (kx : Int32 → Int32 → Option (Int32)) (HX : ∀ (x4_6 : Int32) (x5_6 : Int32) (H : Heap) (locs : List Loc) (ls : Array Slot), va_P G.1 vwCl (flat [wX7 G a a_book a_spare a_images a_kept a_text a_length a_refused a_items a_many a_at a_sort a_start a_size a_due a_rung a_anywhere]) H → va_D A (flat [wX7 G a a_book a_spare a_images a_kept a_text a_length a_refused a_items a_many a_at a_sort a_start a_size a_due a_rung a_anywhere]) → va_S A s.heap H locs → lv_has ls 6 [(0, .ref (a 0)), (1, .int p0), (2, .int p1), (3, .int p2), (4, .int x4_6), (5, .int x5_6)] → kx x4_6 x5_6 = some out → W p l e rmX7_rangAhead s m args below meth c H locs 0 0 (MQ below (QI G A out (flat [wX7 G a a_book a_spare a_images a_kept a_text a_length a_refused a_items a_many a_at a_sort a_start a_size a_due a_rung a_anywhere])) args s 0 0 A) (F0 m 52 ls [])) : ∀ (n : Nat) (x4_6 : Int32) (x5_6 : Int32) (H : Heap) (locs : List Loc) (ls : Array Slot), va_P G.1 vwCl (flat [wX7 G a a_book a_spare a_images a_kept a_text a_length a_refused a_items a_many a_at a_sort a_start a_size a_due a_rung a_anywhere]) H → va_D A (flat [wX7 G a a_book a_spare a_images a_kept a_text a_length a_refused a_items a_many a_at a_sort a_start a_size a_due a_rung a_anywhere]) → va_S A s.heap H locs → lv_has ls 6 [(0, .ref (a 0)), (1, .int p0), (2, .int p1), (3, .int p2), (4, .int x4_6), (5, .int x5_6)] → fX7_rangAhead_6 p0 p1 p2 a_book a_rung kx n x4_6 x5_6 = some out → W p l e rmX7_rangAhead s m args below meth c H locs 0 0 (MQ below (QI G A out (flat [wX7 G a a_book a_spare a_images a_kept a_text a_length a_refused a_items a_many a_at a_sort a_start a_size a_due a_rung a_anywhere])) args s 0 0 A) (F0 m 6 ls []) := by
  obtain ⟨⟨hx, hb, hml, hown, hts⟩, hr, hlocks, hK, hN, hE, hA⟩ := id C
  intro n
  induction n with
  | zero =>
    intro x4_6 x5_6 H locs ls hP hD hS hl hf
    exact absurd (show (none : Option (Int32)) = some out from hf) (by intro q9; cases q9)
  | succ n ih =>
    intro x4_6 x5_6 H locs ls hP hD hS hl hf
    rw [fX7_rangAhead_6] at hf
    refine lv_iload hx hb dX7_rangAhead_6 (lv_at hl 5 rfl) ?_
    refine lv_iload_n hx hb dX7_rangAhead_8 rfl (lv_at hl 3 rfl) ?_
    refine lv_icmp_ge (tgt := 52) hx hb dX7_rangAhead_9 (by decide) (fun c1 => ?_) (fun c1 => ?_)
    · have hf := (o_i hf).1 c1
      exact HX _ _ _ _ _ hP hD hS (lv_sub hl [0, 1, 2, 3, 4, 5] rfl) hf
    have hf := (o_i hf).2 c1
    refine lv_iload hx hb dX7_rangAhead_12 (lv_at hl 4 rfl) ?_
    refine lv_aload_n hx hb dX7_rangAhead_14 rfl (lv_at hl 0 rfl) ?_
    refine va_get (D := G.1) (ci := 7) (v := .ref (a 1)) (C := RX7) (T := TX7) (N := 16) hx hb hts iiX7_rangAhead_X7 hown hK hP 0 rfl rfl 0 (by decide) (hts _ mmX7_rangAhead_1) (fun _ h9 => h9) rfl dX7_rangAhead_15 ?_
    refine lv_bipush (v := 62) hx hb dX7_rangAhead_18 (by decide) ?_
    refine lv_iload hx hb dX7_rangAhead_20 (lv_at hl 5 rfl) ?_
    refine lv_iadd hx hb dX7_rangAhead_22 ?_
    obtain ⟨z2, hz2, hf⟩ := o_b hf
    refine k_iald hx hb hK hP 1 0 rfl rfl hz2 dX7_rangAhead_23 ?_
    refine lv_iload_n hx hb dX7_rangAhead_24 rfl (lv_at hl 2 rfl) ?_
    refine lv_icmp_ne (tgt := 42) hx hb dX7_rangAhead_25 (by decide) (fun c3 => ?_) (fun c3 => ?_)
    · have hf := (o_i hf).2 c3
      refine lv_iconst (v := 0) hx hb dX7_rangAhead_42 (by decide) ?_
      refine lv_iadd hx hb dX7_rangAhead_43 ?_
      refine lv_istore (lv' := [(4, .int (x4_6 + 0)), (0, .ref (a 0)), (1, .int p0), (2, .int p1), (3, .int p2), (5, .int x5_6)]) hx hb dX7_rangAhead_44 hl (by decide) rfl (fun ls hl => ?_)
      refine lv_iinc (v := x5_6 + 1) (lv' := [(5, .int (x5_6 + 1)), (4, .int (x4_6 + 0)), (0, .ref (a 0)), (1, .int p0), (2, .int p1), (3, .int p2)]) hx hb dX7_rangAhead_46 hl (k := 5) rfl (congrArg (fun z => x5_6 + z) (by decide)) (by decide) rfl (fun ls hl => ?_)
      refine lv_goto (tgt := 6) hx hb dX7_rangAhead_49 (by decide) ?_
      exact ih _ _ _ _ _ hP hD hS (lv_sub hl [2, 3, 4, 5, 1, 0] rfl) hf
    have hf := (o_i hf).1 c3
    refine lv_aload_n hx hb dX7_rangAhead_28 rfl (lv_at hl 0 rfl) ?_
    refine va_get (D := G.1) (ci := 7) (v := .ref (a 9)) (C := RX7) (T := TX7) (N := 16) hx hb hts iiX7_rangAhead_X7 hown hK hP 0 rfl rfl 14 (by decide) (hts _ mmX7_rangAhead_2) (fun _ h9 => h9) rfl dX7_rangAhead_29 ?_
    refine lv_iload hx hb dX7_rangAhead_32 (lv_at hl 5 rfl) ?_
    obtain ⟨z4, hz4, hf⟩ := o_b hf
    refine k_iald hx hb hK hP 9 0 rfl rfl hz4 dX7_rangAhead_34 ?_
    refine lv_iload_n hx hb dX7_rangAhead_35 rfl (lv_at hl 1 rfl) ?_
    refine lv_ishr hx hb dX7_rangAhead_36 ?_
    refine lv_iconst (v := 1) hx hb dX7_rangAhead_37 (by decide) ?_
    refine lv_iand hx hb dX7_rangAhead_38 ?_
    refine lv_goto (tgt := 43) hx hb dX7_rangAhead_39 (by decide) ?_
    refine at_pc (pc' := 43) rfl ?_
    refine lv_iadd hx hb dX7_rangAhead_43 ?_
    refine lv_istore (lv' := [(4, .int (x4_6 + ((z4 >>> (p0 &&& 31)) &&& 1))), (0, .ref (a 0)), (1, .int p0), (2, .int p1), (3, .int p2), (5, .int x5_6)]) hx hb dX7_rangAhead_44 hl (by decide) rfl (fun ls hl => ?_)
    refine lv_iinc (v := x5_6 + 1) (lv' := [(5, .int (x5_6 + 1)), (4, .int (x4_6 + ((z4 >>> (p0 &&& 31)) &&& 1))), (0, .ref (a 0)), (1, .int p0), (2, .int p1), (3, .int p2)]) hx hb dX7_rangAhead_46 hl (k := 5) rfl (congrArg (fun z => x5_6 + z) (by decide)) (by decide) rfl (fun ls hl => ?_)
    refine lv_goto (tgt := 6) hx hb dX7_rangAhead_49 (by decide) ?_
    exact ih _ _ _ _ _ hP hD hS (lv_sub hl [2, 3, 4, 5, 1, 0] rfl) hf
set_option maxHeartbeats 4000000 in
set_option maxRecDepth 100000 in
theorem tX7_rangAhead (l : Launch) (G : GG) (a : Nat → Nat) (a_book : Nat → Int32) (a_spare : Nat → Int32) (a_images : Nat → Int32) (a_kept : Nat → Int32) (a_text : Nat → Int32) (a_length : Int32) (a_refused : Nat → Int32) (a_items : Nat → Int32) (a_many : Int32) (a_at : Int32) (a_sort : Int32) (a_start : Int32) (a_size : Int32) (a_due : Nat → Int32) (a_rung : Nat → Int32) (a_anywhere : Nat → Int32) (p0 : Int32) (p1 : Int32) (p2 : Int32) (out : Int32) (hf : fX7_rangAhead a_book a_rung p0 p1 p2 = some out) : cMi l G yX7_rangAhead wsX7_rangAhead rmX7_rangAhead [.ref (a 0), .int p0, .int p1, .int p2] (flat [wX7 G a a_book a_spare a_images a_kept a_text a_length a_refused a_items a_many a_at a_sort a_start a_size a_due a_rung a_anywhere]) out (flat [wX7 G a a_book a_spare a_images a_kept a_text a_length a_refused a_items a_many a_at a_sort a_start a_size a_due a_rung a_anywhere]) := by
  intro sz
  refine met_of (cc := cX7_rangAhead) (nL := 6) (ret := (some .int)) (Qc := fun A9 => QI G A9 out (flat [wX7 G a a_book a_spare a_images a_kept a_text a_length a_refused a_items a_many a_at a_sort a_start a_size a_due a_rung a_anywhere])) (by decide) rfl (Nat.le_of_ble_eq_true rfl) ?_
  intro p e s m args below meth c A ls C hP hD hS hl
  obtain ⟨⟨hx, hb, hml, hown, hts⟩, hr, hlocks, hK, hN, hE, hA⟩ := id C
  have hl : lv_has ls 6 [(0, .ref (a 0)), (1, .int p0), (2, .int p1), (3, .int p2)] := hl
  unfold fX7_rangAhead at hf
  refine lv_iconst (v := 0) hx hb dX7_rangAhead_0 (by decide) ?_
  refine lv_istore (lv' := [(4, .int 0), (0, .ref (a 0)), (1, .int p0), (2, .int p1), (3, .int p2)]) hx hb dX7_rangAhead_1 hl (by decide) rfl (fun ls hl => ?_)
  refine lv_iconst (v := 0) hx hb dX7_rangAhead_3 (by decide) ?_
  refine lv_istore (lv' := [(5, .int 0), (4, .int 0), (0, .ref (a 0)), (1, .int p0), (2, .int p1), (3, .int p2)]) hx hb dX7_rangAhead_4 hl (by decide) rfl (fun ls hl => ?_)
  refine lX7_rangAhead_6 l G C a a_book a_spare a_images a_kept a_text a_length a_refused a_items a_many a_at a_sort a_start a_size a_due a_rung a_anywhere p0 p1 p2 out _ (fun x4_6_5 x5_6_6 H locs ls hP hD hS hl hf => ?_) fu 0 0 _ _ _ hP hD hS (lv_sub hl [2, 3, 4, 5, 1, 0] rfl) hf
  refine lv_iload hx hb dX7_rangAhead_52 (lv_at hl 4 rfl) ?_
  have e9 := Option.some.inj hf
  subst e9
  exact rt_i C hP hS rfl dX7_rangAhead_54

/-! RX7 lastAhead(III)I -/
theorem iiX7_lastAhead_X7 : ∀ w ∈ wsX70, w ∈ wsX7_lastAhead := by decide +kernel
theorem mmX7_lastAhead_1 : (Cond.fieldLink RX7 7 "BlindBellsModel" "book" "[I") ∈ wsX7_lastAhead := by decide +kernel
theorem mmX7_lastAhead_2 : (Cond.fieldLink RX7 32 "BlindBellsModel" "due" "[I") ∈ wsX7_lastAhead := by decide +kernel
theorem mmX7_lastAhead_3 : (Cond.fieldLink RX7 35 "BlindBellsModel" "rung" "[I") ∈ wsX7_lastAhead := by decide +kernel
theorem hdX7_lastAhead : yX7_lastAhead.cls = RX7 ∧ yX7_lastAhead.cls ≠ "java/lang/invoke/MethodHandle" ∧ yX7_lastAhead.cls ≠ "java/lang/invoke/VarHandle" ∧ (parseMethodDescriptor yX7_lastAhead.desc).map (fun d => d.parameters.length) = some 3 := by decide +kernel
abbrev rmX7_lastAhead : Room := { frames := 0, cells := 0, slots := 0, locals := 0 }
set_option maxHeartbeats 4000000 in
set_option maxRecDepth 100000 in
theorem lX7_lastAhead_6 {p : Program} {e : Env} {s : State} {m : MethodId} {args : Array Value} {below : List Frame} {meth : Method} {c : Code} {A : Nat → Prop} (l : Launch) (G : GG) (C : Cx p m c cX7_lastAhead 6 s args wsX7_lastAhead RX7 meth (some .int) G A) (a : Nat → Nat) (a_book : Nat → Int32) (a_spare : Nat → Int32) (a_images : Nat → Int32) (a_kept : Nat → Int32) (a_text : Nat → Int32) (a_length : Int32) (a_refused : Nat → Int32) (a_items : Nat → Int32) (a_many : Int32) (a_at : Int32) (a_sort : Int32) (a_start : Int32) (a_size : Int32) (a_due : Nat → Int32) (a_rung : Nat → Int32) (a_anywhere : Nat → Int32) (p0 : Int32) (p1 : Int32) (p2 : Int32) (out : Int32) (kx : Int32 → Int32 → Option (Int32)) (HX : ∀ (x4_6 : Int32) (x5_6 : Int32) (H : Heap) (locs : List Loc) (ls : Array Slot), va_P G.1 vwCl (flat [wX7 G a a_book a_spare a_images a_kept a_text a_length a_refused a_items a_many a_at a_sort a_start a_size a_due a_rung a_anywhere]) H → va_D A (flat [wX7 G a a_book a_spare a_images a_kept a_text a_length a_refused a_items a_many a_at a_sort a_start a_size a_due a_rung a_anywhere]) → va_S A s.heap H locs → lv_has ls 6 [(0, .ref (a 0)), (1, .int p0), (2, .int p1), (3, .int p2), (4, .int x4_6), (5, .int x5_6)] → kx x4_6 x5_6 = some out → W p l e rmX7_lastAhead s m args below meth c H locs 0 0 (MQ below (QI G A out (flat [wX7 G a a_book a_spare a_images a_kept a_text a_length a_refused a_items a_many a_at a_sort a_start a_size a_due a_rung a_anywhere])) args s 0 0 A) (F0 m 65 ls [])) : ∀ (n : Nat) (x4_6 : Int32) (x5_6 : Int32) (H : Heap) (locs : List Loc) (ls : Array Slot), va_P G.1 vwCl (flat [wX7 G a a_book a_spare a_images a_kept a_text a_length a_refused a_items a_many a_at a_sort a_start a_size a_due a_rung a_anywhere]) H → va_D A (flat [wX7 G a a_book a_spare a_images a_kept a_text a_length a_refused a_items a_many a_at a_sort a_start a_size a_due a_rung a_anywhere]) → va_S A s.heap H locs → lv_has ls 6 [(0, .ref (a 0)), (1, .int p0), (2, .int p1), (3, .int p2), (4, .int x4_6), (5, .int x5_6)] → fX7_lastAhead_6 p0 p1 p2 a_book a_due a_rung kx n x4_6 x5_6 = some out → W p l e rmX7_lastAhead s m args below meth c H locs 0 0 (MQ below (QI G A out (flat [wX7 G a a_book a_spare a_images a_kept a_text a_length a_refused a_items a_many a_at a_sort a_start a_size a_due a_rung a_anywhere])) args s 0 0 A) (F0 m 6 ls []) := by
  obtain ⟨⟨hx, hb, hml, hown, hts⟩, hr, hlocks, hK, hN, hE, hA⟩ := id C
  intro n
  induction n with
  | zero =>
    intro x4_6 x5_6 H locs ls hP hD hS hl hf
    exact absurd (show (none : Option (Int32)) = some out from hf) (by intro q9; cases q9)
  | succ n ih =>
    intro x4_6 x5_6 H locs ls hP hD hS hl hf
    rw [fX7_lastAhead_6] at hf
    refine lv_iload hx hb dX7_lastAhead_6 (lv_at hl 5 rfl) ?_
    refine lv_iload_n hx hb dX7_lastAhead_8 rfl (lv_at hl 3 rfl) ?_
    refine lv_icmp_ge (tgt := 65) hx hb dX7_lastAhead_9 (by decide) (fun c1 => ?_) (fun c1 => ?_)
    · have hf := (o_i hf).1 c1
      exact HX _ _ _ _ _ hP hD hS (lv_sub hl [0, 1, 2, 3, 4, 5] rfl) hf
    have hf := (o_i hf).2 c1
    refine lv_aload_n hx hb dX7_lastAhead_12 rfl (lv_at hl 0 rfl) ?_
    refine va_get (D := G.1) (ci := 7) (v := .ref (a 1)) (C := RX7) (T := TX7) (N := 16) hx hb hts iiX7_lastAhead_X7 hown hK hP 0 rfl rfl 0 (by decide) (hts _ mmX7_lastAhead_1) (fun _ h9 => h9) rfl dX7_lastAhead_13 ?_
    refine lv_bipush (v := 62) hx hb dX7_lastAhead_16 (by decide) ?_
    refine lv_iload hx hb dX7_lastAhead_18 (lv_at hl 5 rfl) ?_
    refine lv_iadd hx hb dX7_lastAhead_20 ?_
    obtain ⟨z2, hz2, hf⟩ := o_b hf
    refine k_iald hx hb hK hP 1 0 rfl rfl hz2 dX7_lastAhead_21 ?_
    refine lv_iload_n hx hb dX7_lastAhead_22 rfl (lv_at hl 2 rfl) ?_
    refine lv_icmp_ne (tgt := 55) hx hb dX7_lastAhead_23 (by decide) (fun c3 => ?_) (fun c3 => ?_)
    · have hf := (o_i hf).2 c3
      refine lv_iload hx hb dX7_lastAhead_55 (lv_at hl 4 rfl) ?_
      refine lv_istore (lv' := [(4, .int x4_6), (0, .ref (a 0)), (1, .int p0), (2, .int p1), (3, .int p2), (5, .int x5_6)]) hx hb dX7_lastAhead_57 hl (by decide) rfl (fun ls hl => ?_)
      refine lv_iinc (v := x5_6 + 1) (lv' := [(5, .int (x5_6 + 1)), (4, .int x4_6), (0, .ref (a 0)), (1, .int p0), (2, .int p1), (3, .int p2)]) hx hb dX7_lastAhead_59 hl (k := 5) rfl (congrArg (fun z => x5_6 + z) (by decide)) (by decide) rfl (fun ls hl => ?_)
      refine lv_goto (tgt := 6) hx hb dX7_lastAhead_62 (by decide) ?_
      exact ih _ _ _ _ _ hP hD hS (lv_sub hl [2, 3, 4, 5, 1, 0] rfl) hf
    have hf := (o_i hf).1 c3
    refine lv_aload_n hx hb dX7_lastAhead_26 rfl (lv_at hl 0 rfl) ?_
    refine va_get (D := G.1) (ci := 7) (v := .ref (a 8)) (C := RX7) (T := TX7) (N := 16) hx hb hts iiX7_lastAhead_X7 hown hK hP 0 rfl rfl 13 (by decide) (hts _ mmX7_lastAhead_2) (fun _ h9 => h9) rfl dX7_lastAhead_27 ?_
    refine lv_iload hx hb dX7_lastAhead_30 (lv_at hl 5 rfl) ?_
    obtain ⟨z4, hz4, hf⟩ := o_b hf
    refine k_iald hx hb hK hP 8 0 rfl rfl hz4 dX7_lastAhead_32 ?_
    refine lv_iload_n hx hb dX7_lastAhead_33 rfl (lv_at hl 1 rfl) ?_
    refine lv_ishr hx hb dX7_lastAhead_34 ?_
    refine lv_iconst (v := 1) hx hb dX7_lastAhead_35 (by decide) ?_
    refine lv_iand hx hb dX7_lastAhead_36 ?_
    refine lv_iconst (v := 1) hx hb dX7_lastAhead_37 (by decide) ?_
    refine at_pc (pc' := 38) rfl ?_
    refine lv_icmp_ne (tgt := 55) hx hb dX7_lastAhead_38 (by decide) (fun c5 => ?_) (fun c5 => ?_)
    · have hf := (o_i hf).2 c5
      refine lv_iload hx hb dX7_lastAhead_55 (lv_at hl 4 rfl) ?_
      refine lv_istore (lv' := [(4, .int x4_6), (0, .ref (a 0)), (1, .int p0), (2, .int p1), (3, .int p2), (5, .int x5_6)]) hx hb dX7_lastAhead_57 hl (by decide) rfl (fun ls hl => ?_)
      refine lv_iinc (v := x5_6 + 1) (lv' := [(5, .int (x5_6 + 1)), (4, .int x4_6), (0, .ref (a 0)), (1, .int p0), (2, .int p1), (3, .int p2)]) hx hb dX7_lastAhead_59 hl (k := 5) rfl (congrArg (fun z => x5_6 + z) (by decide)) (by decide) rfl (fun ls hl => ?_)
      refine lv_goto (tgt := 6) hx hb dX7_lastAhead_62 (by decide) ?_
      exact ih _ _ _ _ _ hP hD hS (lv_sub hl [2, 3, 4, 5, 1, 0] rfl) hf
    have hf := (o_i hf).1 c5
    refine lv_aload_n hx hb dX7_lastAhead_41 rfl (lv_at hl 0 rfl) ?_
    refine va_get (D := G.1) (ci := 7) (v := .ref (a 9)) (C := RX7) (T := TX7) (N := 16) hx hb hts iiX7_lastAhead_X7 hown hK hP 0 rfl rfl 14 (by decide) (hts _ mmX7_lastAhead_3) (fun _ h9 => h9) rfl dX7_lastAhead_42 ?_
    refine lv_iload hx hb dX7_lastAhead_45 (lv_at hl 5 rfl) ?_
    obtain ⟨z6, hz6, hf⟩ := o_b hf
    refine k_iald hx hb hK hP 9 0 rfl rfl hz6 dX7_lastAhead_47 ?_
    refine lv_iload_n hx hb dX7_lastAhead_48 rfl (lv_at hl 1 rfl) ?_
    refine lv_ishr hx hb dX7_lastAhead_49 ?_
    refine lv_iconst (v := 1) hx hb dX7_lastAhead_50 (by decide) ?_
    refine lv_iand hx hb dX7_lastAhead_51 ?_
    refine lv_goto (tgt := 57) hx hb dX7_lastAhead_52 (by decide) ?_
    refine at_pc (pc' := 57) rfl ?_
    refine lv_istore (lv' := [(4, .int ((z6 >>> (p0 &&& 31)) &&& 1)), (0, .ref (a 0)), (1, .int p0), (2, .int p1), (3, .int p2), (5, .int x5_6)]) hx hb dX7_lastAhead_57 hl (by decide) rfl (fun ls hl => ?_)
    refine lv_iinc (v := x5_6 + 1) (lv' := [(5, .int (x5_6 + 1)), (4, .int ((z6 >>> (p0 &&& 31)) &&& 1)), (0, .ref (a 0)), (1, .int p0), (2, .int p1), (3, .int p2)]) hx hb dX7_lastAhead_59 hl (k := 5) rfl (congrArg (fun z => x5_6 + z) (by decide)) (by decide) rfl (fun ls hl => ?_)
    refine lv_goto (tgt := 6) hx hb dX7_lastAhead_62 (by decide) ?_
    exact ih _ _ _ _ _ hP hD hS (lv_sub hl [2, 3, 4, 5, 1, 0] rfl) hf
set_option maxHeartbeats 4000000 in
set_option maxRecDepth 100000 in
theorem tX7_lastAhead (l : Launch) (G : GG) (a : Nat → Nat) (a_book : Nat → Int32) (a_spare : Nat → Int32) (a_images : Nat → Int32) (a_kept : Nat → Int32) (a_text : Nat → Int32) (a_length : Int32) (a_refused : Nat → Int32) (a_items : Nat → Int32) (a_many : Int32) (a_at : Int32) (a_sort : Int32) (a_start : Int32) (a_size : Int32) (a_due : Nat → Int32) (a_rung : Nat → Int32) (a_anywhere : Nat → Int32) (p0 : Int32) (p1 : Int32) (p2 : Int32) (out : Int32) (hf : fX7_lastAhead a_book a_due a_rung p0 p1 p2 = some out) : cMi l G yX7_lastAhead wsX7_lastAhead rmX7_lastAhead [.ref (a 0), .int p0, .int p1, .int p2] (flat [wX7 G a a_book a_spare a_images a_kept a_text a_length a_refused a_items a_many a_at a_sort a_start a_size a_due a_rung a_anywhere]) out (flat [wX7 G a a_book a_spare a_images a_kept a_text a_length a_refused a_items a_many a_at a_sort a_start a_size a_due a_rung a_anywhere]) := by
  intro sz
  refine met_of (cc := cX7_lastAhead) (nL := 6) (ret := (some .int)) (Qc := fun A9 => QI G A9 out (flat [wX7 G a a_book a_spare a_images a_kept a_text a_length a_refused a_items a_many a_at a_sort a_start a_size a_due a_rung a_anywhere])) (by decide) rfl (Nat.le_of_ble_eq_true rfl) ?_
  intro p e s m args below meth c A ls C hP hD hS hl
  obtain ⟨⟨hx, hb, hml, hown, hts⟩, hr, hlocks, hK, hN, hE, hA⟩ := id C
  have hl : lv_has ls 6 [(0, .ref (a 0)), (1, .int p0), (2, .int p1), (3, .int p2)] := hl
  unfold fX7_lastAhead at hf
  refine lv_iconst (v := (-1)) hx hb dX7_lastAhead_0 (by decide) ?_
  refine lv_istore (lv' := [(4, .int ((-1))), (0, .ref (a 0)), (1, .int p0), (2, .int p1), (3, .int p2)]) hx hb dX7_lastAhead_1 hl (by decide) rfl (fun ls hl => ?_)
  refine lv_iconst (v := 0) hx hb dX7_lastAhead_3 (by decide) ?_
  refine lv_istore (lv' := [(5, .int 0), (4, .int ((-1))), (0, .ref (a 0)), (1, .int p0), (2, .int p1), (3, .int p2)]) hx hb dX7_lastAhead_4 hl (by decide) rfl (fun ls hl => ?_)
  refine lX7_lastAhead_6 l G C a a_book a_spare a_images a_kept a_text a_length a_refused a_items a_many a_at a_sort a_start a_size a_due a_rung a_anywhere p0 p1 p2 out _ (fun x4_6_7 x5_6_8 H locs ls hP hD hS hl hf => ?_) fu ((-1)) 0 _ _ _ hP hD hS (lv_sub hl [2, 3, 4, 5, 1, 0] rfl) hf
  refine lv_iload hx hb dX7_lastAhead_65 (lv_at hl 4 rfl) ?_
  have e9 := Option.some.inj hf
  subst e9
  exact rt_i C hP hS rfl dX7_lastAhead_67

/-! RX7 rings(II)Z -/
theorem iiX7_rings_X7 : ∀ w ∈ wsX70, w ∈ wsX7_rings := by decide +kernel
theorem mmX7_rings_1 : (Cond.fieldLink RX7 7 "BlindBellsModel" "book" "[I") ∈ wsX7_rings := by decide +kernel
theorem mmX7_rings_2 : (Cond.fieldLink RX7 35 "BlindBellsModel" "rung" "[I") ∈ wsX7_rings := by decide +kernel
theorem hdX7_rings : yX7_rings.cls = RX7 ∧ yX7_rings.cls ≠ "java/lang/invoke/MethodHandle" ∧ yX7_rings.cls ≠ "java/lang/invoke/VarHandle" ∧ (parseMethodDescriptor yX7_rings.desc).map (fun d => d.parameters.length) = some 2 := by decide +kernel
abbrev rmX7_rings : Room := { frames := 1, cells := 0, slots := 0, locals := 25 }
set_option maxHeartbeats 4000000 in
set_option maxRecDepth 100000 in
theorem tX7_rings (l : Launch) (G : GG) (a : Nat → Nat) (a_book : Nat → Int32) (a_spare : Nat → Int32) (a_images : Nat → Int32) (a_kept : Nat → Int32) (a_text : Nat → Int32) (a_length : Int32) (a_refused : Nat → Int32) (a_items : Nat → Int32) (a_many : Int32) (a_at : Int32) (a_sort : Int32) (a_start : Int32) (a_size : Int32) (a_due : Nat → Int32) (a_rung : Nat → Int32) (a_anywhere : Nat → Int32) (p0 : Int32) (p1 : Int32) (out : Int32) (hf : fX7_rings a_book a_due a_rung p0 p1 = some out) : cMi l G yX7_rings wsX7_rings rmX7_rings [.ref (a 0), .int p0, .int p1] (flat [wX7 G a a_book a_spare a_images a_kept a_text a_length a_refused a_items a_many a_at a_sort a_start a_size a_due a_rung a_anywhere]) out (flat [wX7 G a a_book a_spare a_images a_kept a_text a_length a_refused a_items a_many a_at a_sort a_start a_size a_due a_rung a_anywhere]) := by
  intro sz
  refine met_of (cc := cX7_rings) (nL := 7) (ret := (some .boolean)) (Qc := fun A9 => QI G A9 out (flat [wX7 G a a_book a_spare a_images a_kept a_text a_length a_refused a_items a_many a_at a_sort a_start a_size a_due a_rung a_anywhere])) (by decide) rfl (Nat.le_of_ble_eq_true rfl) ?_
  intro p e s m args below meth c A ls C hP hD hS hl
  obtain ⟨⟨hx, hb, hml, hown, hts⟩, hr, hlocks, hK, hN, hE, hA⟩ := id C
  have hl : lv_has ls 7 [(0, .ref (a 0)), (1, .int p0), (2, .int p1)] := hl
  unfold fX7_rings at hf
  refine lv_aload_n hx hb dX7_rings_0 rfl (lv_at hl 0 rfl) ?_
  refine va_get (D := G.1) (ci := 7) (v := .ref (a 1)) (C := RX7) (T := TX7) (N := 16) hx hb hts iiX7_rings_X7 hown hK hP 0 rfl rfl 0 (by decide) (hts _ mmX7_rings_1) (fun _ h9 => h9) rfl dX7_rings_1 ?_
  refine lv_bipush (v := 62) hx hb dX7_rings_4 (by decide) ?_
  refine lv_iload_n hx hb dX7_rings_6 rfl (lv_at hl 2 rfl) ?_
  refine lv_iadd hx hb dX7_rings_7 ?_
  obtain ⟨z1, hz1, hf⟩ := o_b hf
  refine k_iald hx hb hK hP 1 0 rfl rfl hz1 dX7_rings_8 ?_
  refine lv_istore_n (lv' := [(3, .int z1), (0, .ref (a 0)), (1, .int p0), (2, .int p1)]) hx hb dX7_rings_9 rfl hl (by decide) rfl (fun ls hl => ?_)
  refine lv_aload_n hx hb dX7_rings_10 rfl (lv_at hl 1 rfl) ?_
  refine va_get (D := G.1) (ci := 7) (v := .ref (a 1)) (C := RX7) (T := TX7) (N := 16) hx hb hts iiX7_rings_X7 hown hK hP 0 rfl rfl 0 (by decide) (hts _ mmX7_rings_1) (fun _ h9 => h9) rfl dX7_rings_11 ?_
  refine at_pc (pc' := 14) rfl ?_
  refine lv_iconst (v := 4) hx hb dX7_rings_14 (by decide) ?_
  refine lv_iload_n hx hb dX7_rings_15 rfl (lv_at hl 2 rfl) ?_
  refine lv_iadd hx hb dX7_rings_16 ?_
  obtain ⟨z2, hz2, hf⟩ := o_b hf
  refine k_iald hx hb hK hP 1 0 rfl rfl hz2 dX7_rings_17 ?_
  refine lv_istore (lv' := [(4, .int z2), (3, .int z1), (0, .ref (a 0)), (1, .int p0), (2, .int p1)]) hx hb dX7_rings_18 hl (by decide) rfl (fun ls hl => ?_)
  refine lv_aload_n hx hb dX7_rings_20 rfl (lv_at hl 2 rfl) ?_
  refine lv_iload_n hx hb dX7_rings_21 rfl (lv_at hl 1 rfl) ?_
  refine lv_iload_n hx hb dX7_rings_22 rfl (lv_at hl 3 rfl) ?_
  refine lv_iload_n hx hb dX7_rings_23 rfl (lv_at hl 4 rfl) ?_
  obtain ⟨g3, hg3, hf⟩ := o_b hf
  refine bVi C hP hD hS (tX7_lastAhead l G a a_book a_spare a_images a_kept a_text a_length a_refused a_items a_many a_at a_sort a_start a_size a_due a_rung a_anywhere z1 p0 p1 g3 hg3) gX7_rings_X7_lastAhead rfl ⟨rfl, rfl⟩ hdX7_lastAhead ⟨Nat.le_of_ble_eq_true rfl, Nat.le_of_ble_eq_true rfl⟩ rfl hl.1 rfl (Nat.le_of_ble_eq_true rfl) ⟨Nat.le_of_ble_eq_true rfl, Nat.le_of_ble_eq_true rfl⟩ [0] rfl rfl rfl (setB_same _ _ _ rfl) rfl (ci := 7) (q0 := 0) rfl rfl rfl dX7_rings_24 (fun H locs hP hD hS => ?_)
  refine at_pc (pc' := 27) rfl ?_
  obtain ⟨f5, hf5, hf⟩ := o_b hf
  have hJ : ∀ (H : Heap) (locs : List Loc) (ls : Array Slot), va_P G.1 vwCl (flat [wX7 G a a_book a_spare a_images a_kept a_text a_length a_refused a_items a_many a_at a_sort a_start a_size a_due a_rung a_anywhere]) H → va_D A (flat [wX7 G a a_book a_spare a_images a_kept a_text a_length a_refused a_items a_many a_at a_sort a_start a_size a_due a_rung a_anywhere]) → va_S A s.heap H locs → lv_has ls 7 [(0, .ref (a 0)), (1, .int p0), (2, .int p1), (3, .int z1), (4, .int z2)] → W p l e rmX7_rings s m args below meth c H locs 0 0 (MQ below (QI G A out (flat [wX7 G a a_book a_spare a_images a_kept a_text a_length a_refused a_items a_many a_at a_sort a_start a_size a_due a_rung a_anywhere])) args s 0 0 A) (F0 m 35 ls [.int f5]) := by
    intro H locs ls hP hD hS hl
    refine lv_istore (lv' := [(5, .int f5), (0, .ref (a 0)), (1, .int p0), (2, .int p1), (3, .int z1), (4, .int z2)]) hx hb dX7_rings_35 hl (by decide) rfl (fun ls hl => ?_)
    refine lv_iload hx hb dX7_rings_37 (lv_at hl 5 rfl) ?_
    refine lv_iconst (v := 2) hx hb dX7_rings_39 (by decide) ?_
    refine lv_icmp_ne (tgt := 112) hx hb dX7_rings_40 (by decide) (fun c6 => ?_) (fun c6 => ?_)
    · have hf := (o_i hf).2 c6
      refine lv_iload hx hb dX7_rings_112 (lv_at hl 5 rfl) ?_
      refine lv_iconst (v := 4) hx hb dX7_rings_114 (by decide) ?_
      refine lv_icmp_ne (tgt := 141) hx hb dX7_rings_115 (by decide) (fun c7 => ?_) (fun c7 => ?_)
      · have hf := (o_i hf).2 c7
        refine lv_iload hx hb dX7_rings_141 (lv_at hl 5 rfl) ?_
        refine lv_iconst (v := 1) hx hb dX7_rings_143 (by decide) ?_
        refine lv_icmp_ne (tgt := 152) hx hb dX7_rings_144 (by decide) (fun c8 => ?_) (fun c8 => ?_)
        · have hf := (o_i hf).2 c8
          refine lv_iload hx hb dX7_rings_152 (lv_at hl 5 rfl) ?_
          refine lv_iconst (v := 3) hx hb dX7_rings_154 (by decide) ?_
          refine lv_icmp_ne (tgt := 176) hx hb dX7_rings_155 (by decide) (fun c9 => ?_) (fun c9 => ?_)
          · have hf := (o_i hf).2 c9
            refine lv_iconst (v := 1) hx hb dX7_rings_176 (by decide) ?_
            refine lv_goto (tgt := 181) hx hb dX7_rings_177 (by decide) ?_
            have e9 := Option.some.inj hf
            subst e9
            exact rt_z C hP hS rfl rfl dX7_rings_181
          have hf := (o_i hf).1 c9
          refine lv_iload hx hb dX7_rings_158 (lv_at hl 0 rfl) ?_
          refine lv_if_ne (tgt := 176) hx hb dX7_rings_160 (by decide) (fun c10 => ?_) (fun c10 => ?_)
          · have hf := (o_i hf).2 c10
            refine lv_iconst (v := 1) hx hb dX7_rings_176 (by decide) ?_
            refine lv_goto (tgt := 181) hx hb dX7_rings_177 (by decide) ?_
            have e9 := Option.some.inj hf
            subst e9
            exact rt_z C hP hS rfl rfl dX7_rings_181
          have hf := (o_i hf).1 c10
          refine lv_aload_n hx hb dX7_rings_163 rfl (lv_at hl 1 rfl) ?_
          refine va_get (D := G.1) (ci := 7) (v := .ref (a 1)) (C := RX7) (T := TX7) (N := 16) hx hb hts iiX7_rings_X7 hown hK hP 0 rfl rfl 0 (by decide) (hts _ mmX7_rings_1) (fun _ h9 => h9) rfl dX7_rings_164 ?_
          refine lv_bipush (v := 10) hx hb dX7_rings_167 (by decide) ?_
          refine lv_iload_n hx hb dX7_rings_169 rfl (lv_at hl 2 rfl) ?_
          refine lv_iadd hx hb dX7_rings_170 ?_
          obtain ⟨z11, hz11, hf⟩ := o_b hf
          refine k_iald hx hb hK hP 1 0 rfl rfl hz11 dX7_rings_171 ?_
          refine lv_iload_n hx hb dX7_rings_172 rfl (lv_at hl 4 rfl) ?_
          refine lv_icmp_ne (tgt := 180) hx hb dX7_rings_173 (by decide) (fun c12 => ?_) (fun c12 => ?_)
          · have hf := (o_i hf).2 c12
            refine lv_iconst (v := 0) hx hb dX7_rings_180 (by decide) ?_
            have e9 := Option.some.inj hf
            subst e9
            exact rt_z C hP hS rfl rfl dX7_rings_181
          have hf := (o_i hf).1 c12
          refine lv_iconst (v := 1) hx hb dX7_rings_176 (by decide) ?_
          refine lv_goto (tgt := 181) hx hb dX7_rings_177 (by decide) ?_
          have e9 := Option.some.inj hf
          subst e9
          exact rt_z C hP hS rfl rfl dX7_rings_181
        have hf := (o_i hf).1 c8
        refine lv_iload hx hb dX7_rings_147 (lv_at hl 0 rfl) ?_
        refine lv_goto (tgt := 181) hx hb dX7_rings_149 (by decide) ?_
        obtain ⟨z13, hz13, hf⟩ := o_b hf
        obtain ⟨hn9, e8⟩ := zb_ok hz13
        have e8 := e8.symm
        subst e8
        have e9 := Option.some.inj hf
        subst e9
        exact rt_z C hP hS rfl hn9 dX7_rings_181
      have hf := (o_i hf).1 c7
      refine lv_aload_n hx hb dX7_rings_118 rfl (lv_at hl 1 rfl) ?_
      refine lv_iload_n hx hb dX7_rings_119 rfl (lv_at hl 4 rfl) ?_
      refine lv_iload_n hx hb dX7_rings_120 rfl (lv_at hl 2 rfl) ?_
      refine lv_iload_n hx hb dX7_rings_121 rfl (lv_at hl 3 rfl) ?_
      obtain ⟨g14, hg14, hf⟩ := o_b hf
      refine bVi C hP hD hS (tX7_rangAhead l G a a_book a_spare a_images a_kept a_text a_length a_refused a_items a_many a_at a_sort a_start a_size a_due a_rung a_anywhere z1 p0 p1 g14 hg14) gX7_rings_X7_rangAhead rfl ⟨rfl, rfl⟩ hdX7_rangAhead ⟨Nat.le_of_ble_eq_true rfl, Nat.le_of_ble_eq_true rfl⟩ rfl hl.1 rfl (Nat.le_of_ble_eq_true rfl) ⟨Nat.le_of_ble_eq_true rfl, Nat.le_of_ble_eq_true rfl⟩ [0] rfl rfl rfl (setB_same _ _ _ rfl) rfl (ci := 7) (q0 := 0) rfl rfl rfl dX7_rings_122 (fun H locs hP hD hS => ?_)
      refine lv_aload_n hx hb dX7_rings_125 rfl (lv_at hl 1 rfl) ?_
      refine lv_iload_n hx hb dX7_rings_126 rfl (lv_at hl 2 rfl) ?_
      refine lv_iload_n hx hb dX7_rings_127 rfl (lv_at hl 4 rfl) ?_
      refine lv_iload_n hx hb dX7_rings_128 rfl (lv_at hl 3 rfl) ?_
      refine at_pc (pc' := 129) rfl ?_
      obtain ⟨g15, hg15, hf⟩ := o_b hf
      refine bVi C hP hD hS (tX7_rangAhead l G a a_book a_spare a_images a_kept a_text a_length a_refused a_items a_many a_at a_sort a_start a_size a_due a_rung a_anywhere p0 z1 p1 g15 hg15) gX7_rings_X7_rangAhead rfl ⟨rfl, rfl⟩ hdX7_rangAhead ⟨Nat.le_of_ble_eq_true rfl, Nat.le_of_ble_eq_true rfl⟩ rfl hl.1 rfl (Nat.le_of_ble_eq_true rfl) ⟨Nat.le_of_ble_eq_true rfl, Nat.le_of_ble_eq_true rfl⟩ [0] rfl rfl rfl (setB_same _ _ _ rfl) rfl (ci := 7) (q0 := 0) rfl rfl rfl dX7_rings_129 (fun H locs hP hD hS => ?_)
      refine lv_icmp_le (tgt := 139) hx hb dX7_rings_132 (by decide) (fun c16 => ?_) (fun c16 => ?_)
      · have hf := (o_i hf).1 c16
        refine lv_iconst (v := 0) hx hb dX7_rings_139 (by decide) ?_
        have e9 := Option.some.inj hf
        subst e9
        exact rt_z C hP hS rfl rfl dX7_rings_140
      have hf := (o_i hf).2 c16
      refine lv_iconst (v := 1) hx hb dX7_rings_135 (by decide) ?_
      refine lv_goto (tgt := 140) hx hb dX7_rings_136 (by decide) ?_
      have e9 := Option.some.inj hf
      subst e9
      exact rt_z C hP hS rfl rfl dX7_rings_140
    have hf := (o_i hf).1 c6
    refine lv_iload_n hx hb dX7_rings_43 rfl (lv_at hl 3 rfl) ?_
    obtain ⟨f18, hf18, hf⟩ := o_b hf
    have hJ : ∀ (H : Heap) (locs : List Loc) (ls : Array Slot), va_P G.1 vwCl (flat [wX7 G a a_book a_spare a_images a_kept a_text a_length a_refused a_items a_many a_at a_sort a_start a_size a_due a_rung a_anywhere]) H → va_D A (flat [wX7 G a a_book a_spare a_images a_kept a_text a_length a_refused a_items a_many a_at a_sort a_start a_size a_due a_rung a_anywhere]) → va_S A s.heap H locs → lv_has ls 7 [(0, .ref (a 0)), (1, .int p0), (2, .int p1), (3, .int z1), (4, .int z2), (5, .int f5)] → W p l e rmX7_rings s m args below meth c H locs 0 0 (MQ below (QI G A out (flat [wX7 G a a_book a_spare a_images a_kept a_text a_length a_refused a_items a_many a_at a_sort a_start a_size a_due a_rung a_anywhere])) args s 0 0 A) (F0 m 94 ls [.int f18]) := by
      intro H locs ls hP hD hS hl
      refine lv_istore (lv' := [(6, .int f18), (0, .ref (a 0)), (1, .int p0), (2, .int p1), (3, .int z1), (4, .int z2), (5, .int f5)]) hx hb dX7_rings_94 hl (by decide) rfl (fun ls hl => ?_)
      refine lv_iload hx hb dX7_rings_96 (lv_at hl 6 rfl) ?_
      refine lv_if_eq (tgt := 110) hx hb dX7_rings_98 (by decide) (fun c27 => ?_) (fun c27 => ?_)
      · have hf := (o_i hf).1 c27
        refine lv_iconst (v := 0) hx hb dX7_rings_110 (by decide) ?_
        have e9 := Option.some.inj hf
        subst e9
        exact rt_z C hP hS rfl rfl dX7_rings_111
      have hf := (o_i hf).2 c27
      refine lv_iload hx hb dX7_rings_101 (lv_at hl 0 rfl) ?_
      refine lv_if_ne (tgt := 110) hx hb dX7_rings_103 (by decide) (fun c28 => ?_) (fun c28 => ?_)
      · have hf := (o_i hf).2 c28
        refine lv_iconst (v := 0) hx hb dX7_rings_110 (by decide) ?_
        have e9 := Option.some.inj hf
        subst e9
        exact rt_z C hP hS rfl rfl dX7_rings_111
      have hf := (o_i hf).1 c28
      refine lv_iconst (v := 1) hx hb dX7_rings_106 (by decide) ?_
      refine lv_goto (tgt := 111) hx hb dX7_rings_107 (by decide) ?_
      have e9 := Option.some.inj hf
      subst e9
      exact rt_z C hP hS rfl rfl dX7_rings_111
    clear hf
    have hf := hf18
    refine lv_if_le (tgt := 93) hx hb dX7_rings_44 (by decide) (fun c17 => ?_) (fun c17 => ?_)
    · have hf := (o_i hf).1 c17
      refine lv_iconst (v := 0) hx hb dX7_rings_93 (by decide) ?_
      have e9 := Option.some.inj hf
      subst e9
      exact hJ _ _ _ hP hD hS (lv_sub hl [1, 2, 3, 4, 5, 0] rfl)
    have hf := (o_i hf).2 c17
    refine lv_aload_n hx hb dX7_rings_47 rfl (lv_at hl 1 rfl) ?_
    refine va_get (D := G.1) (ci := 7) (v := .ref (a 1)) (C := RX7) (T := TX7) (N := 16) hx hb hts iiX7_rings_X7 hown hK hP 0 rfl rfl 0 (by decide) (hts _ mmX7_rings_1) (fun _ h9 => h9) rfl dX7_rings_48 ?_
    refine lv_bipush (v := 62) hx hb dX7_rings_51 (by decide) ?_
    refine lv_iload_n hx hb dX7_rings_53 rfl (lv_at hl 3 rfl) ?_
    obtain ⟨f20, hf20, hf⟩ := o_b hf
    have hJ : ∀ (H : Heap) (locs : List Loc) (ls : Array Slot), va_P G.1 vwCl (flat [wX7 G a a_book a_spare a_images a_kept a_text a_length a_refused a_items a_many a_at a_sort a_start a_size a_due a_rung a_anywhere]) H → va_D A (flat [wX7 G a a_book a_spare a_images a_kept a_text a_length a_refused a_items a_many a_at a_sort a_start a_size a_due a_rung a_anywhere]) → va_S A s.heap H locs → lv_has ls 7 [(0, .ref (a 0)), (1, .int p0), (2, .int p1), (3, .int z1), (4, .int z2), (5, .int f5)] → W p l e rmX7_rings s m args below meth c H locs 0 0 (MQ below (QI G A out (flat [wX7 G a a_book a_spare a_images a_kept a_text a_length a_refused a_items a_many a_at a_sort a_start a_size a_due a_rung a_anywhere])) args s 0 0 A) (F0 m 64 ls [.int f20, .int 62, .ref (a 1)]) := by
      intro H locs ls hP hD hS hl
      refine lv_iadd hx hb dX7_rings_64 ?_
      obtain ⟨z21, hz21, hf⟩ := o_b hf
      refine k_iald hx hb hK hP 1 0 rfl rfl hz21 dX7_rings_65 ?_
      refine lv_iload_n hx hb dX7_rings_66 rfl (lv_at hl 1 rfl) ?_
      refine lv_icmp_ne (tgt := 93) hx hb dX7_rings_67 (by decide) (fun c22 => ?_) (fun c22 => ?_)
      · have hf := (o_i hf).2 c22
        refine lv_iconst (v := 0) hx hb dX7_rings_93 (by decide) ?_
        have e9 := Option.some.inj hf
        subst e9
        exact hJ _ _ _ hP hD hS (lv_sub hl [0, 1, 2, 3, 4, 5] rfl)
      have hf := (o_i hf).1 c22
      refine lv_aload_n hx hb dX7_rings_70 rfl (lv_at hl 0 rfl) ?_
      refine va_get (D := G.1) (ci := 7) (v := .ref (a 9)) (C := RX7) (T := TX7) (N := 16) hx hb hts iiX7_rings_X7 hown hK hP 0 rfl rfl 14 (by decide) (hts _ mmX7_rings_2) (fun _ h9 => h9) rfl dX7_rings_71 ?_
      refine lv_iload_n hx hb dX7_rings_74 rfl (lv_at hl 2 rfl) ?_
      obtain ⟨f24, hf24, hf⟩ := o_b hf
      have hJ : ∀ (H : Heap) (locs : List Loc) (ls : Array Slot), va_P G.1 vwCl (flat [wX7 G a a_book a_spare a_images a_kept a_text a_length a_refused a_items a_many a_at a_sort a_start a_size a_due a_rung a_anywhere]) H → va_D A (flat [wX7 G a a_book a_spare a_images a_kept a_text a_length a_refused a_items a_many a_at a_sort a_start a_size a_due a_rung a_anywhere]) → va_S A s.heap H locs → lv_has ls 7 [(0, .ref (a 0)), (1, .int p0), (2, .int p1), (3, .int z1), (4, .int z2), (5, .int f5)] → W p l e rmX7_rings s m args below meth c H locs 0 0 (MQ below (QI G A out (flat [wX7 G a a_book a_spare a_images a_kept a_text a_length a_refused a_items a_many a_at a_sort a_start a_size a_due a_rung a_anywhere])) args s 0 0 A) (F0 m 85 ls [.int f24, .ref (a 9)]) := by
        intro H locs ls hP hD hS hl
        obtain ⟨z25, hz25, hf⟩ := o_b hf
        refine k_iald hx hb hK hP 9 0 rfl rfl hz25 dX7_rings_85 ?_
        refine lv_if_ne (tgt := 93) hx hb dX7_rings_86 (by decide) (fun c26 => ?_) (fun c26 => ?_)
        · have hf := (o_i hf).2 c26
          refine lv_iconst (v := 0) hx hb dX7_rings_93 (by decide) ?_
          have e9 := Option.some.inj hf
          subst e9
          exact hJ _ _ _ hP hD hS (lv_sub hl [0, 1, 2, 3, 4, 5] rfl)
        have hf := (o_i hf).1 c26
        refine lv_iconst (v := 1) hx hb dX7_rings_89 (by decide) ?_
        refine lv_goto (tgt := 94) hx hb dX7_rings_90 (by decide) ?_
        have e9 := Option.some.inj hf
        subst e9
        exact hJ _ _ _ hP hD hS (lv_sub hl [0, 1, 2, 3, 4, 5] rfl)
      clear hf
      have hf := hf24
      refine lv_if_le (tgt := 84) hx hb dX7_rings_75 (by decide) (fun c23 => ?_) (fun c23 => ?_)
      · have hf := (o_i hf).1 c23
        refine lv_iconst (v := 0) hx hb dX7_rings_84 (by decide) ?_
        have e9 := Option.some.inj hf
        subst e9
        exact hJ _ _ _ hP hD hS (lv_sub hl [0, 1, 2, 3, 4, 5] rfl)
      have hf := (o_i hf).2 c23
      refine lv_iload_n hx hb dX7_rings_78 rfl (lv_at hl 2 rfl) ?_
      refine lv_iconst (v := 1) hx hb dX7_rings_79 (by decide) ?_
      refine lv_isub hx hb dX7_rings_80 ?_
      refine lv_goto (tgt := 85) hx hb dX7_rings_81 (by decide) ?_
      have e9 := Option.some.inj hf
      subst e9
      exact hJ _ _ _ hP hD hS (lv_sub hl [0, 1, 2, 3, 4, 5] rfl)
    clear hf
    have hf := hf20
    refine lv_if_le (tgt := 63) hx hb dX7_rings_54 (by decide) (fun c19 => ?_) (fun c19 => ?_)
    · have hf := (o_i hf).1 c19
      refine lv_iconst (v := 0) hx hb dX7_rings_63 (by decide) ?_
      have e9 := Option.some.inj hf
      subst e9
      exact hJ _ _ _ hP hD hS (lv_sub hl [1, 2, 3, 4, 5, 0] rfl)
    have hf := (o_i hf).2 c19
    refine lv_iload_n hx hb dX7_rings_57 rfl (lv_at hl 3 rfl) ?_
    refine lv_iconst (v := 1) hx hb dX7_rings_58 (by decide) ?_
    refine lv_isub hx hb dX7_rings_59 ?_
    refine lv_goto (tgt := 64) hx hb dX7_rings_60 (by decide) ?_
    have e9 := Option.some.inj hf
    subst e9
    exact hJ _ _ _ hP hD hS (lv_sub hl [1, 2, 3, 4, 5, 0] rfl)
  clear hf
  have hf := hf5
  refine lv_if_eq (tgt := 34) hx hb dX7_rings_27 (by decide) (fun c4 => ?_) (fun c4 => ?_)
  · have hf := (o_i hf).1 c4
    refine lv_iconst (v := 0) hx hb dX7_rings_34 (by decide) ?_
    have e9 := Option.some.inj hf
    subst e9
    exact hJ _ _ _ hP hD hS (lv_sub hl [2, 3, 4, 1, 0] rfl)
  have hf := (o_i hf).2 c4
  refine lv_iconst (v := 1) hx hb dX7_rings_30 (by decide) ?_
  refine lv_goto (tgt := 35) hx hb dX7_rings_31 (by decide) ?_
  have e9 := Option.some.inj hf
  subst e9
  exact hJ _ _ _ hP hD hS (lv_sub hl [2, 3, 4, 1, 0] rfl)

/-! RX7 runs()V -/
theorem iiX7_runs_X7 : ∀ w ∈ wsX70, w ∈ wsX7_runs := by decide +kernel
theorem mmX7_runs_1 : (Cond.fieldLink RX7 7 "BlindBellsModel" "book" "[I") ∈ wsX7_runs := by decide +kernel
theorem mmX7_runs_2 : (Cond.fieldLink RX7 32 "BlindBellsModel" "due" "[I") ∈ wsX7_runs := by decide +kernel
theorem mmX7_runs_3 : (Cond.fieldLink RX7 35 "BlindBellsModel" "rung" "[I") ∈ wsX7_runs := by decide +kernel
theorem hdX7_runs : yX7_runs.cls = RX7 ∧ yX7_runs.cls ≠ "java/lang/invoke/MethodHandle" ∧ yX7_runs.cls ≠ "java/lang/invoke/VarHandle" ∧ (parseMethodDescriptor yX7_runs.desc).map (fun d => d.parameters.length) = some 0 := by decide +kernel
abbrev rmX7_runs : Room := { frames := 3, cells := 0, slots := 0, locals := 75 }
set_option maxHeartbeats 4000000 in
set_option maxRecDepth 100000 in
theorem lX7_runs_30 {p : Program} {e : Env} {s : State} {m : MethodId} {args : Array Value} {below : List Frame} {meth : Method} {c : Code} {A : Nat → Prop} (l : Launch) (G : GG) (C : Cx p m c cX7_runs 4 s args wsX7_runs RX7 meth none G A) (a : Nat → Nat) (a_book : Nat → Int32) (a_spare : Nat → Int32) (a_images : Nat → Int32) (a_kept : Nat → Int32) (a_text : Nat → Int32) (a_length : Int32) (a_refused : Nat → Int32) (a_items : Nat → Int32) (a_many : Int32) (a_at : Int32) (a_sort : Int32) (a_start : Int32) (a_size : Int32) (a_due : Nat → Int32) (a_rung : Nat → Int32) (a_anywhere : Nat → Int32) (x1_2 : Int32) (a_rung_2 : Nat → Int32) (u4 : Nat → Int32) (out : (Nat → Int32) × (Nat → Int32)) (kx : Int32 → Int32 → Option ((Nat → Int32) × (Nat → Int32))) (HX : ∀ (x2_30 : Int32) (x3_30 : Int32) (H : Heap) (locs : List Loc) (ls : Array Slot), va_P G.1 vwCl (flat [wX7 G a a_book a_spare a_images a_kept a_text a_length a_refused a_items a_many a_at a_sort a_start a_size u4 a_rung_2 a_anywhere]) H → va_D A (flat [wX7 G a a_book a_spare a_images a_kept a_text a_length a_refused a_items a_many a_at a_sort a_start a_size u4 a_rung_2 a_anywhere]) → va_S A s.heap H locs → lv_has ls 4 [(0, .ref (a 0)), (1, .int x1_2), (2, .int x2_30), (3, .int x3_30)] → kx x2_30 x3_30 = some out → W p l e rmX7_runs s m args below meth c H locs 0 0 (MQ below (QV G A (flat [wX7 G a a_book a_spare a_images a_kept a_text a_length a_refused a_items a_many a_at a_sort a_start a_size out.1 out.2 a_anywhere])) args s 0 0 A) (F0 m 79 ls [])) : ∀ (n : Nat) (x2_30 : Int32) (x3_30 : Int32) (H : Heap) (locs : List Loc) (ls : Array Slot), va_P G.1 vwCl (flat [wX7 G a a_book a_spare a_images a_kept a_text a_length a_refused a_items a_many a_at a_sort a_start a_size u4 a_rung_2 a_anywhere]) H → va_D A (flat [wX7 G a a_book a_spare a_images a_kept a_text a_length a_refused a_items a_many a_at a_sort a_start a_size u4 a_rung_2 a_anywhere]) → va_S A s.heap H locs → lv_has ls 4 [(0, .ref (a 0)), (1, .int x1_2), (2, .int x2_30), (3, .int x3_30)] → fX7_runs_30 a_book x1_2 a_rung_2 u4 kx n x2_30 x3_30 = some out → W p l e rmX7_runs s m args below meth c H locs 0 0 (MQ below (QV G A (flat [wX7 G a a_book a_spare a_images a_kept a_text a_length a_refused a_items a_many a_at a_sort a_start a_size out.1 out.2 a_anywhere])) args s 0 0 A) (F0 m 30 ls []) := by
  obtain ⟨⟨hx, hb, hml, hown, hts⟩, hr, hlocks, hK, hN, hE, hA⟩ := id C
  intro n
  induction n with
  | zero =>
    intro x2_30 x3_30 H locs ls hP hD hS hl hf
    exact absurd (show (none : Option ((Nat → Int32) × (Nat → Int32))) = some out from hf) (by intro q9; cases q9)
  | succ n ih =>
    intro x2_30 x3_30 H locs ls hP hD hS hl hf
    rw [fX7_runs_30] at hf
    refine lv_iload_n hx hb dX7_runs_30 rfl (lv_at hl 3 rfl) ?_
    refine lv_aload_n hx hb dX7_runs_31 rfl (lv_at hl 0 rfl) ?_
    refine va_get (D := G.1) (ci := 7) (v := .ref (a 1)) (C := RX7) (T := TX7) (N := 16) hx hb hts iiX7_runs_X7 hown hK hP 0 rfl rfl 0 (by decide) (hts _ mmX7_runs_1) (fun _ h9 => h9) rfl dX7_runs_32 ?_
    refine lv_iconst (v := 0) hx hb dX7_runs_35 (by decide) ?_
    obtain ⟨z5, hz5, hf⟩ := o_b hf
    refine k_iald hx hb hK hP 1 0 rfl rfl hz5 dX7_runs_36 ?_
    refine lv_icmp_ge (tgt := 79) hx hb dX7_runs_37 (by decide) (fun c6 => ?_) (fun c6 => ?_)
    · have hf := (o_i hf).1 c6
      exact HX _ _ _ _ _ hP hD hS (lv_sub hl [0, 1, 2, 3] rfl) hf
    have hf := (o_i hf).2 c6
    refine lv_iload_n hx hb dX7_runs_40 rfl (lv_at hl 2 rfl) ?_
    refine lv_aload_n hx hb dX7_runs_41 rfl (lv_at hl 0 rfl) ?_
    refine va_get (D := G.1) (ci := 7) (v := .ref (a 8)) (C := RX7) (T := TX7) (N := 16) hx hb hts iiX7_runs_X7 hown hK hP 0 rfl rfl 13 (by decide) (hts _ mmX7_runs_2) (fun _ h9 => h9) rfl dX7_runs_42 ?_
    refine lv_iload_n hx hb dX7_runs_45 rfl (lv_at hl 1 rfl) ?_
    obtain ⟨z7, hz7, hf⟩ := o_b hf
    refine k_iald hx hb hK hP 8 0 rfl rfl hz7 dX7_runs_46 ?_
    refine lv_iload_n hx hb dX7_runs_47 rfl (lv_at hl 3 rfl) ?_
    refine lv_ishr hx hb dX7_runs_48 ?_
    refine lv_iconst (v := 1) hx hb dX7_runs_49 (by decide) ?_
    refine lv_iand hx hb dX7_runs_50 ?_
    refine at_pc (pc' := 51) rfl ?_
    refine lv_iconst (v := 1) hx hb dX7_runs_51 (by decide) ?_
    refine lv_icmp_ne (tgt := 70) hx hb dX7_runs_52 (by decide) (fun c8 => ?_) (fun c8 => ?_)
    · have hf := (o_i hf).2 c8
      refine lv_iconst (v := 0) hx hb dX7_runs_70 (by decide) ?_
      refine lv_ior hx hb dX7_runs_71 ?_
      refine lv_istore_n (lv' := [(2, .int (x2_30 ||| 0)), (0, .ref (a 0)), (1, .int x1_2), (3, .int x3_30)]) hx hb dX7_runs_72 rfl hl (by decide) rfl (fun ls hl => ?_)
      refine lv_iinc (v := x3_30 + 1) (lv' := [(3, .int (x3_30 + 1)), (2, .int (x2_30 ||| 0)), (0, .ref (a 0)), (1, .int x1_2)]) hx hb dX7_runs_73 hl (k := 3) rfl (congrArg (fun z => x3_30 + z) (by decide)) (by decide) rfl (fun ls hl => ?_)
      refine lv_goto (tgt := 30) hx hb dX7_runs_76 (by decide) ?_
      exact ih _ _ _ _ _ hP hD hS (lv_sub hl [2, 3, 1, 0] rfl) hf
    have hf := (o_i hf).1 c8
    refine lv_aload_n hx hb dX7_runs_55 rfl (lv_at hl 0 rfl) ?_
    refine lv_iload_n hx hb dX7_runs_56 rfl (lv_at hl 3 rfl) ?_
    refine lv_iload_n hx hb dX7_runs_57 rfl (lv_at hl 1 rfl) ?_
    obtain ⟨g9, hg9, hf⟩ := o_b hf
    refine bVi C hP hD hS (tX7_rings l G a a_book a_spare a_images a_kept a_text a_length a_refused a_items a_many a_at a_sort a_start a_size u4 a_rung_2 a_anywhere x3_30 x1_2 g9 hg9) gX7_runs_X7_rings rfl ⟨rfl, rfl⟩ hdX7_rings ⟨Nat.le_of_ble_eq_true rfl, Nat.le_of_ble_eq_true rfl⟩ rfl hl.1 rfl (Nat.le_of_ble_eq_true rfl) ⟨Nat.le_of_ble_eq_true rfl, Nat.le_of_ble_eq_true rfl⟩ [0] rfl rfl rfl (setB_same _ _ _ rfl) rfl (ci := 7) (q0 := 0) rfl rfl rfl dX7_runs_58 (fun H locs hP hD hS => ?_)
    refine lv_if_eq (tgt := 70) hx hb dX7_runs_61 (by decide) (fun c10 => ?_) (fun c10 => ?_)
    · have hf := (o_i hf).1 c10
      refine lv_iconst (v := 0) hx hb dX7_runs_70 (by decide) ?_
      refine lv_ior hx hb dX7_runs_71 ?_
      refine lv_istore_n (lv' := [(2, .int (x2_30 ||| 0)), (0, .ref (a 0)), (1, .int x1_2), (3, .int x3_30)]) hx hb dX7_runs_72 rfl hl (by decide) rfl (fun ls hl => ?_)
      refine lv_iinc (v := x3_30 + 1) (lv' := [(3, .int (x3_30 + 1)), (2, .int (x2_30 ||| 0)), (0, .ref (a 0)), (1, .int x1_2)]) hx hb dX7_runs_73 hl (k := 3) rfl (congrArg (fun z => x3_30 + z) (by decide)) (by decide) rfl (fun ls hl => ?_)
      refine lv_goto (tgt := 30) hx hb dX7_runs_76 (by decide) ?_
      exact ih _ _ _ _ _ hP hD hS (lv_sub hl [2, 3, 1, 0] rfl) hf
    have hf := (o_i hf).2 c10
    refine lv_iconst (v := 1) hx hb dX7_runs_64 (by decide) ?_
    refine lv_iload_n hx hb dX7_runs_65 rfl (lv_at hl 3 rfl) ?_
    refine lv_ishl hx hb dX7_runs_66 ?_
    refine lv_goto (tgt := 71) hx hb dX7_runs_67 (by decide) ?_
    refine lv_ior hx hb dX7_runs_71 ?_
    refine lv_istore_n (lv' := [(2, .int (x2_30 ||| (1 <<< (x3_30 &&& 31)))), (0, .ref (a 0)), (1, .int x1_2), (3, .int x3_30)]) hx hb dX7_runs_72 rfl hl (by decide) rfl (fun ls hl => ?_)
    refine lv_iinc (v := x3_30 + 1) (lv' := [(3, .int (x3_30 + 1)), (2, .int (x2_30 ||| (1 <<< (x3_30 &&& 31)))), (0, .ref (a 0)), (1, .int x1_2)]) hx hb dX7_runs_73 hl (k := 3) rfl (congrArg (fun z => x3_30 + z) (by decide)) (by decide) rfl (fun ls hl => ?_)
    refine lv_goto (tgt := 30) hx hb dX7_runs_76 (by decide) ?_
    exact ih _ _ _ _ _ hP hD hS (lv_sub hl [2, 3, 1, 0] rfl) hf
set_option maxHeartbeats 4000000 in
set_option maxRecDepth 100000 in
theorem lX7_runs_2 {p : Program} {e : Env} {s : State} {m : MethodId} {args : Array Value} {below : List Frame} {meth : Method} {c : Code} {A : Nat → Prop} (l : Launch) (G : GG) (C : Cx p m c cX7_runs 4 s args wsX7_runs RX7 meth none G A) (a : Nat → Nat) (a_book : Nat → Int32) (a_spare : Nat → Int32) (a_images : Nat → Int32) (a_kept : Nat → Int32) (a_text : Nat → Int32) (a_length : Int32) (a_refused : Nat → Int32) (a_items : Nat → Int32) (a_many : Int32) (a_at : Int32) (a_sort : Int32) (a_start : Int32) (a_size : Int32) (a_due : Nat → Int32) (a_rung : Nat → Int32) (a_anywhere : Nat → Int32)  (out : (Nat → Int32) × (Nat → Int32)) (kx : Int32 → (Nat → Int32) → (Nat → Int32) → Option ((Nat → Int32) × (Nat → Int32))) (HX : ∀ (x1_2 : Int32) (a_due_2 : Nat → Int32) (a_rung_2 : Nat → Int32) (H : Heap) (locs : List Loc) (ls : Array Slot), va_P G.1 vwCl (flat [wX7 G a a_book a_spare a_images a_kept a_text a_length a_refused a_items a_many a_at a_sort a_start a_size a_due_2 a_rung_2 a_anywhere]) H → va_D A (flat [wX7 G a a_book a_spare a_images a_kept a_text a_length a_refused a_items a_many a_at a_sort a_start a_size a_due_2 a_rung_2 a_anywhere]) → va_S A s.heap H locs → lv_has ls 4 [(0, .ref (a 0)), (1, .int x1_2)] → kx x1_2 a_due_2 a_rung_2 = some out → W p l e rmX7_runs s m args below meth c H locs 0 0 (MQ below (QV G A (flat [wX7 G a a_book a_spare a_images a_kept a_text a_length a_refused a_items a_many a_at a_sort a_start a_size out.1 out.2 a_anywhere])) args s 0 0 A) (F0 m 92 ls [])) : ∀ (n : Nat) (x1_2 : Int32) (a_due_2 : Nat → Int32) (a_rung_2 : Nat → Int32) (H : Heap) (locs : List Loc) (ls : Array Slot), va_P G.1 vwCl (flat [wX7 G a a_book a_spare a_images a_kept a_text a_length a_refused a_items a_many a_at a_sort a_start a_size a_due_2 a_rung_2 a_anywhere]) H → va_D A (flat [wX7 G a a_book a_spare a_images a_kept a_text a_length a_refused a_items a_many a_at a_sort a_start a_size a_due_2 a_rung_2 a_anywhere]) → va_S A s.heap H locs → lv_has ls 4 [(0, .ref (a 0)), (1, .int x1_2)] → fX7_runs_2 a_book kx n x1_2 a_due_2 a_rung_2 = some out → W p l e rmX7_runs s m args below meth c H locs 0 0 (MQ below (QV G A (flat [wX7 G a a_book a_spare a_images a_kept a_text a_length a_refused a_items a_many a_at a_sort a_start a_size out.1 out.2 a_anywhere])) args s 0 0 A) (F0 m 2 ls []) := by
  obtain ⟨⟨hx, hb, hml, hown, hts⟩, hr, hlocks, hK, hN, hE, hA⟩ := id C
  intro n
  induction n with
  | zero =>
    intro x1_2 a_due_2 a_rung_2 H locs ls hP hD hS hl hf
    exact absurd (show (none : Option ((Nat → Int32) × (Nat → Int32))) = some out from hf) (by intro q9; cases q9)
  | succ n ih =>
    intro x1_2 a_due_2 a_rung_2 H locs ls hP hD hS hl hf
    rw [fX7_runs_2] at hf
    refine lv_iload_n hx hb dX7_runs_2 rfl (lv_at hl 1 rfl) ?_
    refine lv_aload_n hx hb dX7_runs_3 rfl (lv_at hl 0 rfl) ?_
    refine va_get (D := G.1) (ci := 7) (v := .ref (a 1)) (C := RX7) (T := TX7) (N := 16) hx hb hts iiX7_runs_X7 hown hK hP 0 rfl rfl 0 (by decide) (hts _ mmX7_runs_1) (fun _ h9 => h9) rfl dX7_runs_4 ?_
    refine lv_iconst (v := 2) hx hb dX7_runs_7 (by decide) ?_
    obtain ⟨z1, hz1, hf⟩ := o_b hf
    refine k_iald hx hb hK hP 1 0 rfl rfl hz1 dX7_runs_8 ?_
    refine lv_icmp_ge (tgt := 92) hx hb dX7_runs_9 (by decide) (fun c2 => ?_) (fun c2 => ?_)
    · have hf := (o_i hf).1 c2
      exact HX _ _ _ _ _ _ hP hD hS (lv_sub hl [0, 1] rfl) hf
    have hf := (o_i hf).2 c2
    refine lv_aload_n hx hb dX7_runs_12 rfl (lv_at hl 0 rfl) ?_
    refine va_get (D := G.1) (ci := 7) (v := .ref (a 8)) (C := RX7) (T := TX7) (N := 16) hx hb hts iiX7_runs_X7 hown hK hP 0 rfl rfl 13 (by decide) (hts _ mmX7_runs_2) (fun _ h9 => h9) rfl dX7_runs_13 ?_
    refine lv_iload_n hx hb dX7_runs_16 rfl (lv_at hl 1 rfl) ?_
    refine lv_aload_n hx hb dX7_runs_17 rfl (lv_at hl 0 rfl) ?_
    refine lv_iload_n hx hb dX7_runs_18 rfl (lv_at hl 1 rfl) ?_
    refine lv_sipush (v := 255) hx hb dX7_runs_19 (by decide) ?_
    obtain ⟨g3, hg3, hf⟩ := o_b hf
    refine bVi C hP hD hS (tX7_dueFor l G a a_book a_spare a_images a_kept a_text a_length a_refused a_items a_many a_at a_sort a_start a_size a_due_2 a_rung_2 a_anywhere x1_2 255 g3 hg3) gX7_runs_X7_dueFor rfl ⟨rfl, rfl⟩ hdX7_dueFor ⟨Nat.le_of_ble_eq_true rfl, Nat.le_of_ble_eq_true rfl⟩ rfl hl.1 rfl (Nat.le_of_ble_eq_true rfl) ⟨Nat.le_of_ble_eq_true rfl, Nat.le_of_ble_eq_true rfl⟩ [0] rfl rfl rfl (setB_same _ _ _ rfl) rfl (ci := 7) (q0 := 0) rfl rfl rfl dX7_runs_22 (fun H locs hP hD hS => ?_)
    obtain ⟨u4, hu4, hf⟩ := o_b hf
    refine k_iast hx hb hK hP hD hS 8 0 rfl rfl hu4 dX7_runs_25 (fun H locs hP hD hS => ?_)
    have hP : va_P G.1 vwCl (flat [wX7 G a a_book a_spare a_images a_kept a_text a_length a_refused a_items a_many a_at a_sort a_start a_size u4 a_rung_2 a_anywhere]) H := hP
    have hD : va_D A (flat [wX7 G a a_book a_spare a_images a_kept a_text a_length a_refused a_items a_many a_at a_sort a_start a_size u4 a_rung_2 a_anywhere]) := hD
    refine lv_iconst (v := 0) hx hb dX7_runs_26 (by decide) ?_
    refine at_pc (pc' := 27) rfl ?_
    refine lv_istore_n (lv' := [(2, .int 0), (0, .ref (a 0)), (1, .int x1_2)]) hx hb dX7_runs_27 rfl hl (by decide) rfl (fun ls hl => ?_)
    refine lv_iconst (v := 0) hx hb dX7_runs_28 (by decide) ?_
    refine lv_istore_n (lv' := [(3, .int 0), (2, .int 0), (0, .ref (a 0)), (1, .int x1_2)]) hx hb dX7_runs_29 rfl hl (by decide) rfl (fun ls hl => ?_)
    refine lX7_runs_30 l G C a a_book a_spare a_images a_kept a_text a_length a_refused a_items a_many a_at a_sort a_start a_size a_due a_rung a_anywhere x1_2 a_rung_2 u4 out _ (fun x2_30_11 x3_30_12 H locs ls hP hD hS hl hf => ?_) fu 0 0 _ _ _ hP hD hS (lv_sub hl [2, 3, 1, 0] rfl) hf
    refine lv_aload_n hx hb dX7_runs_79 rfl (lv_at hl 0 rfl) ?_
    refine va_get (D := G.1) (ci := 7) (v := .ref (a 9)) (C := RX7) (T := TX7) (N := 16) hx hb hts iiX7_runs_X7 hown hK hP 0 rfl rfl 14 (by decide) (hts _ mmX7_runs_3) (fun _ h9 => h9) rfl dX7_runs_80 ?_
    refine lv_iload_n hx hb dX7_runs_83 rfl (lv_at hl 1 rfl) ?_
    refine lv_iload_n hx hb dX7_runs_84 rfl (lv_at hl 2 rfl) ?_
    obtain ⟨u13, hu13, hf⟩ := o_b hf
    refine k_iast hx hb hK hP hD hS 9 0 rfl rfl hu13 dX7_runs_85 (fun H locs hP hD hS => ?_)
    have hP : va_P G.1 vwCl (flat [wX7 G a a_book a_spare a_images a_kept a_text a_length a_refused a_items a_many a_at a_sort a_start a_size u4 u13 a_anywhere]) H := hP
    have hD : va_D A (flat [wX7 G a a_book a_spare a_images a_kept a_text a_length a_refused a_items a_many a_at a_sort a_start a_size u4 u13 a_anywhere]) := hD
    refine lv_iinc (v := x1_2 + 1) (lv' := [(1, .int (x1_2 + 1)), (0, .ref (a 0)), (2, .int x2_30_11), (3, .int x3_30_12)]) hx hb dX7_runs_86 hl (k := 1) rfl (congrArg (fun z => x1_2 + z) (by decide)) (by decide) rfl (fun ls hl => ?_)
    refine lv_goto (tgt := 2) hx hb dX7_runs_89 (by decide) ?_
    exact ih _ _ _ _ _ _ hP hD hS (lv_sub hl [1, 0] rfl) hf
set_option maxHeartbeats 4000000 in
set_option maxRecDepth 100000 in
theorem tX7_runs (l : Launch) (G : GG) (a : Nat → Nat) (a_book : Nat → Int32) (a_spare : Nat → Int32) (a_images : Nat → Int32) (a_kept : Nat → Int32) (a_text : Nat → Int32) (a_length : Int32) (a_refused : Nat → Int32) (a_items : Nat → Int32) (a_many : Int32) (a_at : Int32) (a_sort : Int32) (a_start : Int32) (a_size : Int32) (a_due : Nat → Int32) (a_rung : Nat → Int32) (a_anywhere : Nat → Int32) (out : (Nat → Int32) × (Nat → Int32)) (hf : fX7_runs a_book a_due a_rung = some out) : cMv l G yX7_runs wsX7_runs rmX7_runs [.ref (a 0)] (flat [wX7 G a a_book a_spare a_images a_kept a_text a_length a_refused a_items a_many a_at a_sort a_start a_size a_due a_rung a_anywhere]) (flat [wX7 G a a_book a_spare a_images a_kept a_text a_length a_refused a_items a_many a_at a_sort a_start a_size out.1 out.2 a_anywhere]) := by
  intro sz
  refine met_of (cc := cX7_runs) (nL := 4) (ret := none) (Qc := fun A9 => QV G A9 (flat [wX7 G a a_book a_spare a_images a_kept a_text a_length a_refused a_items a_many a_at a_sort a_start a_size out.1 out.2 a_anywhere])) (by decide) rfl (Nat.le_of_ble_eq_true rfl) ?_
  intro p e s m args below meth c A ls C hP hD hS hl
  obtain ⟨⟨hx, hb, hml, hown, hts⟩, hr, hlocks, hK, hN, hE, hA⟩ := id C
  have hl : lv_has ls 4 [(0, .ref (a 0))] := hl
  unfold fX7_runs at hf
  refine lv_iconst (v := 0) hx hb dX7_runs_0 (by decide) ?_
  refine lv_istore_n (lv' := [(1, .int 0), (0, .ref (a 0))]) hx hb dX7_runs_1 rfl hl (by decide) rfl (fun ls hl => ?_)
  refine lX7_runs_2 l G C a a_book a_spare a_images a_kept a_text a_length a_refused a_items a_many a_at a_sort a_start a_size a_due a_rung a_anywhere out _ (fun x1_2_14 a_due_2_15 a_rung_2_16 H locs ls hP hD hS hl hf => ?_) fu 0 a_due a_rung _ _ _ hP hD hS (lv_sub hl [1, 0] rfl) hf
  have e9 := Option.some.inj hf
  subst e9
  exact rt_v C hP hS dX7_runs_92

/-! RX7 rang(II)I -/
theorem iiX7_rang_X7 : ∀ w ∈ wsX70, w ∈ wsX7_rang := by decide +kernel
theorem mmX7_rang_1 : (Cond.fieldLink RX7 7 "BlindBellsModel" "book" "[I") ∈ wsX7_rang := by decide +kernel
theorem mmX7_rang_2 : (Cond.fieldLink RX7 35 "BlindBellsModel" "rung" "[I") ∈ wsX7_rang := by decide +kernel
theorem mmX7_rang_3 : (Cond.fieldLink RX7 32 "BlindBellsModel" "due" "[I") ∈ wsX7_rang := by decide +kernel
theorem hdX7_rang : yX7_rang.cls = RX7 ∧ yX7_rang.cls ≠ "java/lang/invoke/MethodHandle" ∧ yX7_rang.cls ≠ "java/lang/invoke/VarHandle" ∧ (parseMethodDescriptor yX7_rang.desc).map (fun d => d.parameters.length) = some 2 := by decide +kernel
abbrev rmX7_rang : Room := { frames := 4, cells := 0, slots := 0, locals := 98 }
set_option maxHeartbeats 4000000 in
set_option maxRecDepth 100000 in
theorem tX7_rang (l : Launch) (G : GG) (a : Nat → Nat) (a_book : Nat → Int32) (a_spare : Nat → Int32) (a_images : Nat → Int32) (a_kept : Nat → Int32) (a_text : Nat → Int32) (a_length : Int32) (a_refused : Nat → Int32) (a_items : Nat → Int32) (a_many : Int32) (a_at : Int32) (a_sort : Int32) (a_start : Int32) (a_size : Int32) (a_due : Nat → Int32) (a_rung : Nat → Int32) (a_anywhere : Nat → Int32) (p0 : Int32) (p1 : Int32) (out : Int32 × (Nat → Int32) × (Nat → Int32) × (Nat → Int32)) (hf : fX7_rang a_book a_refused a_due a_rung p0 p1 = some out) : cMi l G yX7_rang wsX7_rang rmX7_rang [.ref (a 0), .int p0, .int p1] (flat [wX7 G a a_book a_spare a_images a_kept a_text a_length a_refused a_items a_many a_at a_sort a_start a_size a_due a_rung a_anywhere]) out.1 (flat [wX7 G a a_book a_spare a_images a_kept a_text a_length out.2.1 a_items a_many a_at a_sort a_start a_size out.2.2.1 out.2.2.2 a_anywhere]) := by
  intro sz
  refine met_of (cc := cX7_rang) (nL := 3) (ret := (some .int)) (Qc := fun A9 => QI G A9 out.1 (flat [wX7 G a a_book a_spare a_images a_kept a_text a_length out.2.1 a_items a_many a_at a_sort a_start a_size out.2.2.1 out.2.2.2 a_anywhere])) (by decide) rfl (Nat.le_of_ble_eq_true rfl) ?_
  intro p e s m args below meth c A ls C hP hD hS hl
  obtain ⟨⟨hx, hb, hml, hown, hts⟩, hr, hlocks, hK, hN, hE, hA⟩ := id C
  have hl : lv_has ls 3 [(0, .ref (a 0)), (1, .int p0), (2, .int p1)] := hl
  unfold fX7_rang at hf
  refine lv_iload_n hx hb dX7_rang_0 rfl (lv_at hl 1 rfl) ?_
  refine lv_iconst (v := 0) hx hb dX7_rang_1 (by decide) ?_
  refine lv_aload_n hx hb dX7_rang_2 rfl (lv_at hl 0 rfl) ?_
  refine va_get (D := G.1) (ci := 7) (v := .ref (a 1)) (C := RX7) (T := TX7) (N := 16) hx hb hts iiX7_rang_X7 hown hK hP 0 rfl rfl 0 (by decide) (hts _ mmX7_rang_1) (fun _ h9 => h9) rfl dX7_rang_3 ?_
  refine lv_iconst (v := 2) hx hb dX7_rang_6 (by decide) ?_
  obtain ⟨z1, hz1, hf⟩ := o_b hf
  refine k_iald hx hb hK hP 1 0 rfl rfl hz1 dX7_rang_7 ?_
  refine lv_iconst (v := 1) hx hb dX7_rang_8 (by decide) ?_
  refine lv_isub hx hb dX7_rang_9 ?_
  obtain ⟨g2, hg2, hf⟩ := o_b hf
  refine bSi C hP hD hS (tX7_in l G p0 0 (z1 - 1) g2 hg2) gX7_rang_X7_in rfl ⟨rfl, rfl⟩ hdX7_in ⟨Nat.le_of_ble_eq_true rfl, Nat.le_of_ble_eq_true rfl⟩ rfl hl.1 rfl (Nat.le_of_ble_eq_true rfl) ⟨Nat.le_of_ble_eq_true rfl, Nat.le_of_ble_eq_true rfl⟩ [] rfl rfl rfl (setB_same _ _ _ rfl) rfl dX7_rang_10 (fun H locs hP hD hS => ?_)
  refine at_pc (pc' := 13) rfl ?_
  refine lv_if_eq (tgt := 25) hx hb dX7_rang_13 (by decide) (fun c3 => ?_) (fun c3 => ?_)
  · have hf := (o_i hf).1 c3
    refine lv_aload_n hx hb dX7_rang_25 rfl (lv_at hl 0 rfl) ?_
    obtain ⟨g4, hg4, hf⟩ := o_b hf
    refine bVi (Bs' := [wX7 G a a_book a_spare a_images a_kept a_text a_length g4.2 a_items a_many a_at a_sort a_start a_size a_due a_rung a_anywhere]) C hP hD hS (tX7_bad l G a a_book a_spare a_images a_kept a_text a_length a_refused a_items a_many a_at a_sort a_start a_size a_due a_rung a_anywhere g4 hg4) gX7_rang_X7_bad rfl ⟨rfl, rfl⟩ hdX7_bad ⟨Nat.le_of_ble_eq_true rfl, Nat.le_of_ble_eq_true rfl⟩ rfl hl.1 rfl (Nat.le_of_ble_eq_true rfl) ⟨Nat.le_of_ble_eq_true rfl, Nat.le_of_ble_eq_true rfl⟩ [0] rfl rfl rfl rfl rfl (ci := 7) (q0 := 0) rfl rfl rfl dX7_rang_26 (fun H locs hP hD hS => ?_)
    have hP : va_P G.1 vwCl (flat [wX7 G a a_book a_spare a_images a_kept a_text a_length g4.2 a_items a_many a_at a_sort a_start a_size a_due a_rung a_anywhere]) H := hP
    have hD : va_D A (flat [wX7 G a a_book a_spare a_images a_kept a_text a_length g4.2 a_items a_many a_at a_sort a_start a_size a_due a_rung a_anywhere]) := hD
    have e9 := Option.some.inj hf
    subst e9
    exact rt_i C hP hS rfl dX7_rang_29
  have hf := (o_i hf).2 c3
  refine lv_iload_n hx hb dX7_rang_16 rfl (lv_at hl 2 rfl) ?_
  refine lv_iconst (v := 0) hx hb dX7_rang_17 (by decide) ?_
  refine lv_iconst (v := 1) hx hb dX7_rang_18 (by decide) ?_
  obtain ⟨g5, hg5, hf⟩ := o_b hf
  refine bSi C hP hD hS (tX7_in l G p1 0 1 g5 hg5) gX7_rang_X7_in rfl ⟨rfl, rfl⟩ hdX7_in ⟨Nat.le_of_ble_eq_true rfl, Nat.le_of_ble_eq_true rfl⟩ rfl hl.1 rfl (Nat.le_of_ble_eq_true rfl) ⟨Nat.le_of_ble_eq_true rfl, Nat.le_of_ble_eq_true rfl⟩ [] rfl rfl rfl (setB_same _ _ _ rfl) rfl dX7_rang_19 (fun H locs hP hD hS => ?_)
  refine lv_if_ne (tgt := 30) hx hb dX7_rang_22 (by decide) (fun c6 => ?_) (fun c6 => ?_)
  · have hf := (o_i hf).2 c6
    refine lv_aload_n hx hb dX7_rang_30 rfl (lv_at hl 0 rfl) ?_
    obtain ⟨g7, hg7, hf⟩ := o_b hf
    refine bVv (Bs' := [wX7 G a a_book a_spare a_images a_kept a_text a_length a_refused a_items a_many a_at a_sort a_start a_size g7.1 g7.2 a_anywhere]) C hP hD hS (tX7_runs l G a a_book a_spare a_images a_kept a_text a_length a_refused a_items a_many a_at a_sort a_start a_size a_due a_rung a_anywhere g7 hg7) gX7_rang_X7_runs rfl ⟨rfl, rfl⟩ hdX7_runs ⟨Nat.le_of_ble_eq_true rfl, Nat.le_of_ble_eq_true rfl⟩ rfl hl.1 rfl (Nat.le_of_ble_eq_true rfl) ⟨Nat.le_of_ble_eq_true rfl, Nat.le_of_ble_eq_true rfl⟩ [0] rfl rfl rfl rfl rfl (ci := 7) (q0 := 0) rfl rfl rfl dX7_rang_31 (fun H locs hP hD hS => ?_)
    have hP : va_P G.1 vwCl (flat [wX7 G a a_book a_spare a_images a_kept a_text a_length a_refused a_items a_many a_at a_sort a_start a_size g7.1 g7.2 a_anywhere]) H := hP
    have hD : va_D A (flat [wX7 G a a_book a_spare a_images a_kept a_text a_length a_refused a_items a_many a_at a_sort a_start a_size g7.1 g7.2 a_anywhere]) := hD
    refine lv_iload_n hx hb dX7_rang_34 rfl (lv_at hl 2 rfl) ?_
    refine lv_if_ne (tgt := 47) hx hb dX7_rang_35 (by decide) (fun c8 => ?_) (fun c8 => ?_)
    · have hf := (o_i hf).2 c8
      refine lv_aload_n hx hb dX7_rang_47 rfl (lv_at hl 0 rfl) ?_
      refine va_get (D := G.1) (ci := 7) (v := .ref (a 9)) (C := RX7) (T := TX7) (N := 16) hx hb hts iiX7_rang_X7 hown hK hP 0 rfl rfl 14 (by decide) (hts _ mmX7_rang_2) (fun _ h9 => h9) rfl dX7_rang_48 ?_
      refine lv_iload_n hx hb dX7_rang_51 rfl (lv_at hl 1 rfl) ?_
      obtain ⟨z9, hz9, hf⟩ := o_b hf
      refine k_iald hx hb hK hP 9 0 rfl rfl hz9 dX7_rang_52 ?_
      have e9 := Option.some.inj hf
      subst e9
      exact rt_i C hP hS rfl dX7_rang_53
    have hf := (o_i hf).1 c8
    refine lv_aload_n hx hb dX7_rang_38 rfl (lv_at hl 0 rfl) ?_
    refine va_get (D := G.1) (ci := 7) (v := .ref (a 8)) (C := RX7) (T := TX7) (N := 16) hx hb hts iiX7_rang_X7 hown hK hP 0 rfl rfl 13 (by decide) (hts _ mmX7_rang_3) (fun _ h9 => h9) rfl dX7_rang_39 ?_
    refine lv_iload_n hx hb dX7_rang_42 rfl (lv_at hl 1 rfl) ?_
    obtain ⟨z10, hz10, hf⟩ := o_b hf
    refine k_iald hx hb hK hP 8 0 rfl rfl hz10 dX7_rang_43 ?_
    refine lv_goto (tgt := 53) hx hb dX7_rang_44 (by decide) ?_
    have e9 := Option.some.inj hf
    subst e9
    exact rt_i C hP hS rfl dX7_rang_53
  have hf := (o_i hf).1 c6
  refine lv_aload_n hx hb dX7_rang_25 rfl (lv_at hl 0 rfl) ?_
  obtain ⟨g11, hg11, hf⟩ := o_b hf
  refine bVi (Bs' := [wX7 G a a_book a_spare a_images a_kept a_text a_length g11.2 a_items a_many a_at a_sort a_start a_size a_due a_rung a_anywhere]) C hP hD hS (tX7_bad l G a a_book a_spare a_images a_kept a_text a_length a_refused a_items a_many a_at a_sort a_start a_size a_due a_rung a_anywhere g11 hg11) gX7_rang_X7_bad rfl ⟨rfl, rfl⟩ hdX7_bad ⟨Nat.le_of_ble_eq_true rfl, Nat.le_of_ble_eq_true rfl⟩ rfl hl.1 rfl (Nat.le_of_ble_eq_true rfl) ⟨Nat.le_of_ble_eq_true rfl, Nat.le_of_ble_eq_true rfl⟩ [0] rfl rfl rfl rfl rfl (ci := 7) (q0 := 0) rfl rfl rfl dX7_rang_26 (fun H locs hP hD hS => ?_)
  have hP : va_P G.1 vwCl (flat [wX7 G a a_book a_spare a_images a_kept a_text a_length g11.2 a_items a_many a_at a_sort a_start a_size a_due a_rung a_anywhere]) H := hP
  have hD : va_D A (flat [wX7 G a a_book a_spare a_images a_kept a_text a_length g11.2 a_items a_many a_at a_sort a_start a_size a_due a_rung a_anywhere]) := hD
  have e9 := Option.some.inj hf
  subst e9
  exact rt_i C hP hS rfl dX7_rang_29

/-! RX7 helped(I)I -/
theorem iiX7_helped_X7 : ∀ w ∈ wsX70, w ∈ wsX7_helped := by decide +kernel
theorem mmX7_helped_1 : (Cond.fieldLink RX7 7 "BlindBellsModel" "book" "[I") ∈ wsX7_helped := by decide +kernel
theorem mmX7_helped_2 : (Cond.fieldLink RX7 35 "BlindBellsModel" "rung" "[I") ∈ wsX7_helped := by decide +kernel
theorem hdX7_helped : yX7_helped.cls = RX7 ∧ yX7_helped.cls ≠ "java/lang/invoke/MethodHandle" ∧ yX7_helped.cls ≠ "java/lang/invoke/VarHandle" ∧ (parseMethodDescriptor yX7_helped.desc).map (fun d => d.parameters.length) = some 1 := by decide +kernel
abbrev rmX7_helped : Room := { frames := 4, cells := 0, slots := 0, locals := 98 }
set_option maxHeartbeats 4000000 in
set_option maxRecDepth 100000 in
theorem lX7_helped_29 {p : Program} {e : Env} {s : State} {m : MethodId} {args : Array Value} {below : List Frame} {meth : Method} {c : Code} {A : Nat → Prop} (l : Launch) (G : GG) (C : Cx p m c cX7_helped 4 s args wsX7_helped RX7 meth (some .int) G A) (a : Nat → Nat) (a_book : Nat → Int32) (a_spare : Nat → Int32) (a_images : Nat → Int32) (a_kept : Nat → Int32) (a_text : Nat → Int32) (a_length : Int32) (a_refused : Nat → Int32) (a_items : Nat → Int32) (a_many : Int32) (a_at : Int32) (a_sort : Int32) (a_start : Int32) (a_size : Int32) (a_due : Nat → Int32) (a_rung : Nat → Int32) (a_anywhere : Nat → Int32) (p0 : Int32) (g4 : (Nat → Int32) × (Nat → Int32)) (out : Int32 × (Nat → Int32) × (Nat → Int32) × (Nat → Int32)) (kx : Int32 → Int32 → Option (Int32 × (Nat → Int32) × (Nat → Int32) × (Nat → Int32))) (HX : ∀ (x2_29 : Int32) (x3_29 : Int32) (H : Heap) (locs : List Loc) (ls : Array Slot), va_P G.1 vwCl (flat [wX7 G a a_book a_spare a_images a_kept a_text a_length a_refused a_items a_many a_at a_sort a_start a_size g4.1 g4.2 a_anywhere]) H → va_D A (flat [wX7 G a a_book a_spare a_images a_kept a_text a_length a_refused a_items a_many a_at a_sort a_start a_size g4.1 g4.2 a_anywhere]) → va_S A s.heap H locs → lv_has ls 4 [(0, .ref (a 0)), (1, .int p0), (2, .int x2_29), (3, .int x3_29)] → kx x2_29 x3_29 = some out → W p l e rmX7_helped s m args below meth c H locs 0 0 (MQ below (QI G A out.1 (flat [wX7 G a a_book a_spare a_images a_kept a_text a_length out.2.1 a_items a_many a_at a_sort a_start a_size out.2.2.1 out.2.2.2 a_anywhere])) args s 0 0 A) (F0 m 80 ls [])) : ∀ (n : Nat) (x2_29 : Int32) (x3_29 : Int32) (H : Heap) (locs : List Loc) (ls : Array Slot), va_P G.1 vwCl (flat [wX7 G a a_book a_spare a_images a_kept a_text a_length a_refused a_items a_many a_at a_sort a_start a_size g4.1 g4.2 a_anywhere]) H → va_D A (flat [wX7 G a a_book a_spare a_images a_kept a_text a_length a_refused a_items a_many a_at a_sort a_start a_size g4.1 g4.2 a_anywhere]) → va_S A s.heap H locs → lv_has ls 4 [(0, .ref (a 0)), (1, .int p0), (2, .int x2_29), (3, .int x3_29)] → fX7_helped_29 p0 a_book g4 kx n x2_29 x3_29 = some out → W p l e rmX7_helped s m args below meth c H locs 0 0 (MQ below (QI G A out.1 (flat [wX7 G a a_book a_spare a_images a_kept a_text a_length out.2.1 a_items a_many a_at a_sort a_start a_size out.2.2.1 out.2.2.2 a_anywhere])) args s 0 0 A) (F0 m 29 ls []) := by
  obtain ⟨⟨hx, hb, hml, hown, hts⟩, hr, hlocks, hK, hN, hE, hA⟩ := id C
  intro n
  induction n with
  | zero =>
    intro x2_29 x3_29 H locs ls hP hD hS hl hf
    exact absurd (show (none : Option (Int32 × (Nat → Int32) × (Nat → Int32) × (Nat → Int32))) = some out from hf) (by intro q9; cases q9)
  | succ n ih =>
    intro x2_29 x3_29 H locs ls hP hD hS hl hf
    rw [fX7_helped_29] at hf
    refine lv_iload_n hx hb dX7_helped_29 rfl (lv_at hl 3 rfl) ?_
    refine lv_aload_n hx hb dX7_helped_30 rfl (lv_at hl 0 rfl) ?_
    refine va_get (D := G.1) (ci := 7) (v := .ref (a 1)) (C := RX7) (T := TX7) (N := 16) hx hb hts iiX7_helped_X7 hown hK hP 0 rfl rfl 0 (by decide) (hts _ mmX7_helped_1) (fun _ h9 => h9) rfl dX7_helped_31 ?_
    refine lv_iconst (v := 2) hx hb dX7_helped_34 (by decide) ?_
    obtain ⟨z5, hz5, hf⟩ := o_b hf
    refine k_iald hx hb hK hP 1 0 rfl rfl hz5 dX7_helped_35 ?_
    refine lv_icmp_ge (tgt := 80) hx hb dX7_helped_36 (by decide) (fun c6 => ?_) (fun c6 => ?_)
    · have hf := (o_i hf).1 c6
      exact HX _ _ _ _ _ hP hD hS (lv_sub hl [0, 1, 2, 3] rfl) hf
    have hf := (o_i hf).2 c6
    refine lv_iload_n hx hb dX7_helped_39 rfl (lv_at hl 2 rfl) ?_
    refine lv_aload_n hx hb dX7_helped_40 rfl (lv_at hl 0 rfl) ?_
    refine va_get (D := G.1) (ci := 7) (v := .ref (a 9)) (C := RX7) (T := TX7) (N := 16) hx hb hts iiX7_helped_X7 hown hK hP 0 rfl rfl 14 (by decide) (hts _ mmX7_helped_2) (fun _ h9 => h9) rfl dX7_helped_41 ?_
    refine lv_iload_n hx hb dX7_helped_44 rfl (lv_at hl 3 rfl) ?_
    obtain ⟨z7, hz7, hf⟩ := o_b hf
    refine k_iald hx hb hK hP 9 0 rfl rfl hz7 dX7_helped_45 ?_
    refine lv_if_eq (tgt := 71) hx hb dX7_helped_46 (by decide) (fun c8 => ?_) (fun c8 => ?_)
    · have hf := (o_i hf).1 c8
      refine lv_iconst (v := 0) hx hb dX7_helped_71 (by decide) ?_
      refine lv_iadd hx hb dX7_helped_72 ?_
      refine lv_istore_n (lv' := [(2, .int (x2_29 + 0)), (0, .ref (a 0)), (1, .int p0), (3, .int x3_29)]) hx hb dX7_helped_73 rfl hl (by decide) rfl (fun ls hl => ?_)
      refine lv_iinc (v := x3_29 + 1) (lv' := [(3, .int (x3_29 + 1)), (2, .int (x2_29 + 0)), (0, .ref (a 0)), (1, .int p0)]) hx hb dX7_helped_74 hl (k := 3) rfl (congrArg (fun z => x3_29 + z) (by decide)) (by decide) rfl (fun ls hl => ?_)
      refine lv_goto (tgt := 29) hx hb dX7_helped_77 (by decide) ?_
      exact ih _ _ _ _ _ hP hD hS (lv_sub hl [2, 3, 1, 0] rfl) hf
    have hf := (o_i hf).2 c8
    refine lv_iload_n hx hb dX7_helped_49 rfl (lv_at hl 1 rfl) ?_
    refine lv_iconst (v := (-1)) hx hb dX7_helped_50 (by decide) ?_
    refine lv_icmp_eq (tgt := 67) hx hb dX7_helped_51 (by decide) (fun c9 => ?_) (fun c9 => ?_)
    · have hf := (o_i hf).1 c9
      refine lv_iconst (v := 1) hx hb dX7_helped_67 (by decide) ?_
      refine lv_goto (tgt := 72) hx hb dX7_helped_68 (by decide) ?_
      refine lv_iadd hx hb dX7_helped_72 ?_
      refine lv_istore_n (lv' := [(2, .int (x2_29 + 1)), (0, .ref (a 0)), (1, .int p0), (3, .int x3_29)]) hx hb dX7_helped_73 rfl hl (by decide) rfl (fun ls hl => ?_)
      refine lv_iinc (v := x3_29 + 1) (lv' := [(3, .int (x3_29 + 1)), (2, .int (x2_29 + 1)), (0, .ref (a 0)), (1, .int p0)]) hx hb dX7_helped_74 hl (k := 3) rfl (congrArg (fun z => x3_29 + z) (by decide)) (by decide) rfl (fun ls hl => ?_)
      refine lv_goto (tgt := 29) hx hb dX7_helped_77 (by decide) ?_
      exact ih _ _ _ _ _ hP hD hS (lv_sub hl [2, 3, 1, 0] rfl) hf
    have hf := (o_i hf).2 c9
    refine lv_aload_n hx hb dX7_helped_54 rfl (lv_at hl 0 rfl) ?_
    refine va_get (D := G.1) (ci := 7) (v := .ref (a 1)) (C := RX7) (T := TX7) (N := 16) hx hb hts iiX7_helped_X7 hown hK hP 0 rfl rfl 0 (by decide) (hts _ mmX7_helped_1) (fun _ h9 => h9) rfl dX7_helped_55 ?_
    refine lv_bipush (v := 62) hx hb dX7_helped_58 (by decide) ?_
    refine lv_iload_n hx hb dX7_helped_60 rfl (lv_at hl 3 rfl) ?_
    refine lv_iadd hx hb dX7_helped_61 ?_
    obtain ⟨z10, hz10, hf⟩ := o_b hf
    refine k_iald hx hb hK hP 1 0 rfl rfl hz10 dX7_helped_62 ?_
    refine lv_iload_n hx hb dX7_helped_63 rfl (lv_at hl 1 rfl) ?_
    refine lv_icmp_ne (tgt := 71) hx hb dX7_helped_64 (by decide) (fun c11 => ?_) (fun c11 => ?_)
    · have hf := (o_i hf).2 c11
      refine lv_iconst (v := 0) hx hb dX7_helped_71 (by decide) ?_
      refine lv_iadd hx hb dX7_helped_72 ?_
      refine lv_istore_n (lv' := [(2, .int (x2_29 + 0)), (0, .ref (a 0)), (1, .int p0), (3, .int x3_29)]) hx hb dX7_helped_73 rfl hl (by decide) rfl (fun ls hl => ?_)
      refine lv_iinc (v := x3_29 + 1) (lv' := [(3, .int (x3_29 + 1)), (2, .int (x2_29 + 0)), (0, .ref (a 0)), (1, .int p0)]) hx hb dX7_helped_74 hl (k := 3) rfl (congrArg (fun z => x3_29 + z) (by decide)) (by decide) rfl (fun ls hl => ?_)
      refine lv_goto (tgt := 29) hx hb dX7_helped_77 (by decide) ?_
      exact ih _ _ _ _ _ hP hD hS (lv_sub hl [2, 3, 1, 0] rfl) hf
    have hf := (o_i hf).1 c11
    refine lv_iconst (v := 1) hx hb dX7_helped_67 (by decide) ?_
    refine lv_goto (tgt := 72) hx hb dX7_helped_68 (by decide) ?_
    refine lv_iadd hx hb dX7_helped_72 ?_
    refine lv_istore_n (lv' := [(2, .int (x2_29 + 1)), (0, .ref (a 0)), (1, .int p0), (3, .int x3_29)]) hx hb dX7_helped_73 rfl hl (by decide) rfl (fun ls hl => ?_)
    refine lv_iinc (v := x3_29 + 1) (lv' := [(3, .int (x3_29 + 1)), (2, .int (x2_29 + 1)), (0, .ref (a 0)), (1, .int p0)]) hx hb dX7_helped_74 hl (k := 3) rfl (congrArg (fun z => x3_29 + z) (by decide)) (by decide) rfl (fun ls hl => ?_)
    refine lv_goto (tgt := 29) hx hb dX7_helped_77 (by decide) ?_
    exact ih _ _ _ _ _ hP hD hS (lv_sub hl [2, 3, 1, 0] rfl) hf
set_option maxHeartbeats 4000000 in
set_option maxRecDepth 100000 in
theorem tX7_helped (l : Launch) (G : GG) (a : Nat → Nat) (a_book : Nat → Int32) (a_spare : Nat → Int32) (a_images : Nat → Int32) (a_kept : Nat → Int32) (a_text : Nat → Int32) (a_length : Int32) (a_refused : Nat → Int32) (a_items : Nat → Int32) (a_many : Int32) (a_at : Int32) (a_sort : Int32) (a_start : Int32) (a_size : Int32) (a_due : Nat → Int32) (a_rung : Nat → Int32) (a_anywhere : Nat → Int32) (p0 : Int32) (out : Int32 × (Nat → Int32) × (Nat → Int32) × (Nat → Int32)) (hf : fX7_helped a_book a_refused a_due a_rung p0 = some out) : cMi l G yX7_helped wsX7_helped rmX7_helped [.ref (a 0), .int p0] (flat [wX7 G a a_book a_spare a_images a_kept a_text a_length a_refused a_items a_many a_at a_sort a_start a_size a_due a_rung a_anywhere]) out.1 (flat [wX7 G a a_book a_spare a_images a_kept a_text a_length out.2.1 a_items a_many a_at a_sort a_start a_size out.2.2.1 out.2.2.2 a_anywhere]) := by
  intro sz
  refine met_of (cc := cX7_helped) (nL := 4) (ret := (some .int)) (Qc := fun A9 => QI G A9 out.1 (flat [wX7 G a a_book a_spare a_images a_kept a_text a_length out.2.1 a_items a_many a_at a_sort a_start a_size out.2.2.1 out.2.2.2 a_anywhere])) (by decide) rfl (Nat.le_of_ble_eq_true rfl) ?_
  intro p e s m args below meth c A ls C hP hD hS hl
  obtain ⟨⟨hx, hb, hml, hown, hts⟩, hr, hlocks, hK, hN, hE, hA⟩ := id C
  have hl : lv_has ls 4 [(0, .ref (a 0)), (1, .int p0)] := hl
  unfold fX7_helped at hf
  refine lv_iload_n hx hb dX7_helped_0 rfl (lv_at hl 1 rfl) ?_
  refine lv_iconst (v := (-1)) hx hb dX7_helped_1 (by decide) ?_
  refine lv_aload_n hx hb dX7_helped_2 rfl (lv_at hl 0 rfl) ?_
  refine va_get (D := G.1) (ci := 7) (v := .ref (a 1)) (C := RX7) (T := TX7) (N := 16) hx hb hts iiX7_helped_X7 hown hK hP 0 rfl rfl 0 (by decide) (hts _ mmX7_helped_1) (fun _ h9 => h9) rfl dX7_helped_3 ?_
  refine lv_iconst (v := 0) hx hb dX7_helped_6 (by decide) ?_
  obtain ⟨z1, hz1, hf⟩ := o_b hf
  refine k_iald hx hb hK hP 1 0 rfl rfl hz1 dX7_helped_7 ?_
  refine lv_iconst (v := 1) hx hb dX7_helped_8 (by decide) ?_
  refine lv_isub hx hb dX7_helped_9 ?_
  obtain ⟨g2, hg2, hf⟩ := o_b hf
  refine bSi C hP hD hS (tX7_in l G p0 ((-1)) (z1 - 1) g2 hg2) gX7_helped_X7_in rfl ⟨rfl, rfl⟩ hdX7_in ⟨Nat.le_of_ble_eq_true rfl, Nat.le_of_ble_eq_true rfl⟩ rfl hl.1 rfl (Nat.le_of_ble_eq_true rfl) ⟨Nat.le_of_ble_eq_true rfl, Nat.le_of_ble_eq_true rfl⟩ [] rfl rfl rfl (setB_same _ _ _ rfl) rfl dX7_helped_10 (fun H locs hP hD hS => ?_)
  refine at_pc (pc' := 13) rfl ?_
  refine lv_if_ne (tgt := 21) hx hb dX7_helped_13 (by decide) (fun c3 => ?_) (fun c3 => ?_)
  · have hf := (o_i hf).2 c3
    refine lv_aload_n hx hb dX7_helped_21 rfl (lv_at hl 0 rfl) ?_
    obtain ⟨g4, hg4, hf⟩ := o_b hf
    refine bVv (Bs' := [wX7 G a a_book a_spare a_images a_kept a_text a_length a_refused a_items a_many a_at a_sort a_start a_size g4.1 g4.2 a_anywhere]) C hP hD hS (tX7_runs l G a a_book a_spare a_images a_kept a_text a_length a_refused a_items a_many a_at a_sort a_start a_size a_due a_rung a_anywhere g4 hg4) gX7_helped_X7_runs rfl ⟨rfl, rfl⟩ hdX7_runs ⟨Nat.le_of_ble_eq_true rfl, Nat.le_of_ble_eq_true rfl⟩ rfl hl.1 rfl (Nat.le_of_ble_eq_true rfl) ⟨Nat.le_of_ble_eq_true rfl, Nat.le_of_ble_eq_true rfl⟩ [0] rfl rfl rfl rfl rfl (ci := 7) (q0 := 0) rfl rfl rfl dX7_helped_22 (fun H locs hP hD hS => ?_)
    have hP : va_P G.1 vwCl (flat [wX7 G a a_book a_spare a_images a_kept a_text a_length a_refused a_items a_many a_at a_sort a_start a_size g4.1 g4.2 a_anywhere]) H := hP
    have hD : va_D A (flat [wX7 G a a_book a_spare a_images a_kept a_text a_length a_refused a_items a_many a_at a_sort a_start a_size g4.1 g4.2 a_anywhere]) := hD
    refine lv_iconst (v := 0) hx hb dX7_helped_25 (by decide) ?_
    refine lv_istore_n (lv' := [(2, .int 0), (0, .ref (a 0)), (1, .int p0)]) hx hb dX7_helped_26 rfl hl (by decide) rfl (fun ls hl => ?_)
    refine lv_iconst (v := 0) hx hb dX7_helped_27 (by decide) ?_
    refine lv_istore_n (lv' := [(3, .int 0), (2, .int 0), (0, .ref (a 0)), (1, .int p0)]) hx hb dX7_helped_28 rfl hl (by decide) rfl (fun ls hl => ?_)
    refine lX7_helped_29 l G C a a_book a_spare a_images a_kept a_text a_length a_refused a_items a_many a_at a_sort a_start a_size a_due a_rung a_anywhere p0 g4 out _ (fun x2_29_12 x3_29_13 H locs ls hP hD hS hl hf => ?_) fu 0 0 _ _ _ hP hD hS (lv_sub hl [2, 3, 1, 0] rfl) hf
    refine lv_iload_n hx hb dX7_helped_80 rfl (lv_at hl 2 rfl) ?_
    have e9 := Option.some.inj hf
    subst e9
    exact rt_i C hP hS rfl dX7_helped_81
  have hf := (o_i hf).1 c3
  refine lv_aload_n hx hb dX7_helped_16 rfl (lv_at hl 0 rfl) ?_
  obtain ⟨g14, hg14, hf⟩ := o_b hf
  refine bVi (Bs' := [wX7 G a a_book a_spare a_images a_kept a_text a_length g14.2 a_items a_many a_at a_sort a_start a_size a_due a_rung a_anywhere]) C hP hD hS (tX7_bad l G a a_book a_spare a_images a_kept a_text a_length a_refused a_items a_many a_at a_sort a_start a_size a_due a_rung a_anywhere g14 hg14) gX7_helped_X7_bad rfl ⟨rfl, rfl⟩ hdX7_bad ⟨Nat.le_of_ble_eq_true rfl, Nat.le_of_ble_eq_true rfl⟩ rfl hl.1 rfl (Nat.le_of_ble_eq_true rfl) ⟨Nat.le_of_ble_eq_true rfl, Nat.le_of_ble_eq_true rfl⟩ [0] rfl rfl rfl rfl rfl (ci := 7) (q0 := 0) rfl rfl rfl dX7_helped_17 (fun H locs hP hD hS => ?_)
  have hP : va_P G.1 vwCl (flat [wX7 G a a_book a_spare a_images a_kept a_text a_length g14.2 a_items a_many a_at a_sort a_start a_size a_due a_rung a_anywhere]) H := hP
  have hD : va_D A (flat [wX7 G a a_book a_spare a_images a_kept a_text a_length g14.2 a_items a_many a_at a_sort a_start a_size a_due a_rung a_anywhere]) := hD
  have e9 := Option.some.inj hf
  subst e9
  exact rt_i C hP hS rfl dX7_helped_20

/-! RX7 isTwo(II)Z -/
theorem hdX7_isTwo : yX7_isTwo.cls = RX7 ∧ yX7_isTwo.cls ≠ "java/lang/invoke/MethodHandle" ∧ yX7_isTwo.cls ≠ "java/lang/invoke/VarHandle" ∧ (parseMethodDescriptor yX7_isTwo.desc).map (fun d => d.parameters.length) = some 2 := by decide +kernel
abbrev rmX7_isTwo : Room := { frames := 2, cells := 0, slots := 0, locals := 43 }
set_option maxHeartbeats 4000000 in
set_option maxRecDepth 100000 in
theorem tX7_isTwo (l : Launch) (G : GG) (a : Nat → Nat) (a_book : Nat → Int32) (a_spare : Nat → Int32) (a_images : Nat → Int32) (a_kept : Nat → Int32) (a_text : Nat → Int32) (a_length : Int32) (a_refused : Nat → Int32) (a_items : Nat → Int32) (a_many : Int32) (a_at : Int32) (a_sort : Int32) (a_start : Int32) (a_size : Int32) (a_due : Nat → Int32) (a_rung : Nat → Int32) (a_anywhere : Nat → Int32) (p0 : Int32) (p1 : Int32) (out : Int32) (hf : fX7_isTwo a_book p0 p1 = some out) : cMi l G yX7_isTwo wsX7_isTwo rmX7_isTwo [.ref (a 0), .int p0, .int p1] (flat [wX7 G a a_book a_spare a_images a_kept a_text a_length a_refused a_items a_many a_at a_sort a_start a_size a_due a_rung a_anywhere]) out (flat [wX7 G a a_book a_spare a_images a_kept a_text a_length a_refused a_items a_many a_at a_sort a_start a_size a_due a_rung a_anywhere]) := by
  intro sz
  refine met_of (cc := cX7_isTwo) (nL := 3) (ret := (some .boolean)) (Qc := fun A9 => QI G A9 out (flat [wX7 G a a_book a_spare a_images a_kept a_text a_length a_refused a_items a_many a_at a_sort a_start a_size a_due a_rung a_anywhere])) (by decide) rfl (Nat.le_of_ble_eq_true rfl) ?_
  intro p e s m args below meth c A ls C hP hD hS hl
  obtain ⟨⟨hx, hb, hml, hown, hts⟩, hr, hlocks, hK, hN, hE, hA⟩ := id C
  have hl : lv_has ls 3 [(0, .ref (a 0)), (1, .int p0), (2, .int p1)] := hl
  unfold fX7_isTwo at hf
  refine lv_aload_n hx hb dX7_isTwo_0 rfl (lv_at hl 0 rfl) ?_
  refine lv_iload_n hx hb dX7_isTwo_1 rfl (lv_at hl 1 rfl) ?_
  obtain ⟨g1, hg1, hf⟩ := o_b hf
  refine bVi C hP hD hS (tX7_isOne l G a a_book a_spare a_images a_kept a_text a_length a_refused a_items a_many a_at a_sort a_start a_size a_due a_rung a_anywhere p0 g1 hg1) gX7_isTwo_X7_isOne rfl ⟨rfl, rfl⟩ hdX7_isOne ⟨Nat.le_of_ble_eq_true rfl, Nat.le_of_ble_eq_true rfl⟩ rfl hl.1 rfl (Nat.le_of_ble_eq_true rfl) ⟨Nat.le_of_ble_eq_true rfl, Nat.le_of_ble_eq_true rfl⟩ [0] rfl rfl rfl (setB_same _ _ _ rfl) rfl (ci := 7) (q0 := 0) rfl rfl rfl dX7_isTwo_2 (fun H locs hP hD hS => ?_)
  refine lv_if_eq (tgt := 25) hx hb dX7_isTwo_5 (by decide) (fun c2 => ?_) (fun c2 => ?_)
  · have hf := (o_i hf).1 c2
    refine lv_iconst (v := 0) hx hb dX7_isTwo_25 (by decide) ?_
    have e9 := Option.some.inj hf
    subst e9
    exact rt_z C hP hS rfl rfl dX7_isTwo_26
  have hf := (o_i hf).2 c2
  refine lv_aload_n hx hb dX7_isTwo_8 rfl (lv_at hl 0 rfl) ?_
  refine lv_iload_n hx hb dX7_isTwo_9 rfl (lv_at hl 2 rfl) ?_
  obtain ⟨g3, hg3, hf⟩ := o_b hf
  refine bVi C hP hD hS (tX7_isOne l G a a_book a_spare a_images a_kept a_text a_length a_refused a_items a_many a_at a_sort a_start a_size a_due a_rung a_anywhere p1 g3 hg3) gX7_isTwo_X7_isOne rfl ⟨rfl, rfl⟩ hdX7_isOne ⟨Nat.le_of_ble_eq_true rfl, Nat.le_of_ble_eq_true rfl⟩ rfl hl.1 rfl (Nat.le_of_ble_eq_true rfl) ⟨Nat.le_of_ble_eq_true rfl, Nat.le_of_ble_eq_true rfl⟩ [0] rfl rfl rfl (setB_same _ _ _ rfl) rfl (ci := 7) (q0 := 0) rfl rfl rfl dX7_isTwo_10 (fun H locs hP hD hS => ?_)
  refine lv_if_eq (tgt := 25) hx hb dX7_isTwo_13 (by decide) (fun c4 => ?_) (fun c4 => ?_)
  · have hf := (o_i hf).1 c4
    refine lv_iconst (v := 0) hx hb dX7_isTwo_25 (by decide) ?_
    have e9 := Option.some.inj hf
    subst e9
    exact rt_z C hP hS rfl rfl dX7_isTwo_26
  have hf := (o_i hf).2 c4
  refine lv_iload_n hx hb dX7_isTwo_16 rfl (lv_at hl 1 rfl) ?_
  refine lv_iload_n hx hb dX7_isTwo_17 rfl (lv_at hl 2 rfl) ?_
  refine lv_icmp_eq (tgt := 25) hx hb dX7_isTwo_18 (by decide) (fun c5 => ?_) (fun c5 => ?_)
  · have hf := (o_i hf).1 c5
    refine lv_iconst (v := 0) hx hb dX7_isTwo_25 (by decide) ?_
    have e9 := Option.some.inj hf
    subst e9
    exact rt_z C hP hS rfl rfl dX7_isTwo_26
  have hf := (o_i hf).2 c5
  refine lv_iconst (v := 1) hx hb dX7_isTwo_21 (by decide) ?_
  refine lv_goto (tgt := 26) hx hb dX7_isTwo_22 (by decide) ?_
  have e9 := Option.some.inj hf
  subst e9
  exact rt_z C hP hS rfl rfl dX7_isTwo_26

/-! RX7 favours(II)I -/
theorem iiX7_favours_X7 : ∀ w ∈ wsX70, w ∈ wsX7_favours := by decide +kernel
theorem mmX7_favours_1 : (Cond.fieldLink RX7 7 "BlindBellsModel" "book" "[I") ∈ wsX7_favours := by decide +kernel
theorem hdX7_favours : yX7_favours.cls = RX7 ∧ yX7_favours.cls ≠ "java/lang/invoke/MethodHandle" ∧ yX7_favours.cls ≠ "java/lang/invoke/VarHandle" ∧ (parseMethodDescriptor yX7_favours.desc).map (fun d => d.parameters.length) = some 2 := by decide +kernel
abbrev rmX7_favours : Room := { frames := 4, cells := 0, slots := 0, locals := 98 }
set_option maxHeartbeats 4000000 in
set_option maxRecDepth 100000 in
theorem tX7_favours (l : Launch) (G : GG) (a : Nat → Nat) (a_book : Nat → Int32) (a_spare : Nat → Int32) (a_images : Nat → Int32) (a_kept : Nat → Int32) (a_text : Nat → Int32) (a_length : Int32) (a_refused : Nat → Int32) (a_items : Nat → Int32) (a_many : Int32) (a_at : Int32) (a_sort : Int32) (a_start : Int32) (a_size : Int32) (a_due : Nat → Int32) (a_rung : Nat → Int32) (a_anywhere : Nat → Int32) (p0 : Int32) (p1 : Int32) (out : Int32 × (Nat → Int32) × (Nat → Int32) × (Nat → Int32)) (hf : fX7_favours a_book a_refused a_due a_rung p0 p1 = some out) : cMi l G yX7_favours wsX7_favours rmX7_favours [.ref (a 0), .int p0, .int p1] (flat [wX7 G a a_book a_spare a_images a_kept a_text a_length a_refused a_items a_many a_at a_sort a_start a_size a_due a_rung a_anywhere]) out.1 (flat [wX7 G a a_book a_spare a_images a_kept a_text a_length out.2.1 a_items a_many a_at a_sort a_start a_size out.2.2.1 out.2.2.2 a_anywhere]) := by
  intro sz
  refine met_of (cc := cX7_favours) (nL := 3) (ret := (some .int)) (Qc := fun A9 => QI G A9 out.1 (flat [wX7 G a a_book a_spare a_images a_kept a_text a_length out.2.1 a_items a_many a_at a_sort a_start a_size out.2.2.1 out.2.2.2 a_anywhere])) (by decide) rfl (Nat.le_of_ble_eq_true rfl) ?_
  intro p e s m args below meth c A ls C hP hD hS hl
  obtain ⟨⟨hx, hb, hml, hown, hts⟩, hr, hlocks, hK, hN, hE, hA⟩ := id C
  have hl : lv_has ls 3 [(0, .ref (a 0)), (1, .int p0), (2, .int p1)] := hl
  unfold fX7_favours at hf
  refine lv_aload_n hx hb dX7_favours_0 rfl (lv_at hl 0 rfl) ?_
  refine lv_iload_n hx hb dX7_favours_1 rfl (lv_at hl 1 rfl) ?_
  refine lv_iload_n hx hb dX7_favours_2 rfl (lv_at hl 2 rfl) ?_
  obtain ⟨g1, hg1, hf⟩ := o_b hf
  refine bVi C hP hD hS (tX7_isTwo l G a a_book a_spare a_images a_kept a_text a_length a_refused a_items a_many a_at a_sort a_start a_size a_due a_rung a_anywhere p0 p1 g1 hg1) gX7_favours_X7_isTwo rfl ⟨rfl, rfl⟩ hdX7_isTwo ⟨Nat.le_of_ble_eq_true rfl, Nat.le_of_ble_eq_true rfl⟩ rfl hl.1 rfl (Nat.le_of_ble_eq_true rfl) ⟨Nat.le_of_ble_eq_true rfl, Nat.le_of_ble_eq_true rfl⟩ [0] rfl rfl rfl (setB_same _ _ _ rfl) rfl (ci := 7) (q0 := 0) rfl rfl rfl dX7_favours_3 (fun H locs hP hD hS => ?_)
  refine lv_if_ne (tgt := 14) hx hb dX7_favours_6 (by decide) (fun c2 => ?_) (fun c2 => ?_)
  · have hf := (o_i hf).2 c2
    refine lv_aload_n hx hb dX7_favours_14 rfl (lv_at hl 0 rfl) ?_
    obtain ⟨g3, hg3, hf⟩ := o_b hf
    refine bVv (Bs' := [wX7 G a a_book a_spare a_images a_kept a_text a_length a_refused a_items a_many a_at a_sort a_start a_size g3.1 g3.2 a_anywhere]) C hP hD hS (tX7_runs l G a a_book a_spare a_images a_kept a_text a_length a_refused a_items a_many a_at a_sort a_start a_size a_due a_rung a_anywhere g3 hg3) gX7_favours_X7_runs rfl ⟨rfl, rfl⟩ hdX7_runs ⟨Nat.le_of_ble_eq_true rfl, Nat.le_of_ble_eq_true rfl⟩ rfl hl.1 rfl (Nat.le_of_ble_eq_true rfl) ⟨Nat.le_of_ble_eq_true rfl, Nat.le_of_ble_eq_true rfl⟩ [0] rfl rfl rfl rfl rfl (ci := 7) (q0 := 0) rfl rfl rfl dX7_favours_15 (fun H locs hP hD hS => ?_)
    have hP : va_P G.1 vwCl (flat [wX7 G a a_book a_spare a_images a_kept a_text a_length a_refused a_items a_many a_at a_sort a_start a_size g3.1 g3.2 a_anywhere]) H := hP
    have hD : va_D A (flat [wX7 G a a_book a_spare a_images a_kept a_text a_length a_refused a_items a_many a_at a_sort a_start a_size g3.1 g3.2 a_anywhere]) := hD
    refine lv_aload_n hx hb dX7_favours_18 rfl (lv_at hl 0 rfl) ?_
    refine lv_iload_n hx hb dX7_favours_19 rfl (lv_at hl 1 rfl) ?_
    refine lv_iload_n hx hb dX7_favours_20 rfl (lv_at hl 2 rfl) ?_
    refine lv_aload_n hx hb dX7_favours_21 rfl (lv_at hl 0 rfl) ?_
    refine va_get (D := G.1) (ci := 7) (v := .ref (a 1)) (C := RX7) (T := TX7) (N := 16) hx hb hts iiX7_favours_X7 hown hK hP 0 rfl rfl 0 (by decide) (hts _ mmX7_favours_1) (fun _ h9 => h9) rfl dX7_favours_22 ?_
    refine lv_iconst (v := 2) hx hb dX7_favours_25 (by decide) ?_
    obtain ⟨z4, hz4, hf⟩ := o_b hf
    refine k_iald hx hb hK hP 1 0 rfl rfl hz4 dX7_favours_26 ?_
    refine at_pc (pc' := 27) rfl ?_
    obtain ⟨g5, hg5, hf⟩ := o_b hf
    refine bVi C hP hD hS (tX7_rangAhead l G a a_book a_spare a_images a_kept a_text a_length a_refused a_items a_many a_at a_sort a_start a_size g3.1 g3.2 a_anywhere p0 p1 z4 g5 hg5) gX7_favours_X7_rangAhead rfl ⟨rfl, rfl⟩ hdX7_rangAhead ⟨Nat.le_of_ble_eq_true rfl, Nat.le_of_ble_eq_true rfl⟩ rfl hl.1 rfl (Nat.le_of_ble_eq_true rfl) ⟨Nat.le_of_ble_eq_true rfl, Nat.le_of_ble_eq_true rfl⟩ [0] rfl rfl rfl (setB_same _ _ _ rfl) rfl (ci := 7) (q0 := 0) rfl rfl rfl dX7_favours_27 (fun H locs hP hD hS => ?_)
    have e9 := Option.some.inj hf
    subst e9
    exact rt_i C hP hS rfl dX7_favours_30
  have hf := (o_i hf).1 c2
  refine lv_aload_n hx hb dX7_favours_9 rfl (lv_at hl 0 rfl) ?_
  obtain ⟨g6, hg6, hf⟩ := o_b hf
  refine bVi (Bs' := [wX7 G a a_book a_spare a_images a_kept a_text a_length g6.2 a_items a_many a_at a_sort a_start a_size a_due a_rung a_anywhere]) C hP hD hS (tX7_bad l G a a_book a_spare a_images a_kept a_text a_length a_refused a_items a_many a_at a_sort a_start a_size a_due a_rung a_anywhere g6 hg6) gX7_favours_X7_bad rfl ⟨rfl, rfl⟩ hdX7_bad ⟨Nat.le_of_ble_eq_true rfl, Nat.le_of_ble_eq_true rfl⟩ rfl hl.1 rfl (Nat.le_of_ble_eq_true rfl) ⟨Nat.le_of_ble_eq_true rfl, Nat.le_of_ble_eq_true rfl⟩ [0] rfl rfl rfl rfl rfl (ci := 7) (q0 := 0) rfl rfl rfl dX7_favours_10 (fun H locs hP hD hS => ?_)
  have hP : va_P G.1 vwCl (flat [wX7 G a a_book a_spare a_images a_kept a_text a_length g6.2 a_items a_many a_at a_sort a_start a_size a_due a_rung a_anywhere]) H := hP
  have hD : va_D A (flat [wX7 G a a_book a_spare a_images a_kept a_text a_length g6.2 a_items a_many a_at a_sort a_start a_size a_due a_rung a_anywhere]) := hD
  have e9 := Option.some.inj hf
  subst e9
  exact rt_i C hP hS rfl dX7_favours_13

/-! RX7 last(II)I -/
theorem iiX7_last_X7 : ∀ w ∈ wsX70, w ∈ wsX7_last := by decide +kernel
theorem mmX7_last_1 : (Cond.fieldLink RX7 7 "BlindBellsModel" "book" "[I") ∈ wsX7_last := by decide +kernel
theorem hdX7_last : yX7_last.cls = RX7 ∧ yX7_last.cls ≠ "java/lang/invoke/MethodHandle" ∧ yX7_last.cls ≠ "java/lang/invoke/VarHandle" ∧ (parseMethodDescriptor yX7_last.desc).map (fun d => d.parameters.length) = some 2 := by decide +kernel
abbrev rmX7_last : Room := { frames := 4, cells := 0, slots := 0, locals := 98 }
set_option maxHeartbeats 4000000 in
set_option maxRecDepth 100000 in
theorem tX7_last (l : Launch) (G : GG) (a : Nat → Nat) (a_book : Nat → Int32) (a_spare : Nat → Int32) (a_images : Nat → Int32) (a_kept : Nat → Int32) (a_text : Nat → Int32) (a_length : Int32) (a_refused : Nat → Int32) (a_items : Nat → Int32) (a_many : Int32) (a_at : Int32) (a_sort : Int32) (a_start : Int32) (a_size : Int32) (a_due : Nat → Int32) (a_rung : Nat → Int32) (a_anywhere : Nat → Int32) (p0 : Int32) (p1 : Int32) (out : Int32 × (Nat → Int32) × (Nat → Int32) × (Nat → Int32)) (hf : fX7_last a_book a_refused a_due a_rung p0 p1 = some out) : cMi l G yX7_last wsX7_last rmX7_last [.ref (a 0), .int p0, .int p1] (flat [wX7 G a a_book a_spare a_images a_kept a_text a_length a_refused a_items a_many a_at a_sort a_start a_size a_due a_rung a_anywhere]) out.1 (flat [wX7 G a a_book a_spare a_images a_kept a_text a_length out.2.1 a_items a_many a_at a_sort a_start a_size out.2.2.1 out.2.2.2 a_anywhere]) := by
  intro sz
  refine met_of (cc := cX7_last) (nL := 3) (ret := (some .int)) (Qc := fun A9 => QI G A9 out.1 (flat [wX7 G a a_book a_spare a_images a_kept a_text a_length out.2.1 a_items a_many a_at a_sort a_start a_size out.2.2.1 out.2.2.2 a_anywhere])) (by decide) rfl (Nat.le_of_ble_eq_true rfl) ?_
  intro p e s m args below meth c A ls C hP hD hS hl
  obtain ⟨⟨hx, hb, hml, hown, hts⟩, hr, hlocks, hK, hN, hE, hA⟩ := id C
  have hl : lv_has ls 3 [(0, .ref (a 0)), (1, .int p0), (2, .int p1)] := hl
  unfold fX7_last at hf
  refine lv_aload_n hx hb dX7_last_0 rfl (lv_at hl 0 rfl) ?_
  refine lv_iload_n hx hb dX7_last_1 rfl (lv_at hl 1 rfl) ?_
  refine lv_iload_n hx hb dX7_last_2 rfl (lv_at hl 2 rfl) ?_
  obtain ⟨g1, hg1, hf⟩ := o_b hf
  refine bVi C hP hD hS (tX7_isTwo l G a a_book a_spare a_images a_kept a_text a_length a_refused a_items a_many a_at a_sort a_start a_size a_due a_rung a_anywhere p0 p1 g1 hg1) gX7_last_X7_isTwo rfl ⟨rfl, rfl⟩ hdX7_isTwo ⟨Nat.le_of_ble_eq_true rfl, Nat.le_of_ble_eq_true rfl⟩ rfl hl.1 rfl (Nat.le_of_ble_eq_true rfl) ⟨Nat.le_of_ble_eq_true rfl, Nat.le_of_ble_eq_true rfl⟩ [0] rfl rfl rfl (setB_same _ _ _ rfl) rfl (ci := 7) (q0 := 0) rfl rfl rfl dX7_last_3 (fun H locs hP hD hS => ?_)
  refine lv_if_ne (tgt := 14) hx hb dX7_last_6 (by decide) (fun c2 => ?_) (fun c2 => ?_)
  · have hf := (o_i hf).2 c2
    refine lv_aload_n hx hb dX7_last_14 rfl (lv_at hl 0 rfl) ?_
    obtain ⟨g3, hg3, hf⟩ := o_b hf
    refine bVv (Bs' := [wX7 G a a_book a_spare a_images a_kept a_text a_length a_refused a_items a_many a_at a_sort a_start a_size g3.1 g3.2 a_anywhere]) C hP hD hS (tX7_runs l G a a_book a_spare a_images a_kept a_text a_length a_refused a_items a_many a_at a_sort a_start a_size a_due a_rung a_anywhere g3 hg3) gX7_last_X7_runs rfl ⟨rfl, rfl⟩ hdX7_runs ⟨Nat.le_of_ble_eq_true rfl, Nat.le_of_ble_eq_true rfl⟩ rfl hl.1 rfl (Nat.le_of_ble_eq_true rfl) ⟨Nat.le_of_ble_eq_true rfl, Nat.le_of_ble_eq_true rfl⟩ [0] rfl rfl rfl rfl rfl (ci := 7) (q0 := 0) rfl rfl rfl dX7_last_15 (fun H locs hP hD hS => ?_)
    have hP : va_P G.1 vwCl (flat [wX7 G a a_book a_spare a_images a_kept a_text a_length a_refused a_items a_many a_at a_sort a_start a_size g3.1 g3.2 a_anywhere]) H := hP
    have hD : va_D A (flat [wX7 G a a_book a_spare a_images a_kept a_text a_length a_refused a_items a_many a_at a_sort a_start a_size g3.1 g3.2 a_anywhere]) := hD
    refine lv_aload_n hx hb dX7_last_18 rfl (lv_at hl 0 rfl) ?_
    refine lv_iload_n hx hb dX7_last_19 rfl (lv_at hl 1 rfl) ?_
    refine lv_iload_n hx hb dX7_last_20 rfl (lv_at hl 2 rfl) ?_
    refine lv_aload_n hx hb dX7_last_21 rfl (lv_at hl 0 rfl) ?_
    refine va_get (D := G.1) (ci := 7) (v := .ref (a 1)) (C := RX7) (T := TX7) (N := 16) hx hb hts iiX7_last_X7 hown hK hP 0 rfl rfl 0 (by decide) (hts _ mmX7_last_1) (fun _ h9 => h9) rfl dX7_last_22 ?_
    refine lv_iconst (v := 2) hx hb dX7_last_25 (by decide) ?_
    obtain ⟨z4, hz4, hf⟩ := o_b hf
    refine k_iald hx hb hK hP 1 0 rfl rfl hz4 dX7_last_26 ?_
    refine at_pc (pc' := 27) rfl ?_
    obtain ⟨g5, hg5, hf⟩ := o_b hf
    refine bVi C hP hD hS (tX7_lastAhead l G a a_book a_spare a_images a_kept a_text a_length a_refused a_items a_many a_at a_sort a_start a_size g3.1 g3.2 a_anywhere p0 p1 z4 g5 hg5) gX7_last_X7_lastAhead rfl ⟨rfl, rfl⟩ hdX7_lastAhead ⟨Nat.le_of_ble_eq_true rfl, Nat.le_of_ble_eq_true rfl⟩ rfl hl.1 rfl (Nat.le_of_ble_eq_true rfl) ⟨Nat.le_of_ble_eq_true rfl, Nat.le_of_ble_eq_true rfl⟩ [0] rfl rfl rfl (setB_same _ _ _ rfl) rfl (ci := 7) (q0 := 0) rfl rfl rfl dX7_last_27 (fun H locs hP hD hS => ?_)
    have e9 := Option.some.inj hf
    subst e9
    exact rt_i C hP hS rfl dX7_last_30
  have hf := (o_i hf).1 c2
  refine lv_aload_n hx hb dX7_last_9 rfl (lv_at hl 0 rfl) ?_
  obtain ⟨g6, hg6, hf⟩ := o_b hf
  refine bVi (Bs' := [wX7 G a a_book a_spare a_images a_kept a_text a_length g6.2 a_items a_many a_at a_sort a_start a_size a_due a_rung a_anywhere]) C hP hD hS (tX7_bad l G a a_book a_spare a_images a_kept a_text a_length a_refused a_items a_many a_at a_sort a_start a_size a_due a_rung a_anywhere g6 hg6) gX7_last_X7_bad rfl ⟨rfl, rfl⟩ hdX7_bad ⟨Nat.le_of_ble_eq_true rfl, Nat.le_of_ble_eq_true rfl⟩ rfl hl.1 rfl (Nat.le_of_ble_eq_true rfl) ⟨Nat.le_of_ble_eq_true rfl, Nat.le_of_ble_eq_true rfl⟩ [0] rfl rfl rfl rfl rfl (ci := 7) (q0 := 0) rfl rfl rfl dX7_last_10 (fun H locs hP hD hS => ?_)
  have hP : va_P G.1 vwCl (flat [wX7 G a a_book a_spare a_images a_kept a_text a_length g6.2 a_items a_many a_at a_sort a_start a_size a_due a_rung a_anywhere]) H := hP
  have hD : va_D A (flat [wX7 G a a_book a_spare a_images a_kept a_text a_length g6.2 a_items a_many a_at a_sort a_start a_size a_due a_rung a_anywhere]) := hD
  have e9 := Option.some.inj hf
  subst e9
  exact rt_i C hP hS rfl dX7_last_13

/-! RX7 digit(III)I -/
theorem iiX7_digit_X7 : ∀ w ∈ wsX70, w ∈ wsX7_digit := by decide +kernel
theorem mmX7_digit_1 : (Cond.fieldLink RX7 7 "BlindBellsModel" "book" "[I") ∈ wsX7_digit := by decide +kernel
theorem hdX7_digit : yX7_digit.cls = RX7 ∧ yX7_digit.cls ≠ "java/lang/invoke/MethodHandle" ∧ yX7_digit.cls ≠ "java/lang/invoke/VarHandle" ∧ (parseMethodDescriptor yX7_digit.desc).map (fun d => d.parameters.length) = some 3 := by decide +kernel
abbrev rmX7_digit : Room := { frames := 0, cells := 0, slots := 0, locals := 0 }
set_option maxHeartbeats 4000000 in
set_option maxRecDepth 100000 in
theorem lX7_digit_8 {p : Program} {e : Env} {s : State} {m : MethodId} {args : Array Value} {below : List Frame} {meth : Method} {c : Code} {A : Nat → Prop} (l : Launch) (G : GG) (C : Cx p m c cX7_digit 6 s args wsX7_digit RX7 meth (some .int) G A) (a : Nat → Nat) (a_book : Nat → Int32) (a_spare : Nat → Int32) (a_images : Nat → Int32) (a_kept : Nat → Int32) (a_text : Nat → Int32) (a_length : Int32) (a_refused : Nat → Int32) (a_items : Nat → Int32) (a_many : Int32) (a_at : Int32) (a_sort : Int32) (a_start : Int32) (a_size : Int32) (a_due : Nat → Int32) (a_rung : Nat → Int32) (a_anywhere : Nat → Int32) (p0 : Int32) (p1 : Int32) (p2 : Int32) (out : Int32) (kx : Int32 → Int32 → Option (Int32)) (HX : ∀ (x4_8 : Int32) (x5_8 : Int32) (H : Heap) (locs : List Loc) (ls : Array Slot), va_P G.1 vwCl (flat [wX7 G a a_book a_spare a_images a_kept a_text a_length a_refused a_items a_many a_at a_sort a_start a_size a_due a_rung a_anywhere]) H → va_D A (flat [wX7 G a a_book a_spare a_images a_kept a_text a_length a_refused a_items a_many a_at a_sort a_start a_size a_due a_rung a_anywhere]) → va_S A s.heap H locs → lv_has ls 6 [(0, .ref (a 0)), (1, .int p0), (2, .int p1), (3, .int p2), (4, .int x4_8), (5, .int x5_8)] → kx x4_8 x5_8 = some out → W p l e rmX7_digit s m args below meth c H locs 0 0 (MQ below (QI G A out (flat [wX7 G a a_book a_spare a_images a_kept a_text a_length a_refused a_items a_many a_at a_sort a_start a_size a_due a_rung a_anywhere])) args s 0 0 A) (F0 m 31 ls [])) : ∀ (n : Nat) (x4_8 : Int32) (x5_8 : Int32) (H : Heap) (locs : List Loc) (ls : Array Slot), va_P G.1 vwCl (flat [wX7 G a a_book a_spare a_images a_kept a_text a_length a_refused a_items a_many a_at a_sort a_start a_size a_due a_rung a_anywhere]) H → va_D A (flat [wX7 G a a_book a_spare a_images a_kept a_text a_length a_refused a_items a_many a_at a_sort a_start a_size a_due a_rung a_anywhere]) → va_S A s.heap H locs → lv_has ls 6 [(0, .ref (a 0)), (1, .int p0), (2, .int p1), (3, .int p2), (4, .int x4_8), (5, .int x5_8)] → fX7_digit_8 p2 a_book kx n x4_8 x5_8 = some out → W p l e rmX7_digit s m args below meth c H locs 0 0 (MQ below (QI G A out (flat [wX7 G a a_book a_spare a_images a_kept a_text a_length a_refused a_items a_many a_at a_sort a_start a_size a_due a_rung a_anywhere])) args s 0 0 A) (F0 m 8 ls []) := by
  obtain ⟨⟨hx, hb, hml, hown, hts⟩, hr, hlocks, hK, hN, hE, hA⟩ := id C
  intro n
  induction n with
  | zero =>
    intro x4_8 x5_8 H locs ls hP hD hS hl hf
    exact absurd (show (none : Option (Int32)) = some out from hf) (by intro q9; cases q9)
  | succ n ih =>
    intro x4_8 x5_8 H locs ls hP hD hS hl hf
    rw [fX7_digit_8] at hf
    refine lv_iload hx hb dX7_digit_8 (lv_at hl 5 rfl) ?_
    refine lv_iload_n hx hb dX7_digit_10 rfl (lv_at hl 3 rfl) ?_
    refine lv_icmp_le (tgt := 31) hx hb dX7_digit_11 (by decide) (fun c1 => ?_) (fun c1 => ?_)
    · have hf := (o_i hf).1 c1
      exact HX _ _ _ _ _ hP hD hS (lv_sub hl [0, 1, 2, 3, 4, 5] rfl) hf
    have hf := (o_i hf).2 c1
    refine lv_iload hx hb dX7_digit_14 (lv_at hl 4 rfl) ?_
    refine lv_aload_n hx hb dX7_digit_16 rfl (lv_at hl 0 rfl) ?_
    refine va_get (D := G.1) (ci := 7) (v := .ref (a 1)) (C := RX7) (T := TX7) (N := 16) hx hb hts iiX7_digit_X7 hown hK hP 0 rfl rfl 0 (by decide) (hts _ mmX7_digit_1) (fun _ h9 => h9) rfl dX7_digit_17 ?_
    refine lv_iconst (v := 0) hx hb dX7_digit_20 (by decide) ?_
    obtain ⟨z2, hz2, hf⟩ := o_b hf
    refine k_iald hx hb hK hP 1 0 rfl rfl hz2 dX7_digit_21 ?_
    obtain ⟨z3, hz3, hf⟩ := o_b hf
    refine k_idiv hx hb hz3 dX7_digit_22 ?_
    refine lv_istore (lv' := [(4, .int z3), (0, .ref (a 0)), (1, .int p0), (2, .int p1), (3, .int p2), (5, .int x5_8)]) hx hb dX7_digit_23 hl (by decide) rfl (fun ls hl => ?_)
    refine lv_iinc (v := x5_8 + (-1)) (lv' := [(5, .int (x5_8 + (-1))), (4, .int z3), (0, .ref (a 0)), (1, .int p0), (2, .int p1), (3, .int p2)]) hx hb dX7_digit_25 hl (k := 5) rfl (congrArg (fun z => x5_8 + z) (by decide)) (by decide) rfl (fun ls hl => ?_)
    refine lv_goto (tgt := 8) hx hb dX7_digit_28 (by decide) ?_
    exact ih _ _ _ _ _ hP hD hS (lv_sub hl [2, 3, 4, 5, 1, 0] rfl) hf
set_option maxHeartbeats 4000000 in
set_option maxRecDepth 100000 in
theorem tX7_digit (l : Launch) (G : GG) (a : Nat → Nat) (a_book : Nat → Int32) (a_spare : Nat → Int32) (a_images : Nat → Int32) (a_kept : Nat → Int32) (a_text : Nat → Int32) (a_length : Int32) (a_refused : Nat → Int32) (a_items : Nat → Int32) (a_many : Int32) (a_at : Int32) (a_sort : Int32) (a_start : Int32) (a_size : Int32) (a_due : Nat → Int32) (a_rung : Nat → Int32) (a_anywhere : Nat → Int32) (p0 : Int32) (p1 : Int32) (p2 : Int32) (out : Int32) (hf : fX7_digit a_book p0 p1 p2 = some out) : cMi l G yX7_digit wsX7_digit rmX7_digit [.ref (a 0), .int p0, .int p1, .int p2] (flat [wX7 G a a_book a_spare a_images a_kept a_text a_length a_refused a_items a_many a_at a_sort a_start a_size a_due a_rung a_anywhere]) out (flat [wX7 G a a_book a_spare a_images a_kept a_text a_length a_refused a_items a_many a_at a_sort a_start a_size a_due a_rung a_anywhere]) := by
  intro sz
  refine met_of (cc := cX7_digit) (nL := 6) (ret := (some .int)) (Qc := fun A9 => QI G A9 out (flat [wX7 G a a_book a_spare a_images a_kept a_text a_length a_refused a_items a_many a_at a_sort a_start a_size a_due a_rung a_anywhere])) (by decide) rfl (Nat.le_of_ble_eq_true rfl) ?_
  intro p e s m args below meth c A ls C hP hD hS hl
  obtain ⟨⟨hx, hb, hml, hown, hts⟩, hr, hlocks, hK, hN, hE, hA⟩ := id C
  have hl : lv_has ls 6 [(0, .ref (a 0)), (1, .int p0), (2, .int p1), (3, .int p2)] := hl
  unfold fX7_digit at hf
  refine lv_iload_n hx hb dX7_digit_0 rfl (lv_at hl 1 rfl) ?_
  refine lv_istore (lv' := [(4, .int p0), (0, .ref (a 0)), (1, .int p0), (2, .int p1), (3, .int p2)]) hx hb dX7_digit_1 hl (by decide) rfl (fun ls hl => ?_)
  refine lv_iload_n hx hb dX7_digit_3 rfl (lv_at hl 3 rfl) ?_
  refine lv_iconst (v := 1) hx hb dX7_digit_4 (by decide) ?_
  refine lv_isub hx hb dX7_digit_5 ?_
  refine lv_istore (lv' := [(5, .int (p1 - 1)), (4, .int p0), (0, .ref (a 0)), (1, .int p0), (2, .int p1), (3, .int p2)]) hx hb dX7_digit_6 hl (by decide) rfl (fun ls hl => ?_)
  refine lX7_digit_8 l G C a a_book a_spare a_images a_kept a_text a_length a_refused a_items a_many a_at a_sort a_start a_size a_due a_rung a_anywhere p0 p1 p2 out _ (fun x4_8_4 x5_8_5 H locs ls hP hD hS hl hf => ?_) fu p0 (p1 - 1) _ _ _ hP hD hS (lv_sub hl [2, 3, 4, 5, 1, 0] rfl) hf
  refine lv_iload hx hb dX7_digit_31 (lv_at hl 4 rfl) ?_
  refine lv_aload_n hx hb dX7_digit_33 rfl (lv_at hl 0 rfl) ?_
  refine va_get (D := G.1) (ci := 7) (v := .ref (a 1)) (C := RX7) (T := TX7) (N := 16) hx hb hts iiX7_digit_X7 hown hK hP 0 rfl rfl 0 (by decide) (hts _ mmX7_digit_1) (fun _ h9 => h9) rfl dX7_digit_34 ?_
  refine lv_iconst (v := 0) hx hb dX7_digit_37 (by decide) ?_
  obtain ⟨z6, hz6, hf⟩ := o_b hf
  refine k_iald hx hb hK hP 1 0 rfl rfl hz6 dX7_digit_38 ?_
  obtain ⟨z7, hz7, hf⟩ := o_b hf
  refine k_irem hx hb hz7 dX7_digit_39 ?_
  have e9 := Option.some.inj hf
  subst e9
  exact rt_i C hP hS rfl dX7_digit_40

/-! RX7 rows(I)I -/
theorem iiX7_rows_X7 : ∀ w ∈ wsX70, w ∈ wsX7_rows := by decide +kernel
theorem mmX7_rows_1 : (Cond.fieldLink RX7 7 "BlindBellsModel" "book" "[I") ∈ wsX7_rows := by decide +kernel
theorem hdX7_rows : yX7_rows.cls = RX7 ∧ yX7_rows.cls ≠ "java/lang/invoke/MethodHandle" ∧ yX7_rows.cls ≠ "java/lang/invoke/VarHandle" ∧ (parseMethodDescriptor yX7_rows.desc).map (fun d => d.parameters.length) = some 1 := by decide +kernel
abbrev rmX7_rows : Room := { frames := 0, cells := 0, slots := 0, locals := 0 }
set_option maxHeartbeats 4000000 in
set_option maxRecDepth 100000 in
theorem lX7_rows_4 {p : Program} {e : Env} {s : State} {m : MethodId} {args : Array Value} {below : List Frame} {meth : Method} {c : Code} {A : Nat → Prop} (l : Launch) (G : GG) (C : Cx p m c cX7_rows 4 s args wsX7_rows RX7 meth (some .int) G A) (a : Nat → Nat) (a_book : Nat → Int32) (a_spare : Nat → Int32) (a_images : Nat → Int32) (a_kept : Nat → Int32) (a_text : Nat → Int32) (a_length : Int32) (a_refused : Nat → Int32) (a_items : Nat → Int32) (a_many : Int32) (a_at : Int32) (a_sort : Int32) (a_start : Int32) (a_size : Int32) (a_due : Nat → Int32) (a_rung : Nat → Int32) (a_anywhere : Nat → Int32) (p0 : Int32) (out : Int32) (kx : Int32 → Int32 → Option (Int32)) (HX : ∀ (x2_4 : Int32) (x3_4 : Int32) (H : Heap) (locs : List Loc) (ls : Array Slot), va_P G.1 vwCl (flat [wX7 G a a_book a_spare a_images a_kept a_text a_length a_refused a_items a_many a_at a_sort a_start a_size a_due a_rung a_anywhere]) H → va_D A (flat [wX7 G a a_book a_spare a_images a_kept a_text a_length a_refused a_items a_many a_at a_sort a_start a_size a_due a_rung a_anywhere]) → va_S A s.heap H locs → lv_has ls 4 [(0, .ref (a 0)), (1, .int p0), (2, .int x2_4), (3, .int x3_4)] → kx x2_4 x3_4 = some out → W p l e rmX7_rows s m args below meth c H locs 0 0 (MQ below (QI G A out (flat [wX7 G a a_book a_spare a_images a_kept a_text a_length a_refused a_items a_many a_at a_sort a_start a_size a_due a_rung a_anywhere])) args s 0 0 A) (F0 m 24 ls [])) : ∀ (n : Nat) (x2_4 : Int32) (x3_4 : Int32) (H : Heap) (locs : List Loc) (ls : Array Slot), va_P G.1 vwCl (flat [wX7 G a a_book a_spare a_images a_kept a_text a_length a_refused a_items a_many a_at a_sort a_start a_size a_due a_rung a_anywhere]) H → va_D A (flat [wX7 G a a_book a_spare a_images a_kept a_text a_length a_refused a_items a_many a_at a_sort a_start a_size a_due a_rung a_anywhere]) → va_S A s.heap H locs → lv_has ls 4 [(0, .ref (a 0)), (1, .int p0), (2, .int x2_4), (3, .int x3_4)] → fX7_rows_4 p0 a_book kx n x2_4 x3_4 = some out → W p l e rmX7_rows s m args below meth c H locs 0 0 (MQ below (QI G A out (flat [wX7 G a a_book a_spare a_images a_kept a_text a_length a_refused a_items a_many a_at a_sort a_start a_size a_due a_rung a_anywhere])) args s 0 0 A) (F0 m 4 ls []) := by
  obtain ⟨⟨hx, hb, hml, hown, hts⟩, hr, hlocks, hK, hN, hE, hA⟩ := id C
  intro n
  induction n with
  | zero =>
    intro x2_4 x3_4 H locs ls hP hD hS hl hf
    exact absurd (show (none : Option (Int32)) = some out from hf) (by intro q9; cases q9)
  | succ n ih =>
    intro x2_4 x3_4 H locs ls hP hD hS hl hf
    rw [fX7_rows_4] at hf
    refine lv_iload_n hx hb dX7_rows_4 rfl (lv_at hl 3 rfl) ?_
    refine lv_iload_n hx hb dX7_rows_5 rfl (lv_at hl 1 rfl) ?_
    refine lv_icmp_ge (tgt := 24) hx hb dX7_rows_6 (by decide) (fun c1 => ?_) (fun c1 => ?_)
    · have hf := (o_i hf).1 c1
      exact HX _ _ _ _ _ hP hD hS (lv_sub hl [0, 1, 2, 3] rfl) hf
    have hf := (o_i hf).2 c1
    refine lv_iload_n hx hb dX7_rows_9 rfl (lv_at hl 2 rfl) ?_
    refine lv_aload_n hx hb dX7_rows_10 rfl (lv_at hl 0 rfl) ?_
    refine va_get (D := G.1) (ci := 7) (v := .ref (a 1)) (C := RX7) (T := TX7) (N := 16) hx hb hts iiX7_rows_X7 hown hK hP 0 rfl rfl 0 (by decide) (hts _ mmX7_rows_1) (fun _ h9 => h9) rfl dX7_rows_11 ?_
    refine lv_iconst (v := 0) hx hb dX7_rows_14 (by decide) ?_
    obtain ⟨z2, hz2, hf⟩ := o_b hf
    refine k_iald hx hb hK hP 1 0 rfl rfl hz2 dX7_rows_15 ?_
    refine lv_imul hx hb dX7_rows_16 ?_
    refine lv_istore_n (lv' := [(2, .int (x2_4 * z2)), (0, .ref (a 0)), (1, .int p0), (3, .int x3_4)]) hx hb dX7_rows_17 rfl hl (by decide) rfl (fun ls hl => ?_)
    refine lv_iinc (v := x3_4 + 1) (lv' := [(3, .int (x3_4 + 1)), (2, .int (x2_4 * z2)), (0, .ref (a 0)), (1, .int p0)]) hx hb dX7_rows_18 hl (k := 3) rfl (congrArg (fun z => x3_4 + z) (by decide)) (by decide) rfl (fun ls hl => ?_)
    refine lv_goto (tgt := 4) hx hb dX7_rows_21 (by decide) ?_
    exact ih _ _ _ _ _ hP hD hS (lv_sub hl [2, 3, 1, 0] rfl) hf
set_option maxHeartbeats 4000000 in
set_option maxRecDepth 100000 in
theorem tX7_rows (l : Launch) (G : GG) (a : Nat → Nat) (a_book : Nat → Int32) (a_spare : Nat → Int32) (a_images : Nat → Int32) (a_kept : Nat → Int32) (a_text : Nat → Int32) (a_length : Int32) (a_refused : Nat → Int32) (a_items : Nat → Int32) (a_many : Int32) (a_at : Int32) (a_sort : Int32) (a_start : Int32) (a_size : Int32) (a_due : Nat → Int32) (a_rung : Nat → Int32) (a_anywhere : Nat → Int32) (p0 : Int32) (out : Int32) (hf : fX7_rows a_book p0 = some out) : cMi l G yX7_rows wsX7_rows rmX7_rows [.ref (a 0), .int p0] (flat [wX7 G a a_book a_spare a_images a_kept a_text a_length a_refused a_items a_many a_at a_sort a_start a_size a_due a_rung a_anywhere]) out (flat [wX7 G a a_book a_spare a_images a_kept a_text a_length a_refused a_items a_many a_at a_sort a_start a_size a_due a_rung a_anywhere]) := by
  intro sz
  refine met_of (cc := cX7_rows) (nL := 4) (ret := (some .int)) (Qc := fun A9 => QI G A9 out (flat [wX7 G a a_book a_spare a_images a_kept a_text a_length a_refused a_items a_many a_at a_sort a_start a_size a_due a_rung a_anywhere])) (by decide) rfl (Nat.le_of_ble_eq_true rfl) ?_
  intro p e s m args below meth c A ls C hP hD hS hl
  obtain ⟨⟨hx, hb, hml, hown, hts⟩, hr, hlocks, hK, hN, hE, hA⟩ := id C
  have hl : lv_has ls 4 [(0, .ref (a 0)), (1, .int p0)] := hl
  unfold fX7_rows at hf
  refine lv_iconst (v := 1) hx hb dX7_rows_0 (by decide) ?_
  refine lv_istore_n (lv' := [(2, .int 1), (0, .ref (a 0)), (1, .int p0)]) hx hb dX7_rows_1 rfl hl (by decide) rfl (fun ls hl => ?_)
  refine lv_iconst (v := 0) hx hb dX7_rows_2 (by decide) ?_
  refine lv_istore_n (lv' := [(3, .int 0), (2, .int 1), (0, .ref (a 0)), (1, .int p0)]) hx hb dX7_rows_3 rfl hl (by decide) rfl (fun ls hl => ?_)
  refine lX7_rows_4 l G C a a_book a_spare a_images a_kept a_text a_length a_refused a_items a_many a_at a_sort a_start a_size a_due a_rung a_anywhere p0 out _ (fun x2_4_3 x3_4_4 H locs ls hP hD hS hl hf => ?_) fu 1 0 _ _ _ hP hD hS (lv_sub hl [2, 3, 1, 0] rfl) hf
  refine lv_iload_n hx hb dX7_rows_24 rfl (lv_at hl 2 rfl) ?_
  have e9 := Option.some.inj hf
  subst e9
  exact rt_i C hP hS rfl dX7_rows_25

/-! RX7 areUnlike(II)Z -/
theorem hdX7_areUnlike : yX7_areUnlike.cls = RX7 ∧ yX7_areUnlike.cls ≠ "java/lang/invoke/MethodHandle" ∧ yX7_areUnlike.cls ≠ "java/lang/invoke/VarHandle" ∧ (parseMethodDescriptor yX7_areUnlike.desc).map (fun d => d.parameters.length) = some 2 := by decide +kernel
abbrev rmX7_areUnlike : Room := { frames := 1, cells := 0, slots := 0, locals := 25 }
set_option maxHeartbeats 4000000 in
set_option maxRecDepth 100000 in
theorem lX7_areUnlike_8 {p : Program} {e : Env} {s : State} {m : MethodId} {args : Array Value} {below : List Frame} {meth : Method} {c : Code} {A : Nat → Prop} (l : Launch) (G : GG) (C : Cx p m c cX7_areUnlike 7 s args wsX7_areUnlike RX7 meth (some .boolean) G A) (a : Nat → Nat) (a_book : Nat → Int32) (a_spare : Nat → Int32) (a_images : Nat → Int32) (a_kept : Nat → Int32) (a_text : Nat → Int32) (a_length : Int32) (a_refused : Nat → Int32) (a_items : Nat → Int32) (a_many : Int32) (a_at : Int32) (a_sort : Int32) (a_start : Int32) (a_size : Int32) (a_due : Nat → Int32) (a_rung : Nat → Int32) (a_anywhere : Nat → Int32) (p0 : Int32) (p1 : Int32) (out : Int32) (kx : Int32 → Int32 → Int32 → Option (Int32)) (HX : ∀ (x3_8 : Int32) (x4_8 : Int32) (x5_8 : Int32) (H : Heap) (locs : List Loc) (ls : Array Slot), va_P G.1 vwCl (flat [wX7 G a a_book a_spare a_images a_kept a_text a_length a_refused a_items a_many a_at a_sort a_start a_size a_due a_rung a_anywhere]) H → va_D A (flat [wX7 G a a_book a_spare a_images a_kept a_text a_length a_refused a_items a_many a_at a_sort a_start a_size a_due a_rung a_anywhere]) → va_S A s.heap H locs → lv_has ls 7 [(0, .ref (a 0)), (1, .int p0), (2, .int p1), (3, .int x3_8), (4, .int x4_8), (5, .int x5_8)] → kx x3_8 x4_8 x5_8 = some out → W p l e rmX7_areUnlike s m args below meth c H locs 0 0 (MQ below (QI G A out (flat [wX7 G a a_book a_spare a_images a_kept a_text a_length a_refused a_items a_many a_at a_sort a_start a_size a_due a_rung a_anywhere])) args s 0 0 A) (F0 m 56 ls [])) : ∀ (n : Nat) (x3_8 : Int32) (x4_8 : Int32) (x5_8 : Int32) (H : Heap) (locs : List Loc) (ls : Array Slot), va_P G.1 vwCl (flat [wX7 G a a_book a_spare a_images a_kept a_text a_length a_refused a_items a_many a_at a_sort a_start a_size a_due a_rung a_anywhere]) H → va_D A (flat [wX7 G a a_book a_spare a_images a_kept a_text a_length a_refused a_items a_many a_at a_sort a_start a_size a_due a_rung a_anywhere]) → va_S A s.heap H locs → lv_has ls 7 [(0, .ref (a 0)), (1, .int p0), (2, .int p1), (3, .int x3_8), (4, .int x4_8), (5, .int x5_8)] → fX7_areUnlike_8 p0 p1 a_book kx n x3_8 x4_8 x5_8 = some out → W p l e rmX7_areUnlike s m args below meth c H locs 0 0 (MQ below (QI G A out (flat [wX7 G a a_book a_spare a_images a_kept a_text a_length a_refused a_items a_many a_at a_sort a_start a_size a_due a_rung a_anywhere])) args s 0 0 A) (F0 m 8 ls []) := by
  obtain ⟨⟨hx, hb, hml, hown, hts⟩, hr, hlocks, hK, hN, hE, hA⟩ := id C
  intro n
  induction n with
  | zero =>
    intro x3_8 x4_8 x5_8 H locs ls hP hD hS hl hf
    exact absurd (show (none : Option (Int32)) = some out from hf) (by intro q9; cases q9)
  | succ n ih =>
    intro x3_8 x4_8 x5_8 H locs ls hP hD hS hl hf
    rw [fX7_areUnlike_8] at hf
    refine lv_iload hx hb dX7_areUnlike_8 (lv_at hl 5 rfl) ?_
    refine lv_iload_n hx hb dX7_areUnlike_10 rfl (lv_at hl 2 rfl) ?_
    refine lv_icmp_ge (tgt := 56) hx hb dX7_areUnlike_11 (by decide) (fun c1 => ?_) (fun c1 => ?_)
    · have hf := (o_i hf).1 c1
      exact HX _ _ _ _ _ _ hP hD hS (lv_sub hl [0, 1, 2, 3, 4, 5] rfl) hf
    have hf := (o_i hf).2 c1
    refine lv_iconst (v := 1) hx hb dX7_areUnlike_14 (by decide) ?_
    refine lv_aload_n hx hb dX7_areUnlike_15 rfl (lv_at hl 0 rfl) ?_
    refine lv_iload_n hx hb dX7_areUnlike_16 rfl (lv_at hl 1 rfl) ?_
    refine lv_iload_n hx hb dX7_areUnlike_17 rfl (lv_at hl 2 rfl) ?_
    refine lv_iload hx hb dX7_areUnlike_18 (lv_at hl 5 rfl) ?_
    obtain ⟨g2, hg2, hf⟩ := o_b hf
    refine bVi C hP hD hS (tX7_digit l G a a_book a_spare a_images a_kept a_text a_length a_refused a_items a_many a_at a_sort a_start a_size a_due a_rung a_anywhere p0 p1 x5_8 g2 hg2) gX7_areUnlike_X7_digit rfl ⟨rfl, rfl⟩ hdX7_digit ⟨Nat.le_of_ble_eq_true rfl, Nat.le_of_ble_eq_true rfl⟩ rfl hl.1 rfl (Nat.le_of_ble_eq_true rfl) ⟨Nat.le_of_ble_eq_true rfl, Nat.le_of_ble_eq_true rfl⟩ [0] rfl rfl rfl (setB_same _ _ _ rfl) rfl (ci := 7) (q0 := 0) rfl rfl rfl dX7_areUnlike_20 (fun H locs hP hD hS => ?_)
    refine lv_ishl hx hb dX7_areUnlike_23 ?_
    refine lv_istore (lv' := [(6, .int (1 <<< (g2 &&& 31))), (0, .ref (a 0)), (1, .int p0), (2, .int p1), (3, .int x3_8), (4, .int x4_8), (5, .int x5_8)]) hx hb dX7_areUnlike_24 hl (by decide) rfl (fun ls hl => ?_)
    refine lv_iload hx hb dX7_areUnlike_26 (lv_at hl 5 rfl) ?_
    refine at_pc (pc' := 28) rfl ?_
    obtain ⟨f4, hf4, hf⟩ := o_b hf
    have hJ : ∀ (H : Heap) (locs : List Loc) (ls : Array Slot), va_P G.1 vwCl (flat [wX7 G a a_book a_spare a_images a_kept a_text a_length a_refused a_items a_many a_at a_sort a_start a_size a_due a_rung a_anywhere]) H → va_D A (flat [wX7 G a a_book a_spare a_images a_kept a_text a_length a_refused a_items a_many a_at a_sort a_start a_size a_due a_rung a_anywhere]) → va_S A s.heap H locs → lv_has ls 7 [(0, .ref (a 0)), (1, .int p0), (2, .int p1), (3, .int x3_8), (4, .int x4_8), (5, .int x5_8), (6, .int (1 <<< (g2 &&& 31)))] → W p l e rmX7_areUnlike s m args below meth c H locs 0 0 (MQ below (QI G A out (flat [wX7 G a a_book a_spare a_images a_kept a_text a_length a_refused a_items a_many a_at a_sort a_start a_size a_due a_rung a_anywhere])) args s 0 0 A) (F0 m 43 ls [.int f4]) := by
      intro H locs ls hP hD hS hl
      refine lv_istore (lv' := [(4, .int f4), (0, .ref (a 0)), (1, .int p0), (2, .int p1), (3, .int x3_8), (5, .int x5_8), (6, .int (1 <<< (g2 &&& 31)))]) hx hb dX7_areUnlike_43 hl (by decide) rfl (fun ls hl => ?_)
      refine lv_iload_n hx hb dX7_areUnlike_45 rfl (lv_at hl 4 rfl) ?_
      refine lv_iload hx hb dX7_areUnlike_46 (lv_at hl 6 rfl) ?_
      refine lv_ior hx hb dX7_areUnlike_48 ?_
      refine lv_istore_n (lv' := [(3, .int (x3_8 ||| (1 <<< (g2 &&& 31)))), (4, .int f4), (0, .ref (a 0)), (1, .int p0), (2, .int p1), (5, .int x5_8), (6, .int (1 <<< (g2 &&& 31)))]) hx hb dX7_areUnlike_49 rfl hl (by decide) rfl (fun ls hl => ?_)
      refine lv_iinc (v := x5_8 + 1) (lv' := [(5, .int (x5_8 + 1)), (3, .int (x3_8 ||| (1 <<< (g2 &&& 31)))), (4, .int f4), (0, .ref (a 0)), (1, .int p0), (2, .int p1), (6, .int (1 <<< (g2 &&& 31)))]) hx hb dX7_areUnlike_50 hl (k := 5) rfl (congrArg (fun z => x5_8 + z) (by decide)) (by decide) rfl (fun ls hl => ?_)
      refine lv_goto (tgt := 8) hx hb dX7_areUnlike_53 (by decide) ?_
      exact ih _ _ _ _ _ _ hP hD hS (lv_sub hl [3, 4, 5, 1, 2, 0] rfl) hf
    clear hf
    have hf := hf4
    refine lv_if_eq (tgt := 42) hx hb dX7_areUnlike_28 (by decide) (fun c3 => ?_) (fun c3 => ?_)
    · have hf := (o_i hf).1 c3
      refine lv_iconst (v := 0) hx hb dX7_areUnlike_42 (by decide) ?_
      have e9 := Option.some.inj hf
      subst e9
      exact hJ _ _ _ hP hD hS (lv_sub hl [1, 2, 3, 4, 5, 6, 0] rfl)
    have hf := (o_i hf).2 c3
    refine lv_iload_n hx hb dX7_areUnlike_31 rfl (lv_at hl 4 rfl) ?_
    refine lv_iload hx hb dX7_areUnlike_32 (lv_at hl 0 rfl) ?_
    refine lv_iand hx hb dX7_areUnlike_34 ?_
    refine lv_if_ne (tgt := 42) hx hb dX7_areUnlike_35 (by decide) (fun c5 => ?_) (fun c5 => ?_)
    · have hf := (o_i hf).2 c5
      refine lv_iconst (v := 0) hx hb dX7_areUnlike_42 (by decide) ?_
      have e9 := Option.some.inj hf
      subst e9
      exact hJ _ _ _ hP hD hS (lv_sub hl [1, 2, 3, 4, 5, 6, 0] rfl)
    have hf := (o_i hf).1 c5
    refine lv_iconst (v := 1) hx hb dX7_areUnlike_38 (by decide) ?_
    refine lv_goto (tgt := 43) hx hb dX7_areUnlike_39 (by decide) ?_
    have e9 := Option.some.inj hf
    subst e9
    exact hJ _ _ _ hP hD hS (lv_sub hl [1, 2, 3, 4, 5, 6, 0] rfl)
set_option maxHeartbeats 4000000 in
set_option maxRecDepth 100000 in
theorem tX7_areUnlike (l : Launch) (G : GG) (a : Nat → Nat) (a_book : Nat → Int32) (a_spare : Nat → Int32) (a_images : Nat → Int32) (a_kept : Nat → Int32) (a_text : Nat → Int32) (a_length : Int32) (a_refused : Nat → Int32) (a_items : Nat → Int32) (a_many : Int32) (a_at : Int32) (a_sort : Int32) (a_start : Int32) (a_size : Int32) (a_due : Nat → Int32) (a_rung : Nat → Int32) (a_anywhere : Nat → Int32) (p0 : Int32) (p1 : Int32) (out : Int32) (hf : fX7_areUnlike a_book p0 p1 = some out) : cMi l G yX7_areUnlike wsX7_areUnlike rmX7_areUnlike [.ref (a 0), .int p0, .int p1] (flat [wX7 G a a_book a_spare a_images a_kept a_text a_length a_refused a_items a_many a_at a_sort a_start a_size a_due a_rung a_anywhere]) out (flat [wX7 G a a_book a_spare a_images a_kept a_text a_length a_refused a_items a_many a_at a_sort a_start a_size a_due a_rung a_anywhere]) := by
  intro sz
  refine met_of (cc := cX7_areUnlike) (nL := 7) (ret := (some .boolean)) (Qc := fun A9 => QI G A9 out (flat [wX7 G a a_book a_spare a_images a_kept a_text a_length a_refused a_items a_many a_at a_sort a_start a_size a_due a_rung a_anywhere])) (by decide) rfl (Nat.le_of_ble_eq_true rfl) ?_
  intro p e s m args below meth c A ls C hP hD hS hl
  obtain ⟨⟨hx, hb, hml, hown, hts⟩, hr, hlocks, hK, hN, hE, hA⟩ := id C
  have hl : lv_has ls 7 [(0, .ref (a 0)), (1, .int p0), (2, .int p1)] := hl
  unfold fX7_areUnlike at hf
  refine lv_iconst (v := 0) hx hb dX7_areUnlike_0 (by decide) ?_
  refine lv_istore_n (lv' := [(3, .int 0), (0, .ref (a 0)), (1, .int p0), (2, .int p1)]) hx hb dX7_areUnlike_1 rfl hl (by decide) rfl (fun ls hl => ?_)
  refine lv_iconst (v := 1) hx hb dX7_areUnlike_2 (by decide) ?_
  refine lv_istore (lv' := [(4, .int 1), (3, .int 0), (0, .ref (a 0)), (1, .int p0), (2, .int p1)]) hx hb dX7_areUnlike_3 hl (by decide) rfl (fun ls hl => ?_)
  refine lv_iconst (v := 0) hx hb dX7_areUnlike_5 (by decide) ?_
  refine lv_istore (lv' := [(5, .int 0), (4, .int 1), (3, .int 0), (0, .ref (a 0)), (1, .int p0), (2, .int p1)]) hx hb dX7_areUnlike_6 hl (by decide) rfl (fun ls hl => ?_)
  refine lX7_areUnlike_8 l G C a a_book a_spare a_images a_kept a_text a_length a_refused a_items a_many a_at a_sort a_start a_size a_due a_rung a_anywhere p0 p1 out _ (fun x3_8_6 x4_8_7 x5_8_8 H locs ls hP hD hS hl hf => ?_) fu 0 1 0 _ _ _ hP hD hS (lv_sub hl [3, 4, 5, 2, 1, 0] rfl) hf
  refine lv_iload hx hb dX7_areUnlike_56 (lv_at hl 4 rfl) ?_
  obtain ⟨z9, hz9, hf⟩ := o_b hf
  obtain ⟨hn9, e8⟩ := zb_ok hz9
  have e8 := e8.symm
  subst e8
  have e9 := Option.some.inj hf
  subst e9
  exact rt_z C hP hS rfl hn9 dX7_areUnlike_58

/-! RX7 dues(I)I -/
theorem iiX7_dues_X7 : ∀ w ∈ wsX70, w ∈ wsX7_dues := by decide +kernel
theorem mmX7_dues_1 : (Cond.fieldLink RX7 7 "BlindBellsModel" "book" "[I") ∈ wsX7_dues := by decide +kernel
theorem hdX7_dues : yX7_dues.cls = RX7 ∧ yX7_dues.cls ≠ "java/lang/invoke/MethodHandle" ∧ yX7_dues.cls ≠ "java/lang/invoke/VarHandle" ∧ (parseMethodDescriptor yX7_dues.desc).map (fun d => d.parameters.length) = some 1 := by decide +kernel
abbrev rmX7_dues : Room := { frames := 2, cells := 0, slots := 0, locals := 47 }
set_option maxHeartbeats 4000000 in
set_option maxRecDepth 100000 in
theorem lX7_dues_20 {p : Program} {e : Env} {s : State} {m : MethodId} {args : Array Value} {below : List Frame} {meth : Method} {c : Code} {A : Nat → Prop} (l : Launch) (G : GG) (C : Cx p m c cX7_dues 6 s args wsX7_dues RX7 meth (some .int) G A) (a : Nat → Nat) (a_book : Nat → Int32) (a_spare : Nat → Int32) (a_images : Nat → Int32) (a_kept : Nat → Int32) (a_text : Nat → Int32) (a_length : Int32) (a_refused : Nat → Int32) (a_items : Nat → Int32) (a_many : Int32) (a_at : Int32) (a_sort : Int32) (a_start : Int32) (a_size : Int32) (a_due : Nat → Int32) (a_rung : Nat → Int32) (a_anywhere : Nat → Int32) (p0 : Int32) (x2_4 : Int32) (x3_4 : Int32) (out : Int32) (kx : Int32 → Int32 → Option (Int32)) (HX : ∀ (x4_20 : Int32) (x5_20 : Int32) (H : Heap) (locs : List Loc) (ls : Array Slot), va_P G.1 vwCl (flat [wX7 G a a_book a_spare a_images a_kept a_text a_length a_refused a_items a_many a_at a_sort a_start a_size a_due a_rung a_anywhere]) H → va_D A (flat [wX7 G a a_book a_spare a_images a_kept a_text a_length a_refused a_items a_many a_at a_sort a_start a_size a_due a_rung a_anywhere]) → va_S A s.heap H locs → lv_has ls 6 [(0, .ref (a 0)), (1, .int p0), (2, .int x2_4), (3, .int x3_4), (4, .int x4_20), (5, .int x5_20)] → kx x4_20 x5_20 = some out → W p l e rmX7_dues s m args below meth c H locs 0 0 (MQ below (QI G A out (flat [wX7 G a a_book a_spare a_images a_kept a_text a_length a_refused a_items a_many a_at a_sort a_start a_size a_due a_rung a_anywhere])) args s 0 0 A) (F0 m 109 ls [])) : ∀ (n : Nat) (x4_20 : Int32) (x5_20 : Int32) (H : Heap) (locs : List Loc) (ls : Array Slot), va_P G.1 vwCl (flat [wX7 G a a_book a_spare a_images a_kept a_text a_length a_refused a_items a_many a_at a_sort a_start a_size a_due a_rung a_anywhere]) H → va_D A (flat [wX7 G a a_book a_spare a_images a_kept a_text a_length a_refused a_items a_many a_at a_sort a_start a_size a_due a_rung a_anywhere]) → va_S A s.heap H locs → lv_has ls 6 [(0, .ref (a 0)), (1, .int p0), (2, .int x2_4), (3, .int x3_4), (4, .int x4_20), (5, .int x5_20)] → fX7_dues_20 p0 a_book x3_4 kx n x4_20 x5_20 = some out → W p l e rmX7_dues s m args below meth c H locs 0 0 (MQ below (QI G A out (flat [wX7 G a a_book a_spare a_images a_kept a_text a_length a_refused a_items a_many a_at a_sort a_start a_size a_due a_rung a_anywhere])) args s 0 0 A) (F0 m 20 ls []) := by
  obtain ⟨⟨hx, hb, hml, hown, hts⟩, hr, hlocks, hK, hN, hE, hA⟩ := id C
  intro n
  induction n with
  | zero =>
    intro x4_20 x5_20 H locs ls hP hD hS hl hf
    exact absurd (show (none : Option (Int32)) = some out from hf) (by intro q9; cases q9)
  | succ n ih =>
    intro x4_20 x5_20 H locs ls hP hD hS hl hf
    rw [fX7_dues_20] at hf
    refine lv_iload hx hb dX7_dues_20 (lv_at hl 5 rfl) ?_
    refine lv_aload_n hx hb dX7_dues_22 rfl (lv_at hl 0 rfl) ?_
    refine va_get (D := G.1) (ci := 7) (v := .ref (a 1)) (C := RX7) (T := TX7) (N := 16) hx hb hts iiX7_dues_X7 hown hK hP 0 rfl rfl 0 (by decide) (hts _ mmX7_dues_1) (fun _ h9 => h9) rfl dX7_dues_23 ?_
    refine lv_iconst (v := 0) hx hb dX7_dues_26 (by decide) ?_
    obtain ⟨z3, hz3, hf⟩ := o_b hf
    refine k_iald hx hb hK hP 1 0 rfl rfl hz3 dX7_dues_27 ?_
    refine lv_icmp_ge (tgt := 109) hx hb dX7_dues_28 (by decide) (fun c4 => ?_) (fun c4 => ?_)
    · have hf := (o_i hf).1 c4
      exact HX _ _ _ _ _ hP hD hS (lv_sub hl [0, 1, 2, 3, 4, 5] rfl) hf
    have hf := (o_i hf).2 c4
    refine lv_iload hx hb dX7_dues_31 (lv_at hl 4 rfl) ?_
    refine lv_if_ne (tgt := 96) hx hb dX7_dues_33 (by decide) (fun c5 => ?_) (fun c5 => ?_)
    · have hf := (o_i hf).2 c5
      refine lv_iconst (v := 1) hx hb dX7_dues_96 (by decide) ?_
      refine lv_goto (tgt := 101) hx hb dX7_dues_97 (by decide) ?_
      refine lv_istore (lv' := [(4, .int 1), (0, .ref (a 0)), (1, .int p0), (2, .int x2_4), (3, .int x3_4), (5, .int x5_20)]) hx hb dX7_dues_101 hl (by decide) rfl (fun ls hl => ?_)
      refine lv_iinc (v := x5_20 + 1) (lv' := [(5, .int (x5_20 + 1)), (4, .int 1), (0, .ref (a 0)), (1, .int p0), (2, .int x2_4), (3, .int x3_4)]) hx hb dX7_dues_103 hl (k := 5) rfl (congrArg (fun z => x5_20 + z) (by decide)) (by decide) rfl (fun ls hl => ?_)
      refine lv_goto (tgt := 20) hx hb dX7_dues_106 (by decide) ?_
      exact ih _ _ _ _ _ hP hD hS (lv_sub hl [2, 3, 4, 5, 1, 0] rfl) hf
    have hf := (o_i hf).1 c5
    refine lv_aload_n hx hb dX7_dues_36 rfl (lv_at hl 0 rfl) ?_
    refine va_get (D := G.1) (ci := 7) (v := .ref (a 1)) (C := RX7) (T := TX7) (N := 16) hx hb hts iiX7_dues_X7 hown hK hP 0 rfl rfl 0 (by decide) (hts _ mmX7_dues_1) (fun _ h9 => h9) rfl dX7_dues_37 ?_
    refine lv_bipush (v := 86) hx hb dX7_dues_40 (by decide) ?_
    refine lv_iload_n hx hb dX7_dues_42 rfl (lv_at hl 3 rfl) ?_
    refine lv_iadd hx hb dX7_dues_43 ?_
    obtain ⟨z6, hz6, hf⟩ := o_b hf
    refine k_iald hx hb hK hP 1 0 rfl rfl hz6 dX7_dues_44 ?_
    refine lv_aload_n hx hb dX7_dues_45 rfl (lv_at hl 0 rfl) ?_
    refine lv_iload_n hx hb dX7_dues_46 rfl (lv_at hl 1 rfl) ?_
    refine lv_aload_n hx hb dX7_dues_47 rfl (lv_at hl 0 rfl) ?_
    refine at_pc (pc' := 48) rfl ?_
    refine va_get (D := G.1) (ci := 7) (v := .ref (a 1)) (C := RX7) (T := TX7) (N := 16) hx hb hts iiX7_dues_X7 hown hK hP 0 rfl rfl 0 (by decide) (hts _ mmX7_dues_1) (fun _ h9 => h9) rfl dX7_dues_48 ?_
    refine lv_iconst (v := 0) hx hb dX7_dues_51 (by decide) ?_
    obtain ⟨z7, hz7, hf⟩ := o_b hf
    refine k_iald hx hb hK hP 1 0 rfl rfl hz7 dX7_dues_52 ?_
    refine lv_iload hx hb dX7_dues_53 (lv_at hl 5 rfl) ?_
    obtain ⟨g8, hg8, hf⟩ := o_b hf
    refine bVi C hP hD hS (tX7_digit l G a a_book a_spare a_images a_kept a_text a_length a_refused a_items a_many a_at a_sort a_start a_size a_due a_rung a_anywhere p0 z7 x5_20 g8 hg8) gX7_dues_X7_digit rfl ⟨rfl, rfl⟩ hdX7_digit ⟨Nat.le_of_ble_eq_true rfl, Nat.le_of_ble_eq_true rfl⟩ rfl hl.1 rfl (Nat.le_of_ble_eq_true rfl) ⟨Nat.le_of_ble_eq_true rfl, Nat.le_of_ble_eq_true rfl⟩ [0] rfl rfl rfl (setB_same _ _ _ rfl) rfl (ci := 7) (q0 := 0) rfl rfl rfl dX7_dues_55 (fun H locs hP hD hS => ?_)
    refine lv_ishr hx hb dX7_dues_58 ?_
    refine lv_iconst (v := 1) hx hb dX7_dues_59 (by decide) ?_
    refine lv_iand hx hb dX7_dues_60 ?_
    refine lv_iconst (v := 1) hx hb dX7_dues_61 (by decide) ?_
    refine lv_icmp_ne (tgt := 100) hx hb dX7_dues_62 (by decide) (fun c9 => ?_) (fun c9 => ?_)
    · have hf := (o_i hf).2 c9
      refine lv_iconst (v := 0) hx hb dX7_dues_100 (by decide) ?_
      refine lv_istore (lv' := [(4, .int 0), (0, .ref (a 0)), (1, .int p0), (2, .int x2_4), (3, .int x3_4), (5, .int x5_20)]) hx hb dX7_dues_101 hl (by decide) rfl (fun ls hl => ?_)
      refine lv_iinc (v := x5_20 + 1) (lv' := [(5, .int (x5_20 + 1)), (4, .int 0), (0, .ref (a 0)), (1, .int p0), (2, .int x2_4), (3, .int x3_4)]) hx hb dX7_dues_103 hl (k := 5) rfl (congrArg (fun z => x5_20 + z) (by decide)) (by decide) rfl (fun ls hl => ?_)
      refine lv_goto (tgt := 20) hx hb dX7_dues_106 (by decide) ?_
      exact ih _ _ _ _ _ hP hD hS (lv_sub hl [2, 3, 4, 5, 1, 0] rfl) hf
    have hf := (o_i hf).1 c9
    refine lv_aload_n hx hb dX7_dues_65 rfl (lv_at hl 0 rfl) ?_
    refine lv_iload hx hb dX7_dues_66 (lv_at hl 5 rfl) ?_
    refine lv_aload_n hx hb dX7_dues_68 rfl (lv_at hl 0 rfl) ?_
    refine va_get (D := G.1) (ci := 7) (v := .ref (a 1)) (C := RX7) (T := TX7) (N := 16) hx hb hts iiX7_dues_X7 hown hK hP 0 rfl rfl 0 (by decide) (hts _ mmX7_dues_1) (fun _ h9 => h9) rfl dX7_dues_69 ?_
    refine lv_bipush (v := 74) hx hb dX7_dues_72 (by decide) ?_
    refine lv_iload_n hx hb dX7_dues_74 rfl (lv_at hl 3 rfl) ?_
    refine lv_iadd hx hb dX7_dues_75 ?_
    obtain ⟨z10, hz10, hf⟩ := o_b hf
    refine k_iald hx hb hK hP 1 0 rfl rfl hz10 dX7_dues_76 ?_
    obtain ⟨g11, hg11, hf⟩ := o_b hf
    refine bVi C hP hD hS (tX7_hall l G a a_book a_spare a_images a_kept a_text a_length a_refused a_items a_many a_at a_sort a_start a_size a_due a_rung a_anywhere x5_20 z10 g11 hg11) gX7_dues_X7_hall rfl ⟨rfl, rfl⟩ hdX7_hall ⟨Nat.le_of_ble_eq_true rfl, Nat.le_of_ble_eq_true rfl⟩ rfl hl.1 rfl (Nat.le_of_ble_eq_true rfl) ⟨Nat.le_of_ble_eq_true rfl, Nat.le_of_ble_eq_true rfl⟩ [0] rfl rfl rfl (setB_same _ _ _ rfl) rfl (ci := 7) (q0 := 0) rfl rfl rfl dX7_dues_77 (fun H locs hP hD hS => ?_)
    refine at_pc (pc' := 80) rfl ?_
    refine lv_aload_n hx hb dX7_dues_80 rfl (lv_at hl 0 rfl) ?_
    refine va_get (D := G.1) (ci := 7) (v := .ref (a 1)) (C := RX7) (T := TX7) (N := 16) hx hb hts iiX7_dues_X7 hown hK hP 0 rfl rfl 0 (by decide) (hts _ mmX7_dues_1) (fun _ h9 => h9) rfl dX7_dues_81 ?_
    refine lv_bipush (v := 62) hx hb dX7_dues_84 (by decide) ?_
    refine lv_iload_n hx hb dX7_dues_86 rfl (lv_at hl 3 rfl) ?_
    refine lv_iadd hx hb dX7_dues_87 ?_
    obtain ⟨z12, hz12, hf⟩ := o_b hf
    refine k_iald hx hb hK hP 1 0 rfl rfl hz12 dX7_dues_88 ?_
    refine lv_ishr hx hb dX7_dues_89 ?_
    refine lv_iconst (v := 1) hx hb dX7_dues_90 (by decide) ?_
    refine lv_iand hx hb dX7_dues_91 ?_
    refine lv_iconst (v := 1) hx hb dX7_dues_92 (by decide) ?_
    refine at_pc (pc' := 93) rfl ?_
    refine lv_icmp_ne (tgt := 100) hx hb dX7_dues_93 (by decide) (fun c13 => ?_) (fun c13 => ?_)
    · have hf := (o_i hf).2 c13
      refine lv_iconst (v := 0) hx hb dX7_dues_100 (by decide) ?_
      refine lv_istore (lv' := [(4, .int 0), (0, .ref (a 0)), (1, .int p0), (2, .int x2_4), (3, .int x3_4), (5, .int x5_20)]) hx hb dX7_dues_101 hl (by decide) rfl (fun ls hl => ?_)
      refine lv_iinc (v := x5_20 + 1) (lv' := [(5, .int (x5_20 + 1)), (4, .int 0), (0, .ref (a 0)), (1, .int p0), (2, .int x2_4), (3, .int x3_4)]) hx hb dX7_dues_103 hl (k := 5) rfl (congrArg (fun z => x5_20 + z) (by decide)) (by decide) rfl (fun ls hl => ?_)
      refine lv_goto (tgt := 20) hx hb dX7_dues_106 (by decide) ?_
      exact ih _ _ _ _ _ hP hD hS (lv_sub hl [2, 3, 4, 5, 1, 0] rfl) hf
    have hf := (o_i hf).1 c13
    refine lv_iconst (v := 1) hx hb dX7_dues_96 (by decide) ?_
    refine lv_goto (tgt := 101) hx hb dX7_dues_97 (by decide) ?_
    refine lv_istore (lv' := [(4, .int 1), (0, .ref (a 0)), (1, .int p0), (2, .int x2_4), (3, .int x3_4), (5, .int x5_20)]) hx hb dX7_dues_101 hl (by decide) rfl (fun ls hl => ?_)
    refine lv_iinc (v := x5_20 + 1) (lv' := [(5, .int (x5_20 + 1)), (4, .int 1), (0, .ref (a 0)), (1, .int p0), (2, .int x2_4), (3, .int x3_4)]) hx hb dX7_dues_103 hl (k := 5) rfl (congrArg (fun z => x5_20 + z) (by decide)) (by decide) rfl (fun ls hl => ?_)
    refine lv_goto (tgt := 20) hx hb dX7_dues_106 (by decide) ?_
    exact ih _ _ _ _ _ hP hD hS (lv_sub hl [2, 3, 4, 5, 1, 0] rfl) hf
set_option maxHeartbeats 4000000 in
set_option maxRecDepth 100000 in
theorem lX7_dues_4 {p : Program} {e : Env} {s : State} {m : MethodId} {args : Array Value} {below : List Frame} {meth : Method} {c : Code} {A : Nat → Prop} (l : Launch) (G : GG) (C : Cx p m c cX7_dues 6 s args wsX7_dues RX7 meth (some .int) G A) (a : Nat → Nat) (a_book : Nat → Int32) (a_spare : Nat → Int32) (a_images : Nat → Int32) (a_kept : Nat → Int32) (a_text : Nat → Int32) (a_length : Int32) (a_refused : Nat → Int32) (a_items : Nat → Int32) (a_many : Int32) (a_at : Int32) (a_sort : Int32) (a_start : Int32) (a_size : Int32) (a_due : Nat → Int32) (a_rung : Nat → Int32) (a_anywhere : Nat → Int32) (p0 : Int32) (out : Int32) (kx : Int32 → Int32 → Option (Int32)) (HX : ∀ (x2_4 : Int32) (x3_4 : Int32) (H : Heap) (locs : List Loc) (ls : Array Slot), va_P G.1 vwCl (flat [wX7 G a a_book a_spare a_images a_kept a_text a_length a_refused a_items a_many a_at a_sort a_start a_size a_due a_rung a_anywhere]) H → va_D A (flat [wX7 G a a_book a_spare a_images a_kept a_text a_length a_refused a_items a_many a_at a_sort a_start a_size a_due a_rung a_anywhere]) → va_S A s.heap H locs → lv_has ls 6 [(0, .ref (a 0)), (1, .int p0), (2, .int x2_4), (3, .int x3_4)] → kx x2_4 x3_4 = some out → W p l e rmX7_dues s m args below meth c H locs 0 0 (MQ below (QI G A out (flat [wX7 G a a_book a_spare a_images a_kept a_text a_length a_refused a_items a_many a_at a_sort a_start a_size a_due a_rung a_anywhere])) args s 0 0 A) (F0 m 128 ls [])) : ∀ (n : Nat) (x2_4 : Int32) (x3_4 : Int32) (H : Heap) (locs : List Loc) (ls : Array Slot), va_P G.1 vwCl (flat [wX7 G a a_book a_spare a_images a_kept a_text a_length a_refused a_items a_many a_at a_sort a_start a_size a_due a_rung a_anywhere]) H → va_D A (flat [wX7 G a a_book a_spare a_images a_kept a_text a_length a_refused a_items a_many a_at a_sort a_start a_size a_due a_rung a_anywhere]) → va_S A s.heap H locs → lv_has ls 6 [(0, .ref (a 0)), (1, .int p0), (2, .int x2_4), (3, .int x3_4)] → fX7_dues_4 p0 a_book kx n x2_4 x3_4 = some out → W p l e rmX7_dues s m args below meth c H locs 0 0 (MQ below (QI G A out (flat [wX7 G a a_book a_spare a_images a_kept a_text a_length a_refused a_items a_many a_at a_sort a_start a_size a_due a_rung a_anywhere])) args s 0 0 A) (F0 m 4 ls []) := by
  obtain ⟨⟨hx, hb, hml, hown, hts⟩, hr, hlocks, hK, hN, hE, hA⟩ := id C
  intro n
  induction n with
  | zero =>
    intro x2_4 x3_4 H locs ls hP hD hS hl hf
    exact absurd (show (none : Option (Int32)) = some out from hf) (by intro q9; cases q9)
  | succ n ih =>
    intro x2_4 x3_4 H locs ls hP hD hS hl hf
    rw [fX7_dues_4] at hf
    refine lv_iload_n hx hb dX7_dues_4 rfl (lv_at hl 3 rfl) ?_
    refine lv_aload_n hx hb dX7_dues_5 rfl (lv_at hl 0 rfl) ?_
    refine va_get (D := G.1) (ci := 7) (v := .ref (a 1)) (C := RX7) (T := TX7) (N := 16) hx hb hts iiX7_dues_X7 hown hK hP 0 rfl rfl 0 (by decide) (hts _ mmX7_dues_1) (fun _ h9 => h9) rfl dX7_dues_6 ?_
    refine lv_iconst (v := 2) hx hb dX7_dues_9 (by decide) ?_
    obtain ⟨z1, hz1, hf⟩ := o_b hf
    refine k_iald hx hb hK hP 1 0 rfl rfl hz1 dX7_dues_10 ?_
    refine lv_icmp_ge (tgt := 128) hx hb dX7_dues_11 (by decide) (fun c2 => ?_) (fun c2 => ?_)
    · have hf := (o_i hf).1 c2
      exact HX _ _ _ _ _ hP hD hS (lv_sub hl [0, 1, 2, 3] rfl) hf
    have hf := (o_i hf).2 c2
    refine lv_iconst (v := 0) hx hb dX7_dues_14 (by decide) ?_
    refine lv_istore (lv' := [(4, .int 0), (0, .ref (a 0)), (1, .int p0), (2, .int x2_4), (3, .int x3_4)]) hx hb dX7_dues_15 hl (by decide) rfl (fun ls hl => ?_)
    refine lv_iconst (v := 0) hx hb dX7_dues_17 (by decide) ?_
    refine lv_istore (lv' := [(5, .int 0), (4, .int 0), (0, .ref (a 0)), (1, .int p0), (2, .int x2_4), (3, .int x3_4)]) hx hb dX7_dues_18 hl (by decide) rfl (fun ls hl => ?_)
    refine lX7_dues_20 l G C a a_book a_spare a_images a_kept a_text a_length a_refused a_items a_many a_at a_sort a_start a_size a_due a_rung a_anywhere p0 x2_4 x3_4 out _ (fun x4_20_14 x5_20_15 H locs ls hP hD hS hl hf => ?_) fu 0 0 _ _ _ hP hD hS (lv_sub hl [2, 3, 4, 5, 1, 0] rfl) hf
    refine lv_iload_n hx hb dX7_dues_109 rfl (lv_at hl 2 rfl) ?_
    refine lv_iload hx hb dX7_dues_110 (lv_at hl 4 rfl) ?_
    refine lv_if_eq (tgt := 119) hx hb dX7_dues_112 (by decide) (fun c16 => ?_) (fun c16 => ?_)
    · have hf := (o_i hf).1 c16
      refine lv_iconst (v := 0) hx hb dX7_dues_119 (by decide) ?_
      refine lv_iadd hx hb dX7_dues_120 ?_
      refine lv_istore_n (lv' := [(2, .int (x2_4 + 0)), (0, .ref (a 0)), (1, .int p0), (3, .int x3_4), (4, .int x4_20_14), (5, .int x5_20_15)]) hx hb dX7_dues_121 rfl hl (by decide) rfl (fun ls hl => ?_)
      refine lv_iinc (v := x3_4 + 1) (lv' := [(3, .int (x3_4 + 1)), (2, .int (x2_4 + 0)), (0, .ref (a 0)), (1, .int p0), (4, .int x4_20_14), (5, .int x5_20_15)]) hx hb dX7_dues_122 hl (k := 3) rfl (congrArg (fun z => x3_4 + z) (by decide)) (by decide) rfl (fun ls hl => ?_)
      refine lv_goto (tgt := 4) hx hb dX7_dues_125 (by decide) ?_
      exact ih _ _ _ _ _ hP hD hS (lv_sub hl [2, 3, 1, 0] rfl) hf
    have hf := (o_i hf).2 c16
    refine lv_iconst (v := 1) hx hb dX7_dues_115 (by decide) ?_
    refine lv_goto (tgt := 120) hx hb dX7_dues_116 (by decide) ?_
    refine lv_iadd hx hb dX7_dues_120 ?_
    refine lv_istore_n (lv' := [(2, .int (x2_4 + 1)), (0, .ref (a 0)), (1, .int p0), (3, .int x3_4), (4, .int x4_20_14), (5, .int x5_20_15)]) hx hb dX7_dues_121 rfl hl (by decide) rfl (fun ls hl => ?_)
    refine lv_iinc (v := x3_4 + 1) (lv' := [(3, .int (x3_4 + 1)), (2, .int (x2_4 + 1)), (0, .ref (a 0)), (1, .int p0), (4, .int x4_20_14), (5, .int x5_20_15)]) hx hb dX7_dues_122 hl (k := 3) rfl (congrArg (fun z => x3_4 + z) (by decide)) (by decide) rfl (fun ls hl => ?_)
    refine lv_goto (tgt := 4) hx hb dX7_dues_125 (by decide) ?_
    exact ih _ _ _ _ _ hP hD hS (lv_sub hl [2, 3, 1, 0] rfl) hf
set_option maxHeartbeats 4000000 in
set_option maxRecDepth 100000 in
theorem tX7_dues (l : Launch) (G : GG) (a : Nat → Nat) (a_book : Nat → Int32) (a_spare : Nat → Int32) (a_images : Nat → Int32) (a_kept : Nat → Int32) (a_text : Nat → Int32) (a_length : Int32) (a_refused : Nat → Int32) (a_items : Nat → Int32) (a_many : Int32) (a_at : Int32) (a_sort : Int32) (a_start : Int32) (a_size : Int32) (a_due : Nat → Int32) (a_rung : Nat → Int32) (a_anywhere : Nat → Int32) (p0 : Int32) (out : Int32) (hf : fX7_dues a_book p0 = some out) : cMi l G yX7_dues wsX7_dues rmX7_dues [.ref (a 0), .int p0] (flat [wX7 G a a_book a_spare a_images a_kept a_text a_length a_refused a_items a_many a_at a_sort a_start a_size a_due a_rung a_anywhere]) out (flat [wX7 G a a_book a_spare a_images a_kept a_text a_length a_refused a_items a_many a_at a_sort a_start a_size a_due a_rung a_anywhere]) := by
  intro sz
  refine met_of (cc := cX7_dues) (nL := 6) (ret := (some .int)) (Qc := fun A9 => QI G A9 out (flat [wX7 G a a_book a_spare a_images a_kept a_text a_length a_refused a_items a_many a_at a_sort a_start a_size a_due a_rung a_anywhere])) (by decide) rfl (Nat.le_of_ble_eq_true rfl) ?_
  intro p e s m args below meth c A ls C hP hD hS hl
  obtain ⟨⟨hx, hb, hml, hown, hts⟩, hr, hlocks, hK, hN, hE, hA⟩ := id C
  have hl : lv_has ls 6 [(0, .ref (a 0)), (1, .int p0)] := hl
  unfold fX7_dues at hf
  refine lv_iconst (v := 0) hx hb dX7_dues_0 (by decide) ?_
  refine lv_istore_n (lv' := [(2, .int 0), (0, .ref (a 0)), (1, .int p0)]) hx hb dX7_dues_1 rfl hl (by decide) rfl (fun ls hl => ?_)
  refine lv_iconst (v := 0) hx hb dX7_dues_2 (by decide) ?_
  refine lv_istore_n (lv' := [(3, .int 0), (2, .int 0), (0, .ref (a 0)), (1, .int p0)]) hx hb dX7_dues_3 rfl hl (by decide) rfl (fun ls hl => ?_)
  refine lX7_dues_4 l G C a a_book a_spare a_images a_kept a_text a_length a_refused a_items a_many a_at a_sort a_start a_size a_due a_rung a_anywhere p0 out _ (fun x2_4_17 x3_4_18 H locs ls hP hD hS hl hf => ?_) fu 0 0 _ _ _ hP hD hS (lv_sub hl [2, 3, 1, 0] rfl) hf
  refine lv_iload_n hx hb dX7_dues_128 rfl (lv_at hl 2 rfl) ?_
  have e9 := Option.some.inj hf
  subst e9
  exact rt_i C hP hS rfl dX7_dues_129

/-! RX7 places()V -/
theorem iiX7_places_X7 : ∀ w ∈ wsX70, w ∈ wsX7_places := by decide +kernel
theorem mmX7_places_1 : (Cond.fieldLink RX7 7 "BlindBellsModel" "book" "[I") ∈ wsX7_places := by decide +kernel
theorem mmX7_places_2 : (Cond.fieldLink RX7 38 "BlindBellsModel" "anywhere" "[I") ∈ wsX7_places := by decide +kernel
theorem hdX7_places : yX7_places.cls = RX7 ∧ yX7_places.cls ≠ "java/lang/invoke/MethodHandle" ∧ yX7_places.cls ≠ "java/lang/invoke/VarHandle" ∧ (parseMethodDescriptor yX7_places.desc).map (fun d => d.parameters.length) = some 0 := by decide +kernel
abbrev rmX7_places : Room := { frames := 2, cells := 0, slots := 0, locals := 47 }
set_option maxHeartbeats 4000000 in
set_option maxRecDepth 100000 in
theorem lX7_places_21 {p : Program} {e : Env} {s : State} {m : MethodId} {args : Array Value} {below : List Frame} {meth : Method} {c : Code} {A : Nat → Prop} (l : Launch) (G : GG) (C : Cx p m c cX7_places 3 s args wsX7_places RX7 meth none G A) (a : Nat → Nat) (a_book : Nat → Int32) (a_spare : Nat → Int32) (a_images : Nat → Int32) (a_kept : Nat → Int32) (a_text : Nat → Int32) (a_length : Int32) (a_refused : Nat → Int32) (a_items : Nat → Int32) (a_many : Int32) (a_at : Int32) (a_sort : Int32) (a_start : Int32) (a_size : Int32) (a_due : Nat → Int32) (a_rung : Nat → Int32) (a_anywhere : Nat → Int32) (x1_2 : Int32) (out : (Nat → Int32)) (kx : Int32 → (Nat → Int32) → Option ((Nat → Int32))) (HX : ∀ (x2_21 : Int32) (a_anywhere_21 : Nat → Int32) (H : Heap) (locs : List Loc) (ls : Array Slot), va_P G.1 vwCl (flat [wX7 G a a_book a_spare a_images a_kept a_text a_length a_refused a_items a_many a_at a_sort a_start a_size a_due a_rung a_anywhere_21]) H → va_D A (flat [wX7 G a a_book a_spare a_images a_kept a_text a_length a_refused a_items a_many a_at a_sort a_start a_size a_due a_rung a_anywhere_21]) → va_S A s.heap H locs → lv_has ls 3 [(0, .ref (a 0)), (1, .int x1_2), (2, .int x2_21)] → kx x2_21 a_anywhere_21 = some out → W p l e rmX7_places s m args below meth c H locs 0 0 (MQ below (QV G A (flat [wX7 G a a_book a_spare a_images a_kept a_text a_length a_refused a_items a_many a_at a_sort a_start a_size a_due a_rung out])) args s 0 0 A) (F0 m 47 ls [])) : ∀ (n : Nat) (x2_21 : Int32) (a_anywhere_21 : Nat → Int32) (H : Heap) (locs : List Loc) (ls : Array Slot), va_P G.1 vwCl (flat [wX7 G a a_book a_spare a_images a_kept a_text a_length a_refused a_items a_many a_at a_sort a_start a_size a_due a_rung a_anywhere_21]) H → va_D A (flat [wX7 G a a_book a_spare a_images a_kept a_text a_length a_refused a_items a_many a_at a_sort a_start a_size a_due a_rung a_anywhere_21]) → va_S A s.heap H locs → lv_has ls 3 [(0, .ref (a 0)), (1, .int x1_2), (2, .int x2_21)] → fX7_places_21 a_book x1_2 kx n x2_21 a_anywhere_21 = some out → W p l e rmX7_places s m args below meth c H locs 0 0 (MQ below (QV G A (flat [wX7 G a a_book a_spare a_images a_kept a_text a_length a_refused a_items a_many a_at a_sort a_start a_size a_due a_rung out])) args s 0 0 A) (F0 m 21 ls []) := by
  obtain ⟨⟨hx, hb, hml, hown, hts⟩, hr, hlocks, hK, hN, hE, hA⟩ := id C
  intro n
  induction n with
  | zero =>
    intro x2_21 a_anywhere_21 H locs ls hP hD hS hl hf
    exact absurd (show (none : Option ((Nat → Int32))) = some out from hf) (by intro q9; cases q9)
  | succ n ih =>
    intro x2_21 a_anywhere_21 H locs ls hP hD hS hl hf
    rw [fX7_places_21] at hf
    refine lv_iload_n hx hb dX7_places_21 rfl (lv_at hl 2 rfl) ?_
    refine lv_iconst (v := 4) hx hb dX7_places_22 (by decide) ?_
    refine lv_icmp_ge (tgt := 47) hx hb dX7_places_23 (by decide) (fun c4 => ?_) (fun c4 => ?_)
    · have hf := (o_i hf).1 c4
      exact HX _ _ _ _ _ hP hD hS (lv_sub hl [0, 1, 2] rfl) hf
    have hf := (o_i hf).2 c4
    refine lv_aload_n hx hb dX7_places_26 rfl (lv_at hl 0 rfl) ?_
    refine va_get (D := G.1) (ci := 7) (v := .ref (a 10)) (C := RX7) (T := TX7) (N := 16) hx hb hts iiX7_places_X7 hown hK hP 0 rfl rfl 15 (by decide) (hts _ mmX7_places_2) (fun _ h9 => h9) rfl dX7_places_27 ?_
    refine lv_iload_n hx hb dX7_places_30 rfl (lv_at hl 1 rfl) ?_
    refine lv_dup2_11 hx hb dX7_places_31 rfl rfl ?_
    obtain ⟨z5, hz5, hf⟩ := o_b hf
    refine k_iald hx hb hK hP 10 0 rfl rfl hz5 dX7_places_32 ?_
    refine lv_aload_n hx hb dX7_places_33 rfl (lv_at hl 0 rfl) ?_
    refine lv_iload_n hx hb dX7_places_34 rfl (lv_at hl 1 rfl) ?_
    refine lv_iload_n hx hb dX7_places_35 rfl (lv_at hl 2 rfl) ?_
    obtain ⟨g6, hg6, hf⟩ := o_b hf
    refine bVi C hP hD hS (tX7_hall l G a a_book a_spare a_images a_kept a_text a_length a_refused a_items a_many a_at a_sort a_start a_size a_due a_rung a_anywhere_21 x1_2 x2_21 g6 hg6) gX7_places_X7_hall rfl ⟨rfl, rfl⟩ hdX7_hall ⟨Nat.le_of_ble_eq_true rfl, Nat.le_of_ble_eq_true rfl⟩ rfl hl.1 rfl (Nat.le_of_ble_eq_true rfl) ⟨Nat.le_of_ble_eq_true rfl, Nat.le_of_ble_eq_true rfl⟩ [0] rfl rfl rfl (setB_same _ _ _ rfl) rfl (ci := 7) (q0 := 0) rfl rfl rfl dX7_places_36 (fun H locs hP hD hS => ?_)
    refine at_pc (pc' := 39) rfl ?_
    refine lv_ior hx hb dX7_places_39 ?_
    obtain ⟨u7, hu7, hf⟩ := o_b hf
    refine k_iast hx hb hK hP hD hS 10 0 rfl rfl hu7 dX7_places_40 (fun H locs hP hD hS => ?_)
    have hP : va_P G.1 vwCl (flat [wX7 G a a_book a_spare a_images a_kept a_text a_length a_refused a_items a_many a_at a_sort a_start a_size a_due a_rung u7]) H := hP
    have hD : va_D A (flat [wX7 G a a_book a_spare a_images a_kept a_text a_length a_refused a_items a_many a_at a_sort a_start a_size a_due a_rung u7]) := hD
    refine lv_iinc (v := x2_21 + 1) (lv' := [(2, .int (x2_21 + 1)), (0, .ref (a 0)), (1, .int x1_2)]) hx hb dX7_places_41 hl (k := 2) rfl (congrArg (fun z => x2_21 + z) (by decide)) (by decide) rfl (fun ls hl => ?_)
    refine lv_goto (tgt := 21) hx hb dX7_places_44 (by decide) ?_
    exact ih _ _ _ _ _ hP hD hS (lv_sub hl [1, 2, 0] rfl) hf
set_option maxHeartbeats 4000000 in
set_option maxRecDepth 100000 in
theorem lX7_places_2 {p : Program} {e : Env} {s : State} {m : MethodId} {args : Array Value} {below : List Frame} {meth : Method} {c : Code} {A : Nat → Prop} (l : Launch) (G : GG) (C : Cx p m c cX7_places 3 s args wsX7_places RX7 meth none G A) (a : Nat → Nat) (a_book : Nat → Int32) (a_spare : Nat → Int32) (a_images : Nat → Int32) (a_kept : Nat → Int32) (a_text : Nat → Int32) (a_length : Int32) (a_refused : Nat → Int32) (a_items : Nat → Int32) (a_many : Int32) (a_at : Int32) (a_sort : Int32) (a_start : Int32) (a_size : Int32) (a_due : Nat → Int32) (a_rung : Nat → Int32) (a_anywhere : Nat → Int32)  (out : (Nat → Int32)) (kx : Int32 → (Nat → Int32) → Option ((Nat → Int32))) (HX : ∀ (x1_2 : Int32) (a_anywhere_2 : Nat → Int32) (H : Heap) (locs : List Loc) (ls : Array Slot), va_P G.1 vwCl (flat [wX7 G a a_book a_spare a_images a_kept a_text a_length a_refused a_items a_many a_at a_sort a_start a_size a_due a_rung a_anywhere_2]) H → va_D A (flat [wX7 G a a_book a_spare a_images a_kept a_text a_length a_refused a_items a_many a_at a_sort a_start a_size a_due a_rung a_anywhere_2]) → va_S A s.heap H locs → lv_has ls 3 [(0, .ref (a 0)), (1, .int x1_2)] → kx x1_2 a_anywhere_2 = some out → W p l e rmX7_places s m args below meth c H locs 0 0 (MQ below (QV G A (flat [wX7 G a a_book a_spare a_images a_kept a_text a_length a_refused a_items a_many a_at a_sort a_start a_size a_due a_rung out])) args s 0 0 A) (F0 m 53 ls [])) : ∀ (n : Nat) (x1_2 : Int32) (a_anywhere_2 : Nat → Int32) (H : Heap) (locs : List Loc) (ls : Array Slot), va_P G.1 vwCl (flat [wX7 G a a_book a_spare a_images a_kept a_text a_length a_refused a_items a_many a_at a_sort a_start a_size a_due a_rung a_anywhere_2]) H → va_D A (flat [wX7 G a a_book a_spare a_images a_kept a_text a_length a_refused a_items a_many a_at a_sort a_start a_size a_due a_rung a_anywhere_2]) → va_S A s.heap H locs → lv_has ls 3 [(0, .ref (a 0)), (1, .int x1_2)] → fX7_places_2 a_book kx n x1_2 a_anywhere_2 = some out → W p l e rmX7_places s m args below meth c H locs 0 0 (MQ below (QV G A (flat [wX7 G a a_book a_spare a_images a_kept a_text a_length a_refused a_items a_many a_at a_sort a_start a_size a_due a_rung out])) args s 0 0 A) (F0 m 2 ls []) := by
  obtain ⟨⟨hx, hb, hml, hown, hts⟩, hr, hlocks, hK, hN, hE, hA⟩ := id C
  intro n
  induction n with
  | zero =>
    intro x1_2 a_anywhere_2 H locs ls hP hD hS hl hf
    exact absurd (show (none : Option ((Nat → Int32))) = some out from hf) (by intro q9; cases q9)
  | succ n ih =>
    intro x1_2 a_anywhere_2 H locs ls hP hD hS hl hf
    rw [fX7_places_2] at hf
    refine lv_iload_n hx hb dX7_places_2 rfl (lv_at hl 1 rfl) ?_
    refine lv_aload_n hx hb dX7_places_3 rfl (lv_at hl 0 rfl) ?_
    refine va_get (D := G.1) (ci := 7) (v := .ref (a 1)) (C := RX7) (T := TX7) (N := 16) hx hb hts iiX7_places_X7 hown hK hP 0 rfl rfl 0 (by decide) (hts _ mmX7_places_1) (fun _ h9 => h9) rfl dX7_places_4 ?_
    refine lv_iconst (v := 0) hx hb dX7_places_7 (by decide) ?_
    obtain ⟨z1, hz1, hf⟩ := o_b hf
    refine k_iald hx hb hK hP 1 0 rfl rfl hz1 dX7_places_8 ?_
    refine lv_icmp_ge (tgt := 53) hx hb dX7_places_9 (by decide) (fun c2 => ?_) (fun c2 => ?_)
    · have hf := (o_i hf).1 c2
      exact HX _ _ _ _ _ hP hD hS (lv_sub hl [0, 1] rfl) hf
    have hf := (o_i hf).2 c2
    refine lv_aload_n hx hb dX7_places_12 rfl (lv_at hl 0 rfl) ?_
    refine va_get (D := G.1) (ci := 7) (v := .ref (a 10)) (C := RX7) (T := TX7) (N := 16) hx hb hts iiX7_places_X7 hown hK hP 0 rfl rfl 15 (by decide) (hts _ mmX7_places_2) (fun _ h9 => h9) rfl dX7_places_13 ?_
    refine lv_iload_n hx hb dX7_places_16 rfl (lv_at hl 1 rfl) ?_
    refine lv_iconst (v := 0) hx hb dX7_places_17 (by decide) ?_
    obtain ⟨u3, hu3, hf⟩ := o_b hf
    refine k_iast hx hb hK hP hD hS 10 0 rfl rfl hu3 dX7_places_18 (fun H locs hP hD hS => ?_)
    have hP : va_P G.1 vwCl (flat [wX7 G a a_book a_spare a_images a_kept a_text a_length a_refused a_items a_many a_at a_sort a_start a_size a_due a_rung u3]) H := hP
    have hD : va_D A (flat [wX7 G a a_book a_spare a_images a_kept a_text a_length a_refused a_items a_many a_at a_sort a_start a_size a_due a_rung u3]) := hD
    refine lv_iconst (v := 0) hx hb dX7_places_19 (by decide) ?_
    refine lv_istore_n (lv' := [(2, .int 0), (0, .ref (a 0)), (1, .int x1_2)]) hx hb dX7_places_20 rfl hl (by decide) rfl (fun ls hl => ?_)
    refine lX7_places_21 l G C a a_book a_spare a_images a_kept a_text a_length a_refused a_items a_many a_at a_sort a_start a_size a_due a_rung a_anywhere x1_2 out _ (fun x2_21_8 a_anywhere_21_9 H locs ls hP hD hS hl hf => ?_) fu 0 u3 _ _ _ hP hD hS (lv_sub hl [1, 2, 0] rfl) hf
    refine lv_iinc (v := x1_2 + 1) (lv' := [(1, .int (x1_2 + 1)), (0, .ref (a 0)), (2, .int x2_21_8)]) hx hb dX7_places_47 hl (k := 1) rfl (congrArg (fun z => x1_2 + z) (by decide)) (by decide) rfl (fun ls hl => ?_)
    refine lv_goto (tgt := 2) hx hb dX7_places_50 (by decide) ?_
    exact ih _ _ _ _ _ hP hD hS (lv_sub hl [1, 0] rfl) hf
set_option maxHeartbeats 4000000 in
set_option maxRecDepth 100000 in
theorem tX7_places (l : Launch) (G : GG) (a : Nat → Nat) (a_book : Nat → Int32) (a_spare : Nat → Int32) (a_images : Nat → Int32) (a_kept : Nat → Int32) (a_text : Nat → Int32) (a_length : Int32) (a_refused : Nat → Int32) (a_items : Nat → Int32) (a_many : Int32) (a_at : Int32) (a_sort : Int32) (a_start : Int32) (a_size : Int32) (a_due : Nat → Int32) (a_rung : Nat → Int32) (a_anywhere : Nat → Int32) (out : (Nat → Int32)) (hf : fX7_places a_book a_anywhere = some out) : cMv l G yX7_places wsX7_places rmX7_places [.ref (a 0)] (flat [wX7 G a a_book a_spare a_images a_kept a_text a_length a_refused a_items a_many a_at a_sort a_start a_size a_due a_rung a_anywhere]) (flat [wX7 G a a_book a_spare a_images a_kept a_text a_length a_refused a_items a_many a_at a_sort a_start a_size a_due a_rung out]) := by
  intro sz
  refine met_of (cc := cX7_places) (nL := 3) (ret := none) (Qc := fun A9 => QV G A9 (flat [wX7 G a a_book a_spare a_images a_kept a_text a_length a_refused a_items a_many a_at a_sort a_start a_size a_due a_rung out])) (by decide) rfl (Nat.le_of_ble_eq_true rfl) ?_
  intro p e s m args below meth c A ls C hP hD hS hl
  obtain ⟨⟨hx, hb, hml, hown, hts⟩, hr, hlocks, hK, hN, hE, hA⟩ := id C
  have hl : lv_has ls 3 [(0, .ref (a 0))] := hl
  unfold fX7_places at hf
  refine lv_iconst (v := 0) hx hb dX7_places_0 (by decide) ?_
  refine lv_istore_n (lv' := [(1, .int 0), (0, .ref (a 0))]) hx hb dX7_places_1 rfl hl (by decide) rfl (fun ls hl => ?_)
  refine lX7_places_2 l G C a a_book a_spare a_images a_kept a_text a_length a_refused a_items a_many a_at a_sort a_start a_size a_due a_rung a_anywhere out _ (fun x1_2_10 a_anywhere_2_11 H locs ls hP hD hS hl hf => ?_) fu 0 a_anywhere _ _ _ hP hD hS (lv_sub hl [1, 0] rfl) hf
  have e9 := Option.some.inj hf
  subst e9
  exact rt_v C hP hS dX7_places_53

/-! RX7 ropes(I)I -/
theorem iiX7_ropes_X7 : ∀ w ∈ wsX70, w ∈ wsX7_ropes := by decide +kernel
theorem mmX7_ropes_1 : (Cond.fieldLink RX7 7 "BlindBellsModel" "book" "[I") ∈ wsX7_ropes := by decide +kernel
theorem mmX7_ropes_2 : (Cond.fieldLink RX7 38 "BlindBellsModel" "anywhere" "[I") ∈ wsX7_ropes := by decide +kernel
theorem hdX7_ropes : yX7_ropes.cls = RX7 ∧ yX7_ropes.cls ≠ "java/lang/invoke/MethodHandle" ∧ yX7_ropes.cls ≠ "java/lang/invoke/VarHandle" ∧ (parseMethodDescriptor yX7_ropes.desc).map (fun d => d.parameters.length) = some 1 := by decide +kernel
abbrev rmX7_ropes : Room := { frames := 3, cells := 0, slots := 0, locals := 72 }
set_option maxHeartbeats 4000000 in
set_option maxRecDepth 100000 in
theorem lX7_ropes_67 {p : Program} {e : Env} {s : State} {m : MethodId} {args : Array Value} {below : List Frame} {meth : Method} {c : Code} {A : Nat → Prop} (l : Launch) (G : GG) (C : Cx p m c cX7_ropes 7 s args wsX7_ropes RX7 meth (some .int) G A) (a : Nat → Nat) (a_book : Nat → Int32) (a_spare : Nat → Int32) (a_images : Nat → Int32) (a_kept : Nat → Int32) (a_text : Nat → Int32) (a_length : Int32) (a_refused : Nat → Int32) (a_items : Nat → Int32) (a_many : Int32) (a_at : Int32) (a_sort : Int32) (a_start : Int32) (a_size : Int32) (a_due : Nat → Int32) (a_rung : Nat → Int32) (a_anywhere : Nat → Int32) (p0 : Int32) (g4 : (Nat → Int32)) (x2_35 : Int32) (x3_35 : Int32) (x4_35 : Int32) (out : Int32 × (Nat → Int32) × (Nat → Int32)) (kx : Int32 → Int32 → Option (Int32 × (Nat → Int32) × (Nat → Int32))) (HX : ∀ (x5_67 : Int32) (x6_67 : Int32) (H : Heap) (locs : List Loc) (ls : Array Slot), va_P G.1 vwCl (flat [wX7 G a a_book a_spare a_images a_kept a_text a_length a_refused a_items a_many a_at a_sort a_start a_size a_due a_rung g4]) H → va_D A (flat [wX7 G a a_book a_spare a_images a_kept a_text a_length a_refused a_items a_many a_at a_sort a_start a_size a_due a_rung g4]) → va_S A s.heap H locs → lv_has ls 7 [(0, .ref (a 0)), (1, .int p0), (2, .int x2_35), (3, .int x3_35), (4, .int x4_35), (5, .int x5_67), (6, .int x6_67)] → kx x5_67 x6_67 = some out → W p l e rmX7_ropes s m args below meth c H locs 0 0 (MQ below (QI G A out.1 (flat [wX7 G a a_book a_spare a_images a_kept a_text a_length out.2.1 a_items a_many a_at a_sort a_start a_size a_due a_rung out.2.2])) args s 0 0 A) (F0 m 123 ls [])) : ∀ (n : Nat) (x5_67 : Int32) (x6_67 : Int32) (H : Heap) (locs : List Loc) (ls : Array Slot), va_P G.1 vwCl (flat [wX7 G a a_book a_spare a_images a_kept a_text a_length a_refused a_items a_many a_at a_sort a_start a_size a_due a_rung g4]) H → va_D A (flat [wX7 G a a_book a_spare a_images a_kept a_text a_length a_refused a_items a_many a_at a_sort a_start a_size a_due a_rung g4]) → va_S A s.heap H locs → lv_has ls 7 [(0, .ref (a 0)), (1, .int p0), (2, .int x2_35), (3, .int x3_35), (4, .int x4_35), (5, .int x5_67), (6, .int x6_67)] → fX7_ropes_67 a_book g4 x4_35 kx n x5_67 x6_67 = some out → W p l e rmX7_ropes s m args below meth c H locs 0 0 (MQ below (QI G A out.1 (flat [wX7 G a a_book a_spare a_images a_kept a_text a_length out.2.1 a_items a_many a_at a_sort a_start a_size a_due a_rung out.2.2])) args s 0 0 A) (F0 m 67 ls []) := by
  obtain ⟨⟨hx, hb, hml, hown, hts⟩, hr, hlocks, hK, hN, hE, hA⟩ := id C
  intro n
  induction n with
  | zero =>
    intro x5_67 x6_67 H locs ls hP hD hS hl hf
    exact absurd (show (none : Option (Int32 × (Nat → Int32) × (Nat → Int32))) = some out from hf) (by intro q9; cases q9)
  | succ n ih =>
    intro x5_67 x6_67 H locs ls hP hD hS hl hf
    rw [fX7_ropes_67] at hf
    refine lv_iload hx hb dX7_ropes_67 (lv_at hl 6 rfl) ?_
    refine lv_aload_n hx hb dX7_ropes_69 rfl (lv_at hl 0 rfl) ?_
    refine va_get (D := G.1) (ci := 7) (v := .ref (a 1)) (C := RX7) (T := TX7) (N := 16) hx hb hts iiX7_ropes_X7 hown hK hP 0 rfl rfl 0 (by decide) (hts _ mmX7_ropes_1) (fun _ h9 => h9) rfl dX7_ropes_70 ?_
    refine lv_iconst (v := 0) hx hb dX7_ropes_73 (by decide) ?_
    obtain ⟨z10, hz10, hf⟩ := o_b hf
    refine k_iald hx hb hK hP 1 0 rfl rfl hz10 dX7_ropes_74 ?_
    refine lv_icmp_ge (tgt := 123) hx hb dX7_ropes_75 (by decide) (fun c11 => ?_) (fun c11 => ?_)
    · have hf := (o_i hf).1 c11
      exact HX _ _ _ _ _ hP hD hS (lv_sub hl [0, 1, 2, 3, 4, 5, 6] rfl) hf
    have hf := (o_i hf).2 c11
    refine lv_iload hx hb dX7_ropes_78 (lv_at hl 5 rfl) ?_
    refine lv_if_eq (tgt := 123) hx hb dX7_ropes_80 (by decide) (fun c12 => ?_) (fun c12 => ?_)
    · have hf := (o_i hf).1 c12
      exact HX _ _ _ _ _ hP hD hS (lv_sub hl [0, 1, 2, 3, 4, 5, 6] rfl) hf
    have hf := (o_i hf).2 c12
    refine lv_aload_n hx hb dX7_ropes_83 rfl (lv_at hl 0 rfl) ?_
    refine va_get (D := G.1) (ci := 7) (v := .ref (a 10)) (C := RX7) (T := TX7) (N := 16) hx hb hts iiX7_ropes_X7 hown hK hP 0 rfl rfl 15 (by decide) (hts _ mmX7_ropes_2) (fun _ h9 => h9) rfl dX7_ropes_84 ?_
    refine lv_iload hx hb dX7_ropes_87 (lv_at hl 6 rfl) ?_
    obtain ⟨z13, hz13, hf⟩ := o_b hf
    refine k_iald hx hb hK hP 10 0 rfl rfl hz13 dX7_ropes_89 ?_
    refine lv_aload_n hx hb dX7_ropes_90 rfl (lv_at hl 0 rfl) ?_
    refine lv_iload hx hb dX7_ropes_91 (lv_at hl 4 rfl) ?_
    refine lv_aload_n hx hb dX7_ropes_93 rfl (lv_at hl 0 rfl) ?_
    refine va_get (D := G.1) (ci := 7) (v := .ref (a 1)) (C := RX7) (T := TX7) (N := 16) hx hb hts iiX7_ropes_X7 hown hK hP 0 rfl rfl 0 (by decide) (hts _ mmX7_ropes_1) (fun _ h9 => h9) rfl dX7_ropes_94 ?_
    refine lv_iconst (v := 0) hx hb dX7_ropes_97 (by decide) ?_
    refine at_pc (pc' := 98) rfl ?_
    obtain ⟨z14, hz14, hf⟩ := o_b hf
    refine k_iald hx hb hK hP 1 0 rfl rfl hz14 dX7_ropes_98 ?_
    refine lv_iload hx hb dX7_ropes_99 (lv_at hl 6 rfl) ?_
    obtain ⟨g15, hg15, hf⟩ := o_b hf
    refine bVi C hP hD hS (tX7_digit l G a a_book a_spare a_images a_kept a_text a_length a_refused a_items a_many a_at a_sort a_start a_size a_due a_rung g4 x4_35 z14 x6_67 g15 hg15) gX7_ropes_X7_digit rfl ⟨rfl, rfl⟩ hdX7_digit ⟨Nat.le_of_ble_eq_true rfl, Nat.le_of_ble_eq_true rfl⟩ rfl hl.1 rfl (Nat.le_of_ble_eq_true rfl) ⟨Nat.le_of_ble_eq_true rfl, Nat.le_of_ble_eq_true rfl⟩ [0] rfl rfl rfl (setB_same _ _ _ rfl) rfl (ci := 7) (q0 := 0) rfl rfl rfl dX7_ropes_101 (fun H locs hP hD hS => ?_)
    refine lv_ishr hx hb dX7_ropes_104 ?_
    refine lv_iconst (v := 1) hx hb dX7_ropes_105 (by decide) ?_
    refine lv_iand hx hb dX7_ropes_106 ?_
    refine lv_if_ne (tgt := 114) hx hb dX7_ropes_107 (by decide) (fun c16 => ?_) (fun c16 => ?_)
    · have hf := (o_i hf).2 c16
      refine lv_iconst (v := 0) hx hb dX7_ropes_114 (by decide) ?_
      refine lv_istore (lv' := [(5, .int 0), (0, .ref (a 0)), (1, .int p0), (2, .int x2_35), (3, .int x3_35), (4, .int x4_35), (6, .int x6_67)]) hx hb dX7_ropes_115 hl (by decide) rfl (fun ls hl => ?_)
      refine lv_iinc (v := x6_67 + 1) (lv' := [(6, .int (x6_67 + 1)), (5, .int 0), (0, .ref (a 0)), (1, .int p0), (2, .int x2_35), (3, .int x3_35), (4, .int x4_35)]) hx hb dX7_ropes_117 hl (k := 6) rfl (congrArg (fun z => x6_67 + z) (by decide)) (by decide) rfl (fun ls hl => ?_)
      refine lv_goto (tgt := 67) hx hb dX7_ropes_120 (by decide) ?_
      exact ih _ _ _ _ _ hP hD hS (lv_sub hl [2, 3, 4, 5, 6, 1, 0] rfl) hf
    have hf := (o_i hf).1 c16
    refine lv_iconst (v := 1) hx hb dX7_ropes_110 (by decide) ?_
    refine lv_goto (tgt := 115) hx hb dX7_ropes_111 (by decide) ?_
    refine lv_istore (lv' := [(5, .int 1), (0, .ref (a 0)), (1, .int p0), (2, .int x2_35), (3, .int x3_35), (4, .int x4_35), (6, .int x6_67)]) hx hb dX7_ropes_115 hl (by decide) rfl (fun ls hl => ?_)
    refine lv_iinc (v := x6_67 + 1) (lv' := [(6, .int (x6_67 + 1)), (5, .int 1), (0, .ref (a 0)), (1, .int p0), (2, .int x2_35), (3, .int x3_35), (4, .int x4_35)]) hx hb dX7_ropes_117 hl (k := 6) rfl (congrArg (fun z => x6_67 + z) (by decide)) (by decide) rfl (fun ls hl => ?_)
    refine lv_goto (tgt := 67) hx hb dX7_ropes_120 (by decide) ?_
    exact ih _ _ _ _ _ hP hD hS (lv_sub hl [2, 3, 4, 5, 6, 1, 0] rfl) hf
set_option maxHeartbeats 4000000 in
set_option maxRecDepth 100000 in
theorem lX7_ropes_35 {p : Program} {e : Env} {s : State} {m : MethodId} {args : Array Value} {below : List Frame} {meth : Method} {c : Code} {A : Nat → Prop} (l : Launch) (G : GG) (C : Cx p m c cX7_ropes 7 s args wsX7_ropes RX7 meth (some .int) G A) (a : Nat → Nat) (a_book : Nat → Int32) (a_spare : Nat → Int32) (a_images : Nat → Int32) (a_kept : Nat → Int32) (a_text : Nat → Int32) (a_length : Int32) (a_refused : Nat → Int32) (a_items : Nat → Int32) (a_many : Int32) (a_at : Int32) (a_sort : Int32) (a_start : Int32) (a_size : Int32) (a_due : Nat → Int32) (a_rung : Nat → Int32) (a_anywhere : Nat → Int32) (p0 : Int32) (g4 : (Nat → Int32)) (out : Int32 × (Nat → Int32) × (Nat → Int32)) (kx : Int32 → Int32 → Int32 → Option (Int32 × (Nat → Int32) × (Nat → Int32))) (HX : ∀ (x2_35 : Int32) (x3_35 : Int32) (x4_35 : Int32) (H : Heap) (locs : List Loc) (ls : Array Slot), va_P G.1 vwCl (flat [wX7 G a a_book a_spare a_images a_kept a_text a_length a_refused a_items a_many a_at a_sort a_start a_size a_due a_rung g4]) H → va_D A (flat [wX7 G a a_book a_spare a_images a_kept a_text a_length a_refused a_items a_many a_at a_sort a_start a_size a_due a_rung g4]) → va_S A s.heap H locs → lv_has ls 7 [(0, .ref (a 0)), (1, .int p0), (2, .int x2_35), (3, .int x3_35), (4, .int x4_35)] → kx x2_35 x3_35 x4_35 = some out → W p l e rmX7_ropes s m args below meth c H locs 0 0 (MQ below (QI G A out.1 (flat [wX7 G a a_book a_spare a_images a_kept a_text a_length out.2.1 a_items a_many a_at a_sort a_start a_size a_due a_rung out.2.2])) args s 0 0 A) (F0 m 172 ls [])) : ∀ (n : Nat) (x2_35 : Int32) (x3_35 : Int32) (x4_35 : Int32) (H : Heap) (locs : List Loc) (ls : Array Slot), va_P G.1 vwCl (flat [wX7 G a a_book a_spare a_images a_kept a_text a_length a_refused a_items a_many a_at a_sort a_start a_size a_due a_rung g4]) H → va_D A (flat [wX7 G a a_book a_spare a_images a_kept a_text a_length a_refused a_items a_many a_at a_sort a_start a_size a_due a_rung g4]) → va_S A s.heap H locs → lv_has ls 7 [(0, .ref (a 0)), (1, .int p0), (2, .int x2_35), (3, .int x3_35), (4, .int x4_35)] → fX7_ropes_35 a_book g4 kx n x2_35 x3_35 x4_35 = some out → W p l e rmX7_ropes s m args below meth c H locs 0 0 (MQ below (QI G A out.1 (flat [wX7 G a a_book a_spare a_images a_kept a_text a_length out.2.1 a_items a_many a_at a_sort a_start a_size a_due a_rung out.2.2])) args s 0 0 A) (F0 m 35 ls []) := by
  obtain ⟨⟨hx, hb, hml, hown, hts⟩, hr, hlocks, hK, hN, hE, hA⟩ := id C
  intro n
  induction n with
  | zero =>
    intro x2_35 x3_35 x4_35 H locs ls hP hD hS hl hf
    exact absurd (show (none : Option (Int32 × (Nat → Int32) × (Nat → Int32))) = some out from hf) (by intro q9; cases q9)
  | succ n ih =>
    intro x2_35 x3_35 x4_35 H locs ls hP hD hS hl hf
    rw [fX7_ropes_35] at hf
    refine lv_iload hx hb dX7_ropes_35 (lv_at hl 4 rfl) ?_
    refine lv_aload_n hx hb dX7_ropes_37 rfl (lv_at hl 0 rfl) ?_
    refine lv_aload_n hx hb dX7_ropes_38 rfl (lv_at hl 0 rfl) ?_
    refine va_get (D := G.1) (ci := 7) (v := .ref (a 1)) (C := RX7) (T := TX7) (N := 16) hx hb hts iiX7_ropes_X7 hown hK hP 0 rfl rfl 0 (by decide) (hts _ mmX7_ropes_1) (fun _ h9 => h9) rfl dX7_ropes_39 ?_
    refine lv_iconst (v := 0) hx hb dX7_ropes_42 (by decide) ?_
    obtain ⟨z5, hz5, hf⟩ := o_b hf
    refine k_iald hx hb hK hP 1 0 rfl rfl hz5 dX7_ropes_43 ?_
    obtain ⟨g6, hg6, hf⟩ := o_b hf
    refine bVi C hP hD hS (tX7_rows l G a a_book a_spare a_images a_kept a_text a_length a_refused a_items a_many a_at a_sort a_start a_size a_due a_rung g4 z5 g6 hg6) gX7_ropes_X7_rows rfl ⟨rfl, rfl⟩ hdX7_rows ⟨Nat.le_of_ble_eq_true rfl, Nat.le_of_ble_eq_true rfl⟩ rfl hl.1 rfl (Nat.le_of_ble_eq_true rfl) ⟨Nat.le_of_ble_eq_true rfl, Nat.le_of_ble_eq_true rfl⟩ [0] rfl rfl rfl (setB_same _ _ _ rfl) rfl (ci := 7) (q0 := 0) rfl rfl rfl dX7_ropes_44 (fun H locs hP hD hS => ?_)
    refine lv_icmp_ge (tgt := 172) hx hb dX7_ropes_47 (by decide) (fun c7 => ?_) (fun c7 => ?_)
    · have hf := (o_i hf).1 c7
      exact HX _ _ _ _ _ _ hP hD hS (lv_sub hl [0, 1, 2, 3, 4] rfl) hf
    have hf := (o_i hf).2 c7
    refine lv_aload_n hx hb dX7_ropes_50 rfl (lv_at hl 0 rfl) ?_
    refine lv_iload hx hb dX7_ropes_51 (lv_at hl 4 rfl) ?_
    refine lv_aload_n hx hb dX7_ropes_53 rfl (lv_at hl 0 rfl) ?_
    refine va_get (D := G.1) (ci := 7) (v := .ref (a 1)) (C := RX7) (T := TX7) (N := 16) hx hb hts iiX7_ropes_X7 hown hK hP 0 rfl rfl 0 (by decide) (hts _ mmX7_ropes_1) (fun _ h9 => h9) rfl dX7_ropes_54 ?_
    refine lv_iconst (v := 0) hx hb dX7_ropes_57 (by decide) ?_
    obtain ⟨z8, hz8, hf⟩ := o_b hf
    refine k_iald hx hb hK hP 1 0 rfl rfl hz8 dX7_ropes_58 ?_
    obtain ⟨g9, hg9, hf⟩ := o_b hf
    refine bVi C hP hD hS (tX7_areUnlike l G a a_book a_spare a_images a_kept a_text a_length a_refused a_items a_many a_at a_sort a_start a_size a_due a_rung g4 x4_35 z8 g9 hg9) gX7_ropes_X7_areUnlike rfl ⟨rfl, rfl⟩ hdX7_areUnlike ⟨Nat.le_of_ble_eq_true rfl, Nat.le_of_ble_eq_true rfl⟩ rfl hl.1 rfl (Nat.le_of_ble_eq_true rfl) ⟨Nat.le_of_ble_eq_true rfl, Nat.le_of_ble_eq_true rfl⟩ [0] rfl rfl rfl (setB_same _ _ _ rfl) rfl (ci := 7) (q0 := 0) rfl rfl rfl dX7_ropes_59 (fun H locs hP hD hS => ?_)
    refine lv_istore (lv' := [(5, .int g9), (0, .ref (a 0)), (1, .int p0), (2, .int x2_35), (3, .int x3_35), (4, .int x4_35)]) hx hb dX7_ropes_62 hl (by decide) rfl (fun ls hl => ?_)
    refine lv_iconst (v := 0) hx hb dX7_ropes_64 (by decide) ?_
    refine at_pc (pc' := 65) rfl ?_
    refine lv_istore (lv' := [(6, .int 0), (5, .int g9), (0, .ref (a 0)), (1, .int p0), (2, .int x2_35), (3, .int x3_35), (4, .int x4_35)]) hx hb dX7_ropes_65 hl (by decide) rfl (fun ls hl => ?_)
    refine lX7_ropes_67 l G C a a_book a_spare a_images a_kept a_text a_length a_refused a_items a_many a_at a_sort a_start a_size a_due a_rung a_anywhere p0 g4 x2_35 x3_35 x4_35 out _ (fun x5_67_17 x6_67_18 H locs ls hP hD hS hl hf => ?_) fu g9 0 _ _ _ hP hD hS (lv_sub hl [2, 3, 4, 5, 6, 1, 0] rfl) hf
    refine lv_iload hx hb dX7_ropes_123 (lv_at hl 5 rfl) ?_
    obtain ⟨f20, hf20, hf⟩ := o_b hf
    have hJ : ∀ (H : Heap) (locs : List Loc) (ls : Array Slot), va_P G.1 vwCl (flat [wX7 G a a_book a_spare a_images a_kept a_text a_length a_refused a_items a_many a_at a_sort a_start a_size a_due a_rung g4]) H → va_D A (flat [wX7 G a a_book a_spare a_images a_kept a_text a_length a_refused a_items a_many a_at a_sort a_start a_size a_due a_rung g4]) → va_S A s.heap H locs → lv_has ls 7 [(0, .ref (a 0)), (1, .int p0), (2, .int x2_35), (3, .int x3_35), (4, .int x4_35), (5, .int x5_67_17), (6, .int x6_67_18)] → W p l e rmX7_ropes s m args below meth c H locs 0 0 (MQ below (QI G A out.1 (flat [wX7 G a a_book a_spare a_images a_kept a_text a_length out.2.1 a_items a_many a_at a_sort a_start a_size a_due a_rung out.2.2])) args s 0 0 A) (F0 m 138 ls [.int f20]) := by
      intro H locs ls hP hD hS hl
      refine lv_istore (lv' := [(6, .int f20), (0, .ref (a 0)), (1, .int p0), (2, .int x2_35), (3, .int x3_35), (4, .int x4_35), (5, .int x5_67_17)]) hx hb dX7_ropes_138 hl (by decide) rfl (fun ls hl => ?_)
      refine lv_iload hx hb dX7_ropes_140 (lv_at hl 0 rfl) ?_
      refine lv_iload_n hx hb dX7_ropes_142 rfl (lv_at hl 3 rfl) ?_
      obtain ⟨f23, hf23, hf⟩ := o_b hf
      have hJ : ∀ (H : Heap) (locs : List Loc) (ls : Array Slot), va_P G.1 vwCl (flat [wX7 G a a_book a_spare a_images a_kept a_text a_length a_refused a_items a_many a_at a_sort a_start a_size a_due a_rung g4]) H → va_D A (flat [wX7 G a a_book a_spare a_images a_kept a_text a_length a_refused a_items a_many a_at a_sort a_start a_size a_due a_rung g4]) → va_S A s.heap H locs → lv_has ls 7 [(0, .ref (a 0)), (1, .int p0), (2, .int x2_35), (3, .int x3_35), (4, .int x4_35), (5, .int x5_67_17), (6, .int f20)] → W p l e rmX7_ropes s m args below meth c H locs 0 0 (MQ below (QI G A out.1 (flat [wX7 G a a_book a_spare a_images a_kept a_text a_length out.2.1 a_items a_many a_at a_sort a_start a_size a_due a_rung out.2.2])) args s 0 0 A) (F0 m 152 ls [.int f23]) := by
        intro H locs ls hP hD hS hl
        refine lv_istore_n (lv' := [(3, .int f23), (0, .ref (a 0)), (1, .int p0), (2, .int x2_35), (4, .int x4_35), (5, .int x5_67_17), (6, .int f20)]) hx hb dX7_ropes_152 rfl hl (by decide) rfl (fun ls hl => ?_)
        refine lv_iload hx hb dX7_ropes_153 (lv_at hl 6 rfl) ?_
        refine lv_iload_n hx hb dX7_ropes_155 rfl (lv_at hl 3 rfl) ?_
        refine lv_icmp_le (tgt := 164) hx hb dX7_ropes_156 (by decide) (fun c24 => ?_) (fun c24 => ?_)
        · have hf := (o_i hf).1 c24
          refine lv_iload_n hx hb dX7_ropes_164 rfl (lv_at hl 3 rfl) ?_
          refine lv_istore_n (lv' := [(2, .int x2_35), (3, .int f23), (0, .ref (a 0)), (1, .int p0), (4, .int x4_35), (5, .int x5_67_17), (6, .int f20)]) hx hb dX7_ropes_165 rfl hl (by decide) rfl (fun ls hl => ?_)
          refine lv_iinc (v := x4_35 + 1) (lv' := [(4, .int (x4_35 + 1)), (2, .int x2_35), (3, .int f23), (0, .ref (a 0)), (1, .int p0), (5, .int x5_67_17), (6, .int f20)]) hx hb dX7_ropes_166 hl (k := 4) rfl (congrArg (fun z => x4_35 + z) (by decide)) (by decide) rfl (fun ls hl => ?_)
          refine lv_goto (tgt := 35) hx hb dX7_ropes_169 (by decide) ?_
          exact ih _ _ _ _ _ _ hP hD hS (lv_sub hl [3, 4, 1, 2, 0] rfl) hf
        have hf := (o_i hf).2 c24
        refine lv_iload hx hb dX7_ropes_159 (lv_at hl 6 rfl) ?_
        refine lv_goto (tgt := 165) hx hb dX7_ropes_161 (by decide) ?_
        refine lv_istore_n (lv' := [(2, .int f20), (3, .int f23), (0, .ref (a 0)), (1, .int p0), (4, .int x4_35), (5, .int x5_67_17), (6, .int f20)]) hx hb dX7_ropes_165 rfl hl (by decide) rfl (fun ls hl => ?_)
        refine lv_iinc (v := x4_35 + 1) (lv' := [(4, .int (x4_35 + 1)), (2, .int f20), (3, .int f23), (0, .ref (a 0)), (1, .int p0), (5, .int x5_67_17), (6, .int f20)]) hx hb dX7_ropes_166 hl (k := 4) rfl (congrArg (fun z => x4_35 + z) (by decide)) (by decide) rfl (fun ls hl => ?_)
        refine lv_goto (tgt := 35) hx hb dX7_ropes_169 (by decide) ?_
        exact ih _ _ _ _ _ _ hP hD hS (lv_sub hl [3, 4, 1, 2, 0] rfl) hf
      clear hf
      have hf := hf23
      refine lv_icmp_le (tgt := 151) hx hb dX7_ropes_143 (by decide) (fun c22 => ?_) (fun c22 => ?_)
      · have hf := (o_i hf).1 c22
        refine lv_iload_n hx hb dX7_ropes_151 rfl (lv_at hl 4 rfl) ?_
        have e9 := Option.some.inj hf
        subst e9
        exact hJ _ _ _ hP hD hS (lv_sub hl [1, 2, 3, 4, 5, 6, 0] rfl)
      have hf := (o_i hf).2 c22
      refine lv_iload hx hb dX7_ropes_146 (lv_at hl 5 rfl) ?_
      refine lv_goto (tgt := 152) hx hb dX7_ropes_148 (by decide) ?_
      have e9 := Option.some.inj hf
      subst e9
      exact hJ _ _ _ hP hD hS (lv_sub hl [1, 2, 3, 4, 5, 6, 0] rfl)
    clear hf
    have hf := hf20
    refine lv_if_eq (tgt := 137) hx hb dX7_ropes_125 (by decide) (fun c19 => ?_) (fun c19 => ?_)
    · have hf := (o_i hf).1 c19
      refine lv_iconst (v := (-1)) hx hb dX7_ropes_137 (by decide) ?_
      have e9 := Option.some.inj hf
      subst e9
      exact hJ _ _ _ hP hD hS (lv_sub hl [0, 1, 2, 3, 4, 5, 6] rfl)
    have hf := (o_i hf).2 c19
    refine lv_aload_n hx hb dX7_ropes_128 rfl (lv_at hl 0 rfl) ?_
    refine lv_iload hx hb dX7_ropes_129 (lv_at hl 4 rfl) ?_
    obtain ⟨g21, hg21, hf⟩ := o_b hf
    refine bVi C hP hD hS (tX7_dues l G a a_book a_spare a_images a_kept a_text a_length a_refused a_items a_many a_at a_sort a_start a_size a_due a_rung g4 x4_35 g21 hg21) gX7_ropes_X7_dues rfl ⟨rfl, rfl⟩ hdX7_dues ⟨Nat.le_of_ble_eq_true rfl, Nat.le_of_ble_eq_true rfl⟩ rfl hl.1 rfl (Nat.le_of_ble_eq_true rfl) ⟨Nat.le_of_ble_eq_true rfl, Nat.le_of_ble_eq_true rfl⟩ [0] rfl rfl rfl (setB_same _ _ _ rfl) rfl (ci := 7) (q0 := 0) rfl rfl rfl dX7_ropes_131 (fun H locs hP hD hS => ?_)
    refine lv_goto (tgt := 138) hx hb dX7_ropes_134 (by decide) ?_
    have e9 := Option.some.inj hf
    subst e9
    exact hJ _ _ _ hP hD hS (lv_sub hl [0, 1, 2, 3, 4, 5, 6] rfl)
set_option maxHeartbeats 4000000 in
set_option maxRecDepth 100000 in
theorem tX7_ropes (l : Launch) (G : GG) (a : Nat → Nat) (a_book : Nat → Int32) (a_spare : Nat → Int32) (a_images : Nat → Int32) (a_kept : Nat → Int32) (a_text : Nat → Int32) (a_length : Int32) (a_refused : Nat → Int32) (a_items : Nat → Int32) (a_many : Int32) (a_at : Int32) (a_sort : Int32) (a_start : Int32) (a_size : Int32) (a_due : Nat → Int32) (a_rung : Nat → Int32) (a_anywhere : Nat → Int32) (p0 : Int32) (out : Int32 × (Nat → Int32) × (Nat → Int32)) (hf : fX7_ropes a_book a_refused a_anywhere p0 = some out) : cMi l G yX7_ropes wsX7_ropes rmX7_ropes [.ref (a 0), .int p0] (flat [wX7 G a a_book a_spare a_images a_kept a_text a_length a_refused a_items a_many a_at a_sort a_start a_size a_due a_rung a_anywhere]) out.1 (flat [wX7 G a a_book a_spare a_images a_kept a_text a_length out.2.1 a_items a_many a_at a_sort a_start a_size a_due a_rung out.2.2]) := by
  intro sz
  refine met_of (cc := cX7_ropes) (nL := 7) (ret := (some .int)) (Qc := fun A9 => QI G A9 out.1 (flat [wX7 G a a_book a_spare a_images a_kept a_text a_length out.2.1 a_items a_many a_at a_sort a_start a_size a_due a_rung out.2.2])) (by decide) rfl (Nat.le_of_ble_eq_true rfl) ?_
  intro p e s m args below meth c A ls C hP hD hS hl
  obtain ⟨⟨hx, hb, hml, hown, hts⟩, hr, hlocks, hK, hN, hE, hA⟩ := id C
  have hl : lv_has ls 7 [(0, .ref (a 0)), (1, .int p0)] := hl
  unfold fX7_ropes at hf
  refine lv_iload_n hx hb dX7_ropes_0 rfl (lv_at hl 1 rfl) ?_
  refine lv_iconst (v := (-1)) hx hb dX7_ropes_1 (by decide) ?_
  refine lv_aload_n hx hb dX7_ropes_2 rfl (lv_at hl 0 rfl) ?_
  refine va_get (D := G.1) (ci := 7) (v := .ref (a 1)) (C := RX7) (T := TX7) (N := 16) hx hb hts iiX7_ropes_X7 hown hK hP 0 rfl rfl 0 (by decide) (hts _ mmX7_ropes_1) (fun _ h9 => h9) rfl dX7_ropes_3 ?_
  refine lv_iconst (v := 0) hx hb dX7_ropes_6 (by decide) ?_
  obtain ⟨z1, hz1, hf⟩ := o_b hf
  refine k_iald hx hb hK hP 1 0 rfl rfl hz1 dX7_ropes_7 ?_
  refine lv_iconst (v := 1) hx hb dX7_ropes_8 (by decide) ?_
  refine lv_isub hx hb dX7_ropes_9 ?_
  obtain ⟨g2, hg2, hf⟩ := o_b hf
  refine bSi C hP hD hS (tX7_in l G p0 ((-1)) (z1 - 1) g2 hg2) gX7_ropes_X7_in rfl ⟨rfl, rfl⟩ hdX7_in ⟨Nat.le_of_ble_eq_true rfl, Nat.le_of_ble_eq_true rfl⟩ rfl hl.1 rfl (Nat.le_of_ble_eq_true rfl) ⟨Nat.le_of_ble_eq_true rfl, Nat.le_of_ble_eq_true rfl⟩ [] rfl rfl rfl (setB_same _ _ _ rfl) rfl dX7_ropes_10 (fun H locs hP hD hS => ?_)
  refine at_pc (pc' := 13) rfl ?_
  refine lv_if_ne (tgt := 24) hx hb dX7_ropes_13 (by decide) (fun c3 => ?_) (fun c3 => ?_)
  · have hf := (o_i hf).2 c3
    refine lv_aload_n hx hb dX7_ropes_24 rfl (lv_at hl 0 rfl) ?_
    obtain ⟨g4, hg4, hf⟩ := o_b hf
    refine bVv (Bs' := [wX7 G a a_book a_spare a_images a_kept a_text a_length a_refused a_items a_many a_at a_sort a_start a_size a_due a_rung g4]) C hP hD hS (tX7_places l G a a_book a_spare a_images a_kept a_text a_length a_refused a_items a_many a_at a_sort a_start a_size a_due a_rung a_anywhere g4 hg4) gX7_ropes_X7_places rfl ⟨rfl, rfl⟩ hdX7_places ⟨Nat.le_of_ble_eq_true rfl, Nat.le_of_ble_eq_true rfl⟩ rfl hl.1 rfl (Nat.le_of_ble_eq_true rfl) ⟨Nat.le_of_ble_eq_true rfl, Nat.le_of_ble_eq_true rfl⟩ [0] rfl rfl rfl rfl rfl (ci := 7) (q0 := 0) rfl rfl rfl dX7_ropes_25 (fun H locs hP hD hS => ?_)
    have hP : va_P G.1 vwCl (flat [wX7 G a a_book a_spare a_images a_kept a_text a_length a_refused a_items a_many a_at a_sort a_start a_size a_due a_rung g4]) H := hP
    have hD : va_D A (flat [wX7 G a a_book a_spare a_images a_kept a_text a_length a_refused a_items a_many a_at a_sort a_start a_size a_due a_rung g4]) := hD
    refine lv_iconst (v := (-1)) hx hb dX7_ropes_28 (by decide) ?_
    refine lv_istore_n (lv' := [(2, .int ((-1))), (0, .ref (a 0)), (1, .int p0)]) hx hb dX7_ropes_29 rfl hl (by decide) rfl (fun ls hl => ?_)
    refine lv_iconst (v := 0) hx hb dX7_ropes_30 (by decide) ?_
    refine lv_istore_n (lv' := [(3, .int 0), (2, .int ((-1))), (0, .ref (a 0)), (1, .int p0)]) hx hb dX7_ropes_31 rfl hl (by decide) rfl (fun ls hl => ?_)
    refine lv_iconst (v := 0) hx hb dX7_ropes_32 (by decide) ?_
    refine lv_istore (lv' := [(4, .int 0), (3, .int 0), (2, .int ((-1))), (0, .ref (a 0)), (1, .int p0)]) hx hb dX7_ropes_33 hl (by decide) rfl (fun ls hl => ?_)
    refine lX7_ropes_35 l G C a a_book a_spare a_images a_kept a_text a_length a_refused a_items a_many a_at a_sort a_start a_size a_due a_rung a_anywhere p0 g4 out _ (fun x2_35_25 x3_35_26 x4_35_27 H locs ls hP hD hS hl hf => ?_) fu ((-1)) 0 0 _ _ _ hP hD hS (lv_sub hl [3, 4, 2, 1, 0] rfl) hf
    refine lv_iload_n hx hb dX7_ropes_172 rfl (lv_at hl 1 rfl) ?_
    refine lv_iconst (v := (-1)) hx hb dX7_ropes_173 (by decide) ?_
    refine lv_icmp_eq (tgt := 182) hx hb dX7_ropes_174 (by decide) (fun c28 => ?_) (fun c28 => ?_)
    · have hf := (o_i hf).1 c28
      refine lv_iload_n hx hb dX7_ropes_182 rfl (lv_at hl 2 rfl) ?_
      refine lv_goto (tgt := 198) hx hb dX7_ropes_183 (by decide) ?_
      have e9 := Option.some.inj hf
      subst e9
      exact rt_i C hP hS rfl dX7_ropes_198
    have hf := (o_i hf).2 c28
    refine lv_iload_n hx hb dX7_ropes_177 rfl (lv_at hl 2 rfl) ?_
    refine lv_iconst (v := (-1)) hx hb dX7_ropes_178 (by decide) ?_
    refine lv_icmp_ne (tgt := 186) hx hb dX7_ropes_179 (by decide) (fun c29 => ?_) (fun c29 => ?_)
    · have hf := (o_i hf).2 c29
      refine lv_aload_n hx hb dX7_ropes_186 rfl (lv_at hl 0 rfl) ?_
      refine lv_iload_n hx hb dX7_ropes_187 rfl (lv_at hl 3 rfl) ?_
      refine lv_aload_n hx hb dX7_ropes_188 rfl (lv_at hl 0 rfl) ?_
      refine va_get (D := G.1) (ci := 7) (v := .ref (a 1)) (C := RX7) (T := TX7) (N := 16) hx hb hts iiX7_ropes_X7 hown hK hP 0 rfl rfl 0 (by decide) (hts _ mmX7_ropes_1) (fun _ h9 => h9) rfl dX7_ropes_189 ?_
      refine lv_iconst (v := 0) hx hb dX7_ropes_192 (by decide) ?_
      obtain ⟨z30, hz30, hf⟩ := o_b hf
      refine k_iald hx hb hK hP 1 0 rfl rfl hz30 dX7_ropes_193 ?_
      refine lv_iload_n hx hb dX7_ropes_194 rfl (lv_at hl 1 rfl) ?_
      obtain ⟨g31, hg31, hf⟩ := o_b hf
      refine bVi C hP hD hS (tX7_digit l G a a_book a_spare a_images a_kept a_text a_length a_refused a_items a_many a_at a_sort a_start a_size a_due a_rung g4 x3_35_26 z30 p0 g31 hg31) gX7_ropes_X7_digit rfl ⟨rfl, rfl⟩ hdX7_digit ⟨Nat.le_of_ble_eq_true rfl, Nat.le_of_ble_eq_true rfl⟩ rfl hl.1 rfl (Nat.le_of_ble_eq_true rfl) ⟨Nat.le_of_ble_eq_true rfl, Nat.le_of_ble_eq_true rfl⟩ [0] rfl rfl rfl (setB_same _ _ _ rfl) rfl (ci := 7) (q0 := 0) rfl rfl rfl dX7_ropes_195 (fun H locs hP hD hS => ?_)
      have e9 := Option.some.inj hf
      subst e9
      exact rt_i C hP hS rfl dX7_ropes_198
    have hf := (o_i hf).1 c29
    refine lv_iload_n hx hb dX7_ropes_182 rfl (lv_at hl 2 rfl) ?_
    refine lv_goto (tgt := 198) hx hb dX7_ropes_183 (by decide) ?_
    have e9 := Option.some.inj hf
    subst e9
    exact rt_i C hP hS rfl dX7_ropes_198
  have hf := (o_i hf).1 c3
  refine lv_aload_n hx hb dX7_ropes_16 rfl (lv_at hl 0 rfl) ?_
  refine lv_iconst (v := 0) hx hb dX7_ropes_17 (by decide) ?_
  refine lv_bipush (v := (-10)) hx hb dX7_ropes_18 (by decide) ?_
  obtain ⟨g32, hg32, hf⟩ := o_b hf
  refine bVi (Bs' := [wX7 G a a_book a_spare a_images a_kept a_text a_length g32.2 a_items a_many a_at a_sort a_start a_size a_due a_rung a_anywhere]) C hP hD hS (tX7_refuses l G a a_book a_spare a_images a_kept a_text a_length a_refused a_items a_many a_at a_sort a_start a_size a_due a_rung a_anywhere 0 ((-10)) g32 hg32) gX7_ropes_X7_refuses rfl ⟨rfl, rfl⟩ hdX7_refuses ⟨Nat.le_of_ble_eq_true rfl, Nat.le_of_ble_eq_true rfl⟩ rfl hl.1 rfl (Nat.le_of_ble_eq_true rfl) ⟨Nat.le_of_ble_eq_true rfl, Nat.le_of_ble_eq_true rfl⟩ [0] rfl rfl rfl rfl rfl (ci := 7) (q0 := 0) rfl rfl rfl dX7_ropes_20 (fun H locs hP hD hS => ?_)
  have hP : va_P G.1 vwCl (flat [wX7 G a a_book a_spare a_images a_kept a_text a_length g32.2 a_items a_many a_at a_sort a_start a_size a_due a_rung a_anywhere]) H := hP
  have hD : va_D A (flat [wX7 G a a_book a_spare a_images a_kept a_text a_length g32.2 a_items a_many a_at a_sort a_start a_size a_due a_rung a_anywhere]) := hD
  have e9 := Option.some.inj hf
  subst e9
  exact rt_i C hP hS rfl dX7_ropes_23

/-! RX7 rope(I)I -/
theorem iiX7_rope_X7 : ∀ w ∈ wsX70, w ∈ wsX7_rope := by decide +kernel
theorem mmX7_rope_1 : (Cond.fieldLink RX7 7 "BlindBellsModel" "book" "[I") ∈ wsX7_rope := by decide +kernel
theorem hdX7_rope : yX7_rope.cls = RX7 ∧ yX7_rope.cls ≠ "java/lang/invoke/MethodHandle" ∧ yX7_rope.cls ≠ "java/lang/invoke/VarHandle" ∧ (parseMethodDescriptor yX7_rope.desc).map (fun d => d.parameters.length) = some 1 := by decide +kernel
abbrev rmX7_rope : Room := { frames := 2, cells := 0, slots := 0, locals := 43 }
set_option maxHeartbeats 4000000 in
set_option maxRecDepth 100000 in
theorem tX7_rope (l : Launch) (G : GG) (a : Nat → Nat) (a_book : Nat → Int32) (a_spare : Nat → Int32) (a_images : Nat → Int32) (a_kept : Nat → Int32) (a_text : Nat → Int32) (a_length : Int32) (a_refused : Nat → Int32) (a_items : Nat → Int32) (a_many : Int32) (a_at : Int32) (a_sort : Int32) (a_start : Int32) (a_size : Int32) (a_due : Nat → Int32) (a_rung : Nat → Int32) (a_anywhere : Nat → Int32) (p0 : Int32) (out : Int32 × (Nat → Int32)) (hf : fX7_rope a_book a_refused p0 = some out) : cMi l G yX7_rope wsX7_rope rmX7_rope [.ref (a 0), .int p0] (flat [wX7 G a a_book a_spare a_images a_kept a_text a_length a_refused a_items a_many a_at a_sort a_start a_size a_due a_rung a_anywhere]) out.1 (flat [wX7 G a a_book a_spare a_images a_kept a_text a_length out.2 a_items a_many a_at a_sort a_start a_size a_due a_rung a_anywhere]) := by
  intro sz
  refine met_of (cc := cX7_rope) (nL := 2) (ret := (some .int)) (Qc := fun A9 => QI G A9 out.1 (flat [wX7 G a a_book a_spare a_images a_kept a_text a_length out.2 a_items a_many a_at a_sort a_start a_size a_due a_rung a_anywhere])) (by decide) rfl (Nat.le_of_ble_eq_true rfl) ?_
  intro p e s m args below meth c A ls C hP hD hS hl
  obtain ⟨⟨hx, hb, hml, hown, hts⟩, hr, hlocks, hK, hN, hE, hA⟩ := id C
  have hl : lv_has ls 2 [(0, .ref (a 0)), (1, .int p0)] := hl
  unfold fX7_rope at hf
  refine lv_aload_n hx hb dX7_rope_0 rfl (lv_at hl 0 rfl) ?_
  refine lv_iload_n hx hb dX7_rope_1 rfl (lv_at hl 1 rfl) ?_
  obtain ⟨g1, hg1, hf⟩ := o_b hf
  refine bVi C hP hD hS (tX7_isOne l G a a_book a_spare a_images a_kept a_text a_length a_refused a_items a_many a_at a_sort a_start a_size a_due a_rung a_anywhere p0 g1 hg1) gX7_rope_X7_isOne rfl ⟨rfl, rfl⟩ hdX7_isOne ⟨Nat.le_of_ble_eq_true rfl, Nat.le_of_ble_eq_true rfl⟩ rfl hl.1 rfl (Nat.le_of_ble_eq_true rfl) ⟨Nat.le_of_ble_eq_true rfl, Nat.le_of_ble_eq_true rfl⟩ [0] rfl rfl rfl (setB_same _ _ _ rfl) rfl (ci := 7) (q0 := 0) rfl rfl rfl dX7_rope_2 (fun H locs hP hD hS => ?_)
  refine lv_if_eq (tgt := 20) hx hb dX7_rope_5 (by decide) (fun c2 => ?_) (fun c2 => ?_)
  · have hf := (o_i hf).1 c2
    refine lv_aload_n hx hb dX7_rope_20 rfl (lv_at hl 0 rfl) ?_
    obtain ⟨g3, hg3, hf⟩ := o_b hf
    refine bVi (Bs' := [wX7 G a a_book a_spare a_images a_kept a_text a_length g3.2 a_items a_many a_at a_sort a_start a_size a_due a_rung a_anywhere]) C hP hD hS (tX7_bad l G a a_book a_spare a_images a_kept a_text a_length a_refused a_items a_many a_at a_sort a_start a_size a_due a_rung a_anywhere g3 hg3) gX7_rope_X7_bad rfl ⟨rfl, rfl⟩ hdX7_bad ⟨Nat.le_of_ble_eq_true rfl, Nat.le_of_ble_eq_true rfl⟩ rfl hl.1 rfl (Nat.le_of_ble_eq_true rfl) ⟨Nat.le_of_ble_eq_true rfl, Nat.le_of_ble_eq_true rfl⟩ [0] rfl rfl rfl rfl rfl (ci := 7) (q0 := 0) rfl rfl rfl dX7_rope_21 (fun H locs hP hD hS => ?_)
    have hP : va_P G.1 vwCl (flat [wX7 G a a_book a_spare a_images a_kept a_text a_length g3.2 a_items a_many a_at a_sort a_start a_size a_due a_rung a_anywhere]) H := hP
    have hD : va_D A (flat [wX7 G a a_book a_spare a_images a_kept a_text a_length g3.2 a_items a_many a_at a_sort a_start a_size a_due a_rung a_anywhere]) := hD
    have e9 := Option.some.inj hf
    subst e9
    exact rt_i C hP hS rfl dX7_rope_24
  have hf := (o_i hf).2 c2
  refine lv_aload_n hx hb dX7_rope_8 rfl (lv_at hl 0 rfl) ?_
  refine va_get (D := G.1) (ci := 7) (v := .ref (a 1)) (C := RX7) (T := TX7) (N := 16) hx hb hts iiX7_rope_X7 hown hK hP 0 rfl rfl 0 (by decide) (hts _ mmX7_rope_1) (fun _ h9 => h9) rfl dX7_rope_9 ?_
  refine lv_bipush (v := 16) hx hb dX7_rope_12 (by decide) ?_
  refine lv_iload_n hx hb dX7_rope_14 rfl (lv_at hl 1 rfl) ?_
  refine lv_iadd hx hb dX7_rope_15 ?_
  obtain ⟨z4, hz4, hf⟩ := o_b hf
  refine k_iald hx hb hK hP 1 0 rfl rfl hz4 dX7_rope_16 ?_
  refine lv_goto (tgt := 24) hx hb dX7_rope_17 (by decide) ?_
  have e9 := Option.some.inj hf
  subst e9
  exact rt_i C hP hS rfl dX7_rope_24

/-! RX7 favoured(II)Z -/
theorem iiX7_favoured_X7 : ∀ w ∈ wsX70, w ∈ wsX7_favoured := by decide +kernel
theorem mmX7_favoured_1 : (Cond.fieldLink RX7 7 "BlindBellsModel" "book" "[I") ∈ wsX7_favoured := by decide +kernel
theorem mmX7_favoured_2 : (Cond.fieldLink RX7 38 "BlindBellsModel" "anywhere" "[I") ∈ wsX7_favoured := by decide +kernel
theorem hdX7_favoured : yX7_favoured.cls = RX7 ∧ yX7_favoured.cls ≠ "java/lang/invoke/MethodHandle" ∧ yX7_favoured.cls ≠ "java/lang/invoke/VarHandle" ∧ (parseMethodDescriptor yX7_favoured.desc).map (fun d => d.parameters.length) = some 2 := by decide +kernel
abbrev rmX7_favoured : Room := { frames := 0, cells := 0, slots := 0, locals := 0 }
set_option maxHeartbeats 4000000 in
set_option maxRecDepth 100000 in
theorem lX7_favoured_5 {p : Program} {e : Env} {s : State} {m : MethodId} {args : Array Value} {below : List Frame} {meth : Method} {c : Code} {A : Nat → Prop} (l : Launch) (G : GG) (C : Cx p m c cX7_favoured 5 s args wsX7_favoured RX7 meth (some .boolean) G A) (a : Nat → Nat) (a_book : Nat → Int32) (a_spare : Nat → Int32) (a_images : Nat → Int32) (a_kept : Nat → Int32) (a_text : Nat → Int32) (a_length : Int32) (a_refused : Nat → Int32) (a_items : Nat → Int32) (a_many : Int32) (a_at : Int32) (a_sort : Int32) (a_start : Int32) (a_size : Int32) (a_due : Nat → Int32) (a_rung : Nat → Int32) (a_anywhere : Nat → Int32) (p0 : Int32) (p1 : Int32) (out : Int32) (kx : Int32 → Int32 → Option (Int32)) (HX : ∀ (x3_5 : Int32) (x4_5 : Int32) (H : Heap) (locs : List Loc) (ls : Array Slot), va_P G.1 vwCl (flat [wX7 G a a_book a_spare a_images a_kept a_text a_length a_refused a_items a_many a_at a_sort a_start a_size a_due a_rung a_anywhere]) H → va_D A (flat [wX7 G a a_book a_spare a_images a_kept a_text a_length a_refused a_items a_many a_at a_sort a_start a_size a_due a_rung a_anywhere]) → va_S A s.heap H locs → lv_has ls 5 [(0, .ref (a 0)), (1, .int p0), (2, .int p1), (3, .int x3_5), (4, .int x4_5)] → kx x3_5 x4_5 = some out → W p l e rmX7_favoured s m args below meth c H locs 0 0 (MQ below (QI G A out (flat [wX7 G a a_book a_spare a_images a_kept a_text a_length a_refused a_items a_many a_at a_sort a_start a_size a_due a_rung a_anywhere])) args s 0 0 A) (F0 m 61 ls [])) : ∀ (n : Nat) (x3_5 : Int32) (x4_5 : Int32) (H : Heap) (locs : List Loc) (ls : Array Slot), va_P G.1 vwCl (flat [wX7 G a a_book a_spare a_images a_kept a_text a_length a_refused a_items a_many a_at a_sort a_start a_size a_due a_rung a_anywhere]) H → va_D A (flat [wX7 G a a_book a_spare a_images a_kept a_text a_length a_refused a_items a_many a_at a_sort a_start a_size a_due a_rung a_anywhere]) → va_S A s.heap H locs → lv_has ls 5 [(0, .ref (a 0)), (1, .int p0), (2, .int p1), (3, .int x3_5), (4, .int x4_5)] → fX7_favoured_5 p0 p1 a_book a_anywhere kx n x3_5 x4_5 = some out → W p l e rmX7_favoured s m args below meth c H locs 0 0 (MQ below (QI G A out (flat [wX7 G a a_book a_spare a_images a_kept a_text a_length a_refused a_items a_many a_at a_sort a_start a_size a_due a_rung a_anywhere])) args s 0 0 A) (F0 m 5 ls []) := by
  obtain ⟨⟨hx, hb, hml, hown, hts⟩, hr, hlocks, hK, hN, hE, hA⟩ := id C
  intro n
  induction n with
  | zero =>
    intro x3_5 x4_5 H locs ls hP hD hS hl hf
    exact absurd (show (none : Option (Int32)) = some out from hf) (by intro q9; cases q9)
  | succ n ih =>
    intro x3_5 x4_5 H locs ls hP hD hS hl hf
    rw [fX7_favoured_5] at hf
    refine lv_iload hx hb dX7_favoured_5 (lv_at hl 4 rfl) ?_
    refine lv_aload_n hx hb dX7_favoured_7 rfl (lv_at hl 0 rfl) ?_
    refine va_get (D := G.1) (ci := 7) (v := .ref (a 1)) (C := RX7) (T := TX7) (N := 16) hx hb hts iiX7_favoured_X7 hown hK hP 0 rfl rfl 0 (by decide) (hts _ mmX7_favoured_1) (fun _ h9 => h9) rfl dX7_favoured_8 ?_
    refine lv_iconst (v := 0) hx hb dX7_favoured_11 (by decide) ?_
    obtain ⟨z1, hz1, hf⟩ := o_b hf
    refine k_iald hx hb hK hP 1 0 rfl rfl hz1 dX7_favoured_12 ?_
    refine lv_icmp_ge (tgt := 61) hx hb dX7_favoured_13 (by decide) (fun c2 => ?_) (fun c2 => ?_)
    · have hf := (o_i hf).1 c2
      exact HX _ _ _ _ _ hP hD hS (lv_sub hl [0, 1, 2, 3, 4] rfl) hf
    have hf := (o_i hf).2 c2
    refine lv_iload_n hx hb dX7_favoured_16 rfl (lv_at hl 3 rfl) ?_
    refine lv_if_ne (tgt := 49) hx hb dX7_favoured_17 (by decide) (fun c3 => ?_) (fun c3 => ?_)
    · have hf := (o_i hf).2 c3
      refine lv_iconst (v := 1) hx hb dX7_favoured_49 (by decide) ?_
      refine lv_goto (tgt := 54) hx hb dX7_favoured_50 (by decide) ?_
      refine lv_istore_n (lv' := [(3, .int 1), (0, .ref (a 0)), (1, .int p0), (2, .int p1), (4, .int x4_5)]) hx hb dX7_favoured_54 rfl hl (by decide) rfl (fun ls hl => ?_)
      refine lv_iinc (v := x4_5 + 1) (lv' := [(4, .int (x4_5 + 1)), (3, .int 1), (0, .ref (a 0)), (1, .int p0), (2, .int p1)]) hx hb dX7_favoured_55 hl (k := 4) rfl (congrArg (fun z => x4_5 + z) (by decide)) (by decide) rfl (fun ls hl => ?_)
      refine lv_goto (tgt := 5) hx hb dX7_favoured_58 (by decide) ?_
      exact ih _ _ _ _ _ hP hD hS (lv_sub hl [2, 3, 4, 1, 0] rfl) hf
    have hf := (o_i hf).1 c3
    refine lv_aload_n hx hb dX7_favoured_20 rfl (lv_at hl 0 rfl) ?_
    refine va_get (D := G.1) (ci := 7) (v := .ref (a 1)) (C := RX7) (T := TX7) (N := 16) hx hb hts iiX7_favoured_X7 hown hK hP 0 rfl rfl 0 (by decide) (hts _ mmX7_favoured_1) (fun _ h9 => h9) rfl dX7_favoured_21 ?_
    refine lv_bipush (v := 16) hx hb dX7_favoured_24 (by decide) ?_
    refine lv_iload hx hb dX7_favoured_26 (lv_at hl 4 rfl) ?_
    refine lv_iadd hx hb dX7_favoured_28 ?_
    obtain ⟨z4, hz4, hf⟩ := o_b hf
    refine k_iald hx hb hK hP 1 0 rfl rfl hz4 dX7_favoured_29 ?_
    refine lv_iload_n hx hb dX7_favoured_30 rfl (lv_at hl 1 rfl) ?_
    refine lv_icmp_ne (tgt := 53) hx hb dX7_favoured_31 (by decide) (fun c5 => ?_) (fun c5 => ?_)
    · have hf := (o_i hf).2 c5
      refine lv_iconst (v := 0) hx hb dX7_favoured_53 (by decide) ?_
      refine lv_istore_n (lv' := [(3, .int 0), (0, .ref (a 0)), (1, .int p0), (2, .int p1), (4, .int x4_5)]) hx hb dX7_favoured_54 rfl hl (by decide) rfl (fun ls hl => ?_)
      refine lv_iinc (v := x4_5 + 1) (lv' := [(4, .int (x4_5 + 1)), (3, .int 0), (0, .ref (a 0)), (1, .int p0), (2, .int p1)]) hx hb dX7_favoured_55 hl (k := 4) rfl (congrArg (fun z => x4_5 + z) (by decide)) (by decide) rfl (fun ls hl => ?_)
      refine lv_goto (tgt := 5) hx hb dX7_favoured_58 (by decide) ?_
      exact ih _ _ _ _ _ hP hD hS (lv_sub hl [2, 3, 4, 1, 0] rfl) hf
    have hf := (o_i hf).1 c5
    refine lv_aload_n hx hb dX7_favoured_34 rfl (lv_at hl 0 rfl) ?_
    refine va_get (D := G.1) (ci := 7) (v := .ref (a 10)) (C := RX7) (T := TX7) (N := 16) hx hb hts iiX7_favoured_X7 hown hK hP 0 rfl rfl 15 (by decide) (hts _ mmX7_favoured_2) (fun _ h9 => h9) rfl dX7_favoured_35 ?_
    refine lv_iload hx hb dX7_favoured_38 (lv_at hl 4 rfl) ?_
    obtain ⟨z6, hz6, hf⟩ := o_b hf
    refine k_iald hx hb hK hP 10 0 rfl rfl hz6 dX7_favoured_40 ?_
    refine lv_iload_n hx hb dX7_favoured_41 rfl (lv_at hl 2 rfl) ?_
    refine lv_ishr hx hb dX7_favoured_42 ?_
    refine lv_iconst (v := 1) hx hb dX7_favoured_43 (by decide) ?_
    refine lv_iand hx hb dX7_favoured_44 ?_
    refine lv_iconst (v := 1) hx hb dX7_favoured_45 (by decide) ?_
    refine at_pc (pc' := 46) rfl ?_
    refine lv_icmp_ne (tgt := 53) hx hb dX7_favoured_46 (by decide) (fun c7 => ?_) (fun c7 => ?_)
    · have hf := (o_i hf).2 c7
      refine lv_iconst (v := 0) hx hb dX7_favoured_53 (by decide) ?_
      refine lv_istore_n (lv' := [(3, .int 0), (0, .ref (a 0)), (1, .int p0), (2, .int p1), (4, .int x4_5)]) hx hb dX7_favoured_54 rfl hl (by decide) rfl (fun ls hl => ?_)
      refine lv_iinc (v := x4_5 + 1) (lv' := [(4, .int (x4_5 + 1)), (3, .int 0), (0, .ref (a 0)), (1, .int p0), (2, .int p1)]) hx hb dX7_favoured_55 hl (k := 4) rfl (congrArg (fun z => x4_5 + z) (by decide)) (by decide) rfl (fun ls hl => ?_)
      refine lv_goto (tgt := 5) hx hb dX7_favoured_58 (by decide) ?_
      exact ih _ _ _ _ _ hP hD hS (lv_sub hl [2, 3, 4, 1, 0] rfl) hf
    have hf := (o_i hf).1 c7
    refine lv_iconst (v := 1) hx hb dX7_favoured_49 (by decide) ?_
    refine lv_goto (tgt := 54) hx hb dX7_favoured_50 (by decide) ?_
    refine lv_istore_n (lv' := [(3, .int 1), (0, .ref (a 0)), (1, .int p0), (2, .int p1), (4, .int x4_5)]) hx hb dX7_favoured_54 rfl hl (by decide) rfl (fun ls hl => ?_)
    refine lv_iinc (v := x4_5 + 1) (lv' := [(4, .int (x4_5 + 1)), (3, .int 1), (0, .ref (a 0)), (1, .int p0), (2, .int p1)]) hx hb dX7_favoured_55 hl (k := 4) rfl (congrArg (fun z => x4_5 + z) (by decide)) (by decide) rfl (fun ls hl => ?_)
    refine lv_goto (tgt := 5) hx hb dX7_favoured_58 (by decide) ?_
    exact ih _ _ _ _ _ hP hD hS (lv_sub hl [2, 3, 4, 1, 0] rfl) hf
set_option maxHeartbeats 4000000 in
set_option maxRecDepth 100000 in
theorem tX7_favoured (l : Launch) (G : GG) (a : Nat → Nat) (a_book : Nat → Int32) (a_spare : Nat → Int32) (a_images : Nat → Int32) (a_kept : Nat → Int32) (a_text : Nat → Int32) (a_length : Int32) (a_refused : Nat → Int32) (a_items : Nat → Int32) (a_many : Int32) (a_at : Int32) (a_sort : Int32) (a_start : Int32) (a_size : Int32) (a_due : Nat → Int32) (a_rung : Nat → Int32) (a_anywhere : Nat → Int32) (p0 : Int32) (p1 : Int32) (out : Int32) (hf : fX7_favoured a_book a_anywhere p0 p1 = some out) : cMi l G yX7_favoured wsX7_favoured rmX7_favoured [.ref (a 0), .int p0, .int p1] (flat [wX7 G a a_book a_spare a_images a_kept a_text a_length a_refused a_items a_many a_at a_sort a_start a_size a_due a_rung a_anywhere]) out (flat [wX7 G a a_book a_spare a_images a_kept a_text a_length a_refused a_items a_many a_at a_sort a_start a_size a_due a_rung a_anywhere]) := by
  intro sz
  refine met_of (cc := cX7_favoured) (nL := 5) (ret := (some .boolean)) (Qc := fun A9 => QI G A9 out (flat [wX7 G a a_book a_spare a_images a_kept a_text a_length a_refused a_items a_many a_at a_sort a_start a_size a_due a_rung a_anywhere])) (by decide) rfl (Nat.le_of_ble_eq_true rfl) ?_
  intro p e s m args below meth c A ls C hP hD hS hl
  obtain ⟨⟨hx, hb, hml, hown, hts⟩, hr, hlocks, hK, hN, hE, hA⟩ := id C
  have hl : lv_has ls 5 [(0, .ref (a 0)), (1, .int p0), (2, .int p1)] := hl
  unfold fX7_favoured at hf
  refine lv_iconst (v := 0) hx hb dX7_favoured_0 (by decide) ?_
  refine lv_istore_n (lv' := [(3, .int 0), (0, .ref (a 0)), (1, .int p0), (2, .int p1)]) hx hb dX7_favoured_1 rfl hl (by decide) rfl (fun ls hl => ?_)
  refine lv_iconst (v := 0) hx hb dX7_favoured_2 (by decide) ?_
  refine lv_istore (lv' := [(4, .int 0), (3, .int 0), (0, .ref (a 0)), (1, .int p0), (2, .int p1)]) hx hb dX7_favoured_3 hl (by decide) rfl (fun ls hl => ?_)
  refine lX7_favoured_5 l G C a a_book a_spare a_images a_kept a_text a_length a_refused a_items a_many a_at a_sort a_start a_size a_due a_rung a_anywhere p0 p1 out _ (fun x3_5_8 x4_5_9 H locs ls hP hD hS hl hf => ?_) fu 0 0 _ _ _ hP hD hS (lv_sub hl [2, 3, 4, 1, 0] rfl) hf
  refine lv_iload_n hx hb dX7_favoured_61 rfl (lv_at hl 3 rfl) ?_
  obtain ⟨z10, hz10, hf⟩ := o_b hf
  obtain ⟨hn9, e8⟩ := zb_ok hz10
  have e8 := e8.symm
  subst e8
  have e9 := Option.some.inj hf
  subst e9
  exact rt_z C hP hS rfl hn9 dX7_favoured_62

/-! RX7 isRing(II)Z -/
theorem hdX7_isRing : yX7_isRing.cls = RX7 ∧ yX7_isRing.cls ≠ "java/lang/invoke/MethodHandle" ∧ yX7_isRing.cls ≠ "java/lang/invoke/VarHandle" ∧ (parseMethodDescriptor yX7_isRing.desc).map (fun d => d.parameters.length) = some 2 := by decide +kernel
abbrev rmX7_isRing : Room := { frames := 2, cells := 0, slots := 0, locals := 51 }
set_option maxHeartbeats 4000000 in
set_option maxRecDepth 100000 in
theorem lX7_isRing_10 {p : Program} {e : Env} {s : State} {m : MethodId} {args : Array Value} {below : List Frame} {meth : Method} {c : Code} {A : Nat → Prop} (l : Launch) (G : GG) (C : Cx p m c cX7_isRing 6 s args wsX7_isRing RX7 meth (some .boolean) G A) (a : Nat → Nat) (a_book : Nat → Int32) (a_spare : Nat → Int32) (a_images : Nat → Int32) (a_kept : Nat → Int32) (a_text : Nat → Int32) (a_length : Int32) (a_refused : Nat → Int32) (a_items : Nat → Int32) (a_many : Int32) (a_at : Int32) (a_sort : Int32) (a_start : Int32) (a_size : Int32) (a_due : Nat → Int32) (a_rung : Nat → Int32) (a_anywhere : Nat → Int32) (p0 : Int32) (p1 : Int32) (out : Int32) (kx : Int32 → Int32 → Option (Int32)) (HX : ∀ (x3_10 : Int32) (x4_10 : Int32) (H : Heap) (locs : List Loc) (ls : Array Slot), va_P G.1 vwCl (flat [wX7 G a a_book a_spare a_images a_kept a_text a_length a_refused a_items a_many a_at a_sort a_start a_size a_due a_rung a_anywhere]) H → va_D A (flat [wX7 G a a_book a_spare a_images a_kept a_text a_length a_refused a_items a_many a_at a_sort a_start a_size a_due a_rung a_anywhere]) → va_S A s.heap H locs → lv_has ls 6 [(0, .ref (a 0)), (1, .int p0), (2, .int p1), (3, .int x3_10), (4, .int x4_10)] → kx x3_10 x4_10 = some out → W p l e rmX7_isRing s m args below meth c H locs 0 0 (MQ below (QI G A out (flat [wX7 G a a_book a_spare a_images a_kept a_text a_length a_refused a_items a_many a_at a_sort a_start a_size a_due a_rung a_anywhere])) args s 0 0 A) (F0 m 75 ls [])) : ∀ (n : Nat) (x3_10 : Int32) (x4_10 : Int32) (H : Heap) (locs : List Loc) (ls : Array Slot), va_P G.1 vwCl (flat [wX7 G a a_book a_spare a_images a_kept a_text a_length a_refused a_items a_many a_at a_sort a_start a_size a_due a_rung a_anywhere]) H → va_D A (flat [wX7 G a a_book a_spare a_images a_kept a_text a_length a_refused a_items a_many a_at a_sort a_start a_size a_due a_rung a_anywhere]) → va_S A s.heap H locs → lv_has ls 6 [(0, .ref (a 0)), (1, .int p0), (2, .int p1), (3, .int x3_10), (4, .int x4_10)] → fX7_isRing_10 p0 p1 a_book a_anywhere kx n x3_10 x4_10 = some out → W p l e rmX7_isRing s m args below meth c H locs 0 0 (MQ below (QI G A out (flat [wX7 G a a_book a_spare a_images a_kept a_text a_length a_refused a_items a_many a_at a_sort a_start a_size a_due a_rung a_anywhere])) args s 0 0 A) (F0 m 10 ls []) := by
  obtain ⟨⟨hx, hb, hml, hown, hts⟩, hr, hlocks, hK, hN, hE, hA⟩ := id C
  intro n
  induction n with
  | zero =>
    intro x3_10 x4_10 H locs ls hP hD hS hl hf
    exact absurd (show (none : Option (Int32)) = some out from hf) (by intro q9; cases q9)
  | succ n ih =>
    intro x3_10 x4_10 H locs ls hP hD hS hl hf
    rw [fX7_isRing_10] at hf
    refine lv_iload hx hb dX7_isRing_10 (lv_at hl 4 rfl) ?_
    refine lv_iload_n hx hb dX7_isRing_12 rfl (lv_at hl 2 rfl) ?_
    refine lv_icmp_ge (tgt := 75) hx hb dX7_isRing_13 (by decide) (fun c2 => ?_) (fun c2 => ?_)
    · have hf := (o_i hf).1 c2
      exact HX _ _ _ _ _ hP hD hS (lv_sub hl [0, 1, 2, 3, 4] rfl) hf
    have hf := (o_i hf).2 c2
    refine lv_iload_n hx hb dX7_isRing_16 rfl (lv_at hl 3 rfl) ?_
    refine lv_if_eq (tgt := 75) hx hb dX7_isRing_17 (by decide) (fun c3 => ?_) (fun c3 => ?_)
    · have hf := (o_i hf).1 c3
      exact HX _ _ _ _ _ hP hD hS (lv_sub hl [0, 1, 2, 3, 4] rfl) hf
    have hf := (o_i hf).2 c3
    refine lv_aload_n hx hb dX7_isRing_20 rfl (lv_at hl 0 rfl) ?_
    refine lv_iload_n hx hb dX7_isRing_21 rfl (lv_at hl 1 rfl) ?_
    refine lv_iload_n hx hb dX7_isRing_22 rfl (lv_at hl 2 rfl) ?_
    refine lv_iload hx hb dX7_isRing_23 (lv_at hl 4 rfl) ?_
    obtain ⟨g4, hg4, hf⟩ := o_b hf
    refine bVi C hP hD hS (tX7_digit l G a a_book a_spare a_images a_kept a_text a_length a_refused a_items a_many a_at a_sort a_start a_size a_due a_rung a_anywhere p0 p1 x4_10 g4 hg4) gX7_isRing_X7_digit rfl ⟨rfl, rfl⟩ hdX7_digit ⟨Nat.le_of_ble_eq_true rfl, Nat.le_of_ble_eq_true rfl⟩ rfl hl.1 rfl (Nat.le_of_ble_eq_true rfl) ⟨Nat.le_of_ble_eq_true rfl, Nat.le_of_ble_eq_true rfl⟩ [0] rfl rfl rfl (setB_same _ _ _ rfl) rfl (ci := 7) (q0 := 0) rfl rfl rfl dX7_isRing_25 (fun H locs hP hD hS => ?_)
    refine lv_istore (lv' := [(5, .int g4), (0, .ref (a 0)), (1, .int p0), (2, .int p1), (3, .int x3_10), (4, .int x4_10)]) hx hb dX7_isRing_28 hl (by decide) rfl (fun ls hl => ?_)
    refine lv_iload hx hb dX7_isRing_30 (lv_at hl 0 rfl) ?_
    refine lv_aload_n hx hb dX7_isRing_32 rfl (lv_at hl 1 rfl) ?_
    refine lv_iload_n hx hb dX7_isRing_33 rfl (lv_at hl 2 rfl) ?_
    refine at_pc (pc' := 34) rfl ?_
    refine lv_iload_n hx hb dX7_isRing_34 rfl (lv_at hl 3 rfl) ?_
    refine lv_iconst (v := 0) hx hb dX7_isRing_35 (by decide) ?_
    obtain ⟨g5, hg5, hf⟩ := o_b hf
    refine bVi C hP hD hS (tX7_digit l G a a_book a_spare a_images a_kept a_text a_length a_refused a_items a_many a_at a_sort a_start a_size a_due a_rung a_anywhere p0 p1 0 g5 hg5) gX7_isRing_X7_digit rfl ⟨rfl, rfl⟩ hdX7_digit ⟨Nat.le_of_ble_eq_true rfl, Nat.le_of_ble_eq_true rfl⟩ rfl hl.1 rfl (Nat.le_of_ble_eq_true rfl) ⟨Nat.le_of_ble_eq_true rfl, Nat.le_of_ble_eq_true rfl⟩ [0] rfl rfl rfl (setB_same _ _ _ rfl) rfl (ci := 7) (q0 := 0) rfl rfl rfl dX7_isRing_36 (fun H locs hP hD hS => ?_)
    refine lv_icmp_lt (tgt := 67) hx hb dX7_isRing_39 (by decide) (fun c6 => ?_) (fun c6 => ?_)
    · have hf := (o_i hf).1 c6
      refine lv_iconst (v := 0) hx hb dX7_isRing_67 (by decide) ?_
      refine lv_istore_n (lv' := [(3, .int 0), (5, .int g4), (0, .ref (a 0)), (1, .int p0), (2, .int p1), (4, .int x4_10)]) hx hb dX7_isRing_68 rfl hl (by decide) rfl (fun ls hl => ?_)
      refine lv_iinc (v := x4_10 + 1) (lv' := [(4, .int (x4_10 + 1)), (3, .int 0), (5, .int g4), (0, .ref (a 0)), (1, .int p0), (2, .int p1)]) hx hb dX7_isRing_69 hl (k := 5) rfl (congrArg (fun z => x4_10 + z) (by decide)) (by decide) rfl (fun ls hl => ?_)
      refine lv_goto (tgt := 10) hx hb dX7_isRing_72 (by decide) ?_
      exact ih _ _ _ _ _ hP hD hS (lv_sub hl [3, 4, 5, 1, 0] rfl) hf
    have hf := (o_i hf).2 c6
    refine lv_aload_n hx hb dX7_isRing_42 rfl (lv_at hl 1 rfl) ?_
    refine lv_iload hx hb dX7_isRing_43 (lv_at hl 0 rfl) ?_
    refine lv_aload_n hx hb dX7_isRing_45 rfl (lv_at hl 1 rfl) ?_
    refine lv_iload_n hx hb dX7_isRing_46 rfl (lv_at hl 2 rfl) ?_
    refine lv_iload_n hx hb dX7_isRing_47 rfl (lv_at hl 3 rfl) ?_
    refine lv_iload hx hb dX7_isRing_48 (lv_at hl 5 rfl) ?_
    refine lv_iconst (v := 1) hx hb dX7_isRing_50 (by decide) ?_
    refine lv_iadd hx hb dX7_isRing_51 ?_
    refine lv_iload_n hx hb dX7_isRing_52 rfl (lv_at hl 3 rfl) ?_
    refine at_pc (pc' := 53) rfl ?_
    obtain ⟨z7, hz7, hf⟩ := o_b hf
    refine k_irem hx hb hz7 dX7_isRing_53 ?_
    obtain ⟨g8, hg8, hf⟩ := o_b hf
    refine bVi C hP hD hS (tX7_digit l G a a_book a_spare a_images a_kept a_text a_length a_refused a_items a_many a_at a_sort a_start a_size a_due a_rung a_anywhere p0 p1 z7 g8 hg8) gX7_isRing_X7_digit rfl ⟨rfl, rfl⟩ hdX7_digit ⟨Nat.le_of_ble_eq_true rfl, Nat.le_of_ble_eq_true rfl⟩ rfl hl.1 rfl (Nat.le_of_ble_eq_true rfl) ⟨Nat.le_of_ble_eq_true rfl, Nat.le_of_ble_eq_true rfl⟩ [0] rfl rfl rfl (setB_same _ _ _ rfl) rfl (ci := 7) (q0 := 0) rfl rfl rfl dX7_isRing_54 (fun H locs hP hD hS => ?_)
    obtain ⟨g9, hg9, hf⟩ := o_b hf
    refine bVi C hP hD hS (tX7_favoured l G a a_book a_spare a_images a_kept a_text a_length a_refused a_items a_many a_at a_sort a_start a_size a_due a_rung a_anywhere g4 g8 g9 hg9) gX7_isRing_X7_favoured rfl ⟨rfl, rfl⟩ hdX7_favoured ⟨Nat.le_of_ble_eq_true rfl, Nat.le_of_ble_eq_true rfl⟩ rfl hl.1 rfl (Nat.le_of_ble_eq_true rfl) ⟨Nat.le_of_ble_eq_true rfl, Nat.le_of_ble_eq_true rfl⟩ [0] rfl rfl rfl (setB_same _ _ _ rfl) rfl (ci := 7) (q0 := 0) rfl rfl rfl dX7_isRing_57 (fun H locs hP hD hS => ?_)
    refine lv_if_eq (tgt := 67) hx hb dX7_isRing_60 (by decide) (fun c10 => ?_) (fun c10 => ?_)
    · have hf := (o_i hf).1 c10
      refine lv_iconst (v := 0) hx hb dX7_isRing_67 (by decide) ?_
      refine lv_istore_n (lv' := [(3, .int 0), (5, .int g4), (0, .ref (a 0)), (1, .int p0), (2, .int p1), (4, .int x4_10)]) hx hb dX7_isRing_68 rfl hl (by decide) rfl (fun ls hl => ?_)
      refine lv_iinc (v := x4_10 + 1) (lv' := [(4, .int (x4_10 + 1)), (3, .int 0), (5, .int g4), (0, .ref (a 0)), (1, .int p0), (2, .int p1)]) hx hb dX7_isRing_69 hl (k := 5) rfl (congrArg (fun z => x4_10 + z) (by decide)) (by decide) rfl (fun ls hl => ?_)
      refine lv_goto (tgt := 10) hx hb dX7_isRing_72 (by decide) ?_
      exact ih _ _ _ _ _ hP hD hS (lv_sub hl [3, 4, 5, 1, 0] rfl) hf
    have hf := (o_i hf).2 c10
    refine lv_iconst (v := 1) hx hb dX7_isRing_63 (by decide) ?_
    refine lv_goto (tgt := 68) hx hb dX7_isRing_64 (by decide) ?_
    refine lv_istore_n (lv' := [(3, .int 1), (5, .int g4), (0, .ref (a 0)), (1, .int p0), (2, .int p1), (4, .int x4_10)]) hx hb dX7_isRing_68 rfl hl (by decide) rfl (fun ls hl => ?_)
    refine lv_iinc (v := x4_10 + 1) (lv' := [(4, .int (x4_10 + 1)), (3, .int 1), (5, .int g4), (0, .ref (a 0)), (1, .int p0), (2, .int p1)]) hx hb dX7_isRing_69 hl (k := 5) rfl (congrArg (fun z => x4_10 + z) (by decide)) (by decide) rfl (fun ls hl => ?_)
    refine lv_goto (tgt := 10) hx hb dX7_isRing_72 (by decide) ?_
    exact ih _ _ _ _ _ hP hD hS (lv_sub hl [3, 4, 5, 1, 0] rfl) hf
set_option maxHeartbeats 4000000 in
set_option maxRecDepth 100000 in
theorem tX7_isRing (l : Launch) (G : GG) (a : Nat → Nat) (a_book : Nat → Int32) (a_spare : Nat → Int32) (a_images : Nat → Int32) (a_kept : Nat → Int32) (a_text : Nat → Int32) (a_length : Int32) (a_refused : Nat → Int32) (a_items : Nat → Int32) (a_many : Int32) (a_at : Int32) (a_sort : Int32) (a_start : Int32) (a_size : Int32) (a_due : Nat → Int32) (a_rung : Nat → Int32) (a_anywhere : Nat → Int32) (p0 : Int32) (p1 : Int32) (out : Int32) (hf : fX7_isRing a_book a_anywhere p0 p1 = some out) : cMi l G yX7_isRing wsX7_isRing rmX7_isRing [.ref (a 0), .int p0, .int p1] (flat [wX7 G a a_book a_spare a_images a_kept a_text a_length a_refused a_items a_many a_at a_sort a_start a_size a_due a_rung a_anywhere]) out (flat [wX7 G a a_book a_spare a_images a_kept a_text a_length a_refused a_items a_many a_at a_sort a_start a_size a_due a_rung a_anywhere]) := by
  intro sz
  refine met_of (cc := cX7_isRing) (nL := 6) (ret := (some .boolean)) (Qc := fun A9 => QI G A9 out (flat [wX7 G a a_book a_spare a_images a_kept a_text a_length a_refused a_items a_many a_at a_sort a_start a_size a_due a_rung a_anywhere])) (by decide) rfl (Nat.le_of_ble_eq_true rfl) ?_
  intro p e s m args below meth c A ls C hP hD hS hl
  obtain ⟨⟨hx, hb, hml, hown, hts⟩, hr, hlocks, hK, hN, hE, hA⟩ := id C
  have hl : lv_has ls 6 [(0, .ref (a 0)), (1, .int p0), (2, .int p1)] := hl
  unfold fX7_isRing at hf
  refine lv_aload_n hx hb dX7_isRing_0 rfl (lv_at hl 0 rfl) ?_
  refine lv_iload_n hx hb dX7_isRing_1 rfl (lv_at hl 1 rfl) ?_
  refine lv_iload_n hx hb dX7_isRing_2 rfl (lv_at hl 2 rfl) ?_
  obtain ⟨g1, hg1, hf⟩ := o_b hf
  refine bVi C hP hD hS (tX7_areUnlike l G a a_book a_spare a_images a_kept a_text a_length a_refused a_items a_many a_at a_sort a_start a_size a_due a_rung a_anywhere p0 p1 g1 hg1) gX7_isRing_X7_areUnlike rfl ⟨rfl, rfl⟩ hdX7_areUnlike ⟨Nat.le_of_ble_eq_true rfl, Nat.le_of_ble_eq_true rfl⟩ rfl hl.1 rfl (Nat.le_of_ble_eq_true rfl) ⟨Nat.le_of_ble_eq_true rfl, Nat.le_of_ble_eq_true rfl⟩ [0] rfl rfl rfl (setB_same _ _ _ rfl) rfl (ci := 7) (q0 := 0) rfl rfl rfl dX7_isRing_3 (fun H locs hP hD hS => ?_)
  refine lv_istore_n (lv' := [(3, .int g1), (0, .ref (a 0)), (1, .int p0), (2, .int p1)]) hx hb dX7_isRing_6 rfl hl (by decide) rfl (fun ls hl => ?_)
  refine lv_iconst (v := 0) hx hb dX7_isRing_7 (by decide) ?_
  refine lv_istore (lv' := [(4, .int 0), (3, .int g1), (0, .ref (a 0)), (1, .int p0), (2, .int p1)]) hx hb dX7_isRing_8 hl (by decide) rfl (fun ls hl => ?_)
  refine lX7_isRing_10 l G C a a_book a_spare a_images a_kept a_text a_length a_refused a_items a_many a_at a_sort a_start a_size a_due a_rung a_anywhere p0 p1 out _ (fun x3_10_11 x4_10_12 H locs ls hP hD hS hl hf => ?_) fu g1 0 _ _ _ hP hD hS (lv_sub hl [2, 3, 4, 1, 0] rfl) hf
  refine lv_iload_n hx hb dX7_isRing_75 rfl (lv_at hl 3 rfl) ?_
  obtain ⟨z13, hz13, hf⟩ := o_b hf
  obtain ⟨hn9, e8⟩ := zb_ok hz13
  have e8 := e8.symm
  subst e8
  have e9 := Option.some.inj hf
  subst e9
  exact rt_z C hP hS rfl hn9 dX7_isRing_76

/-! RX7 ring(I)I -/
theorem iiX7_ring_X7 : ∀ w ∈ wsX70, w ∈ wsX7_ring := by decide +kernel
theorem mmX7_ring_1 : (Cond.fieldLink RX7 7 "BlindBellsModel" "book" "[I") ∈ wsX7_ring := by decide +kernel
theorem hdX7_ring : yX7_ring.cls = RX7 ∧ yX7_ring.cls ≠ "java/lang/invoke/MethodHandle" ∧ yX7_ring.cls ≠ "java/lang/invoke/VarHandle" ∧ (parseMethodDescriptor yX7_ring.desc).map (fun d => d.parameters.length) = some 1 := by decide +kernel
abbrev rmX7_ring : Room := { frames := 3, cells := 0, slots := 0, locals := 76 }
set_option maxHeartbeats 4000000 in
set_option maxRecDepth 100000 in
theorem lX7_ring_31 {p : Program} {e : Env} {s : State} {m : MethodId} {args : Array Value} {below : List Frame} {meth : Method} {c : Code} {A : Nat → Prop} (l : Launch) (G : GG) (C : Cx p m c cX7_ring 4 s args wsX7_ring RX7 meth (some .int) G A) (a : Nat → Nat) (a_book : Nat → Int32) (a_spare : Nat → Int32) (a_images : Nat → Int32) (a_kept : Nat → Int32) (a_text : Nat → Int32) (a_length : Int32) (a_refused : Nat → Int32) (a_items : Nat → Int32) (a_many : Int32) (a_at : Int32) (a_sort : Int32) (a_start : Int32) (a_size : Int32) (a_due : Nat → Int32) (a_rung : Nat → Int32) (a_anywhere : Nat → Int32) (p0 : Int32) (g2 : (Nat → Int32)) (x2_19 : Int32) (out : Int32 × (Nat → Int32) × (Nat → Int32)) (kx : Int32 → Option (Int32 × (Nat → Int32) × (Nat → Int32))) (HX : ∀ (x3_31 : Int32) (H : Heap) (locs : List Loc) (ls : Array Slot), va_P G.1 vwCl (flat [wX7 G a a_book a_spare a_images a_kept a_text a_length a_refused a_items a_many a_at a_sort a_start a_size a_due a_rung g2]) H → va_D A (flat [wX7 G a a_book a_spare a_images a_kept a_text a_length a_refused a_items a_many a_at a_sort a_start a_size a_due a_rung g2]) → va_S A s.heap H locs → lv_has ls 4 [(0, .ref (a 0)), (1, .int p0), (2, .int x2_19), (3, .int x3_31)] → kx x3_31 = some out → W p l e rmX7_ring s m args below meth c H locs 0 0 (MQ below (QI G A out.1 (flat [wX7 G a a_book a_spare a_images a_kept a_text a_length out.2.1 a_items a_many a_at a_sort a_start a_size a_due a_rung out.2.2])) args s 0 0 A) (F0 m 82 ls [])) : ∀ (n : Nat) (x3_31 : Int32) (H : Heap) (locs : List Loc) (ls : Array Slot), va_P G.1 vwCl (flat [wX7 G a a_book a_spare a_images a_kept a_text a_length a_refused a_items a_many a_at a_sort a_start a_size a_due a_rung g2]) H → va_D A (flat [wX7 G a a_book a_spare a_images a_kept a_text a_length a_refused a_items a_many a_at a_sort a_start a_size a_due a_rung g2]) → va_S A s.heap H locs → lv_has ls 4 [(0, .ref (a 0)), (1, .int p0), (2, .int x2_19), (3, .int x3_31)] → fX7_ring_31 p0 a_book a_refused g2 x2_19 kx n x3_31 = some out → W p l e rmX7_ring s m args below meth c H locs 0 0 (MQ below (QI G A out.1 (flat [wX7 G a a_book a_spare a_images a_kept a_text a_length out.2.1 a_items a_many a_at a_sort a_start a_size a_due a_rung out.2.2])) args s 0 0 A) (F0 m 31 ls []) := by
  obtain ⟨⟨hx, hb, hml, hown, hts⟩, hr, hlocks, hK, hN, hE, hA⟩ := id C
  intro n
  induction n with
  | zero =>
    intro x3_31 H locs ls hP hD hS hl hf
    exact absurd (show (none : Option (Int32 × (Nat → Int32) × (Nat → Int32))) = some out from hf) (by intro q9; cases q9)
  | succ n ih =>
    intro x3_31 H locs ls hP hD hS hl hf
    rw [fX7_ring_31] at hf
    refine lv_iload_n hx hb dX7_ring_31 rfl (lv_at hl 3 rfl) ?_
    refine lv_aload_n hx hb dX7_ring_32 rfl (lv_at hl 0 rfl) ?_
    refine lv_iload_n hx hb dX7_ring_33 rfl (lv_at hl 2 rfl) ?_
    obtain ⟨g5, hg5, hf⟩ := o_b hf
    refine bVi C hP hD hS (tX7_rows l G a a_book a_spare a_images a_kept a_text a_length a_refused a_items a_many a_at a_sort a_start a_size a_due a_rung g2 x2_19 g5 hg5) gX7_ring_X7_rows rfl ⟨rfl, rfl⟩ hdX7_rows ⟨Nat.le_of_ble_eq_true rfl, Nat.le_of_ble_eq_true rfl⟩ rfl hl.1 rfl (Nat.le_of_ble_eq_true rfl) ⟨Nat.le_of_ble_eq_true rfl, Nat.le_of_ble_eq_true rfl⟩ [0] rfl rfl rfl (setB_same _ _ _ rfl) rfl (ci := 7) (q0 := 0) rfl rfl rfl dX7_ring_34 (fun H locs hP hD hS => ?_)
    refine lv_icmp_ge (tgt := 82) hx hb dX7_ring_37 (by decide) (fun c6 => ?_) (fun c6 => ?_)
    · have hf := (o_i hf).1 c6
      exact HX _ _ _ _ hP hD hS (lv_sub hl [0, 1, 2, 3] rfl) hf
    have hf := (o_i hf).2 c6
    refine lv_aload_n hx hb dX7_ring_40 rfl (lv_at hl 0 rfl) ?_
    refine lv_iload_n hx hb dX7_ring_41 rfl (lv_at hl 3 rfl) ?_
    refine lv_iload_n hx hb dX7_ring_42 rfl (lv_at hl 2 rfl) ?_
    obtain ⟨g7, hg7, hf⟩ := o_b hf
    refine bVi C hP hD hS (tX7_isRing l G a a_book a_spare a_images a_kept a_text a_length a_refused a_items a_many a_at a_sort a_start a_size a_due a_rung g2 x3_31 x2_19 g7 hg7) gX7_ring_X7_isRing rfl ⟨rfl, rfl⟩ hdX7_isRing ⟨Nat.le_of_ble_eq_true rfl, Nat.le_of_ble_eq_true rfl⟩ rfl hl.1 rfl (Nat.le_of_ble_eq_true rfl) ⟨Nat.le_of_ble_eq_true rfl, Nat.le_of_ble_eq_true rfl⟩ [0] rfl rfl rfl (setB_same _ _ _ rfl) rfl (ci := 7) (q0 := 0) rfl rfl rfl dX7_ring_43 (fun H locs hP hD hS => ?_)
    refine lv_if_eq (tgt := 76) hx hb dX7_ring_46 (by decide) (fun c8 => ?_) (fun c8 => ?_)
    · have hf := (o_i hf).1 c8
      refine lv_iinc (v := x3_31 + 1) (lv' := [(3, .int (x3_31 + 1)), (0, .ref (a 0)), (1, .int p0), (2, .int x2_19)]) hx hb dX7_ring_76 hl (k := 3) rfl (congrArg (fun z => x3_31 + z) (by decide)) (by decide) rfl (fun ls hl => ?_)
      refine lv_goto (tgt := 31) hx hb dX7_ring_79 (by decide) ?_
      exact ih _ _ _ _ hP hD hS (lv_sub hl [1, 2, 3, 0] rfl) hf
    have hf := (o_i hf).2 c8
    refine lv_iload_n hx hb dX7_ring_49 rfl (lv_at hl 1 rfl) ?_
    refine lv_iconst (v := (-1)) hx hb dX7_ring_50 (by decide) ?_
    refine lv_icmp_ne (tgt := 58) hx hb dX7_ring_51 (by decide) (fun c9 => ?_) (fun c9 => ?_)
    · have hf := (o_i hf).2 c9
      refine lv_iload_n hx hb dX7_ring_58 rfl (lv_at hl 1 rfl) ?_
      refine lv_iload_n hx hb dX7_ring_59 rfl (lv_at hl 2 rfl) ?_
      refine lv_icmp_ge (tgt := 73) hx hb dX7_ring_60 (by decide) (fun c10 => ?_) (fun c10 => ?_)
      · have hf := (o_i hf).1 c10
        refine lv_bipush (v := (-5)) hx hb dX7_ring_73 (by decide) ?_
        have e9 := Option.some.inj hf
        subst e9
        exact rt_i C hP hS rfl dX7_ring_75
      have hf := (o_i hf).2 c10
      refine lv_aload_n hx hb dX7_ring_63 rfl (lv_at hl 0 rfl) ?_
      refine lv_iload_n hx hb dX7_ring_64 rfl (lv_at hl 3 rfl) ?_
      refine lv_iload_n hx hb dX7_ring_65 rfl (lv_at hl 2 rfl) ?_
      refine lv_iload_n hx hb dX7_ring_66 rfl (lv_at hl 1 rfl) ?_
      obtain ⟨g11, hg11, hf⟩ := o_b hf
      refine bVi C hP hD hS (tX7_digit l G a a_book a_spare a_images a_kept a_text a_length a_refused a_items a_many a_at a_sort a_start a_size a_due a_rung g2 x3_31 x2_19 p0 g11 hg11) gX7_ring_X7_digit rfl ⟨rfl, rfl⟩ hdX7_digit ⟨Nat.le_of_ble_eq_true rfl, Nat.le_of_ble_eq_true rfl⟩ rfl hl.1 rfl (Nat.le_of_ble_eq_true rfl) ⟨Nat.le_of_ble_eq_true rfl, Nat.le_of_ble_eq_true rfl⟩ [0] rfl rfl rfl (setB_same _ _ _ rfl) rfl (ci := 7) (q0 := 0) rfl rfl rfl dX7_ring_67 (fun H locs hP hD hS => ?_)
      refine lv_goto (tgt := 75) hx hb dX7_ring_70 (by decide) ?_
      have e9 := Option.some.inj hf
      subst e9
      exact rt_i C hP hS rfl dX7_ring_75
    have hf := (o_i hf).1 c9
    refine lv_iload_n hx hb dX7_ring_54 rfl (lv_at hl 2 rfl) ?_
    refine lv_goto (tgt := 75) hx hb dX7_ring_55 (by decide) ?_
    have e9 := Option.some.inj hf
    subst e9
    exact rt_i C hP hS rfl dX7_ring_75
set_option maxHeartbeats 4000000 in
set_option maxRecDepth 100000 in
theorem lX7_ring_19 {p : Program} {e : Env} {s : State} {m : MethodId} {args : Array Value} {below : List Frame} {meth : Method} {c : Code} {A : Nat → Prop} (l : Launch) (G : GG) (C : Cx p m c cX7_ring 4 s args wsX7_ring RX7 meth (some .int) G A) (a : Nat → Nat) (a_book : Nat → Int32) (a_spare : Nat → Int32) (a_images : Nat → Int32) (a_kept : Nat → Int32) (a_text : Nat → Int32) (a_length : Int32) (a_refused : Nat → Int32) (a_items : Nat → Int32) (a_many : Int32) (a_at : Int32) (a_sort : Int32) (a_start : Int32) (a_size : Int32) (a_due : Nat → Int32) (a_rung : Nat → Int32) (a_anywhere : Nat → Int32) (p0 : Int32) (g2 : (Nat → Int32)) (out : Int32 × (Nat → Int32) × (Nat → Int32)) (kx : Int32 → Option (Int32 × (Nat → Int32) × (Nat → Int32))) (HX : ∀ (x2_19 : Int32) (H : Heap) (locs : List Loc) (ls : Array Slot), va_P G.1 vwCl (flat [wX7 G a a_book a_spare a_images a_kept a_text a_length a_refused a_items a_many a_at a_sort a_start a_size a_due a_rung g2]) H → va_D A (flat [wX7 G a a_book a_spare a_images a_kept a_text a_length a_refused a_items a_many a_at a_sort a_start a_size a_due a_rung g2]) → va_S A s.heap H locs → lv_has ls 4 [(0, .ref (a 0)), (1, .int p0), (2, .int x2_19)] → kx x2_19 = some out → W p l e rmX7_ring s m args below meth c H locs 0 0 (MQ below (QI G A out.1 (flat [wX7 G a a_book a_spare a_images a_kept a_text a_length out.2.1 a_items a_many a_at a_sort a_start a_size a_due a_rung out.2.2])) args s 0 0 A) (F0 m 88 ls [])) : ∀ (n : Nat) (x2_19 : Int32) (H : Heap) (locs : List Loc) (ls : Array Slot), va_P G.1 vwCl (flat [wX7 G a a_book a_spare a_images a_kept a_text a_length a_refused a_items a_many a_at a_sort a_start a_size a_due a_rung g2]) H → va_D A (flat [wX7 G a a_book a_spare a_images a_kept a_text a_length a_refused a_items a_many a_at a_sort a_start a_size a_due a_rung g2]) → va_S A s.heap H locs → lv_has ls 4 [(0, .ref (a 0)), (1, .int p0), (2, .int x2_19)] → fX7_ring_19 p0 a_book a_refused g2 kx n x2_19 = some out → W p l e rmX7_ring s m args below meth c H locs 0 0 (MQ below (QI G A out.1 (flat [wX7 G a a_book a_spare a_images a_kept a_text a_length out.2.1 a_items a_many a_at a_sort a_start a_size a_due a_rung out.2.2])) args s 0 0 A) (F0 m 19 ls []) := by
  obtain ⟨⟨hx, hb, hml, hown, hts⟩, hr, hlocks, hK, hN, hE, hA⟩ := id C
  intro n
  induction n with
  | zero =>
    intro x2_19 H locs ls hP hD hS hl hf
    exact absurd (show (none : Option (Int32 × (Nat → Int32) × (Nat → Int32))) = some out from hf) (by intro q9; cases q9)
  | succ n ih =>
    intro x2_19 H locs ls hP hD hS hl hf
    rw [fX7_ring_19] at hf
    refine lv_iload_n hx hb dX7_ring_19 rfl (lv_at hl 2 rfl) ?_
    refine lv_aload_n hx hb dX7_ring_20 rfl (lv_at hl 0 rfl) ?_
    refine va_get (D := G.1) (ci := 7) (v := .ref (a 1)) (C := RX7) (T := TX7) (N := 16) hx hb hts iiX7_ring_X7 hown hK hP 0 rfl rfl 0 (by decide) (hts _ mmX7_ring_1) (fun _ h9 => h9) rfl dX7_ring_21 ?_
    refine lv_iconst (v := 0) hx hb dX7_ring_24 (by decide) ?_
    obtain ⟨z3, hz3, hf⟩ := o_b hf
    refine k_iald hx hb hK hP 1 0 rfl rfl hz3 dX7_ring_25 ?_
    refine lv_icmp_gt (tgt := 88) hx hb dX7_ring_26 (by decide) (fun c4 => ?_) (fun c4 => ?_)
    · have hf := (o_i hf).1 c4
      exact HX _ _ _ _ hP hD hS (lv_sub hl [0, 1, 2] rfl) hf
    have hf := (o_i hf).2 c4
    refine lv_iconst (v := 0) hx hb dX7_ring_29 (by decide) ?_
    refine lv_istore_n (lv' := [(3, .int 0), (0, .ref (a 0)), (1, .int p0), (2, .int x2_19)]) hx hb dX7_ring_30 rfl hl (by decide) rfl (fun ls hl => ?_)
    refine lX7_ring_31 l G C a a_book a_spare a_images a_kept a_text a_length a_refused a_items a_many a_at a_sort a_start a_size a_due a_rung a_anywhere p0 g2 x2_19 out _ (fun x3_31_12 H locs ls hP hD hS hl hf => ?_) fu 0 _ _ _ hP hD hS (lv_sub hl [1, 2, 3, 0] rfl) hf
    refine lv_iinc (v := x2_19 + 1) (lv' := [(2, .int (x2_19 + 1)), (0, .ref (a 0)), (1, .int p0), (3, .int x3_31_12)]) hx hb dX7_ring_82 hl (k := 2) rfl (congrArg (fun z => x2_19 + z) (by decide)) (by decide) rfl (fun ls hl => ?_)
    refine lv_goto (tgt := 19) hx hb dX7_ring_85 (by decide) ?_
    exact ih _ _ _ _ hP hD hS (lv_sub hl [1, 2, 0] rfl) hf
set_option maxHeartbeats 4000000 in
set_option maxRecDepth 100000 in
theorem tX7_ring (l : Launch) (G : GG) (a : Nat → Nat) (a_book : Nat → Int32) (a_spare : Nat → Int32) (a_images : Nat → Int32) (a_kept : Nat → Int32) (a_text : Nat → Int32) (a_length : Int32) (a_refused : Nat → Int32) (a_items : Nat → Int32) (a_many : Int32) (a_at : Int32) (a_sort : Int32) (a_start : Int32) (a_size : Int32) (a_due : Nat → Int32) (a_rung : Nat → Int32) (a_anywhere : Nat → Int32) (p0 : Int32) (out : Int32 × (Nat → Int32) × (Nat → Int32)) (hf : fX7_ring a_book a_refused a_anywhere p0 = some out) : cMi l G yX7_ring wsX7_ring rmX7_ring [.ref (a 0), .int p0] (flat [wX7 G a a_book a_spare a_images a_kept a_text a_length a_refused a_items a_many a_at a_sort a_start a_size a_due a_rung a_anywhere]) out.1 (flat [wX7 G a a_book a_spare a_images a_kept a_text a_length out.2.1 a_items a_many a_at a_sort a_start a_size a_due a_rung out.2.2]) := by
  intro sz
  refine met_of (cc := cX7_ring) (nL := 4) (ret := (some .int)) (Qc := fun A9 => QI G A9 out.1 (flat [wX7 G a a_book a_spare a_images a_kept a_text a_length out.2.1 a_items a_many a_at a_sort a_start a_size a_due a_rung out.2.2])) (by decide) rfl (Nat.le_of_ble_eq_true rfl) ?_
  intro p e s m args below meth c A ls C hP hD hS hl
  obtain ⟨⟨hx, hb, hml, hown, hts⟩, hr, hlocks, hK, hN, hE, hA⟩ := id C
  have hl : lv_has ls 4 [(0, .ref (a 0)), (1, .int p0)] := hl
  unfold fX7_ring at hf
  refine lv_iload_n hx hb dX7_ring_0 rfl (lv_at hl 1 rfl) ?_
  refine lv_iconst (v := (-1)) hx hb dX7_ring_1 (by decide) ?_
  refine lv_icmp_ge (tgt := 13) hx hb dX7_ring_2 (by decide) (fun c1 => ?_) (fun c1 => ?_)
  · have hf := (o_i hf).1 c1
    refine lv_aload_n hx hb dX7_ring_13 rfl (lv_at hl 0 rfl) ?_
    obtain ⟨g2, hg2, hf⟩ := o_b hf
    refine bVv (Bs' := [wX7 G a a_book a_spare a_images a_kept a_text a_length a_refused a_items a_many a_at a_sort a_start a_size a_due a_rung g2]) C hP hD hS (tX7_places l G a a_book a_spare a_images a_kept a_text a_length a_refused a_items a_many a_at a_sort a_start a_size a_due a_rung a_anywhere g2 hg2) gX7_ring_X7_places rfl ⟨rfl, rfl⟩ hdX7_places ⟨Nat.le_of_ble_eq_true rfl, Nat.le_of_ble_eq_true rfl⟩ rfl hl.1 rfl (Nat.le_of_ble_eq_true rfl) ⟨Nat.le_of_ble_eq_true rfl, Nat.le_of_ble_eq_true rfl⟩ [0] rfl rfl rfl rfl rfl (ci := 7) (q0 := 0) rfl rfl rfl dX7_ring_14 (fun H locs hP hD hS => ?_)
    have hP : va_P G.1 vwCl (flat [wX7 G a a_book a_spare a_images a_kept a_text a_length a_refused a_items a_many a_at a_sort a_start a_size a_due a_rung g2]) H := hP
    have hD : va_D A (flat [wX7 G a a_book a_spare a_images a_kept a_text a_length a_refused a_items a_many a_at a_sort a_start a_size a_due a_rung g2]) := hD
    refine lv_iconst (v := 2) hx hb dX7_ring_17 (by decide) ?_
    refine lv_istore_n (lv' := [(2, .int 2), (0, .ref (a 0)), (1, .int p0)]) hx hb dX7_ring_18 rfl hl (by decide) rfl (fun ls hl => ?_)
    refine lX7_ring_19 l G C a a_book a_spare a_images a_kept a_text a_length a_refused a_items a_many a_at a_sort a_start a_size a_due a_rung a_anywhere p0 g2 out _ (fun x2_19_13 H locs ls hP hD hS hl hf => ?_) fu 2 _ _ _ hP hD hS (lv_sub hl [1, 2, 0] rfl) hf
    refine lv_iload_n hx hb dX7_ring_88 rfl (lv_at hl 1 rfl) ?_
    refine lv_iconst (v := (-1)) hx hb dX7_ring_89 (by decide) ?_
    refine lv_icmp_ne (tgt := 97) hx hb dX7_ring_90 (by decide) (fun c14 => ?_) (fun c14 => ?_)
    · have hf := (o_i hf).2 c14
      refine lv_bipush (v := (-5)) hx hb dX7_ring_97 (by decide) ?_
      have e9 := Option.some.inj hf
      subst e9
      exact rt_i C hP hS rfl dX7_ring_99
    have hf := (o_i hf).1 c14
    refine lv_iconst (v := 0) hx hb dX7_ring_93 (by decide) ?_
    refine lv_goto (tgt := 99) hx hb dX7_ring_94 (by decide) ?_
    have e9 := Option.some.inj hf
    subst e9
    exact rt_i C hP hS rfl dX7_ring_99
  have hf := (o_i hf).2 c1
  refine lv_aload_n hx hb dX7_ring_5 rfl (lv_at hl 0 rfl) ?_
  refine lv_iconst (v := 0) hx hb dX7_ring_6 (by decide) ?_
  refine lv_bipush (v := (-10)) hx hb dX7_ring_7 (by decide) ?_
  obtain ⟨g15, hg15, hf⟩ := o_b hf
  refine bVi (Bs' := [wX7 G a a_book a_spare a_images a_kept a_text a_length g15.2 a_items a_many a_at a_sort a_start a_size a_due a_rung a_anywhere]) C hP hD hS (tX7_refuses l G a a_book a_spare a_images a_kept a_text a_length a_refused a_items a_many a_at a_sort a_start a_size a_due a_rung a_anywhere 0 ((-10)) g15 hg15) gX7_ring_X7_refuses rfl ⟨rfl, rfl⟩ hdX7_refuses ⟨Nat.le_of_ble_eq_true rfl, Nat.le_of_ble_eq_true rfl⟩ rfl hl.1 rfl (Nat.le_of_ble_eq_true rfl) ⟨Nat.le_of_ble_eq_true rfl, Nat.le_of_ble_eq_true rfl⟩ [0] rfl rfl rfl rfl rfl (ci := 7) (q0 := 0) rfl rfl rfl dX7_ring_9 (fun H locs hP hD hS => ?_)
  have hP : va_P G.1 vwCl (flat [wX7 G a a_book a_spare a_images a_kept a_text a_length g15.2 a_items a_many a_at a_sort a_start a_size a_due a_rung a_anywhere]) H := hP
  have hD : va_D A (flat [wX7 G a a_book a_spare a_images a_kept a_text a_length g15.2 a_items a_many a_at a_sort a_start a_size a_due a_rung a_anywhere]) := hD
  have e9 := Option.some.inj hf
  subst e9
  exact rt_i C hP hS rfl dX7_ring_12

/-! RX7 word(III)I -/
theorem iiX7_word_X7 : ∀ w ∈ wsX70, w ∈ wsX7_word := by decide +kernel
theorem mmX7_word_1 : (Cond.fieldLink RX7 7 "BlindBellsModel" "book" "[I") ∈ wsX7_word := by decide +kernel
theorem hdX7_word : yX7_word.cls = RX7 ∧ yX7_word.cls ≠ "java/lang/invoke/MethodHandle" ∧ yX7_word.cls ≠ "java/lang/invoke/VarHandle" ∧ (parseMethodDescriptor yX7_word.desc).map (fun d => d.parameters.length) = some 3 := by decide +kernel
abbrev rmX7_word : Room := { frames := 2, cells := 0, slots := 0, locals := 47 }
set_option maxHeartbeats 4000000 in
set_option maxRecDepth 100000 in
theorem lX7_word_54 {p : Program} {e : Env} {s : State} {m : MethodId} {args : Array Value} {below : List Frame} {meth : Method} {c : Code} {A : Nat → Prop} (l : Launch) (G : GG) (C : Cx p m c cX7_word 9 s args wsX7_word RX7 meth (some .int) G A) (a : Nat → Nat) (a_book : Nat → Int32) (a_spare : Nat → Int32) (a_images : Nat → Int32) (a_kept : Nat → Int32) (a_text : Nat → Int32) (a_length : Int32) (a_refused : Nat → Int32) (a_items : Nat → Int32) (a_many : Int32) (a_at : Int32) (a_sort : Int32) (a_start : Int32) (a_size : Int32) (a_due : Nat → Int32) (a_rung : Nat → Int32) (a_anywhere : Nat → Int32) (p0 : Int32) (p1 : Int32) (p2 : Int32) (x4_42 : Int32) (x5_42 : Int32) (x6_42 : Int32) (out : Int32 × (Nat → Int32)) (kx : Int32 → Int32 → Option (Int32 × (Nat → Int32))) (HX : ∀ (x7_54 : Int32) (x8_54 : Int32) (H : Heap) (locs : List Loc) (ls : Array Slot), va_P G.1 vwCl (flat [wX7 G a a_book a_spare a_images a_kept a_text a_length a_refused a_items a_many a_at a_sort a_start a_size a_due a_rung a_anywhere]) H → va_D A (flat [wX7 G a a_book a_spare a_images a_kept a_text a_length a_refused a_items a_many a_at a_sort a_start a_size a_due a_rung a_anywhere]) → va_S A s.heap H locs → lv_has ls 9 [(0, .ref (a 0)), (1, .int p0), (2, .int p1), (3, .int p2), (4, .int x4_42), (5, .int x5_42), (6, .int x6_42), (7, .int x7_54), (8, .int x8_54)] → kx x7_54 x8_54 = some out → W p l e rmX7_word s m args below meth c H locs 0 0 (MQ below (QI G A out.1 (flat [wX7 G a a_book a_spare a_images a_kept a_text a_length out.2 a_items a_many a_at a_sort a_start a_size a_due a_rung a_anywhere])) args s 0 0 A) (F0 m 106 ls [])) : ∀ (n : Nat) (x7_54 : Int32) (x8_54 : Int32) (H : Heap) (locs : List Loc) (ls : Array Slot), va_P G.1 vwCl (flat [wX7 G a a_book a_spare a_images a_kept a_text a_length a_refused a_items a_many a_at a_sort a_start a_size a_due a_rung a_anywhere]) H → va_D A (flat [wX7 G a a_book a_spare a_images a_kept a_text a_length a_refused a_items a_many a_at a_sort a_start a_size a_due a_rung a_anywhere]) → va_S A s.heap H locs → lv_has ls 9 [(0, .ref (a 0)), (1, .int p0), (2, .int p1), (3, .int p2), (4, .int x4_42), (5, .int x5_42), (6, .int x6_42), (7, .int x7_54), (8, .int x8_54)] → fX7_word_54 p1 a_book x4_42 kx n x7_54 x8_54 = some out → W p l e rmX7_word s m args below meth c H locs 0 0 (MQ below (QI G A out.1 (flat [wX7 G a a_book a_spare a_images a_kept a_text a_length out.2 a_items a_many a_at a_sort a_start a_size a_due a_rung a_anywhere])) args s 0 0 A) (F0 m 54 ls []) := by
  obtain ⟨⟨hx, hb, hml, hown, hts⟩, hr, hlocks, hK, hN, hE, hA⟩ := id C
  intro n
  induction n with
  | zero =>
    intro x7_54 x8_54 H locs ls hP hD hS hl hf
    exact absurd (show (none : Option (Int32 × (Nat → Int32))) = some out from hf) (by intro q9; cases q9)
  | succ n ih =>
    intro x7_54 x8_54 H locs ls hP hD hS hl hf
    rw [fX7_word_54] at hf
    refine lv_iload hx hb dX7_word_54 (lv_at hl 8 rfl) ?_
    refine lv_aload_n hx hb dX7_word_56 rfl (lv_at hl 0 rfl) ?_
    refine va_get (D := G.1) (ci := 7) (v := .ref (a 1)) (C := RX7) (T := TX7) (N := 16) hx hb hts iiX7_word_X7 hown hK hP 0 rfl rfl 0 (by decide) (hts _ mmX7_word_1) (fun _ h9 => h9) rfl dX7_word_57 ?_
    refine lv_iconst (v := 0) hx hb dX7_word_60 (by decide) ?_
    obtain ⟨z10, hz10, hf⟩ := o_b hf
    refine k_iald hx hb hK hP 1 0 rfl rfl hz10 dX7_word_61 ?_
    refine lv_icmp_ge (tgt := 106) hx hb dX7_word_62 (by decide) (fun c11 => ?_) (fun c11 => ?_)
    · have hf := (o_i hf).1 c11
      exact HX _ _ _ _ _ hP hD hS (lv_sub hl [0, 1, 2, 3, 4, 5, 6, 7, 8] rfl) hf
    have hf := (o_i hf).2 c11
    refine lv_iload hx hb dX7_word_65 (lv_at hl 7 rfl) ?_
    refine lv_iload hx hb dX7_word_67 (lv_at hl 4 rfl) ?_
    refine lv_aload_n hx hb dX7_word_69 rfl (lv_at hl 0 rfl) ?_
    refine va_get (D := G.1) (ci := 7) (v := .ref (a 1)) (C := RX7) (T := TX7) (N := 16) hx hb hts iiX7_word_X7 hown hK hP 0 rfl rfl 0 (by decide) (hts _ mmX7_word_1) (fun _ h9 => h9) rfl dX7_word_70 ?_
    refine lv_bipush (v := 16) hx hb dX7_word_73 (by decide) ?_
    refine lv_iload hx hb dX7_word_75 (lv_at hl 8 rfl) ?_
    refine lv_iadd hx hb dX7_word_77 ?_
    obtain ⟨z12, hz12, hf⟩ := o_b hf
    refine k_iald hx hb hK hP 1 0 rfl rfl hz12 dX7_word_78 ?_
    refine lv_ishr hx hb dX7_word_79 ?_
    refine at_pc (pc' := 80) rfl ?_
    refine lv_iconst (v := 1) hx hb dX7_word_80 (by decide) ?_
    refine lv_iand hx hb dX7_word_81 ?_
    refine lv_iconst (v := 1) hx hb dX7_word_82 (by decide) ?_
    refine lv_icmp_ne (tgt := 96) hx hb dX7_word_83 (by decide) (fun c13 => ?_) (fun c13 => ?_)
    · have hf := (o_i hf).2 c13
      refine lv_iconst (v := 0) hx hb dX7_word_96 (by decide) ?_
      refine lv_ior hx hb dX7_word_97 ?_
      refine lv_istore (lv' := [(7, .int (x7_54 ||| 0)), (0, .ref (a 0)), (1, .int p0), (2, .int p1), (3, .int p2), (4, .int x4_42), (5, .int x5_42), (6, .int x6_42), (8, .int x8_54)]) hx hb dX7_word_98 hl (by decide) rfl (fun ls hl => ?_)
      refine lv_iinc (v := x8_54 + 1) (lv' := [(8, .int (x8_54 + 1)), (7, .int (x7_54 ||| 0)), (0, .ref (a 0)), (1, .int p0), (2, .int p1), (3, .int p2), (4, .int x4_42), (5, .int x5_42), (6, .int x6_42)]) hx hb dX7_word_100 hl (k := 8) rfl (congrArg (fun z => x8_54 + z) (by decide)) (by decide) rfl (fun ls hl => ?_)
      refine lv_goto (tgt := 54) hx hb dX7_word_103 (by decide) ?_
      exact ih _ _ _ _ _ hP hD hS (lv_sub hl [2, 3, 4, 5, 6, 7, 8, 1, 0] rfl) hf
    have hf := (o_i hf).1 c13
    refine lv_aload_n hx hb dX7_word_86 rfl (lv_at hl 0 rfl) ?_
    refine lv_iload hx hb dX7_word_87 (lv_at hl 8 rfl) ?_
    refine lv_iload_n hx hb dX7_word_89 rfl (lv_at hl 2 rfl) ?_
    obtain ⟨g14, hg14, hf⟩ := o_b hf
    refine bVi C hP hD hS (tX7_hall l G a a_book a_spare a_images a_kept a_text a_length a_refused a_items a_many a_at a_sort a_start a_size a_due a_rung a_anywhere x8_54 p1 g14 hg14) gX7_word_X7_hall rfl ⟨rfl, rfl⟩ hdX7_hall ⟨Nat.le_of_ble_eq_true rfl, Nat.le_of_ble_eq_true rfl⟩ rfl hl.1 rfl (Nat.le_of_ble_eq_true rfl) ⟨Nat.le_of_ble_eq_true rfl, Nat.le_of_ble_eq_true rfl⟩ [0] rfl rfl rfl (setB_same _ _ _ rfl) rfl (ci := 7) (q0 := 0) rfl rfl rfl dX7_word_90 (fun H locs hP hD hS => ?_)
    refine lv_goto (tgt := 97) hx hb dX7_word_93 (by decide) ?_
    refine lv_ior hx hb dX7_word_97 ?_
    refine lv_istore (lv' := [(7, .int (x7_54 ||| g14)), (0, .ref (a 0)), (1, .int p0), (2, .int p1), (3, .int p2), (4, .int x4_42), (5, .int x5_42), (6, .int x6_42), (8, .int x8_54)]) hx hb dX7_word_98 hl (by decide) rfl (fun ls hl => ?_)
    refine lv_iinc (v := x8_54 + 1) (lv' := [(8, .int (x8_54 + 1)), (7, .int (x7_54 ||| g14)), (0, .ref (a 0)), (1, .int p0), (2, .int p1), (3, .int p2), (4, .int x4_42), (5, .int x5_42), (6, .int x6_42)]) hx hb dX7_word_100 hl (k := 8) rfl (congrArg (fun z => x8_54 + z) (by decide)) (by decide) rfl (fun ls hl => ?_)
    refine lv_goto (tgt := 54) hx hb dX7_word_103 (by decide) ?_
    exact ih _ _ _ _ _ hP hD hS (lv_sub hl [2, 3, 4, 5, 6, 7, 8, 1, 0] rfl) hf
set_option maxHeartbeats 4000000 in
set_option maxRecDepth 100000 in
theorem lX7_word_42 {p : Program} {e : Env} {s : State} {m : MethodId} {args : Array Value} {below : List Frame} {meth : Method} {c : Code} {A : Nat → Prop} (l : Launch) (G : GG) (C : Cx p m c cX7_word 9 s args wsX7_word RX7 meth (some .int) G A) (a : Nat → Nat) (a_book : Nat → Int32) (a_spare : Nat → Int32) (a_images : Nat → Int32) (a_kept : Nat → Int32) (a_text : Nat → Int32) (a_length : Int32) (a_refused : Nat → Int32) (a_items : Nat → Int32) (a_many : Int32) (a_at : Int32) (a_sort : Int32) (a_start : Int32) (a_size : Int32) (a_due : Nat → Int32) (a_rung : Nat → Int32) (a_anywhere : Nat → Int32) (p0 : Int32) (p1 : Int32) (p2 : Int32) (out : Int32 × (Nat → Int32)) (kx : Int32 → Int32 → Int32 → Option (Int32 × (Nat → Int32))) (HX : ∀ (x4_42 : Int32) (x5_42 : Int32) (x6_42 : Int32) (H : Heap) (locs : List Loc) (ls : Array Slot), va_P G.1 vwCl (flat [wX7 G a a_book a_spare a_images a_kept a_text a_length a_refused a_items a_many a_at a_sort a_start a_size a_due a_rung a_anywhere]) H → va_D A (flat [wX7 G a a_book a_spare a_images a_kept a_text a_length a_refused a_items a_many a_at a_sort a_start a_size a_due a_rung a_anywhere]) → va_S A s.heap H locs → lv_has ls 9 [(0, .ref (a 0)), (1, .int p0), (2, .int p1), (3, .int p2), (4, .int x4_42), (5, .int x5_42), (6, .int x6_42)] → kx x4_42 x5_42 x6_42 = some out → W p l e rmX7_word s m args below meth c H locs 0 0 (MQ below (QI G A out.1 (flat [wX7 G a a_book a_spare a_images a_kept a_text a_length out.2 a_items a_many a_at a_sort a_start a_size a_due a_rung a_anywhere])) args s 0 0 A) (F0 m 142 ls [])) : ∀ (n : Nat) (x4_42 : Int32) (x5_42 : Int32) (x6_42 : Int32) (H : Heap) (locs : List Loc) (ls : Array Slot), va_P G.1 vwCl (flat [wX7 G a a_book a_spare a_images a_kept a_text a_length a_refused a_items a_many a_at a_sort a_start a_size a_due a_rung a_anywhere]) H → va_D A (flat [wX7 G a a_book a_spare a_images a_kept a_text a_length a_refused a_items a_many a_at a_sort a_start a_size a_due a_rung a_anywhere]) → va_S A s.heap H locs → lv_has ls 9 [(0, .ref (a 0)), (1, .int p0), (2, .int p1), (3, .int p2), (4, .int x4_42), (5, .int x5_42), (6, .int x6_42)] → fX7_word_42 p1 a_book kx n x4_42 x5_42 x6_42 = some out → W p l e rmX7_word s m args below meth c H locs 0 0 (MQ below (QI G A out.1 (flat [wX7 G a a_book a_spare a_images a_kept a_text a_length out.2 a_items a_many a_at a_sort a_start a_size a_due a_rung a_anywhere])) args s 0 0 A) (F0 m 42 ls []) := by
  obtain ⟨⟨hx, hb, hml, hown, hts⟩, hr, hlocks, hK, hN, hE, hA⟩ := id C
  intro n
  induction n with
  | zero =>
    intro x4_42 x5_42 x6_42 H locs ls hP hD hS hl hf
    exact absurd (show (none : Option (Int32 × (Nat → Int32))) = some out from hf) (by intro q9; cases q9)
  | succ n ih =>
    intro x4_42 x5_42 x6_42 H locs ls hP hD hS hl hf
    rw [fX7_word_42] at hf
    refine lv_iload hx hb dX7_word_42 (lv_at hl 6 rfl) ?_
    refine lv_if_eq (tgt := 142) hx hb dX7_word_44 (by decide) (fun c9 => ?_) (fun c9 => ?_)
    · have hf := (o_i hf).1 c9
      exact HX _ _ _ _ _ _ hP hD hS (lv_sub hl [0, 1, 2, 3, 4, 5, 6] rfl) hf
    have hf := (o_i hf).2 c9
    refine lv_iload hx hb dX7_word_47 (lv_at hl 4 rfl) ?_
    refine lv_istore (lv' := [(7, .int x4_42), (0, .ref (a 0)), (1, .int p0), (2, .int p1), (3, .int p2), (4, .int x4_42), (5, .int x5_42), (6, .int x6_42)]) hx hb dX7_word_49 hl (by decide) rfl (fun ls hl => ?_)
    refine lv_iconst (v := 0) hx hb dX7_word_51 (by decide) ?_
    refine lv_istore (lv' := [(8, .int 0), (7, .int x4_42), (0, .ref (a 0)), (1, .int p0), (2, .int p1), (3, .int p2), (4, .int x4_42), (5, .int x5_42), (6, .int x6_42)]) hx hb dX7_word_52 hl (by decide) rfl (fun ls hl => ?_)
    refine lX7_word_54 l G C a a_book a_spare a_images a_kept a_text a_length a_refused a_items a_many a_at a_sort a_start a_size a_due a_rung a_anywhere p0 p1 p2 x4_42 x5_42 x6_42 out _ (fun x7_54_15 x8_54_16 H locs ls hP hD hS hl hf => ?_) fu x4_42 0 _ _ _ hP hD hS (lv_sub hl [2, 3, 4, 5, 6, 7, 8, 1, 0] rfl) hf
    refine lv_iload hx hb dX7_word_106 (lv_at hl 7 rfl) ?_
    refine lv_iload hx hb dX7_word_108 (lv_at hl 4 rfl) ?_
    obtain ⟨f18, hf18, hf⟩ := o_b hf
    have hJ : ∀ (H : Heap) (locs : List Loc) (ls : Array Slot), va_P G.1 vwCl (flat [wX7 G a a_book a_spare a_images a_kept a_text a_length a_refused a_items a_many a_at a_sort a_start a_size a_due a_rung a_anywhere]) H → va_D A (flat [wX7 G a a_book a_spare a_images a_kept a_text a_length a_refused a_items a_many a_at a_sort a_start a_size a_due a_rung a_anywhere]) → va_S A s.heap H locs → lv_has ls 9 [(0, .ref (a 0)), (1, .int p0), (2, .int p1), (3, .int p2), (4, .int x4_42), (5, .int x5_42), (6, .int x6_42), (7, .int x7_54_15), (8, .int x8_54_16)] → W p l e rmX7_word s m args below meth c H locs 0 0 (MQ below (QI G A out.1 (flat [wX7 G a a_book a_spare a_images a_kept a_text a_length out.2 a_items a_many a_at a_sort a_start a_size a_due a_rung a_anywhere])) args s 0 0 A) (F0 m 118 ls [.int f18]) := by
      intro H locs ls hP hD hS hl
      refine lv_istore (lv' := [(6, .int f18), (0, .ref (a 0)), (1, .int p0), (2, .int p1), (3, .int p2), (4, .int x4_42), (5, .int x5_42), (7, .int x7_54_15), (8, .int x8_54_16)]) hx hb dX7_word_118 hl (by decide) rfl (fun ls hl => ?_)
      refine lv_iload hx hb dX7_word_120 (lv_at hl 6 rfl) ?_
      refine lv_iload hx hb dX7_word_122 (lv_at hl 0 rfl) ?_
      refine lv_if_eq (tgt := 131) hx hb dX7_word_124 (by decide) (fun c19 => ?_) (fun c19 => ?_)
      · have hf := (o_i hf).1 c19
        refine lv_iconst (v := 0) hx hb dX7_word_131 (by decide) ?_
        refine lv_iadd hx hb dX7_word_132 ?_
        refine lv_istore (lv' := [(5, .int (x5_42 + 0)), (6, .int f18), (0, .ref (a 0)), (1, .int p0), (2, .int p1), (3, .int p2), (4, .int x4_42), (7, .int x7_54_15), (8, .int x8_54_16)]) hx hb dX7_word_133 hl (by decide) rfl (fun ls hl => ?_)
        refine lv_iload hx hb dX7_word_135 (lv_at hl 7 rfl) ?_
        refine lv_istore (lv' := [(4, .int x7_54_15), (5, .int (x5_42 + 0)), (6, .int f18), (0, .ref (a 0)), (1, .int p0), (2, .int p1), (3, .int p2), (7, .int x7_54_15), (8, .int x8_54_16)]) hx hb dX7_word_137 hl (by decide) rfl (fun ls hl => ?_)
        refine lv_goto (tgt := 42) hx hb dX7_word_139 (by decide) ?_
        exact ih _ _ _ _ _ _ hP hD hS (lv_sub hl [3, 4, 5, 6, 0, 1, 2] rfl) hf
      have hf := (o_i hf).2 c19
      refine lv_iconst (v := 1) hx hb dX7_word_127 (by decide) ?_
      refine lv_goto (tgt := 132) hx hb dX7_word_128 (by decide) ?_
      refine lv_iadd hx hb dX7_word_132 ?_
      refine lv_istore (lv' := [(5, .int (x5_42 + 1)), (6, .int f18), (0, .ref (a 0)), (1, .int p0), (2, .int p1), (3, .int p2), (4, .int x4_42), (7, .int x7_54_15), (8, .int x8_54_16)]) hx hb dX7_word_133 hl (by decide) rfl (fun ls hl => ?_)
      refine lv_iload hx hb dX7_word_135 (lv_at hl 7 rfl) ?_
      refine lv_istore (lv' := [(4, .int x7_54_15), (5, .int (x5_42 + 1)), (6, .int f18), (0, .ref (a 0)), (1, .int p0), (2, .int p1), (3, .int p2), (7, .int x7_54_15), (8, .int x8_54_16)]) hx hb dX7_word_137 hl (by decide) rfl (fun ls hl => ?_)
      refine lv_goto (tgt := 42) hx hb dX7_word_139 (by decide) ?_
      exact ih _ _ _ _ _ _ hP hD hS (lv_sub hl [3, 4, 5, 6, 0, 1, 2] rfl) hf
    clear hf
    have hf := hf18
    refine lv_icmp_eq (tgt := 117) hx hb dX7_word_110 (by decide) (fun c17 => ?_) (fun c17 => ?_)
    · have hf := (o_i hf).1 c17
      refine lv_iconst (v := 0) hx hb dX7_word_117 (by decide) ?_
      have e9 := Option.some.inj hf
      subst e9
      exact hJ _ _ _ hP hD hS (lv_sub hl [0, 1, 2, 3, 4, 5, 6, 7, 8] rfl)
    have hf := (o_i hf).2 c17
    refine lv_iconst (v := 1) hx hb dX7_word_113 (by decide) ?_
    refine lv_goto (tgt := 118) hx hb dX7_word_114 (by decide) ?_
    have e9 := Option.some.inj hf
    subst e9
    exact hJ _ _ _ hP hD hS (lv_sub hl [0, 1, 2, 3, 4, 5, 6, 7, 8] rfl)
set_option maxHeartbeats 4000000 in
set_option maxRecDepth 100000 in
theorem tX7_word (l : Launch) (G : GG) (a : Nat → Nat) (a_book : Nat → Int32) (a_spare : Nat → Int32) (a_images : Nat → Int32) (a_kept : Nat → Int32) (a_text : Nat → Int32) (a_length : Int32) (a_refused : Nat → Int32) (a_items : Nat → Int32) (a_many : Int32) (a_at : Int32) (a_sort : Int32) (a_start : Int32) (a_size : Int32) (a_due : Nat → Int32) (a_rung : Nat → Int32) (a_anywhere : Nat → Int32) (p0 : Int32) (p1 : Int32) (p2 : Int32) (out : Int32 × (Nat → Int32)) (hf : fX7_word a_book a_refused p0 p1 p2 = some out) : cMi l G yX7_word wsX7_word rmX7_word [.ref (a 0), .int p0, .int p1, .int p2] (flat [wX7 G a a_book a_spare a_images a_kept a_text a_length a_refused a_items a_many a_at a_sort a_start a_size a_due a_rung a_anywhere]) out.1 (flat [wX7 G a a_book a_spare a_images a_kept a_text a_length out.2 a_items a_many a_at a_sort a_start a_size a_due a_rung a_anywhere]) := by
  intro sz
  refine met_of (cc := cX7_word) (nL := 9) (ret := (some .int)) (Qc := fun A9 => QI G A9 out.1 (flat [wX7 G a a_book a_spare a_images a_kept a_text a_length out.2 a_items a_many a_at a_sort a_start a_size a_due a_rung a_anywhere])) (by decide) rfl (Nat.le_of_ble_eq_true rfl) ?_
  intro p e s m args below meth c A ls C hP hD hS hl
  obtain ⟨⟨hx, hb, hml, hown, hts⟩, hr, hlocks, hK, hN, hE, hA⟩ := id C
  have hl : lv_has ls 9 [(0, .ref (a 0)), (1, .int p0), (2, .int p1), (3, .int p2)] := hl
  unfold fX7_word at hf
  refine lv_aload_n hx hb dX7_word_0 rfl (lv_at hl 0 rfl) ?_
  refine lv_iload_n hx hb dX7_word_1 rfl (lv_at hl 1 rfl) ?_
  obtain ⟨g1, hg1, hf⟩ := o_b hf
  refine bVi C hP hD hS (tX7_isOne l G a a_book a_spare a_images a_kept a_text a_length a_refused a_items a_many a_at a_sort a_start a_size a_due a_rung a_anywhere p0 g1 hg1) gX7_word_X7_isOne rfl ⟨rfl, rfl⟩ hdX7_isOne ⟨Nat.le_of_ble_eq_true rfl, Nat.le_of_ble_eq_true rfl⟩ rfl hl.1 rfl (Nat.le_of_ble_eq_true rfl) ⟨Nat.le_of_ble_eq_true rfl, Nat.le_of_ble_eq_true rfl⟩ [0] rfl rfl rfl (setB_same _ _ _ rfl) rfl (ci := 7) (q0 := 0) rfl rfl rfl dX7_word_2 (fun H locs hP hD hS => ?_)
  refine lv_if_eq (tgt := 26) hx hb dX7_word_5 (by decide) (fun c2 => ?_) (fun c2 => ?_)
  · have hf := (o_i hf).1 c2
    refine lv_aload_n hx hb dX7_word_26 rfl (lv_at hl 0 rfl) ?_
    obtain ⟨g3, hg3, hf⟩ := o_b hf
    refine bVi (Bs' := [wX7 G a a_book a_spare a_images a_kept a_text a_length g3.2 a_items a_many a_at a_sort a_start a_size a_due a_rung a_anywhere]) C hP hD hS (tX7_bad l G a a_book a_spare a_images a_kept a_text a_length a_refused a_items a_many a_at a_sort a_start a_size a_due a_rung a_anywhere g3 hg3) gX7_word_X7_bad rfl ⟨rfl, rfl⟩ hdX7_bad ⟨Nat.le_of_ble_eq_true rfl, Nat.le_of_ble_eq_true rfl⟩ rfl hl.1 rfl (Nat.le_of_ble_eq_true rfl) ⟨Nat.le_of_ble_eq_true rfl, Nat.le_of_ble_eq_true rfl⟩ [0] rfl rfl rfl rfl rfl (ci := 7) (q0 := 0) rfl rfl rfl dX7_word_27 (fun H locs hP hD hS => ?_)
    have hP : va_P G.1 vwCl (flat [wX7 G a a_book a_spare a_images a_kept a_text a_length g3.2 a_items a_many a_at a_sort a_start a_size a_due a_rung a_anywhere]) H := hP
    have hD : va_D A (flat [wX7 G a a_book a_spare a_images a_kept a_text a_length g3.2 a_items a_many a_at a_sort a_start a_size a_due a_rung a_anywhere]) := hD
    have e9 := Option.some.inj hf
    subst e9
    exact rt_i C hP hS rfl dX7_word_30
  have hf := (o_i hf).2 c2
  refine lv_iload_n hx hb dX7_word_8 rfl (lv_at hl 2 rfl) ?_
  refine lv_iconst (v := 0) hx hb dX7_word_9 (by decide) ?_
  refine lv_iconst (v := 3) hx hb dX7_word_10 (by decide) ?_
  obtain ⟨g4, hg4, hf⟩ := o_b hf
  refine bSi C hP hD hS (tX7_in l G p1 0 3 g4 hg4) gX7_word_X7_in rfl ⟨rfl, rfl⟩ hdX7_in ⟨Nat.le_of_ble_eq_true rfl, Nat.le_of_ble_eq_true rfl⟩ rfl hl.1 rfl (Nat.le_of_ble_eq_true rfl) ⟨Nat.le_of_ble_eq_true rfl, Nat.le_of_ble_eq_true rfl⟩ [] rfl rfl rfl (setB_same _ _ _ rfl) rfl dX7_word_11 (fun H locs hP hD hS => ?_)
  refine lv_if_eq (tgt := 26) hx hb dX7_word_14 (by decide) (fun c5 => ?_) (fun c5 => ?_)
  · have hf := (o_i hf).1 c5
    refine lv_aload_n hx hb dX7_word_26 rfl (lv_at hl 0 rfl) ?_
    obtain ⟨g6, hg6, hf⟩ := o_b hf
    refine bVi (Bs' := [wX7 G a a_book a_spare a_images a_kept a_text a_length g6.2 a_items a_many a_at a_sort a_start a_size a_due a_rung a_anywhere]) C hP hD hS (tX7_bad l G a a_book a_spare a_images a_kept a_text a_length a_refused a_items a_many a_at a_sort a_start a_size a_due a_rung a_anywhere g6 hg6) gX7_word_X7_bad rfl ⟨rfl, rfl⟩ hdX7_bad ⟨Nat.le_of_ble_eq_true rfl, Nat.le_of_ble_eq_true rfl⟩ rfl hl.1 rfl (Nat.le_of_ble_eq_true rfl) ⟨Nat.le_of_ble_eq_true rfl, Nat.le_of_ble_eq_true rfl⟩ [0] rfl rfl rfl rfl rfl (ci := 7) (q0 := 0) rfl rfl rfl dX7_word_27 (fun H locs hP hD hS => ?_)
    have hP : va_P G.1 vwCl (flat [wX7 G a a_book a_spare a_images a_kept a_text a_length g6.2 a_items a_many a_at a_sort a_start a_size a_due a_rung a_anywhere]) H := hP
    have hD : va_D A (flat [wX7 G a a_book a_spare a_images a_kept a_text a_length g6.2 a_items a_many a_at a_sort a_start a_size a_due a_rung a_anywhere]) := hD
    have e9 := Option.some.inj hf
    subst e9
    exact rt_i C hP hS rfl dX7_word_30
  have hf := (o_i hf).2 c5
  refine lv_iload_n hx hb dX7_word_17 rfl (lv_at hl 3 rfl) ?_
  refine lv_iconst (v := 0) hx hb dX7_word_18 (by decide) ?_
  refine lv_iconst (v := 1) hx hb dX7_word_19 (by decide) ?_
  obtain ⟨g7, hg7, hf⟩ := o_b hf
  refine bSi C hP hD hS (tX7_in l G p2 0 1 g7 hg7) gX7_word_X7_in rfl ⟨rfl, rfl⟩ hdX7_in ⟨Nat.le_of_ble_eq_true rfl, Nat.le_of_ble_eq_true rfl⟩ rfl hl.1 rfl (Nat.le_of_ble_eq_true rfl) ⟨Nat.le_of_ble_eq_true rfl, Nat.le_of_ble_eq_true rfl⟩ [] rfl rfl rfl (setB_same _ _ _ rfl) rfl dX7_word_20 (fun H locs hP hD hS => ?_)
  refine lv_if_ne (tgt := 31) hx hb dX7_word_23 (by decide) (fun c8 => ?_) (fun c8 => ?_)
  · have hf := (o_i hf).2 c8
    refine lv_iconst (v := 1) hx hb dX7_word_31 (by decide) ?_
    refine lv_iload_n hx hb dX7_word_32 rfl (lv_at hl 1 rfl) ?_
    refine lv_ishl hx hb dX7_word_33 ?_
    refine lv_istore (lv' := [(4, .int (1 <<< (p0 &&& 31))), (0, .ref (a 0)), (1, .int p0), (2, .int p1), (3, .int p2)]) hx hb dX7_word_34 hl (by decide) rfl (fun ls hl => ?_)
    refine lv_iconst (v := 0) hx hb dX7_word_36 (by decide) ?_
    refine lv_istore (lv' := [(5, .int 0), (4, .int (1 <<< (p0 &&& 31))), (0, .ref (a 0)), (1, .int p0), (2, .int p1), (3, .int p2)]) hx hb dX7_word_37 hl (by decide) rfl (fun ls hl => ?_)
    refine lv_iconst (v := 1) hx hb dX7_word_39 (by decide) ?_
    refine lv_istore (lv' := [(6, .int 1), (5, .int 0), (4, .int (1 <<< (p0 &&& 31))), (0, .ref (a 0)), (1, .int p0), (2, .int p1), (3, .int p2)]) hx hb dX7_word_40 hl (by decide) rfl (fun ls hl => ?_)
    refine lX7_word_42 l G C a a_book a_spare a_images a_kept a_text a_length a_refused a_items a_many a_at a_sort a_start a_size a_due a_rung a_anywhere p0 p1 p2 out _ (fun x4_42_20 x5_42_21 x6_42_22 H locs ls hP hD hS hl hf => ?_) fu (1 <<< (p0 &&& 31)) 0 1 _ _ _ hP hD hS (lv_sub hl [3, 4, 5, 6, 2, 1, 0] rfl) hf
    refine lv_iload_n hx hb dX7_word_142 rfl (lv_at hl 3 rfl) ?_
    refine lv_if_ne (tgt := 151) hx hb dX7_word_143 (by decide) (fun c23 => ?_) (fun c23 => ?_)
    · have hf := (o_i hf).2 c23
      refine lv_iload hx hb dX7_word_151 (lv_at hl 4 rfl) ?_
      have e9 := Option.some.inj hf
      subst e9
      exact rt_i C hP hS rfl dX7_word_153
    have hf := (o_i hf).1 c23
    refine lv_iload hx hb dX7_word_146 (lv_at hl 5 rfl) ?_
    refine lv_goto (tgt := 153) hx hb dX7_word_148 (by decide) ?_
    have e9 := Option.some.inj hf
    subst e9
    exact rt_i C hP hS rfl dX7_word_153
  have hf := (o_i hf).1 c8
  refine lv_aload_n hx hb dX7_word_26 rfl (lv_at hl 0 rfl) ?_
  obtain ⟨g24, hg24, hf⟩ := o_b hf
  refine bVi (Bs' := [wX7 G a a_book a_spare a_images a_kept a_text a_length g24.2 a_items a_many a_at a_sort a_start a_size a_due a_rung a_anywhere]) C hP hD hS (tX7_bad l G a a_book a_spare a_images a_kept a_text a_length a_refused a_items a_many a_at a_sort a_start a_size a_due a_rung a_anywhere g24 hg24) gX7_word_X7_bad rfl ⟨rfl, rfl⟩ hdX7_bad ⟨Nat.le_of_ble_eq_true rfl, Nat.le_of_ble_eq_true rfl⟩ rfl hl.1 rfl (Nat.le_of_ble_eq_true rfl) ⟨Nat.le_of_ble_eq_true rfl, Nat.le_of_ble_eq_true rfl⟩ [0] rfl rfl rfl rfl rfl (ci := 7) (q0 := 0) rfl rfl rfl dX7_word_27 (fun H locs hP hD hS => ?_)
  have hP : va_P G.1 vwCl (flat [wX7 G a a_book a_spare a_images a_kept a_text a_length g24.2 a_items a_many a_at a_sort a_start a_size a_due a_rung a_anywhere]) H := hP
  have hD : va_D A (flat [wX7 G a a_book a_spare a_images a_kept a_text a_length g24.2 a_items a_many a_at a_sort a_start a_size a_due a_rung a_anywhere]) := hD
  have e9 := Option.some.inj hf
  subst e9
  exact rt_i C hP hS rfl dX7_word_30

/-! RX7 ones(I)I -/
theorem hdX7_ones : yX7_ones.cls ≠ "java/lang/invoke/MethodHandle" ∧ yX7_ones.cls ≠ "java/lang/invoke/VarHandle" ∧ (parseMethodDescriptor yX7_ones.desc).map (fun d => d.parameters.length) = some 1 := by decide +kernel
abbrev rmX7_ones : Room := { frames := 0, cells := 0, slots := 0, locals := 0 }
set_option maxHeartbeats 4000000 in
set_option maxRecDepth 100000 in
theorem lX7_ones_4 {p : Program} {e : Env} {s : State} {m : MethodId} {args : Array Value} {below : List Frame} {meth : Method} {c : Code} {A : Nat → Prop} (l : Launch) (G : GG) (C : Cx p m c cX7_ones 3 s args wsX7_ones RX7 meth (some .int) G A)  (p0 : Int32) (out : Int32) (kx : Int32 → Int32 → Option (Int32)) (HX : ∀ (x1_4 : Int32) (x2_4 : Int32) (H : Heap) (locs : List Loc) (ls : Array Slot), va_P G.1 vwCl (flat []) H → va_D A (flat []) → va_S A s.heap H locs → lv_has ls 3 [(0, .int p0), (1, .int x1_4), (2, .int x2_4)] → kx x1_4 x2_4 = some out → W p l e rmX7_ones s m args below meth c H locs 0 0 (MQ below (QI G A out (flat [])) args s 0 0 A) (F0 m 24 ls [])) : ∀ (n : Nat) (x1_4 : Int32) (x2_4 : Int32) (H : Heap) (locs : List Loc) (ls : Array Slot), va_P G.1 vwCl (flat []) H → va_D A (flat []) → va_S A s.heap H locs → lv_has ls 3 [(0, .int p0), (1, .int x1_4), (2, .int x2_4)] → fX7_ones_4 p0 kx n x1_4 x2_4 = some out → W p l e rmX7_ones s m args below meth c H locs 0 0 (MQ below (QI G A out (flat [])) args s 0 0 A) (F0 m 4 ls []) := by
  obtain ⟨⟨hx, hb, hml, hown, hts⟩, hr, hlocks, hK, hN, hE, hA⟩ := id C
  intro n
  induction n with
  | zero =>
    intro x1_4 x2_4 H locs ls hP hD hS hl hf
    exact absurd (show (none : Option (Int32)) = some out from hf) (by intro q9; cases q9)
  | succ n ih =>
    intro x1_4 x2_4 H locs ls hP hD hS hl hf
    rw [fX7_ones_4] at hf
    refine lv_iload_n hx hb dX7_ones_4 rfl (lv_at hl 2 rfl) ?_
    refine lv_bipush (v := 8) hx hb dX7_ones_5 (by decide) ?_
    refine lv_icmp_ge (tgt := 24) hx hb dX7_ones_7 (by decide) (fun c1 => ?_) (fun c1 => ?_)
    · have hf := (o_i hf).1 c1
      exact HX _ _ _ _ _ hP hD hS (lv_sub hl [0, 1, 2] rfl) hf
    have hf := (o_i hf).2 c1
    refine lv_iload_n hx hb dX7_ones_10 rfl (lv_at hl 1 rfl) ?_
    refine lv_iload_n hx hb dX7_ones_11 rfl (lv_at hl 0 rfl) ?_
    refine lv_iload_n hx hb dX7_ones_12 rfl (lv_at hl 2 rfl) ?_
    refine lv_ishr hx hb dX7_ones_13 ?_
    refine lv_iconst (v := 1) hx hb dX7_ones_14 (by decide) ?_
    refine lv_iand hx hb dX7_ones_15 ?_
    refine lv_iadd hx hb dX7_ones_16 ?_
    refine lv_istore_n (lv' := [(1, .int (x1_4 + ((p0 >>> (x2_4 &&& 31)) &&& 1))), (0, .int p0), (2, .int x2_4)]) hx hb dX7_ones_17 rfl hl (by decide) rfl (fun ls hl => ?_)
    refine lv_iinc (v := x2_4 + 1) (lv' := [(2, .int (x2_4 + 1)), (1, .int (x1_4 + ((p0 >>> (x2_4 &&& 31)) &&& 1))), (0, .int p0)]) hx hb dX7_ones_18 hl (k := 2) rfl (congrArg (fun z => x2_4 + z) (by decide)) (by decide) rfl (fun ls hl => ?_)
    refine at_pc (pc' := 21) rfl ?_
    refine lv_goto (tgt := 4) hx hb dX7_ones_21 (by decide) ?_
    exact ih _ _ _ _ _ hP hD hS (lv_sub hl [2, 1, 0] rfl) hf
set_option maxHeartbeats 4000000 in
set_option maxRecDepth 100000 in
theorem tX7_ones (l : Launch) (G : GG) (p0 : Int32) (out : Int32) (hf : fX7_ones p0 = some out) : cMi l G yX7_ones wsX7_ones rmX7_ones [.int p0] (flat []) out (flat []) := by
  intro sz
  refine met_of (cc := cX7_ones) (nL := 3) (ret := (some .int)) (Qc := fun A9 => QI G A9 out (flat [])) (by decide) rfl (Nat.le_of_ble_eq_true rfl) ?_
  intro p e s m args below meth c A ls C hP hD hS hl
  obtain ⟨⟨hx, hb, hml, hown, hts⟩, hr, hlocks, hK, hN, hE, hA⟩ := id C
  have hl : lv_has ls 3 [(0, .int p0)] := hl
  unfold fX7_ones at hf
  refine lv_iconst (v := 0) hx hb dX7_ones_0 (by decide) ?_
  refine lv_istore_n (lv' := [(1, .int 0), (0, .int p0)]) hx hb dX7_ones_1 rfl hl (by decide) rfl (fun ls hl => ?_)
  refine lv_iconst (v := 0) hx hb dX7_ones_2 (by decide) ?_
  refine lv_istore_n (lv' := [(2, .int 0), (1, .int 0), (0, .int p0)]) hx hb dX7_ones_3 rfl hl (by decide) rfl (fun ls hl => ?_)
  refine lX7_ones_4 l G C p0 out _ (fun x1_4_2 x2_4_3 H locs ls hP hD hS hl hf => ?_) fu 0 0 _ _ _ hP hD hS (lv_sub hl [2, 1, 0] rfl) hf
  refine lv_iload_n hx hb dX7_ones_24 rfl (lv_at hl 1 rfl) ?_
  have e9 := Option.some.inj hf
  subst e9
  exact rt_i C hP hS rfl dX7_ones_25

/-! RX7 fell()I -/
theorem iiX7_fell_X7 : ∀ w ∈ wsX70, w ∈ wsX7_fell := by decide +kernel
theorem mmX7_fell_1 : (Cond.fieldLink RX7 7 "BlindBellsModel" "book" "[I") ∈ wsX7_fell := by decide +kernel
theorem hdX7_fell : yX7_fell.cls = RX7 ∧ yX7_fell.cls ≠ "java/lang/invoke/MethodHandle" ∧ yX7_fell.cls ≠ "java/lang/invoke/VarHandle" ∧ (parseMethodDescriptor yX7_fell.desc).map (fun d => d.parameters.length) = some 0 := by decide +kernel
abbrev rmX7_fell : Room := { frames := 3, cells := 0, slots := 0, locals := 75 }
set_option maxHeartbeats 4000000 in
set_option maxRecDepth 100000 in
theorem lX7_fell_46 {p : Program} {e : Env} {s : State} {m : MethodId} {args : Array Value} {below : List Frame} {meth : Method} {c : Code} {A : Nat → Prop} (l : Launch) (G : GG) (C : Cx p m c cX7_fell 6 s args wsX7_fell RX7 meth (some .int) G A) (a : Nat → Nat) (a_book : Nat → Int32) (a_spare : Nat → Int32) (a_images : Nat → Int32) (a_kept : Nat → Int32) (a_text : Nat → Int32) (a_length : Int32) (a_refused : Nat → Int32) (a_items : Nat → Int32) (a_many : Int32) (a_at : Int32) (a_sort : Int32) (a_start : Int32) (a_size : Int32) (a_due : Nat → Int32) (a_rung : Nat → Int32) (a_anywhere : Nat → Int32) (z1 : Int32) (x2_15 : Int32) (x3_15 : Int32) (out : Int32) (kx : Int32 → Int32 → Option (Int32)) (HX : ∀ (x4_46 : Int32) (x5_46 : Int32) (H : Heap) (locs : List Loc) (ls : Array Slot), va_P G.1 vwCl (flat [wX7 G a a_book a_spare a_images a_kept a_text a_length a_refused a_items a_many a_at a_sort a_start a_size a_due a_rung a_anywhere]) H → va_D A (flat [wX7 G a a_book a_spare a_images a_kept a_text a_length a_refused a_items a_many a_at a_sort a_start a_size a_due a_rung a_anywhere]) → va_S A s.heap H locs → lv_has ls 6 [(0, .ref (a 0)), (1, .int ((1 <<< (z1 &&& 31)) - 1)), (2, .int x2_15), (3, .int x3_15), (4, .int x4_46), (5, .int x5_46)] → kx x4_46 x5_46 = some out → W p l e rmX7_fell s m args below meth c H locs 0 0 (MQ below (QI G A out (flat [wX7 G a a_book a_spare a_images a_kept a_text a_length a_refused a_items a_many a_at a_sort a_start a_size a_due a_rung a_anywhere])) args s 0 0 A) (F0 m 89 ls [])) : ∀ (n : Nat) (x4_46 : Int32) (x5_46 : Int32) (H : Heap) (locs : List Loc) (ls : Array Slot), va_P G.1 vwCl (flat [wX7 G a a_book a_spare a_images a_kept a_text a_length a_refused a_items a_many a_at a_sort a_start a_size a_due a_rung a_anywhere]) H → va_D A (flat [wX7 G a a_book a_spare a_images a_kept a_text a_length a_refused a_items a_many a_at a_sort a_start a_size a_due a_rung a_anywhere]) → va_S A s.heap H locs → lv_has ls 6 [(0, .ref (a 0)), (1, .int ((1 <<< (z1 &&& 31)) - 1)), (2, .int x2_15), (3, .int x3_15), (4, .int x4_46), (5, .int x5_46)] → fX7_fell_46 a_book z1 x3_15 kx n x4_46 x5_46 = some out → W p l e rmX7_fell s m args below meth c H locs 0 0 (MQ below (QI G A out (flat [wX7 G a a_book a_spare a_images a_kept a_text a_length a_refused a_items a_many a_at a_sort a_start a_size a_due a_rung a_anywhere])) args s 0 0 A) (F0 m 46 ls []) := by
  obtain ⟨⟨hx, hb, hml, hown, hts⟩, hr, hlocks, hK, hN, hE, hA⟩ := id C
  intro n
  induction n with
  | zero =>
    intro x4_46 x5_46 H locs ls hP hD hS hl hf
    exact absurd (show (none : Option (Int32)) = some out from hf) (by intro q9; cases q9)
  | succ n ih =>
    intro x4_46 x5_46 H locs ls hP hD hS hl hf
    rw [fX7_fell_46] at hf
    refine lv_iload hx hb dX7_fell_46 (lv_at hl 5 rfl) ?_
    refine lv_aload_n hx hb dX7_fell_48 rfl (lv_at hl 0 rfl) ?_
    refine va_get (D := G.1) (ci := 7) (v := .ref (a 1)) (C := RX7) (T := TX7) (N := 16) hx hb hts iiX7_fell_X7 hown hK hP 0 rfl rfl 0 (by decide) (hts _ mmX7_fell_1) (fun _ h9 => h9) rfl dX7_fell_49 ?_
    refine lv_iconst (v := 2) hx hb dX7_fell_52 (by decide) ?_
    obtain ⟨z8, hz8, hf⟩ := o_b hf
    refine k_iald hx hb hK hP 1 0 rfl rfl hz8 dX7_fell_53 ?_
    refine lv_icmp_ge (tgt := 89) hx hb dX7_fell_54 (by decide) (fun c9 => ?_) (fun c9 => ?_)
    · have hf := (o_i hf).1 c9
      exact HX _ _ _ _ _ hP hD hS (lv_sub hl [0, 1, 2, 3, 4, 5] rfl) hf
    have hf := (o_i hf).2 c9
    refine lv_iload hx hb dX7_fell_57 (lv_at hl 4 rfl) ?_
    refine lv_if_eq (tgt := 89) hx hb dX7_fell_59 (by decide) (fun c10 => ?_) (fun c10 => ?_)
    · have hf := (o_i hf).1 c10
      exact HX _ _ _ _ _ hP hD hS (lv_sub hl [0, 1, 2, 3, 4, 5] rfl) hf
    have hf := (o_i hf).2 c10
    refine lv_aload_n hx hb dX7_fell_62 rfl (lv_at hl 0 rfl) ?_
    refine lv_iload hx hb dX7_fell_63 (lv_at hl 5 rfl) ?_
    refine lv_iload_n hx hb dX7_fell_65 rfl (lv_at hl 1 rfl) ?_
    refine lv_iload_n hx hb dX7_fell_66 rfl (lv_at hl 3 rfl) ?_
    refine lv_iconst (v := (-1)) hx hb dX7_fell_67 (by decide) ?_
    refine lv_ixor hx hb dX7_fell_68 ?_
    refine lv_iand hx hb dX7_fell_69 ?_
    obtain ⟨g11, hg11, hf⟩ := o_b hf
    refine bVi C hP hD hS (tX7_dueFor l G a a_book a_spare a_images a_kept a_text a_length a_refused a_items a_many a_at a_sort a_start a_size a_due a_rung a_anywhere x5_46 (((1 <<< (z1 &&& 31)) - 1) &&& (x3_15 ^^^ ((-1)))) g11 hg11) gX7_fell_X7_dueFor rfl ⟨rfl, rfl⟩ hdX7_dueFor ⟨Nat.le_of_ble_eq_true rfl, Nat.le_of_ble_eq_true rfl⟩ rfl hl.1 rfl (Nat.le_of_ble_eq_true rfl) ⟨Nat.le_of_ble_eq_true rfl, Nat.le_of_ble_eq_true rfl⟩ [0] rfl rfl rfl (setB_same _ _ _ rfl) rfl (ci := 7) (q0 := 0) rfl rfl rfl dX7_fell_70 (fun H locs hP hD hS => ?_)
    refine lv_if_eq (tgt := 80) hx hb dX7_fell_73 (by decide) (fun c12 => ?_) (fun c12 => ?_)
    · have hf := (o_i hf).1 c12
      refine lv_iconst (v := 0) hx hb dX7_fell_80 (by decide) ?_
      refine lv_istore (lv' := [(4, .int 0), (0, .ref (a 0)), (1, .int ((1 <<< (z1 &&& 31)) - 1)), (2, .int x2_15), (3, .int x3_15), (5, .int x5_46)]) hx hb dX7_fell_81 hl (by decide) rfl (fun ls hl => ?_)
      refine lv_iinc (v := x5_46 + 1) (lv' := [(5, .int (x5_46 + 1)), (4, .int 0), (0, .ref (a 0)), (1, .int ((1 <<< (z1 &&& 31)) - 1)), (2, .int x2_15), (3, .int x3_15)]) hx hb dX7_fell_83 hl (k := 5) rfl (congrArg (fun z => x5_46 + z) (by decide)) (by decide) rfl (fun ls hl => ?_)
      refine lv_goto (tgt := 46) hx hb dX7_fell_86 (by decide) ?_
      exact ih _ _ _ _ _ hP hD hS (lv_sub hl [2, 3, 4, 5, 1, 0] rfl) hf
    have hf := (o_i hf).2 c12
    refine lv_iconst (v := 1) hx hb dX7_fell_76 (by decide) ?_
    refine lv_goto (tgt := 81) hx hb dX7_fell_77 (by decide) ?_
    refine lv_istore (lv' := [(4, .int 1), (0, .ref (a 0)), (1, .int ((1 <<< (z1 &&& 31)) - 1)), (2, .int x2_15), (3, .int x3_15), (5, .int x5_46)]) hx hb dX7_fell_81 hl (by decide) rfl (fun ls hl => ?_)
    refine lv_iinc (v := x5_46 + 1) (lv' := [(5, .int (x5_46 + 1)), (4, .int 1), (0, .ref (a 0)), (1, .int ((1 <<< (z1 &&& 31)) - 1)), (2, .int x2_15), (3, .int x3_15)]) hx hb dX7_fell_83 hl (k := 5) rfl (congrArg (fun z => x5_46 + z) (by decide)) (by decide) rfl (fun ls hl => ?_)
    refine lv_goto (tgt := 46) hx hb dX7_fell_86 (by decide) ?_
    exact ih _ _ _ _ _ hP hD hS (lv_sub hl [2, 3, 4, 5, 1, 0] rfl) hf
set_option maxHeartbeats 4000000 in
set_option maxRecDepth 100000 in
theorem lX7_fell_15 {p : Program} {e : Env} {s : State} {m : MethodId} {args : Array Value} {below : List Frame} {meth : Method} {c : Code} {A : Nat → Prop} (l : Launch) (G : GG) (C : Cx p m c cX7_fell 6 s args wsX7_fell RX7 meth (some .int) G A) (a : Nat → Nat) (a_book : Nat → Int32) (a_spare : Nat → Int32) (a_images : Nat → Int32) (a_kept : Nat → Int32) (a_text : Nat → Int32) (a_length : Int32) (a_refused : Nat → Int32) (a_items : Nat → Int32) (a_many : Int32) (a_at : Int32) (a_sort : Int32) (a_start : Int32) (a_size : Int32) (a_due : Nat → Int32) (a_rung : Nat → Int32) (a_anywhere : Nat → Int32) (z1 : Int32) (out : Int32) (kx : Int32 → Int32 → Option (Int32)) (HX : ∀ (x2_15 : Int32) (x3_15 : Int32) (H : Heap) (locs : List Loc) (ls : Array Slot), va_P G.1 vwCl (flat [wX7 G a a_book a_spare a_images a_kept a_text a_length a_refused a_items a_many a_at a_sort a_start a_size a_due a_rung a_anywhere]) H → va_D A (flat [wX7 G a a_book a_spare a_images a_kept a_text a_length a_refused a_items a_many a_at a_sort a_start a_size a_due a_rung a_anywhere]) → va_S A s.heap H locs → lv_has ls 6 [(0, .ref (a 0)), (1, .int ((1 <<< (z1 &&& 31)) - 1)), (2, .int x2_15), (3, .int x3_15)] → kx x2_15 x3_15 = some out → W p l e rmX7_fell s m args below meth c H locs 0 0 (MQ below (QI G A out (flat [wX7 G a a_book a_spare a_images a_kept a_text a_length a_refused a_items a_many a_at a_sort a_start a_size a_due a_rung a_anywhere])) args s 0 0 A) (F0 m 106 ls [])) : ∀ (n : Nat) (x2_15 : Int32) (x3_15 : Int32) (H : Heap) (locs : List Loc) (ls : Array Slot), va_P G.1 vwCl (flat [wX7 G a a_book a_spare a_images a_kept a_text a_length a_refused a_items a_many a_at a_sort a_start a_size a_due a_rung a_anywhere]) H → va_D A (flat [wX7 G a a_book a_spare a_images a_kept a_text a_length a_refused a_items a_many a_at a_sort a_start a_size a_due a_rung a_anywhere]) → va_S A s.heap H locs → lv_has ls 6 [(0, .ref (a 0)), (1, .int ((1 <<< (z1 &&& 31)) - 1)), (2, .int x2_15), (3, .int x3_15)] → fX7_fell_15 a_book z1 kx n x2_15 x3_15 = some out → W p l e rmX7_fell s m args below meth c H locs 0 0 (MQ below (QI G A out (flat [wX7 G a a_book a_spare a_images a_kept a_text a_length a_refused a_items a_many a_at a_sort a_start a_size a_due a_rung a_anywhere])) args s 0 0 A) (F0 m 15 ls []) := by
  obtain ⟨⟨hx, hb, hml, hown, hts⟩, hr, hlocks, hK, hN, hE, hA⟩ := id C
  intro n
  induction n with
  | zero =>
    intro x2_15 x3_15 H locs ls hP hD hS hl hf
    exact absurd (show (none : Option (Int32)) = some out from hf) (by intro q9; cases q9)
  | succ n ih =>
    intro x2_15 x3_15 H locs ls hP hD hS hl hf
    rw [fX7_fell_15] at hf
    refine lv_iload_n hx hb dX7_fell_15 rfl (lv_at hl 3 rfl) ?_
    refine lv_iload_n hx hb dX7_fell_16 rfl (lv_at hl 1 rfl) ?_
    refine lv_icmp_gt (tgt := 106) hx hb dX7_fell_17 (by decide) (fun c2 => ?_) (fun c2 => ?_)
    · have hf := (o_i hf).1 c2
      exact HX _ _ _ _ _ hP hD hS (lv_sub hl [0, 1, 2, 3] rfl) hf
    have hf := (o_i hf).2 c2
    refine lv_iload_n hx hb dX7_fell_20 rfl (lv_at hl 2 rfl) ?_
    refine lv_iconst (v := (-1)) hx hb dX7_fell_21 (by decide) ?_
    obtain ⟨f4, hf4, hf⟩ := o_b hf
    have hJ : ∀ (H : Heap) (locs : List Loc) (ls : Array Slot), va_P G.1 vwCl (flat [wX7 G a a_book a_spare a_images a_kept a_text a_length a_refused a_items a_many a_at a_sort a_start a_size a_due a_rung a_anywhere]) H → va_D A (flat [wX7 G a a_book a_spare a_images a_kept a_text a_length a_refused a_items a_many a_at a_sort a_start a_size a_due a_rung a_anywhere]) → va_S A s.heap H locs → lv_has ls 6 [(0, .ref (a 0)), (1, .int ((1 <<< (z1 &&& 31)) - 1)), (2, .int x2_15), (3, .int x3_15)] → W p l e rmX7_fell s m args below meth c H locs 0 0 (MQ below (QI G A out (flat [wX7 G a a_book a_spare a_images a_kept a_text a_length a_refused a_items a_many a_at a_sort a_start a_size a_due a_rung a_anywhere])) args s 0 0 A) (F0 m 41 ls [.int f4]) := by
      intro H locs ls hP hD hS hl
      refine lv_istore (lv' := [(4, .int f4), (0, .ref (a 0)), (1, .int ((1 <<< (z1 &&& 31)) - 1)), (2, .int x2_15), (3, .int x3_15)]) hx hb dX7_fell_41 hl (by decide) rfl (fun ls hl => ?_)
      refine lv_iconst (v := 0) hx hb dX7_fell_43 (by decide) ?_
      refine lv_istore (lv' := [(5, .int 0), (4, .int f4), (0, .ref (a 0)), (1, .int ((1 <<< (z1 &&& 31)) - 1)), (2, .int x2_15), (3, .int x3_15)]) hx hb dX7_fell_44 hl (by decide) rfl (fun ls hl => ?_)
      refine lX7_fell_46 l G C a a_book a_spare a_images a_kept a_text a_length a_refused a_items a_many a_at a_sort a_start a_size a_due a_rung a_anywhere z1 x2_15 x3_15 out _ (fun x4_46_13 x5_46_14 H locs ls hP hD hS hl hf => ?_) fu f4 0 _ _ _ hP hD hS (lv_sub hl [2, 3, 4, 5, 1, 0] rfl) hf
      refine lv_iload hx hb dX7_fell_89 (lv_at hl 4 rfl) ?_
      refine lv_if_eq (tgt := 98) hx hb dX7_fell_91 (by decide) (fun c15 => ?_) (fun c15 => ?_)
      · have hf := (o_i hf).1 c15
        refine lv_iload_n hx hb dX7_fell_98 rfl (lv_at hl 2 rfl) ?_
        refine lv_istore_n (lv' := [(2, .int x2_15), (0, .ref (a 0)), (1, .int ((1 <<< (z1 &&& 31)) - 1)), (3, .int x3_15), (4, .int x4_46_13), (5, .int x5_46_14)]) hx hb dX7_fell_99 rfl hl (by decide) rfl (fun ls hl => ?_)
        refine lv_iinc (v := x3_15 + 1) (lv' := [(3, .int (x3_15 + 1)), (2, .int x2_15), (0, .ref (a 0)), (1, .int ((1 <<< (z1 &&& 31)) - 1)), (4, .int x4_46_13), (5, .int x5_46_14)]) hx hb dX7_fell_100 hl (k := 3) rfl (congrArg (fun z => x3_15 + z) (by decide)) (by decide) rfl (fun ls hl => ?_)
        refine lv_goto (tgt := 15) hx hb dX7_fell_103 (by decide) ?_
        exact ih _ _ _ _ _ hP hD hS (lv_sub hl [2, 3, 1, 0] rfl) hf
      have hf := (o_i hf).2 c15
      refine lv_iload_n hx hb dX7_fell_94 rfl (lv_at hl 3 rfl) ?_
      refine lv_goto (tgt := 99) hx hb dX7_fell_95 (by decide) ?_
      refine lv_istore_n (lv' := [(2, .int x3_15), (0, .ref (a 0)), (1, .int ((1 <<< (z1 &&& 31)) - 1)), (3, .int x3_15), (4, .int x4_46_13), (5, .int x5_46_14)]) hx hb dX7_fell_99 rfl hl (by decide) rfl (fun ls hl => ?_)
      refine lv_iinc (v := x3_15 + 1) (lv' := [(3, .int (x3_15 + 1)), (2, .int x3_15), (0, .ref (a 0)), (1, .int ((1 <<< (z1 &&& 31)) - 1)), (4, .int x4_46_13), (5, .int x5_46_14)]) hx hb dX7_fell_100 hl (k := 3) rfl (congrArg (fun z => x3_15 + z) (by decide)) (by decide) rfl (fun ls hl => ?_)
      refine lv_goto (tgt := 15) hx hb dX7_fell_103 (by decide) ?_
      exact ih _ _ _ _ _ hP hD hS (lv_sub hl [2, 3, 1, 0] rfl) hf
    clear hf
    have hf := hf4
    refine lv_icmp_eq (tgt := 36) hx hb dX7_fell_22 (by decide) (fun c3 => ?_) (fun c3 => ?_)
    · have hf := (o_i hf).1 c3
      refine lv_iconst (v := 1) hx hb dX7_fell_36 (by decide) ?_
      refine lv_goto (tgt := 41) hx hb dX7_fell_37 (by decide) ?_
      have e9 := Option.some.inj hf
      subst e9
      exact hJ _ _ _ hP hD hS (lv_sub hl [0, 1, 2, 3] rfl)
    have hf := (o_i hf).2 c3
    refine lv_iload_n hx hb dX7_fell_25 rfl (lv_at hl 3 rfl) ?_
    obtain ⟨g5, hg5, hf⟩ := o_b hf
    refine bSi C hP hD hS (tX7_ones l G x3_15 g5 hg5) gX7_fell_X7_ones rfl ⟨rfl, rfl⟩ hdX7_ones ⟨Nat.le_of_ble_eq_true rfl, Nat.le_of_ble_eq_true rfl⟩ rfl hl.1 rfl (Nat.le_of_ble_eq_true rfl) ⟨Nat.le_of_ble_eq_true rfl, Nat.le_of_ble_eq_true rfl⟩ [] rfl rfl rfl (setB_same _ _ _ rfl) rfl dX7_fell_26 (fun H locs hP hD hS => ?_)
    refine lv_iload_n hx hb dX7_fell_29 rfl (lv_at hl 2 rfl) ?_
    obtain ⟨g6, hg6, hf⟩ := o_b hf
    refine bSi C hP hD hS (tX7_ones l G x2_15 g6 hg6) gX7_fell_X7_ones rfl ⟨rfl, rfl⟩ hdX7_ones ⟨Nat.le_of_ble_eq_true rfl, Nat.le_of_ble_eq_true rfl⟩ rfl hl.1 rfl (Nat.le_of_ble_eq_true rfl) ⟨Nat.le_of_ble_eq_true rfl, Nat.le_of_ble_eq_true rfl⟩ [] rfl rfl rfl (setB_same _ _ _ rfl) rfl dX7_fell_30 (fun H locs hP hD hS => ?_)
    refine lv_icmp_ge (tgt := 40) hx hb dX7_fell_33 (by decide) (fun c7 => ?_) (fun c7 => ?_)
    · have hf := (o_i hf).1 c7
      refine lv_iconst (v := 0) hx hb dX7_fell_40 (by decide) ?_
      have e9 := Option.some.inj hf
      subst e9
      exact hJ _ _ _ hP hD hS (lv_sub hl [0, 1, 2, 3] rfl)
    have hf := (o_i hf).2 c7
    refine lv_iconst (v := 1) hx hb dX7_fell_36 (by decide) ?_
    refine lv_goto (tgt := 41) hx hb dX7_fell_37 (by decide) ?_
    have e9 := Option.some.inj hf
    subst e9
    exact hJ _ _ _ hP hD hS (lv_sub hl [0, 1, 2, 3] rfl)
set_option maxHeartbeats 4000000 in
set_option maxRecDepth 100000 in
theorem tX7_fell (l : Launch) (G : GG) (a : Nat → Nat) (a_book : Nat → Int32) (a_spare : Nat → Int32) (a_images : Nat → Int32) (a_kept : Nat → Int32) (a_text : Nat → Int32) (a_length : Int32) (a_refused : Nat → Int32) (a_items : Nat → Int32) (a_many : Int32) (a_at : Int32) (a_sort : Int32) (a_start : Int32) (a_size : Int32) (a_due : Nat → Int32) (a_rung : Nat → Int32) (a_anywhere : Nat → Int32) (out : Int32) (hf : fX7_fell a_book = some out) : cMi l G yX7_fell wsX7_fell rmX7_fell [.ref (a 0)] (flat [wX7 G a a_book a_spare a_images a_kept a_text a_length a_refused a_items a_many a_at a_sort a_start a_size a_due a_rung a_anywhere]) out (flat [wX7 G a a_book a_spare a_images a_kept a_text a_length a_refused a_items a_many a_at a_sort a_start a_size a_due a_rung a_anywhere]) := by
  intro sz
  refine met_of (cc := cX7_fell) (nL := 6) (ret := (some .int)) (Qc := fun A9 => QI G A9 out (flat [wX7 G a a_book a_spare a_images a_kept a_text a_length a_refused a_items a_many a_at a_sort a_start a_size a_due a_rung a_anywhere])) (by decide) rfl (Nat.le_of_ble_eq_true rfl) ?_
  intro p e s m args below meth c A ls C hP hD hS hl
  obtain ⟨⟨hx, hb, hml, hown, hts⟩, hr, hlocks, hK, hN, hE, hA⟩ := id C
  have hl : lv_has ls 6 [(0, .ref (a 0))] := hl
  unfold fX7_fell at hf
  refine lv_iconst (v := 1) hx hb dX7_fell_0 (by decide) ?_
  refine lv_aload_n hx hb dX7_fell_1 rfl (lv_at hl 0 rfl) ?_
  refine va_get (D := G.1) (ci := 7) (v := .ref (a 1)) (C := RX7) (T := TX7) (N := 16) hx hb hts iiX7_fell_X7 hown hK hP 0 rfl rfl 0 (by decide) (hts _ mmX7_fell_1) (fun _ h9 => h9) rfl dX7_fell_2 ?_
  refine lv_iconst (v := 1) hx hb dX7_fell_5 (by decide) ?_
  obtain ⟨z1, hz1, hf⟩ := o_b hf
  refine k_iald hx hb hK hP 1 0 rfl rfl hz1 dX7_fell_6 ?_
  refine lv_ishl hx hb dX7_fell_7 ?_
  refine lv_iconst (v := 1) hx hb dX7_fell_8 (by decide) ?_
  refine lv_isub hx hb dX7_fell_9 ?_
  refine lv_istore_n (lv' := [(1, .int ((1 <<< (z1 &&& 31)) - 1)), (0, .ref (a 0))]) hx hb dX7_fell_10 rfl hl (by decide) rfl (fun ls hl => ?_)
  refine at_pc (pc' := 11) rfl ?_
  refine lv_iconst (v := (-1)) hx hb dX7_fell_11 (by decide) ?_
  refine lv_istore_n (lv' := [(2, .int ((-1))), (1, .int ((1 <<< (z1 &&& 31)) - 1)), (0, .ref (a 0))]) hx hb dX7_fell_12 rfl hl (by decide) rfl (fun ls hl => ?_)
  refine lv_iconst (v := 0) hx hb dX7_fell_13 (by decide) ?_
  refine lv_istore_n (lv' := [(3, .int 0), (2, .int ((-1))), (1, .int ((1 <<< (z1 &&& 31)) - 1)), (0, .ref (a 0))]) hx hb dX7_fell_14 rfl hl (by decide) rfl (fun ls hl => ?_)
  refine lX7_fell_15 l G C a a_book a_spare a_images a_kept a_text a_length a_refused a_items a_many a_at a_sort a_start a_size a_due a_rung a_anywhere z1 out _ (fun x2_15_16 x3_15_17 H locs ls hP hD hS hl hf => ?_) fu ((-1)) 0 _ _ _ hP hD hS (lv_sub hl [3, 2, 1, 0] rfl) hf
  refine lv_iload_n hx hb dX7_fell_106 rfl (lv_at hl 2 rfl) ?_
  have e9 := Option.some.inj hf
  subst e9
  exact rt_i C hP hS rfl dX7_fell_107

/-! RX7 sign(I)I -/
theorem iiX7_sign_X7 : ∀ w ∈ wsX70, w ∈ wsX7_sign := by decide +kernel
theorem mmX7_sign_1 : (Cond.fieldLink RX7 7 "BlindBellsModel" "book" "[I") ∈ wsX7_sign := by decide +kernel
theorem hdX7_sign : yX7_sign.cls = RX7 ∧ yX7_sign.cls ≠ "java/lang/invoke/MethodHandle" ∧ yX7_sign.cls ≠ "java/lang/invoke/VarHandle" ∧ (parseMethodDescriptor yX7_sign.desc).map (fun d => d.parameters.length) = some 1 := by decide +kernel
abbrev rmX7_sign : Room := { frames := 2, cells := 0, slots := 0, locals := 42 }
set_option maxHeartbeats 4000000 in
set_option maxRecDepth 100000 in
theorem lX7_sign_11 {p : Program} {e : Env} {s : State} {m : MethodId} {args : Array Value} {below : List Frame} {meth : Method} {c : Code} {A : Nat → Prop} (l : Launch) (G : GG) (C : Cx p m c cX7_sign 4 s args wsX7_sign RX7 meth (some .int) G A) (a : Nat → Nat) (a_book : Nat → Int32) (a_spare : Nat → Int32) (a_images : Nat → Int32) (a_kept : Nat → Int32) (a_text : Nat → Int32) (a_length : Int32) (a_refused : Nat → Int32) (a_items : Nat → Int32) (a_many : Int32) (a_at : Int32) (a_sort : Int32) (a_start : Int32) (a_size : Int32) (a_due : Nat → Int32) (a_rung : Nat → Int32) (a_anywhere : Nat → Int32) (p0 : Int32) (out : Int32 × (Nat → Int32) × (Nat → Int32)) (kx : Int32 → Int32 → Option (Int32 × (Nat → Int32) × (Nat → Int32))) (HX : ∀ (x2_11 : Int32) (x3_11 : Int32) (H : Heap) (locs : List Loc) (ls : Array Slot), va_P G.1 vwCl (flat [wX7 G a a_book a_spare a_images a_kept a_text a_length a_refused a_items a_many a_at a_sort a_start a_size a_due a_rung a_anywhere]) H → va_D A (flat [wX7 G a a_book a_spare a_images a_kept a_text a_length a_refused a_items a_many a_at a_sort a_start a_size a_due a_rung a_anywhere]) → va_S A s.heap H locs → lv_has ls 4 [(0, .ref (a 0)), (1, .int p0), (2, .int x2_11), (3, .int x3_11)] → kx x2_11 x3_11 = some out → W p l e rmX7_sign s m args below meth c H locs 0 0 (MQ below (QI G A out.1 (flat [wX7 G a out.2.1 a_spare a_images a_kept a_text a_length out.2.2 a_items a_many a_at a_sort a_start a_size a_due a_rung a_anywhere])) args s 0 0 A) (F0 m 50 ls [])) : ∀ (n : Nat) (x2_11 : Int32) (x3_11 : Int32) (H : Heap) (locs : List Loc) (ls : Array Slot), va_P G.1 vwCl (flat [wX7 G a a_book a_spare a_images a_kept a_text a_length a_refused a_items a_many a_at a_sort a_start a_size a_due a_rung a_anywhere]) H → va_D A (flat [wX7 G a a_book a_spare a_images a_kept a_text a_length a_refused a_items a_many a_at a_sort a_start a_size a_due a_rung a_anywhere]) → va_S A s.heap H locs → lv_has ls 4 [(0, .ref (a 0)), (1, .int p0), (2, .int x2_11), (3, .int x3_11)] → fX7_sign_11 p0 a_book kx n x2_11 x3_11 = some out → W p l e rmX7_sign s m args below meth c H locs 0 0 (MQ below (QI G A out.1 (flat [wX7 G a out.2.1 a_spare a_images a_kept a_text a_length out.2.2 a_items a_many a_at a_sort a_start a_size a_due a_rung a_anywhere])) args s 0 0 A) (F0 m 11 ls []) := by
  obtain ⟨⟨hx, hb, hml, hown, hts⟩, hr, hlocks, hK, hN, hE, hA⟩ := id C
  intro n
  induction n with
  | zero =>
    intro x2_11 x3_11 H locs ls hP hD hS hl hf
    exact absurd (show (none : Option (Int32 × (Nat → Int32) × (Nat → Int32))) = some out from hf) (by intro q9; cases q9)
  | succ n ih =>
    intro x2_11 x3_11 H locs ls hP hD hS hl hf
    rw [fX7_sign_11] at hf
    refine lv_iload_n hx hb dX7_sign_11 rfl (lv_at hl 3 rfl) ?_
    refine lv_aload_n hx hb dX7_sign_12 rfl (lv_at hl 0 rfl) ?_
    refine va_get (D := G.1) (ci := 7) (v := .ref (a 1)) (C := RX7) (T := TX7) (N := 16) hx hb hts iiX7_sign_X7 hown hK hP 0 rfl rfl 0 (by decide) (hts _ mmX7_sign_1) (fun _ h9 => h9) rfl dX7_sign_13 ?_
    refine lv_iconst (v := 3) hx hb dX7_sign_16 (by decide) ?_
    obtain ⟨z2, hz2, hf⟩ := o_b hf
    refine k_iald hx hb hK hP 1 0 rfl rfl hz2 dX7_sign_17 ?_
    refine lv_icmp_ge (tgt := 50) hx hb dX7_sign_18 (by decide) (fun c3 => ?_) (fun c3 => ?_)
    · have hf := (o_i hf).1 c3
      exact HX _ _ _ _ _ hP hD hS (lv_sub hl [0, 1, 2, 3] rfl) hf
    have hf := (o_i hf).2 c3
    refine lv_iload_n hx hb dX7_sign_21 rfl (lv_at hl 2 rfl) ?_
    refine lv_if_eq (tgt := 42) hx hb dX7_sign_22 (by decide) (fun c4 => ?_) (fun c4 => ?_)
    · have hf := (o_i hf).1 c4
      refine lv_iconst (v := 0) hx hb dX7_sign_42 (by decide) ?_
      refine lv_istore_n (lv' := [(2, .int 0), (0, .ref (a 0)), (1, .int p0), (3, .int x3_11)]) hx hb dX7_sign_43 rfl hl (by decide) rfl (fun ls hl => ?_)
      refine lv_iinc (v := x3_11 + 1) (lv' := [(3, .int (x3_11 + 1)), (2, .int 0), (0, .ref (a 0)), (1, .int p0)]) hx hb dX7_sign_44 hl (k := 3) rfl (congrArg (fun z => x3_11 + z) (by decide)) (by decide) rfl (fun ls hl => ?_)
      refine lv_goto (tgt := 11) hx hb dX7_sign_47 (by decide) ?_
      exact ih _ _ _ _ _ hP hD hS (lv_sub hl [2, 3, 1, 0] rfl) hf
    have hf := (o_i hf).2 c4
    refine lv_aload_n hx hb dX7_sign_25 rfl (lv_at hl 0 rfl) ?_
    refine va_get (D := G.1) (ci := 7) (v := .ref (a 1)) (C := RX7) (T := TX7) (N := 16) hx hb hts iiX7_sign_X7 hown hK hP 0 rfl rfl 0 (by decide) (hts _ mmX7_sign_1) (fun _ h9 => h9) rfl dX7_sign_26 ?_
    refine lv_bipush (v := 98) hx hb dX7_sign_29 (by decide) ?_
    refine lv_iload_n hx hb dX7_sign_31 rfl (lv_at hl 3 rfl) ?_
    refine lv_iadd hx hb dX7_sign_32 ?_
    obtain ⟨z5, hz5, hf⟩ := o_b hf
    refine k_iald hx hb hK hP 1 0 rfl rfl hz5 dX7_sign_33 ?_
    refine lv_iload_n hx hb dX7_sign_34 rfl (lv_at hl 1 rfl) ?_
    refine lv_icmp_eq (tgt := 42) hx hb dX7_sign_35 (by decide) (fun c6 => ?_) (fun c6 => ?_)
    · have hf := (o_i hf).1 c6
      refine lv_iconst (v := 0) hx hb dX7_sign_42 (by decide) ?_
      refine lv_istore_n (lv' := [(2, .int 0), (0, .ref (a 0)), (1, .int p0), (3, .int x3_11)]) hx hb dX7_sign_43 rfl hl (by decide) rfl (fun ls hl => ?_)
      refine lv_iinc (v := x3_11 + 1) (lv' := [(3, .int (x3_11 + 1)), (2, .int 0), (0, .ref (a 0)), (1, .int p0)]) hx hb dX7_sign_44 hl (k := 3) rfl (congrArg (fun z => x3_11 + z) (by decide)) (by decide) rfl (fun ls hl => ?_)
      refine lv_goto (tgt := 11) hx hb dX7_sign_47 (by decide) ?_
      exact ih _ _ _ _ _ hP hD hS (lv_sub hl [2, 3, 1, 0] rfl) hf
    have hf := (o_i hf).2 c6
    refine lv_iconst (v := 1) hx hb dX7_sign_38 (by decide) ?_
    refine lv_goto (tgt := 43) hx hb dX7_sign_39 (by decide) ?_
    refine lv_istore_n (lv' := [(2, .int 1), (0, .ref (a 0)), (1, .int p0), (3, .int x3_11)]) hx hb dX7_sign_43 rfl hl (by decide) rfl (fun ls hl => ?_)
    refine lv_iinc (v := x3_11 + 1) (lv' := [(3, .int (x3_11 + 1)), (2, .int 1), (0, .ref (a 0)), (1, .int p0)]) hx hb dX7_sign_44 hl (k := 3) rfl (congrArg (fun z => x3_11 + z) (by decide)) (by decide) rfl (fun ls hl => ?_)
    refine lv_goto (tgt := 11) hx hb dX7_sign_47 (by decide) ?_
    exact ih _ _ _ _ _ hP hD hS (lv_sub hl [2, 3, 1, 0] rfl) hf
set_option maxHeartbeats 4000000 in
set_option maxRecDepth 100000 in
theorem tX7_sign (l : Launch) (G : GG) (a : Nat → Nat) (a_book : Nat → Int32) (a_spare : Nat → Int32) (a_images : Nat → Int32) (a_kept : Nat → Int32) (a_text : Nat → Int32) (a_length : Int32) (a_refused : Nat → Int32) (a_items : Nat → Int32) (a_many : Int32) (a_at : Int32) (a_sort : Int32) (a_start : Int32) (a_size : Int32) (a_due : Nat → Int32) (a_rung : Nat → Int32) (a_anywhere : Nat → Int32) (p0 : Int32) (out : Int32 × (Nat → Int32) × (Nat → Int32)) (hf : fX7_sign a_book a_refused p0 = some out) : cMi l G yX7_sign wsX7_sign rmX7_sign [.ref (a 0), .int p0] (flat [wX7 G a a_book a_spare a_images a_kept a_text a_length a_refused a_items a_many a_at a_sort a_start a_size a_due a_rung a_anywhere]) out.1 (flat [wX7 G a out.2.1 a_spare a_images a_kept a_text a_length out.2.2 a_items a_many a_at a_sort a_start a_size a_due a_rung a_anywhere]) := by
  intro sz
  refine met_of (cc := cX7_sign) (nL := 4) (ret := (some .int)) (Qc := fun A9 => QI G A9 out.1 (flat [wX7 G a out.2.1 a_spare a_images a_kept a_text a_length out.2.2 a_items a_many a_at a_sort a_start a_size a_due a_rung a_anywhere])) (by decide) rfl (Nat.le_of_ble_eq_true rfl) ?_
  intro p e s m args below meth c A ls C hP hD hS hl
  obtain ⟨⟨hx, hb, hml, hown, hts⟩, hr, hlocks, hK, hN, hE, hA⟩ := id C
  have hl : lv_has ls 4 [(0, .ref (a 0)), (1, .int p0)] := hl
  unfold fX7_sign at hf
  refine lv_iload_n hx hb dX7_sign_0 rfl (lv_at hl 1 rfl) ?_
  refine lv_iconst (v := 1) hx hb dX7_sign_1 (by decide) ?_
  refine lv_sipush (v := 255) hx hb dX7_sign_2 (by decide) ?_
  obtain ⟨g1, hg1, hf⟩ := o_b hf
  refine bSi C hP hD hS (tX7_in l G p0 1 255 g1 hg1) gX7_sign_X7_in rfl ⟨rfl, rfl⟩ hdX7_in ⟨Nat.le_of_ble_eq_true rfl, Nat.le_of_ble_eq_true rfl⟩ rfl hl.1 rfl (Nat.le_of_ble_eq_true rfl) ⟨Nat.le_of_ble_eq_true rfl, Nat.le_of_ble_eq_true rfl⟩ [] rfl rfl rfl (setB_same _ _ _ rfl) rfl dX7_sign_5 (fun H locs hP hD hS => ?_)
  refine lv_istore_n (lv' := [(2, .int g1), (0, .ref (a 0)), (1, .int p0)]) hx hb dX7_sign_8 rfl hl (by decide) rfl (fun ls hl => ?_)
  refine lv_iconst (v := 0) hx hb dX7_sign_9 (by decide) ?_
  refine lv_istore_n (lv' := [(3, .int 0), (2, .int g1), (0, .ref (a 0)), (1, .int p0)]) hx hb dX7_sign_10 rfl hl (by decide) rfl (fun ls hl => ?_)
  refine lX7_sign_11 l G C a a_book a_spare a_images a_kept a_text a_length a_refused a_items a_many a_at a_sort a_start a_size a_due a_rung a_anywhere p0 out _ (fun x2_11_7 x3_11_8 H locs ls hP hD hS hl hf => ?_) fu g1 0 _ _ _ hP hD hS (lv_sub hl [2, 3, 1, 0] rfl) hf
  refine lv_iload_n hx hb dX7_sign_50 rfl (lv_at hl 2 rfl) ?_
  refine lv_if_ne (tgt := 59) hx hb dX7_sign_51 (by decide) (fun c9 => ?_) (fun c9 => ?_)
  · have hf := (o_i hf).2 c9
    refine lv_aload_n hx hb dX7_sign_59 rfl (lv_at hl 0 rfl) ?_
    refine va_get (D := G.1) (ci := 7) (v := .ref (a 1)) (C := RX7) (T := TX7) (N := 16) hx hb hts iiX7_sign_X7 hown hK hP 0 rfl rfl 0 (by decide) (hts _ mmX7_sign_1) (fun _ h9 => h9) rfl dX7_sign_60 ?_
    refine lv_iconst (v := 3) hx hb dX7_sign_63 (by decide) ?_
    obtain ⟨z10, hz10, hf⟩ := o_b hf
    refine k_iald hx hb hK hP 1 0 rfl rfl hz10 dX7_sign_64 ?_
    refine lv_bipush (v := 6) hx hb dX7_sign_65 (by decide) ?_
    refine lv_icmp_ne (tgt := 78) hx hb dX7_sign_67 (by decide) (fun c11 => ?_) (fun c11 => ?_)
    · have hf := (o_i hf).2 c11
      refine lv_aload_n hx hb dX7_sign_78 rfl (lv_at hl 0 rfl) ?_
      refine va_get (D := G.1) (ci := 7) (v := .ref (a 1)) (C := RX7) (T := TX7) (N := 16) hx hb hts iiX7_sign_X7 hown hK hP 0 rfl rfl 0 (by decide) (hts _ mmX7_sign_1) (fun _ h9 => h9) rfl dX7_sign_79 ?_
      refine lv_bipush (v := 98) hx hb dX7_sign_82 (by decide) ?_
      refine lv_aload_n hx hb dX7_sign_84 rfl (lv_at hl 0 rfl) ?_
      refine va_get (D := G.1) (ci := 7) (v := .ref (a 1)) (C := RX7) (T := TX7) (N := 16) hx hb hts iiX7_sign_X7 hown hK hP 0 rfl rfl 0 (by decide) (hts _ mmX7_sign_1) (fun _ h9 => h9) rfl dX7_sign_85 ?_
      refine lv_iconst (v := 3) hx hb dX7_sign_88 (by decide) ?_
      obtain ⟨z12, hz12, hf⟩ := o_b hf
      refine k_iald hx hb hK hP 1 0 rfl rfl hz12 dX7_sign_89 ?_
      refine lv_iadd hx hb dX7_sign_90 ?_
      refine lv_iload_n hx hb dX7_sign_91 rfl (lv_at hl 1 rfl) ?_
      refine at_pc (pc' := 92) rfl ?_
      obtain ⟨u13, hu13, hf⟩ := o_b hf
      refine k_iast hx hb hK hP hD hS 1 0 rfl rfl hu13 dX7_sign_92 (fun H locs hP hD hS => ?_)
      have hP : va_P G.1 vwCl (flat [wX7 G a u13 a_spare a_images a_kept a_text a_length a_refused a_items a_many a_at a_sort a_start a_size a_due a_rung a_anywhere]) H := hP
      have hD : va_D A (flat [wX7 G a u13 a_spare a_images a_kept a_text a_length a_refused a_items a_many a_at a_sort a_start a_size a_due a_rung a_anywhere]) := hD
      refine lv_aload_n hx hb dX7_sign_93 rfl (lv_at hl 0 rfl) ?_
      refine va_get (D := G.1) (ci := 7) (v := .ref (a 1)) (C := RX7) (T := TX7) (N := 16) hx hb hts iiX7_sign_X7 hown hK hP 0 rfl rfl 0 (by decide) (hts _ mmX7_sign_1) (fun _ h9 => h9) rfl dX7_sign_94 ?_
      refine lv_iconst (v := 3) hx hb dX7_sign_97 (by decide) ?_
      refine lv_dup2_11 hx hb dX7_sign_98 rfl rfl ?_
      obtain ⟨z14, hz14, hf⟩ := o_b hf
      refine k_iald hx hb hK hP 1 0 rfl rfl hz14 dX7_sign_99 ?_
      refine lv_iconst (v := 1) hx hb dX7_sign_100 (by decide) ?_
      refine lv_iadd hx hb dX7_sign_101 ?_
      obtain ⟨u15, hu15, hf⟩ := o_b hf
      refine k_iast hx hb hK hP hD hS 1 0 rfl rfl hu15 dX7_sign_102 (fun H locs hP hD hS => ?_)
      have hP : va_P G.1 vwCl (flat [wX7 G a u15 a_spare a_images a_kept a_text a_length a_refused a_items a_many a_at a_sort a_start a_size a_due a_rung a_anywhere]) H := hP
      have hD : va_D A (flat [wX7 G a u15 a_spare a_images a_kept a_text a_length a_refused a_items a_many a_at a_sort a_start a_size a_due a_rung a_anywhere]) := hD
      refine lv_aload_n hx hb dX7_sign_103 rfl (lv_at hl 0 rfl) ?_
      refine at_pc (pc' := 104) rfl ?_
      refine va_get (D := G.1) (ci := 7) (v := .ref (a 1)) (C := RX7) (T := TX7) (N := 16) hx hb hts iiX7_sign_X7 hown hK hP 0 rfl rfl 0 (by decide) (hts _ mmX7_sign_1) (fun _ h9 => h9) rfl dX7_sign_104 ?_
      refine lv_iconst (v := 3) hx hb dX7_sign_107 (by decide) ?_
      obtain ⟨z16, hz16, hf⟩ := o_b hf
      refine k_iald hx hb hK hP 1 0 rfl rfl hz16 dX7_sign_108 ?_
      refine lv_iconst (v := 1) hx hb dX7_sign_109 (by decide) ?_
      refine lv_isub hx hb dX7_sign_110 ?_
      have e9 := Option.some.inj hf
      subst e9
      exact rt_i C hP hS rfl dX7_sign_111
    have hf := (o_i hf).1 c11
    refine lv_aload_n hx hb dX7_sign_70 rfl (lv_at hl 0 rfl) ?_
    refine lv_iconst (v := 2) hx hb dX7_sign_71 (by decide) ?_
    refine lv_bipush (v := (-4)) hx hb dX7_sign_72 (by decide) ?_
    obtain ⟨g17, hg17, hf⟩ := o_b hf
    refine bVi (Bs' := [wX7 G a a_book a_spare a_images a_kept a_text a_length g17.2 a_items a_many a_at a_sort a_start a_size a_due a_rung a_anywhere]) C hP hD hS (tX7_refuses l G a a_book a_spare a_images a_kept a_text a_length a_refused a_items a_many a_at a_sort a_start a_size a_due a_rung a_anywhere 2 ((-4)) g17 hg17) gX7_sign_X7_refuses rfl ⟨rfl, rfl⟩ hdX7_refuses ⟨Nat.le_of_ble_eq_true rfl, Nat.le_of_ble_eq_true rfl⟩ rfl hl.1 rfl (Nat.le_of_ble_eq_true rfl) ⟨Nat.le_of_ble_eq_true rfl, Nat.le_of_ble_eq_true rfl⟩ [0] rfl rfl rfl rfl rfl (ci := 7) (q0 := 0) rfl rfl rfl dX7_sign_74 (fun H locs hP hD hS => ?_)
    have hP : va_P G.1 vwCl (flat [wX7 G a a_book a_spare a_images a_kept a_text a_length g17.2 a_items a_many a_at a_sort a_start a_size a_due a_rung a_anywhere]) H := hP
    have hD : va_D A (flat [wX7 G a a_book a_spare a_images a_kept a_text a_length g17.2 a_items a_many a_at a_sort a_start a_size a_due a_rung a_anywhere]) := hD
    have e9 := Option.some.inj hf
    subst e9
    exact rt_i C hP hS rfl dX7_sign_77
  have hf := (o_i hf).1 c9
  refine lv_aload_n hx hb dX7_sign_54 rfl (lv_at hl 0 rfl) ?_
  obtain ⟨g18, hg18, hf⟩ := o_b hf
  refine bVi (Bs' := [wX7 G a a_book a_spare a_images a_kept a_text a_length g18.2 a_items a_many a_at a_sort a_start a_size a_due a_rung a_anywhere]) C hP hD hS (tX7_bad l G a a_book a_spare a_images a_kept a_text a_length a_refused a_items a_many a_at a_sort a_start a_size a_due a_rung a_anywhere g18 hg18) gX7_sign_X7_bad rfl ⟨rfl, rfl⟩ hdX7_bad ⟨Nat.le_of_ble_eq_true rfl, Nat.le_of_ble_eq_true rfl⟩ rfl hl.1 rfl (Nat.le_of_ble_eq_true rfl) ⟨Nat.le_of_ble_eq_true rfl, Nat.le_of_ble_eq_true rfl⟩ [0] rfl rfl rfl rfl rfl (ci := 7) (q0 := 0) rfl rfl rfl dX7_sign_55 (fun H locs hP hD hS => ?_)
  have hP : va_P G.1 vwCl (flat [wX7 G a a_book a_spare a_images a_kept a_text a_length g18.2 a_items a_many a_at a_sort a_start a_size a_due a_rung a_anywhere]) H := hP
  have hD : va_D A (flat [wX7 G a a_book a_spare a_images a_kept a_text a_length g18.2 a_items a_many a_at a_sort a_start a_size a_due a_rung a_anywhere]) := hD
  have e9 := Option.some.inj hf
  subst e9
  exact rt_i C hP hS rfl dX7_sign_58

/-! RX7 clearSigns()I -/
theorem iiX7_clearSigns_X7 : ∀ w ∈ wsX70, w ∈ wsX7_clearSigns := by decide +kernel
theorem mmX7_clearSigns_1 : (Cond.fieldLink RX7 7 "BlindBellsModel" "book" "[I") ∈ wsX7_clearSigns := by decide +kernel
theorem hdX7_clearSigns : yX7_clearSigns.cls = RX7 ∧ yX7_clearSigns.cls ≠ "java/lang/invoke/MethodHandle" ∧ yX7_clearSigns.cls ≠ "java/lang/invoke/VarHandle" ∧ (parseMethodDescriptor yX7_clearSigns.desc).map (fun d => d.parameters.length) = some 0 := by decide +kernel
abbrev rmX7_clearSigns : Room := { frames := 0, cells := 0, slots := 0, locals := 0 }
set_option maxHeartbeats 4000000 in
set_option maxRecDepth 100000 in
theorem lX7_clearSigns_9 {p : Program} {e : Env} {s : State} {m : MethodId} {args : Array Value} {below : List Frame} {meth : Method} {c : Code} {A : Nat → Prop} (l : Launch) (G : GG) (C : Cx p m c cX7_clearSigns 8 s args wsX7_clearSigns RX7 meth (some .int) G A) (a : Nat → Nat) (a_book : Nat → Int32) (a_spare : Nat → Int32) (a_images : Nat → Int32) (a_kept : Nat → Int32) (a_text : Nat → Int32) (a_length : Int32) (a_refused : Nat → Int32) (a_items : Nat → Int32) (a_many : Int32) (a_at : Int32) (a_sort : Int32) (a_start : Int32) (a_size : Int32) (a_due : Nat → Int32) (a_rung : Nat → Int32) (a_anywhere : Nat → Int32) (z1 : Int32) (out : Int32) (kx : Int32 → Option (Int32)) (HX : ∀ (x2_9 : Int32) (H : Heap) (locs : List Loc) (ls : Array Slot), va_P G.1 vwCl (flat [wX7 G a a_book a_spare a_images a_kept a_text a_length a_refused a_items a_many a_at a_sort a_start a_size a_due a_rung a_anywhere]) H → va_D A (flat [wX7 G a a_book a_spare a_images a_kept a_text a_length a_refused a_items a_many a_at a_sort a_start a_size a_due a_rung a_anywhere]) → va_S A s.heap H locs → lv_has ls 8 [(0, .ref (a 0)), (1, .int z1), (2, .int x2_9)] → kx x2_9 = some out → W p l e rmX7_clearSigns s m args below meth c H locs 0 0 (MQ below (QI G A out (flat [wX7 G a a_book a_spare a_images a_kept a_text a_length a_refused a_items a_many a_at a_sort a_start a_size a_due a_rung a_anywhere])) args s 0 0 A) (F0 m 138 ls [])) : ∀ (n : Nat) (x2_9 : Int32) (H : Heap) (locs : List Loc) (ls : Array Slot), va_P G.1 vwCl (flat [wX7 G a a_book a_spare a_images a_kept a_text a_length a_refused a_items a_many a_at a_sort a_start a_size a_due a_rung a_anywhere]) H → va_D A (flat [wX7 G a a_book a_spare a_images a_kept a_text a_length a_refused a_items a_many a_at a_sort a_start a_size a_due a_rung a_anywhere]) → va_S A s.heap H locs → lv_has ls 8 [(0, .ref (a 0)), (1, .int z1), (2, .int x2_9)] → fX7_clearSigns_9 a_book z1 kx n x2_9 = some out → W p l e rmX7_clearSigns s m args below meth c H locs 0 0 (MQ below (QI G A out (flat [wX7 G a a_book a_spare a_images a_kept a_text a_length a_refused a_items a_many a_at a_sort a_start a_size a_due a_rung a_anywhere])) args s 0 0 A) (F0 m 9 ls []) := by
  obtain ⟨⟨hx, hb, hml, hown, hts⟩, hr, hlocks, hK, hN, hE, hA⟩ := id C
  intro n
  induction n with
  | zero =>
    intro x2_9 H locs ls hP hD hS hl hf
    exact absurd (show (none : Option (Int32)) = some out from hf) (by intro q9; cases q9)
  | succ n ih =>
    intro x2_9 H locs ls hP hD hS hl hf
    rw [fX7_clearSigns_9] at hf
    refine lv_iload_n hx hb dX7_clearSigns_9 rfl (lv_at hl 2 rfl) ?_
    refine lv_bipush (v := 24) hx hb dX7_clearSigns_10 (by decide) ?_
    refine lv_iload_n hx hb dX7_clearSigns_12 rfl (lv_at hl 1 rfl) ?_
    refine lv_imul hx hb dX7_clearSigns_13 ?_
    refine lv_iload_n hx hb dX7_clearSigns_14 rfl (lv_at hl 1 rfl) ?_
    refine lv_imul hx hb dX7_clearSigns_15 ?_
    refine lv_icmp_ge (tgt := 138) hx hb dX7_clearSigns_16 (by decide) (fun c2 => ?_) (fun c2 => ?_)
    · have hf := (o_i hf).1 c2
      exact HX _ _ _ _ hP hD hS (lv_sub hl [0, 1, 2] rfl) hf
    have hf := (o_i hf).2 c2
    refine lv_iload_n hx hb dX7_clearSigns_19 rfl (lv_at hl 2 rfl) ?_
    refine lv_bipush (v := 24) hx hb dX7_clearSigns_20 (by decide) ?_
    refine lv_iload_n hx hb dX7_clearSigns_22 rfl (lv_at hl 1 rfl) ?_
    refine lv_imul hx hb dX7_clearSigns_23 ?_
    obtain ⟨z3, hz3, hf⟩ := o_b hf
    refine k_idiv hx hb hz3 dX7_clearSigns_24 ?_
    refine lv_istore_n (lv' := [(3, .int z3), (0, .ref (a 0)), (1, .int z1), (2, .int x2_9)]) hx hb dX7_clearSigns_25 rfl hl (by decide) rfl (fun ls hl => ?_)
    refine lv_iload_n hx hb dX7_clearSigns_26 rfl (lv_at hl 3 rfl) ?_
    refine lv_bipush (v := 24) hx hb dX7_clearSigns_27 (by decide) ?_
    obtain ⟨z4, hz4, hf⟩ := o_b hf
    refine k_idiv hx hb hz4 dX7_clearSigns_29 ?_
    refine at_pc (pc' := 30) rfl ?_
    refine lv_iload_n hx hb dX7_clearSigns_30 rfl (lv_at hl 2 rfl) ?_
    obtain ⟨z5, hz5, hf⟩ := o_b hf
    refine k_irem hx hb hz5 dX7_clearSigns_31 ?_
    refine lv_istore (lv' := [(4, .int z5), (3, .int z3), (0, .ref (a 0)), (1, .int z1), (2, .int x2_9)]) hx hb dX7_clearSigns_32 hl (by decide) rfl (fun ls hl => ?_)
    refine lv_iload_n hx hb dX7_clearSigns_34 rfl (lv_at hl 4 rfl) ?_
    refine lv_bipush (v := 6) hx hb dX7_clearSigns_35 (by decide) ?_
    obtain ⟨z6, hz6, hf⟩ := o_b hf
    refine k_idiv hx hb hz6 dX7_clearSigns_37 ?_
    refine lv_iconst (v := 4) hx hb dX7_clearSigns_38 (by decide) ?_
    obtain ⟨z7, hz7, hf⟩ := o_b hf
    refine k_irem hx hb hz7 dX7_clearSigns_39 ?_
    refine lv_istore (lv' := [(5, .int z7), (4, .int z5), (3, .int z3), (0, .ref (a 0)), (1, .int z1), (2, .int x2_9)]) hx hb dX7_clearSigns_40 hl (by decide) rfl (fun ls hl => ?_)
    refine lv_iload_n hx hb dX7_clearSigns_42 rfl (lv_at hl 5 rfl) ?_
    refine at_pc (pc' := 43) rfl ?_
    refine lv_bipush (v := 6) hx hb dX7_clearSigns_43 (by decide) ?_
    obtain ⟨z8, hz8, hf⟩ := o_b hf
    refine k_irem hx hb hz8 dX7_clearSigns_45 ?_
    refine lv_istore (lv' := [(6, .int z8), (5, .int z7), (4, .int z5), (3, .int z3), (0, .ref (a 0)), (1, .int z1), (2, .int x2_9)]) hx hb dX7_clearSigns_46 hl (by decide) rfl (fun ls hl => ?_)
    refine lv_aload_n hx hb dX7_clearSigns_48 rfl (lv_at hl 4 rfl) ?_
    refine va_get (D := G.1) (ci := 7) (v := .ref (a 1)) (C := RX7) (T := TX7) (N := 16) hx hb hts iiX7_clearSigns_X7 hown hK hP 0 rfl rfl 0 (by decide) (hts _ mmX7_clearSigns_1) (fun _ h9 => h9) rfl dX7_clearSigns_49 ?_
    refine lv_bipush (v := 98) hx hb dX7_clearSigns_52 (by decide) ?_
    refine lv_iload_n hx hb dX7_clearSigns_54 rfl (lv_at hl 3 rfl) ?_
    refine lv_iadd hx hb dX7_clearSigns_55 ?_
    obtain ⟨z9, hz9, hf⟩ := o_b hf
    refine k_iald hx hb hK hP 1 0 rfl rfl hz9 dX7_clearSigns_56 ?_
    refine lv_aload_n hx hb dX7_clearSigns_57 rfl (lv_at hl 4 rfl) ?_
    refine at_pc (pc' := 58) rfl ?_
    refine va_get (D := G.1) (ci := 7) (v := .ref (a 1)) (C := RX7) (T := TX7) (N := 16) hx hb hts iiX7_clearSigns_X7 hown hK hP 0 rfl rfl 0 (by decide) (hts _ mmX7_clearSigns_1) (fun _ h9 => h9) rfl dX7_clearSigns_58 ?_
    refine lv_bipush (v := 98) hx hb dX7_clearSigns_61 (by decide) ?_
    refine lv_iload hx hb dX7_clearSigns_63 (lv_at hl 2 rfl) ?_
    refine lv_iadd hx hb dX7_clearSigns_65 ?_
    obtain ⟨z10, hz10, hf⟩ := o_b hf
    refine k_iald hx hb hK hP 1 0 rfl rfl hz10 dX7_clearSigns_66 ?_
    refine lv_iload hx hb dX7_clearSigns_67 (lv_at hl 1 rfl) ?_
    refine lv_ishl hx hb dX7_clearSigns_69 ?_
    refine lv_ior hx hb dX7_clearSigns_70 ?_
    refine lv_sipush (v := 255) hx hb dX7_clearSigns_71 (by decide) ?_
    refine lv_iand hx hb dX7_clearSigns_74 ?_
    refine at_pc (pc' := 75) rfl ?_
    refine lv_istore (lv' := [(7, .int ((z9 ||| (z10 <<< (z7 &&& 31))) &&& 255)), (6, .int z8), (5, .int z7), (4, .int z5), (3, .int z3), (0, .ref (a 0)), (1, .int z1), (2, .int x2_9)]) hx hb dX7_clearSigns_75 hl (by decide) rfl (fun ls hl => ?_)
    refine lv_iload hx hb dX7_clearSigns_77 (lv_at hl 1 rfl) ?_
    refine lv_iload_n hx hb dX7_clearSigns_79 rfl (lv_at hl 6 rfl) ?_
    refine lv_icmp_ge (tgt := 132) hx hb dX7_clearSigns_80 (by decide) (fun c11 => ?_) (fun c11 => ?_)
    · have hf := (o_i hf).1 c11
      refine lv_iinc (v := x2_9 + 1) (lv' := [(2, .int (x2_9 + 1)), (7, .int ((z9 ||| (z10 <<< (z7 &&& 31))) &&& 255)), (6, .int z8), (5, .int z7), (4, .int z5), (3, .int z3), (0, .ref (a 0)), (1, .int z1)]) hx hb dX7_clearSigns_132 hl (k := 7) rfl (congrArg (fun z => x2_9 + z) (by decide)) (by decide) rfl (fun ls hl => ?_)
      refine lv_goto (tgt := 9) hx hb dX7_clearSigns_135 (by decide) ?_
      exact ih _ _ _ _ hP hD hS (lv_sub hl [6, 7, 0] rfl) hf
    have hf := (o_i hf).2 c11
    refine lv_iload hx hb dX7_clearSigns_83 (lv_at hl 1 rfl) ?_
    refine lv_iload_n hx hb dX7_clearSigns_85 rfl (lv_at hl 4 rfl) ?_
    refine lv_icmp_eq (tgt := 132) hx hb dX7_clearSigns_86 (by decide) (fun c12 => ?_) (fun c12 => ?_)
    · have hf := (o_i hf).1 c12
      refine lv_iinc (v := x2_9 + 1) (lv' := [(2, .int (x2_9 + 1)), (7, .int ((z9 ||| (z10 <<< (z7 &&& 31))) &&& 255)), (6, .int z8), (5, .int z7), (4, .int z5), (3, .int z3), (0, .ref (a 0)), (1, .int z1)]) hx hb dX7_clearSigns_132 hl (k := 7) rfl (congrArg (fun z => x2_9 + z) (by decide)) (by decide) rfl (fun ls hl => ?_)
      refine lv_goto (tgt := 9) hx hb dX7_clearSigns_135 (by decide) ?_
      exact ih _ _ _ _ hP hD hS (lv_sub hl [6, 7, 0] rfl) hf
    have hf := (o_i hf).2 c12
    refine lv_iload hx hb dX7_clearSigns_89 (lv_at hl 1 rfl) ?_
    refine lv_iload hx hb dX7_clearSigns_91 (lv_at hl 3 rfl) ?_
    refine lv_icmp_eq (tgt := 132) hx hb dX7_clearSigns_93 (by decide) (fun c13 => ?_) (fun c13 => ?_)
    · have hf := (o_i hf).1 c13
      refine lv_iinc (v := x2_9 + 1) (lv' := [(2, .int (x2_9 + 1)), (7, .int ((z9 ||| (z10 <<< (z7 &&& 31))) &&& 255)), (6, .int z8), (5, .int z7), (4, .int z5), (3, .int z3), (0, .ref (a 0)), (1, .int z1)]) hx hb dX7_clearSigns_132 hl (k := 7) rfl (congrArg (fun z => x2_9 + z) (by decide)) (by decide) rfl (fun ls hl => ?_)
      refine lv_goto (tgt := 9) hx hb dX7_clearSigns_135 (by decide) ?_
      exact ih _ _ _ _ hP hD hS (lv_sub hl [6, 7, 0] rfl) hf
    have hf := (o_i hf).2 c13
    refine lv_aload_n hx hb dX7_clearSigns_96 rfl (lv_at hl 5 rfl) ?_
    refine va_get (D := G.1) (ci := 7) (v := .ref (a 1)) (C := RX7) (T := TX7) (N := 16) hx hb hts iiX7_clearSigns_X7 hown hK hP 0 rfl rfl 0 (by decide) (hts _ mmX7_clearSigns_1) (fun _ h9 => h9) rfl dX7_clearSigns_97 ?_
    refine lv_bipush (v := 98) hx hb dX7_clearSigns_100 (by decide) ?_
    refine lv_iload hx hb dX7_clearSigns_102 (lv_at hl 1 rfl) ?_
    refine lv_iadd hx hb dX7_clearSigns_104 ?_
    obtain ⟨z14, hz14, hf⟩ := o_b hf
    refine k_iald hx hb hK hP 1 0 rfl rfl hz14 dX7_clearSigns_105 ?_
    refine lv_iload hx hb dX7_clearSigns_106 (lv_at hl 0 rfl) ?_
    refine lv_icmp_ne (tgt := 132) hx hb dX7_clearSigns_108 (by decide) (fun c15 => ?_) (fun c15 => ?_)
    · have hf := (o_i hf).2 c15
      refine lv_iinc (v := x2_9 + 1) (lv' := [(2, .int (x2_9 + 1)), (7, .int ((z9 ||| (z10 <<< (z7 &&& 31))) &&& 255)), (6, .int z8), (5, .int z7), (4, .int z5), (3, .int z3), (0, .ref (a 0)), (1, .int z1)]) hx hb dX7_clearSigns_132 hl (k := 7) rfl (congrArg (fun z => x2_9 + z) (by decide)) (by decide) rfl (fun ls hl => ?_)
      refine lv_goto (tgt := 9) hx hb dX7_clearSigns_135 (by decide) ?_
      exact ih _ _ _ _ hP hD hS (lv_sub hl [6, 7, 0] rfl) hf
    have hf := (o_i hf).1 c15
    refine lv_sipush (v := 1000) hx hb dX7_clearSigns_111 (by decide) ?_
    refine lv_iload_n hx hb dX7_clearSigns_114 rfl (lv_at hl 4 rfl) ?_
    refine lv_imul hx hb dX7_clearSigns_115 ?_
    refine lv_bipush (v := 100) hx hb dX7_clearSigns_116 (by decide) ?_
    refine lv_iload hx hb dX7_clearSigns_118 (lv_at hl 3 rfl) ?_
    refine lv_imul hx hb dX7_clearSigns_120 ?_
    refine lv_iadd hx hb dX7_clearSigns_121 ?_
    refine lv_bipush (v := 10) hx hb dX7_clearSigns_122 (by decide) ?_
    refine lv_iload hx hb dX7_clearSigns_124 (lv_at hl 2 rfl) ?_
    refine at_pc (pc' := 126) rfl ?_
    refine lv_imul hx hb dX7_clearSigns_126 ?_
    refine lv_iadd hx hb dX7_clearSigns_127 ?_
    refine lv_iload hx hb dX7_clearSigns_128 (lv_at hl 1 rfl) ?_
    refine lv_iadd hx hb dX7_clearSigns_130 ?_
    have e9 := Option.some.inj hf
    subst e9
    exact rt_i C hP hS rfl dX7_clearSigns_131
set_option maxHeartbeats 4000000 in
set_option maxRecDepth 100000 in
theorem tX7_clearSigns (l : Launch) (G : GG) (a : Nat → Nat) (a_book : Nat → Int32) (a_spare : Nat → Int32) (a_images : Nat → Int32) (a_kept : Nat → Int32) (a_text : Nat → Int32) (a_length : Int32) (a_refused : Nat → Int32) (a_items : Nat → Int32) (a_many : Int32) (a_at : Int32) (a_sort : Int32) (a_start : Int32) (a_size : Int32) (a_due : Nat → Int32) (a_rung : Nat → Int32) (a_anywhere : Nat → Int32) (out : Int32) (hf : fX7_clearSigns a_book = some out) : cMi l G yX7_clearSigns wsX7_clearSigns rmX7_clearSigns [.ref (a 0)] (flat [wX7 G a a_book a_spare a_images a_kept a_text a_length a_refused a_items a_many a_at a_sort a_start a_size a_due a_rung a_anywhere]) out (flat [wX7 G a a_book a_spare a_images a_kept a_text a_length a_refused a_items a_many a_at a_sort a_start a_size a_due a_rung a_anywhere]) := by
  intro sz
  refine met_of (cc := cX7_clearSigns) (nL := 8) (ret := (some .int)) (Qc := fun A9 => QI G A9 out (flat [wX7 G a a_book a_spare a_images a_kept a_text a_length a_refused a_items a_many a_at a_sort a_start a_size a_due a_rung a_anywhere])) (by decide) rfl (Nat.le_of_ble_eq_true rfl) ?_
  intro p e s m args below meth c A ls C hP hD hS hl
  obtain ⟨⟨hx, hb, hml, hown, hts⟩, hr, hlocks, hK, hN, hE, hA⟩ := id C
  have hl : lv_has ls 8 [(0, .ref (a 0))] := hl
  unfold fX7_clearSigns at hf
  refine lv_aload_n hx hb dX7_clearSigns_0 rfl (lv_at hl 0 rfl) ?_
  refine va_get (D := G.1) (ci := 7) (v := .ref (a 1)) (C := RX7) (T := TX7) (N := 16) hx hb hts iiX7_clearSigns_X7 hown hK hP 0 rfl rfl 0 (by decide) (hts _ mmX7_clearSigns_1) (fun _ h9 => h9) rfl dX7_clearSigns_1 ?_
  refine lv_iconst (v := 3) hx hb dX7_clearSigns_4 (by decide) ?_
  obtain ⟨z1, hz1, hf⟩ := o_b hf
  refine k_iald hx hb hK hP 1 0 rfl rfl hz1 dX7_clearSigns_5 ?_
  refine lv_istore_n (lv' := [(1, .int z1), (0, .ref (a 0))]) hx hb dX7_clearSigns_6 rfl hl (by decide) rfl (fun ls hl => ?_)
  refine lv_iconst (v := 0) hx hb dX7_clearSigns_7 (by decide) ?_
  refine lv_istore_n (lv' := [(2, .int 0), (1, .int z1), (0, .ref (a 0))]) hx hb dX7_clearSigns_8 rfl hl (by decide) rfl (fun ls hl => ?_)
  refine lX7_clearSigns_9 l G C a a_book a_spare a_images a_kept a_text a_length a_refused a_items a_many a_at a_sort a_start a_size a_due a_rung a_anywhere z1 out _ (fun x2_9_16 H locs ls hP hD hS hl hf => ?_) fu 0 _ _ _ hP hD hS (lv_sub hl [2, 1, 0] rfl) hf
  refine lv_iconst (v := (-1)) hx hb dX7_clearSigns_138 (by decide) ?_
  have e9 := Option.some.inj hf
  subst e9
  exact rt_i C hP hS rfl dX7_clearSigns_139

/-! RX7 bells(III)I -/
theorem iiX7_bells_X7 : ∀ w ∈ wsX70, w ∈ wsX7_bells := by decide +kernel
theorem mmX7_bells_1 : (Cond.fieldLink RX7 7 "BlindBellsModel" "book" "[I") ∈ wsX7_bells := by decide +kernel
theorem hdX7_bells : yX7_bells.cls = RX7 ∧ yX7_bells.cls ≠ "java/lang/invoke/MethodHandle" ∧ yX7_bells.cls ≠ "java/lang/invoke/VarHandle" ∧ (parseMethodDescriptor yX7_bells.desc).map (fun d => d.parameters.length) = some 3 := by decide +kernel
abbrev rmX7_bells : Room := { frames := 2, cells := 0, slots := 0, locals := 47 }
set_option maxHeartbeats 4000000 in
set_option maxRecDepth 100000 in
theorem lX7_bells_6 {p : Program} {e : Env} {s : State} {m : MethodId} {args : Array Value} {below : List Frame} {meth : Method} {c : Code} {A : Nat → Prop} (l : Launch) (G : GG) (C : Cx p m c cX7_bells 7 s args wsX7_bells RX7 meth (some .int) G A) (a : Nat → Nat) (a_book : Nat → Int32) (a_spare : Nat → Int32) (a_images : Nat → Int32) (a_kept : Nat → Int32) (a_text : Nat → Int32) (a_length : Int32) (a_refused : Nat → Int32) (a_items : Nat → Int32) (a_many : Int32) (a_at : Int32) (a_sort : Int32) (a_start : Int32) (a_size : Int32) (a_due : Nat → Int32) (a_rung : Nat → Int32) (a_anywhere : Nat → Int32) (p0 : Int32) (p1 : Int32) (p2 : Int32) (out : Int32) (kx : Int32 → Int32 → Option (Int32)) (HX : ∀ (x4_6 : Int32) (x5_6 : Int32) (H : Heap) (locs : List Loc) (ls : Array Slot), va_P G.1 vwCl (flat [wX7 G a a_book a_spare a_images a_kept a_text a_length a_refused a_items a_many a_at a_sort a_start a_size a_due a_rung a_anywhere]) H → va_D A (flat [wX7 G a a_book a_spare a_images a_kept a_text a_length a_refused a_items a_many a_at a_sort a_start a_size a_due a_rung a_anywhere]) → va_S A s.heap H locs → lv_has ls 7 [(0, .ref (a 0)), (1, .int p0), (2, .int p1), (3, .int p2), (4, .int x4_6), (5, .int x5_6)] → kx x4_6 x5_6 = some out → W p l e rmX7_bells s m args below meth c H locs 0 0 (MQ below (QI G A out (flat [wX7 G a a_book a_spare a_images a_kept a_text a_length a_refused a_items a_many a_at a_sort a_start a_size a_due a_rung a_anywhere])) args s 0 0 A) (F0 m 61 ls [])) : ∀ (n : Nat) (x4_6 : Int32) (x5_6 : Int32) (H : Heap) (locs : List Loc) (ls : Array Slot), va_P G.1 vwCl (flat [wX7 G a a_book a_spare a_images a_kept a_text a_length a_refused a_items a_many a_at a_sort a_start a_size a_due a_rung a_anywhere]) H → va_D A (flat [wX7 G a a_book a_spare a_images a_kept a_text a_length a_refused a_items a_many a_at a_sort a_start a_size a_due a_rung a_anywhere]) → va_S A s.heap H locs → lv_has ls 7 [(0, .ref (a 0)), (1, .int p0), (2, .int p1), (3, .int p2), (4, .int x4_6), (5, .int x5_6)] → fX7_bells_6 p0 p1 p2 a_book kx n x4_6 x5_6 = some out → W p l e rmX7_bells s m args below meth c H locs 0 0 (MQ below (QI G A out (flat [wX7 G a a_book a_spare a_images a_kept a_text a_length a_refused a_items a_many a_at a_sort a_start a_size a_due a_rung a_anywhere])) args s 0 0 A) (F0 m 6 ls []) := by
  obtain ⟨⟨hx, hb, hml, hown, hts⟩, hr, hlocks, hK, hN, hE, hA⟩ := id C
  intro n
  induction n with
  | zero =>
    intro x4_6 x5_6 H locs ls hP hD hS hl hf
    exact absurd (show (none : Option (Int32)) = some out from hf) (by intro q9; cases q9)
  | succ n ih =>
    intro x4_6 x5_6 H locs ls hP hD hS hl hf
    rw [fX7_bells_6] at hf
    refine lv_iload hx hb dX7_bells_6 (lv_at hl 5 rfl) ?_
    refine lv_aload_n hx hb dX7_bells_8 rfl (lv_at hl 0 rfl) ?_
    refine va_get (D := G.1) (ci := 7) (v := .ref (a 1)) (C := RX7) (T := TX7) (N := 16) hx hb hts iiX7_bells_X7 hown hK hP 0 rfl rfl 0 (by decide) (hts _ mmX7_bells_1) (fun _ h9 => h9) rfl dX7_bells_9 ?_
    refine lv_iconst (v := 0) hx hb dX7_bells_12 (by decide) ?_
    obtain ⟨z1, hz1, hf⟩ := o_b hf
    refine k_iald hx hb hK hP 1 0 rfl rfl hz1 dX7_bells_13 ?_
    refine lv_icmp_ge (tgt := 61) hx hb dX7_bells_14 (by decide) (fun c2 => ?_) (fun c2 => ?_)
    · have hf := (o_i hf).1 c2
      exact HX _ _ _ _ _ hP hD hS (lv_sub hl [0, 1, 2, 3, 4, 5] rfl) hf
    have hf := (o_i hf).2 c2
    refine lv_aload_n hx hb dX7_bells_17 rfl (lv_at hl 0 rfl) ?_
    refine lv_iload hx hb dX7_bells_18 (lv_at hl 5 rfl) ?_
    refine lv_iload_n hx hb dX7_bells_20 rfl (lv_at hl 1 rfl) ?_
    obtain ⟨g3, hg3, hf⟩ := o_b hf
    refine bVi C hP hD hS (tX7_hall l G a a_book a_spare a_images a_kept a_text a_length a_refused a_items a_many a_at a_sort a_start a_size a_due a_rung a_anywhere x5_6 p0 g3 hg3) gX7_bells_X7_hall rfl ⟨rfl, rfl⟩ hdX7_hall ⟨Nat.le_of_ble_eq_true rfl, Nat.le_of_ble_eq_true rfl⟩ rfl hl.1 rfl (Nat.le_of_ble_eq_true rfl) ⟨Nat.le_of_ble_eq_true rfl, Nat.le_of_ble_eq_true rfl⟩ [0] rfl rfl rfl (setB_same _ _ _ rfl) rfl (ci := 7) (q0 := 0) rfl rfl rfl dX7_bells_21 (fun H locs hP hD hS => ?_)
    refine lv_istore (lv' := [(6, .int g3), (0, .ref (a 0)), (1, .int p0), (2, .int p1), (3, .int p2), (4, .int x4_6), (5, .int x5_6)]) hx hb dX7_bells_24 hl (by decide) rfl (fun ls hl => ?_)
    refine lv_iload hx hb dX7_bells_26 (lv_at hl 5 rfl) ?_
    refine lv_iload_n hx hb dX7_bells_28 rfl (lv_at hl 3 rfl) ?_
    refine lv_iload hx hb dX7_bells_29 (lv_at hl 0 rfl) ?_
    refine lv_iconst (v := (-1)) hx hb dX7_bells_31 (by decide) ?_
    refine at_pc (pc' := 32) rfl ?_
    refine lv_ixor hx hb dX7_bells_32 ?_
    refine lv_iand hx hb dX7_bells_33 ?_
    refine lv_if_ne (tgt := 51) hx hb dX7_bells_34 (by decide) (fun c4 => ?_) (fun c4 => ?_)
    · have hf := (o_i hf).2 c4
      refine lv_iconst (v := 0) hx hb dX7_bells_51 (by decide) ?_
      refine lv_ior hx hb dX7_bells_52 ?_
      refine lv_istore (lv' := [(4, .int (x4_6 ||| 0)), (6, .int g3), (0, .ref (a 0)), (1, .int p0), (2, .int p1), (3, .int p2), (5, .int x5_6)]) hx hb dX7_bells_53 hl (by decide) rfl (fun ls hl => ?_)
      refine lv_iinc (v := x5_6 + 1) (lv' := [(5, .int (x5_6 + 1)), (4, .int (x4_6 ||| 0)), (6, .int g3), (0, .ref (a 0)), (1, .int p0), (2, .int p1), (3, .int p2)]) hx hb dX7_bells_55 hl (k := 6) rfl (congrArg (fun z => x5_6 + z) (by decide)) (by decide) rfl (fun ls hl => ?_)
      refine lv_goto (tgt := 6) hx hb dX7_bells_58 (by decide) ?_
      exact ih _ _ _ _ _ hP hD hS (lv_sub hl [3, 4, 5, 6, 1, 0] rfl) hf
    have hf := (o_i hf).1 c4
    refine lv_iload_n hx hb dX7_bells_37 rfl (lv_at hl 4 rfl) ?_
    refine lv_iload hx hb dX7_bells_38 (lv_at hl 0 rfl) ?_
    refine lv_iand hx hb dX7_bells_40 ?_
    refine lv_if_ne (tgt := 51) hx hb dX7_bells_41 (by decide) (fun c5 => ?_) (fun c5 => ?_)
    · have hf := (o_i hf).2 c5
      refine lv_iconst (v := 0) hx hb dX7_bells_51 (by decide) ?_
      refine lv_ior hx hb dX7_bells_52 ?_
      refine lv_istore (lv' := [(4, .int (x4_6 ||| 0)), (6, .int g3), (0, .ref (a 0)), (1, .int p0), (2, .int p1), (3, .int p2), (5, .int x5_6)]) hx hb dX7_bells_53 hl (by decide) rfl (fun ls hl => ?_)
      refine lv_iinc (v := x5_6 + 1) (lv' := [(5, .int (x5_6 + 1)), (4, .int (x4_6 ||| 0)), (6, .int g3), (0, .ref (a 0)), (1, .int p0), (2, .int p1), (3, .int p2)]) hx hb dX7_bells_55 hl (k := 6) rfl (congrArg (fun z => x5_6 + z) (by decide)) (by decide) rfl (fun ls hl => ?_)
      refine lv_goto (tgt := 6) hx hb dX7_bells_58 (by decide) ?_
      exact ih _ _ _ _ _ hP hD hS (lv_sub hl [3, 4, 5, 6, 1, 0] rfl) hf
    have hf := (o_i hf).1 c5
    refine lv_iconst (v := 1) hx hb dX7_bells_44 (by decide) ?_
    refine lv_iload hx hb dX7_bells_45 (lv_at hl 6 rfl) ?_
    refine lv_ishl hx hb dX7_bells_47 ?_
    refine lv_goto (tgt := 52) hx hb dX7_bells_48 (by decide) ?_
    refine lv_ior hx hb dX7_bells_52 ?_
    refine lv_istore (lv' := [(4, .int (x4_6 ||| (1 <<< (x5_6 &&& 31)))), (6, .int g3), (0, .ref (a 0)), (1, .int p0), (2, .int p1), (3, .int p2), (5, .int x5_6)]) hx hb dX7_bells_53 hl (by decide) rfl (fun ls hl => ?_)
    refine lv_iinc (v := x5_6 + 1) (lv' := [(5, .int (x5_6 + 1)), (4, .int (x4_6 ||| (1 <<< (x5_6 &&& 31)))), (6, .int g3), (0, .ref (a 0)), (1, .int p0), (2, .int p1), (3, .int p2)]) hx hb dX7_bells_55 hl (k := 6) rfl (congrArg (fun z => x5_6 + z) (by decide)) (by decide) rfl (fun ls hl => ?_)
    refine lv_goto (tgt := 6) hx hb dX7_bells_58 (by decide) ?_
    exact ih _ _ _ _ _ hP hD hS (lv_sub hl [3, 4, 5, 6, 1, 0] rfl) hf
set_option maxHeartbeats 4000000 in
set_option maxRecDepth 100000 in
theorem tX7_bells (l : Launch) (G : GG) (a : Nat → Nat) (a_book : Nat → Int32) (a_spare : Nat → Int32) (a_images : Nat → Int32) (a_kept : Nat → Int32) (a_text : Nat → Int32) (a_length : Int32) (a_refused : Nat → Int32) (a_items : Nat → Int32) (a_many : Int32) (a_at : Int32) (a_sort : Int32) (a_start : Int32) (a_size : Int32) (a_due : Nat → Int32) (a_rung : Nat → Int32) (a_anywhere : Nat → Int32) (p0 : Int32) (p1 : Int32) (p2 : Int32) (out : Int32) (hf : fX7_bells a_book p0 p1 p2 = some out) : cMi l G yX7_bells wsX7_bells rmX7_bells [.ref (a 0), .int p0, .int p1, .int p2] (flat [wX7 G a a_book a_spare a_images a_kept a_text a_length a_refused a_items a_many a_at a_sort a_start a_size a_due a_rung a_anywhere]) out (flat [wX7 G a a_book a_spare a_images a_kept a_text a_length a_refused a_items a_many a_at a_sort a_start a_size a_due a_rung a_anywhere]) := by
  intro sz
  refine met_of (cc := cX7_bells) (nL := 7) (ret := (some .int)) (Qc := fun A9 => QI G A9 out (flat [wX7 G a a_book a_spare a_images a_kept a_text a_length a_refused a_items a_many a_at a_sort a_start a_size a_due a_rung a_anywhere])) (by decide) rfl (Nat.le_of_ble_eq_true rfl) ?_
  intro p e s m args below meth c A ls C hP hD hS hl
  obtain ⟨⟨hx, hb, hml, hown, hts⟩, hr, hlocks, hK, hN, hE, hA⟩ := id C
  have hl : lv_has ls 7 [(0, .ref (a 0)), (1, .int p0), (2, .int p1), (3, .int p2)] := hl
  unfold fX7_bells at hf
  refine lv_iconst (v := 0) hx hb dX7_bells_0 (by decide) ?_
  refine lv_istore (lv' := [(4, .int 0), (0, .ref (a 0)), (1, .int p0), (2, .int p1), (3, .int p2)]) hx hb dX7_bells_1 hl (by decide) rfl (fun ls hl => ?_)
  refine lv_iconst (v := 0) hx hb dX7_bells_3 (by decide) ?_
  refine lv_istore (lv' := [(5, .int 0), (4, .int 0), (0, .ref (a 0)), (1, .int p0), (2, .int p1), (3, .int p2)]) hx hb dX7_bells_4 hl (by decide) rfl (fun ls hl => ?_)
  refine lX7_bells_6 l G C a a_book a_spare a_images a_kept a_text a_length a_refused a_items a_many a_at a_sort a_start a_size a_due a_rung a_anywhere p0 p1 p2 out _ (fun x4_6_6 x5_6_7 H locs ls hP hD hS hl hf => ?_) fu 0 0 _ _ _ hP hD hS (lv_sub hl [2, 3, 4, 5, 1, 0] rfl) hf
  refine lv_iload hx hb dX7_bells_61 (lv_at hl 4 rfl) ?_
  have e9 := Option.some.inj hf
  subst e9
  exact rt_i C hP hS rfl dX7_bells_63

/-! RX7 isHeard(III)Z -/
theorem hdX7_isHeard : yX7_isHeard.cls = RX7 ∧ yX7_isHeard.cls ≠ "java/lang/invoke/MethodHandle" ∧ yX7_isHeard.cls ≠ "java/lang/invoke/VarHandle" ∧ (parseMethodDescriptor yX7_isHeard.desc).map (fun d => d.parameters.length) = some 3 := by decide +kernel
abbrev rmX7_isHeard : Room := { frames := 2, cells := 0, slots := 0, locals := 43 }
set_option maxHeartbeats 4000000 in
set_option maxRecDepth 100000 in
theorem tX7_isHeard (l : Launch) (G : GG) (a : Nat → Nat) (a_book : Nat → Int32) (a_spare : Nat → Int32) (a_images : Nat → Int32) (a_kept : Nat → Int32) (a_text : Nat → Int32) (a_length : Int32) (a_refused : Nat → Int32) (a_items : Nat → Int32) (a_many : Int32) (a_at : Int32) (a_sort : Int32) (a_start : Int32) (a_size : Int32) (a_due : Nat → Int32) (a_rung : Nat → Int32) (a_anywhere : Nat → Int32) (p0 : Int32) (p1 : Int32) (p2 : Int32) (out : Int32) (hf : fX7_isHeard a_book p0 p1 p2 = some out) : cMi l G yX7_isHeard wsX7_isHeard rmX7_isHeard [.ref (a 0), .int p0, .int p1, .int p2] (flat [wX7 G a a_book a_spare a_images a_kept a_text a_length a_refused a_items a_many a_at a_sort a_start a_size a_due a_rung a_anywhere]) out (flat [wX7 G a a_book a_spare a_images a_kept a_text a_length a_refused a_items a_many a_at a_sort a_start a_size a_due a_rung a_anywhere]) := by
  intro sz
  refine met_of (cc := cX7_isHeard) (nL := 4) (ret := (some .boolean)) (Qc := fun A9 => QI G A9 out (flat [wX7 G a a_book a_spare a_images a_kept a_text a_length a_refused a_items a_many a_at a_sort a_start a_size a_due a_rung a_anywhere])) (by decide) rfl (Nat.le_of_ble_eq_true rfl) ?_
  intro p e s m args below meth c A ls C hP hD hS hl
  obtain ⟨⟨hx, hb, hml, hown, hts⟩, hr, hlocks, hK, hN, hE, hA⟩ := id C
  have hl : lv_has ls 4 [(0, .ref (a 0)), (1, .int p0), (2, .int p1), (3, .int p2)] := hl
  unfold fX7_isHeard at hf
  refine lv_iload_n hx hb dX7_isHeard_0 rfl (lv_at hl 1 rfl) ?_
  refine lv_iconst (v := 0) hx hb dX7_isHeard_1 (by decide) ?_
  refine lv_iconst (v := 3) hx hb dX7_isHeard_2 (by decide) ?_
  obtain ⟨g1, hg1, hf⟩ := o_b hf
  refine bSi C hP hD hS (tX7_in l G p0 0 3 g1 hg1) gX7_isHeard_X7_in rfl ⟨rfl, rfl⟩ hdX7_in ⟨Nat.le_of_ble_eq_true rfl, Nat.le_of_ble_eq_true rfl⟩ rfl hl.1 rfl (Nat.le_of_ble_eq_true rfl) ⟨Nat.le_of_ble_eq_true rfl, Nat.le_of_ble_eq_true rfl⟩ [] rfl rfl rfl (setB_same _ _ _ rfl) rfl dX7_isHeard_3 (fun H locs hP hD hS => ?_)
  refine lv_if_eq (tgt := 35) hx hb dX7_isHeard_6 (by decide) (fun c2 => ?_) (fun c2 => ?_)
  · have hf := (o_i hf).1 c2
    refine lv_iconst (v := 0) hx hb dX7_isHeard_35 (by decide) ?_
    have e9 := Option.some.inj hf
    subst e9
    exact rt_z C hP hS rfl rfl dX7_isHeard_36
  have hf := (o_i hf).2 c2
  refine lv_aload_n hx hb dX7_isHeard_9 rfl (lv_at hl 0 rfl) ?_
  refine lv_iload_n hx hb dX7_isHeard_10 rfl (lv_at hl 2 rfl) ?_
  obtain ⟨g3, hg3, hf⟩ := o_b hf
  refine bVi C hP hD hS (tX7_isSet l G a a_book a_spare a_images a_kept a_text a_length a_refused a_items a_many a_at a_sort a_start a_size a_due a_rung a_anywhere p1 g3 hg3) gX7_isHeard_X7_isSet rfl ⟨rfl, rfl⟩ hdX7_isSet ⟨Nat.le_of_ble_eq_true rfl, Nat.le_of_ble_eq_true rfl⟩ rfl hl.1 rfl (Nat.le_of_ble_eq_true rfl) ⟨Nat.le_of_ble_eq_true rfl, Nat.le_of_ble_eq_true rfl⟩ [0] rfl rfl rfl (setB_same _ _ _ rfl) rfl (ci := 7) (q0 := 0) rfl rfl rfl dX7_isHeard_11 (fun H locs hP hD hS => ?_)
  refine lv_if_eq (tgt := 35) hx hb dX7_isHeard_14 (by decide) (fun c4 => ?_) (fun c4 => ?_)
  · have hf := (o_i hf).1 c4
    refine lv_iconst (v := 0) hx hb dX7_isHeard_35 (by decide) ?_
    have e9 := Option.some.inj hf
    subst e9
    exact rt_z C hP hS rfl rfl dX7_isHeard_36
  have hf := (o_i hf).2 c4
  refine lv_aload_n hx hb dX7_isHeard_17 rfl (lv_at hl 0 rfl) ?_
  refine lv_iload_n hx hb dX7_isHeard_18 rfl (lv_at hl 3 rfl) ?_
  obtain ⟨g5, hg5, hf⟩ := o_b hf
  refine bVi C hP hD hS (tX7_isSet l G a a_book a_spare a_images a_kept a_text a_length a_refused a_items a_many a_at a_sort a_start a_size a_due a_rung a_anywhere p2 g5 hg5) gX7_isHeard_X7_isSet rfl ⟨rfl, rfl⟩ hdX7_isSet ⟨Nat.le_of_ble_eq_true rfl, Nat.le_of_ble_eq_true rfl⟩ rfl hl.1 rfl (Nat.le_of_ble_eq_true rfl) ⟨Nat.le_of_ble_eq_true rfl, Nat.le_of_ble_eq_true rfl⟩ [0] rfl rfl rfl (setB_same _ _ _ rfl) rfl (ci := 7) (q0 := 0) rfl rfl rfl dX7_isHeard_19 (fun H locs hP hD hS => ?_)
  refine lv_if_eq (tgt := 35) hx hb dX7_isHeard_22 (by decide) (fun c6 => ?_) (fun c6 => ?_)
  · have hf := (o_i hf).1 c6
    refine lv_iconst (v := 0) hx hb dX7_isHeard_35 (by decide) ?_
    have e9 := Option.some.inj hf
    subst e9
    exact rt_z C hP hS rfl rfl dX7_isHeard_36
  have hf := (o_i hf).2 c6
  refine lv_iload_n hx hb dX7_isHeard_25 rfl (lv_at hl 2 rfl) ?_
  refine lv_iload_n hx hb dX7_isHeard_26 rfl (lv_at hl 3 rfl) ?_
  refine lv_iand hx hb dX7_isHeard_27 ?_
  refine lv_if_ne (tgt := 35) hx hb dX7_isHeard_28 (by decide) (fun c7 => ?_) (fun c7 => ?_)
  · have hf := (o_i hf).2 c7
    refine lv_iconst (v := 0) hx hb dX7_isHeard_35 (by decide) ?_
    have e9 := Option.some.inj hf
    subst e9
    exact rt_z C hP hS rfl rfl dX7_isHeard_36
  have hf := (o_i hf).1 c7
  refine lv_iconst (v := 1) hx hb dX7_isHeard_31 (by decide) ?_
  refine lv_goto (tgt := 36) hx hb dX7_isHeard_32 (by decide) ?_
  have e9 := Option.some.inj hf
  subst e9
  exact rt_z C hP hS rfl rfl dX7_isHeard_36

/-! RX7 came(III)I -/
theorem hdX7_came : yX7_came.cls = RX7 ∧ yX7_came.cls ≠ "java/lang/invoke/MethodHandle" ∧ yX7_came.cls ≠ "java/lang/invoke/VarHandle" ∧ (parseMethodDescriptor yX7_came.desc).map (fun d => d.parameters.length) = some 3 := by decide +kernel
abbrev rmX7_came : Room := { frames := 3, cells := 0, slots := 0, locals := 73 }
set_option maxHeartbeats 4000000 in
set_option maxRecDepth 100000 in
theorem tX7_came (l : Launch) (G : GG) (a : Nat → Nat) (a_book : Nat → Int32) (a_spare : Nat → Int32) (a_images : Nat → Int32) (a_kept : Nat → Int32) (a_text : Nat → Int32) (a_length : Int32) (a_refused : Nat → Int32) (a_items : Nat → Int32) (a_many : Int32) (a_at : Int32) (a_sort : Int32) (a_start : Int32) (a_size : Int32) (a_due : Nat → Int32) (a_rung : Nat → Int32) (a_anywhere : Nat → Int32) (p0 : Int32) (p1 : Int32) (p2 : Int32) (out : Int32 × (Nat → Int32)) (hf : fX7_came a_book a_refused p0 p1 p2 = some out) : cMi l G yX7_came wsX7_came rmX7_came [.ref (a 0), .int p0, .int p1, .int p2] (flat [wX7 G a a_book a_spare a_images a_kept a_text a_length a_refused a_items a_many a_at a_sort a_start a_size a_due a_rung a_anywhere]) out.1 (flat [wX7 G a a_book a_spare a_images a_kept a_text a_length out.2 a_items a_many a_at a_sort a_start a_size a_due a_rung a_anywhere]) := by
  intro sz
  refine met_of (cc := cX7_came) (nL := 4) (ret := (some .int)) (Qc := fun A9 => QI G A9 out.1 (flat [wX7 G a a_book a_spare a_images a_kept a_text a_length out.2 a_items a_many a_at a_sort a_start a_size a_due a_rung a_anywhere])) (by decide) rfl (Nat.le_of_ble_eq_true rfl) ?_
  intro p e s m args below meth c A ls C hP hD hS hl
  obtain ⟨⟨hx, hb, hml, hown, hts⟩, hr, hlocks, hK, hN, hE, hA⟩ := id C
  have hl : lv_has ls 4 [(0, .ref (a 0)), (1, .int p0), (2, .int p1), (3, .int p2)] := hl
  unfold fX7_came at hf
  refine lv_aload_n hx hb dX7_came_0 rfl (lv_at hl 0 rfl) ?_
  refine lv_iload_n hx hb dX7_came_1 rfl (lv_at hl 1 rfl) ?_
  refine lv_iload_n hx hb dX7_came_2 rfl (lv_at hl 2 rfl) ?_
  refine lv_iload_n hx hb dX7_came_3 rfl (lv_at hl 3 rfl) ?_
  obtain ⟨g1, hg1, hf⟩ := o_b hf
  refine bVi C hP hD hS (tX7_isHeard l G a a_book a_spare a_images a_kept a_text a_length a_refused a_items a_many a_at a_sort a_start a_size a_due a_rung a_anywhere p0 p1 p2 g1 hg1) gX7_came_X7_isHeard rfl ⟨rfl, rfl⟩ hdX7_isHeard ⟨Nat.le_of_ble_eq_true rfl, Nat.le_of_ble_eq_true rfl⟩ rfl hl.1 rfl (Nat.le_of_ble_eq_true rfl) ⟨Nat.le_of_ble_eq_true rfl, Nat.le_of_ble_eq_true rfl⟩ [0] rfl rfl rfl (setB_same _ _ _ rfl) rfl (ci := 7) (q0 := 0) rfl rfl rfl dX7_came_4 (fun H locs hP hD hS => ?_)
  refine lv_if_eq (tgt := 20) hx hb dX7_came_7 (by decide) (fun c2 => ?_) (fun c2 => ?_)
  · have hf := (o_i hf).1 c2
    refine lv_aload_n hx hb dX7_came_20 rfl (lv_at hl 0 rfl) ?_
    obtain ⟨g3, hg3, hf⟩ := o_b hf
    refine bVi (Bs' := [wX7 G a a_book a_spare a_images a_kept a_text a_length g3.2 a_items a_many a_at a_sort a_start a_size a_due a_rung a_anywhere]) C hP hD hS (tX7_bad l G a a_book a_spare a_images a_kept a_text a_length a_refused a_items a_many a_at a_sort a_start a_size a_due a_rung a_anywhere g3 hg3) gX7_came_X7_bad rfl ⟨rfl, rfl⟩ hdX7_bad ⟨Nat.le_of_ble_eq_true rfl, Nat.le_of_ble_eq_true rfl⟩ rfl hl.1 rfl (Nat.le_of_ble_eq_true rfl) ⟨Nat.le_of_ble_eq_true rfl, Nat.le_of_ble_eq_true rfl⟩ [0] rfl rfl rfl rfl rfl (ci := 7) (q0 := 0) rfl rfl rfl dX7_came_21 (fun H locs hP hD hS => ?_)
    have hP : va_P G.1 vwCl (flat [wX7 G a a_book a_spare a_images a_kept a_text a_length g3.2 a_items a_many a_at a_sort a_start a_size a_due a_rung a_anywhere]) H := hP
    have hD : va_D A (flat [wX7 G a a_book a_spare a_images a_kept a_text a_length g3.2 a_items a_many a_at a_sort a_start a_size a_due a_rung a_anywhere]) := hD
    have e9 := Option.some.inj hf
    subst e9
    exact rt_i C hP hS rfl dX7_came_24
  have hf := (o_i hf).2 c2
  refine lv_aload_n hx hb dX7_came_10 rfl (lv_at hl 0 rfl) ?_
  refine lv_iload_n hx hb dX7_came_11 rfl (lv_at hl 1 rfl) ?_
  refine lv_iload_n hx hb dX7_came_12 rfl (lv_at hl 2 rfl) ?_
  refine lv_iload_n hx hb dX7_came_13 rfl (lv_at hl 3 rfl) ?_
  obtain ⟨g4, hg4, hf⟩ := o_b hf
  refine bVi C hP hD hS (tX7_bells l G a a_book a_spare a_images a_kept a_text a_length a_refused a_items a_many a_at a_sort a_start a_size a_due a_rung a_anywhere p0 p1 p2 g4 hg4) gX7_came_X7_bells rfl ⟨rfl, rfl⟩ hdX7_bells ⟨Nat.le_of_ble_eq_true rfl, Nat.le_of_ble_eq_true rfl⟩ rfl hl.1 rfl (Nat.le_of_ble_eq_true rfl) ⟨Nat.le_of_ble_eq_true rfl, Nat.le_of_ble_eq_true rfl⟩ [0] rfl rfl rfl (setB_same _ _ _ rfl) rfl (ci := 7) (q0 := 0) rfl rfl rfl dX7_came_14 (fun H locs hP hD hS => ?_)
  refine lv_goto (tgt := 24) hx hb dX7_came_17 (by decide) ?_
  have e9 := Option.some.inj hf
  subst e9
  exact rt_i C hP hS rfl dX7_came_24

/-! RX7 ask(III)I -/
theorem iiX7_ask_X7 : ∀ w ∈ wsX70, w ∈ wsX7_ask := by decide +kernel
theorem mmX7_ask_1 : (Cond.fieldLink RX7 7 "BlindBellsModel" "book" "[I") ∈ wsX7_ask := by decide +kernel
theorem hdX7_ask : yX7_ask.cls = RX7 ∧ yX7_ask.cls ≠ "java/lang/invoke/MethodHandle" ∧ yX7_ask.cls ≠ "java/lang/invoke/VarHandle" ∧ (parseMethodDescriptor yX7_ask.desc).map (fun d => d.parameters.length) = some 3 := by decide +kernel
abbrev rmX7_ask : Room := { frames := 3, cells := 0, slots := 0, locals := 73 }
set_option maxHeartbeats 4000000 in
set_option maxRecDepth 100000 in
theorem lX7_ask_24 {p : Program} {e : Env} {s : State} {m : MethodId} {args : Array Value} {below : List Frame} {meth : Method} {c : Code} {A : Nat → Prop} (l : Launch) (G : GG) (C : Cx p m c cX7_ask 11 s args wsX7_ask RX7 meth (some .int) G A) (a : Nat → Nat) (a_book : Nat → Int32) (a_spare : Nat → Int32) (a_images : Nat → Int32) (a_kept : Nat → Int32) (a_text : Nat → Int32) (a_length : Int32) (a_refused : Nat → Int32) (a_items : Nat → Int32) (a_many : Int32) (a_at : Int32) (a_sort : Int32) (a_start : Int32) (a_size : Int32) (a_due : Nat → Int32) (a_rung : Nat → Int32) (a_anywhere : Nat → Int32) (p0 : Int32) (p1 : Int32) (p2 : Int32) (out : Int32 × (Nat → Int32)) (kx : Int32 → Int32 → Int32 → Option (Int32 × (Nat → Int32))) (HX : ∀ (x4_24 : Int32) (x5_24 : Int32) (x6_24 : Int32) (H : Heap) (locs : List Loc) (ls : Array Slot), va_P G.1 vwCl (flat [wX7 G a a_book a_spare a_images a_kept a_text a_length a_refused a_items a_many a_at a_sort a_start a_size a_due a_rung a_anywhere]) H → va_D A (flat [wX7 G a a_book a_spare a_images a_kept a_text a_length a_refused a_items a_many a_at a_sort a_start a_size a_due a_rung a_anywhere]) → va_S A s.heap H locs → lv_has ls 11 [(0, .ref (a 0)), (1, .int p0), (2, .int p1), (3, .int p2), (4, .int x4_24), (5, .int x5_24), (6, .int x6_24)] → kx x4_24 x5_24 x6_24 = some out → W p l e rmX7_ask s m args below meth c H locs 0 0 (MQ below (QI G A out.1 (flat [wX7 G a a_book a_spare a_images a_kept a_text a_length out.2 a_items a_many a_at a_sort a_start a_size a_due a_rung a_anywhere])) args s 0 0 A) (F0 m 144 ls [])) : ∀ (n : Nat) (x4_24 : Int32) (x5_24 : Int32) (x6_24 : Int32) (H : Heap) (locs : List Loc) (ls : Array Slot), va_P G.1 vwCl (flat [wX7 G a a_book a_spare a_images a_kept a_text a_length a_refused a_items a_many a_at a_sort a_start a_size a_due a_rung a_anywhere]) H → va_D A (flat [wX7 G a a_book a_spare a_images a_kept a_text a_length a_refused a_items a_many a_at a_sort a_start a_size a_due a_rung a_anywhere]) → va_S A s.heap H locs → lv_has ls 11 [(0, .ref (a 0)), (1, .int p0), (2, .int p1), (3, .int p2), (4, .int x4_24), (5, .int x5_24), (6, .int x6_24)] → fX7_ask_24 p0 p1 p2 a_book kx n x4_24 x5_24 x6_24 = some out → W p l e rmX7_ask s m args below meth c H locs 0 0 (MQ below (QI G A out.1 (flat [wX7 G a a_book a_spare a_images a_kept a_text a_length out.2 a_items a_many a_at a_sort a_start a_size a_due a_rung a_anywhere])) args s 0 0 A) (F0 m 24 ls []) := by
  obtain ⟨⟨hx, hb, hml, hown, hts⟩, hr, hlocks, hK, hN, hE, hA⟩ := id C
  intro n
  induction n with
  | zero =>
    intro x4_24 x5_24 x6_24 H locs ls hP hD hS hl hf
    exact absurd (show (none : Option (Int32 × (Nat → Int32))) = some out from hf) (by intro q9; cases q9)
  | succ n ih =>
    intro x4_24 x5_24 x6_24 H locs ls hP hD hS hl hf
    rw [fX7_ask_24] at hf
    refine lv_iload hx hb dX7_ask_24 (lv_at hl 6 rfl) ?_
    refine lv_aload_n hx hb dX7_ask_26 rfl (lv_at hl 0 rfl) ?_
    refine va_get (D := G.1) (ci := 7) (v := .ref (a 1)) (C := RX7) (T := TX7) (N := 16) hx hb hts iiX7_ask_X7 hown hK hP 0 rfl rfl 0 (by decide) (hts _ mmX7_ask_1) (fun _ h9 => h9) rfl dX7_ask_27 ?_
    refine lv_iconst (v := 0) hx hb dX7_ask_30 (by decide) ?_
    obtain ⟨z3, hz3, hf⟩ := o_b hf
    refine k_iald hx hb hK hP 1 0 rfl rfl hz3 dX7_ask_31 ?_
    refine lv_icmp_ge (tgt := 144) hx hb dX7_ask_32 (by decide) (fun c4 => ?_) (fun c4 => ?_)
    · have hf := (o_i hf).1 c4
      exact HX _ _ _ _ _ _ hP hD hS (lv_sub hl [0, 1, 2, 3, 4, 5, 6] rfl) hf
    have hf := (o_i hf).2 c4
    refine lv_aload_n hx hb dX7_ask_35 rfl (lv_at hl 0 rfl) ?_
    refine lv_iload_n hx hb dX7_ask_36 rfl (lv_at hl 1 rfl) ?_
    refine lv_iload_n hx hb dX7_ask_37 rfl (lv_at hl 2 rfl) ?_
    refine lv_iconst (v := 1) hx hb dX7_ask_38 (by decide) ?_
    refine lv_iload hx hb dX7_ask_39 (lv_at hl 6 rfl) ?_
    refine lv_ishl hx hb dX7_ask_41 ?_
    refine lv_ior hx hb dX7_ask_42 ?_
    refine lv_iload_n hx hb dX7_ask_43 rfl (lv_at hl 3 rfl) ?_
    obtain ⟨g5, hg5, hf⟩ := o_b hf
    refine bVi C hP hD hS (tX7_bells l G a a_book a_spare a_images a_kept a_text a_length a_refused a_items a_many a_at a_sort a_start a_size a_due a_rung a_anywhere p0 (p1 ||| (1 <<< (x6_24 &&& 31))) p2 g5 hg5) gX7_ask_X7_bells rfl ⟨rfl, rfl⟩ hdX7_bells ⟨Nat.le_of_ble_eq_true rfl, Nat.le_of_ble_eq_true rfl⟩ rfl hl.1 rfl (Nat.le_of_ble_eq_true rfl) ⟨Nat.le_of_ble_eq_true rfl, Nat.le_of_ble_eq_true rfl⟩ [0] rfl rfl rfl (setB_same _ _ _ rfl) rfl (ci := 7) (q0 := 0) rfl rfl rfl dX7_ask_44 (fun H locs hP hD hS => ?_)
    refine at_pc (pc' := 47) rfl ?_
    obtain ⟨g6, hg6, hf⟩ := o_b hf
    refine bSi C hP hD hS (tX7_ones l G g5 g6 hg6) gX7_ask_X7_ones rfl ⟨rfl, rfl⟩ hdX7_ones ⟨Nat.le_of_ble_eq_true rfl, Nat.le_of_ble_eq_true rfl⟩ rfl hl.1 rfl (Nat.le_of_ble_eq_true rfl) ⟨Nat.le_of_ble_eq_true rfl, Nat.le_of_ble_eq_true rfl⟩ [] rfl rfl rfl (setB_same _ _ _ rfl) rfl dX7_ask_47 (fun H locs hP hD hS => ?_)
    refine lv_istore (lv' := [(7, .int g6), (0, .ref (a 0)), (1, .int p0), (2, .int p1), (3, .int p2), (4, .int x4_24), (5, .int x5_24), (6, .int x6_24)]) hx hb dX7_ask_50 hl (by decide) rfl (fun ls hl => ?_)
    refine lv_aload_n hx hb dX7_ask_52 rfl (lv_at hl 1 rfl) ?_
    refine lv_iload_n hx hb dX7_ask_53 rfl (lv_at hl 2 rfl) ?_
    refine lv_iload_n hx hb dX7_ask_54 rfl (lv_at hl 3 rfl) ?_
    refine lv_iload_n hx hb dX7_ask_55 rfl (lv_at hl 4 rfl) ?_
    refine lv_iconst (v := 1) hx hb dX7_ask_56 (by decide) ?_
    refine lv_iload hx hb dX7_ask_57 (lv_at hl 7 rfl) ?_
    refine lv_ishl hx hb dX7_ask_59 ?_
    refine lv_ior hx hb dX7_ask_60 ?_
    refine at_pc (pc' := 61) rfl ?_
    obtain ⟨g7, hg7, hf⟩ := o_b hf
    refine bVi C hP hD hS (tX7_bells l G a a_book a_spare a_images a_kept a_text a_length a_refused a_items a_many a_at a_sort a_start a_size a_due a_rung a_anywhere p0 p1 (p2 ||| (1 <<< (x6_24 &&& 31))) g7 hg7) gX7_ask_X7_bells rfl ⟨rfl, rfl⟩ hdX7_bells ⟨Nat.le_of_ble_eq_true rfl, Nat.le_of_ble_eq_true rfl⟩ rfl hl.1 rfl (Nat.le_of_ble_eq_true rfl) ⟨Nat.le_of_ble_eq_true rfl, Nat.le_of_ble_eq_true rfl⟩ [0] rfl rfl rfl (setB_same _ _ _ rfl) rfl (ci := 7) (q0 := 0) rfl rfl rfl dX7_ask_61 (fun H locs hP hD hS => ?_)
    obtain ⟨g8, hg8, hf⟩ := o_b hf
    refine bSi C hP hD hS (tX7_ones l G g7 g8 hg8) gX7_ask_X7_ones rfl ⟨rfl, rfl⟩ hdX7_ones ⟨Nat.le_of_ble_eq_true rfl, Nat.le_of_ble_eq_true rfl⟩ rfl hl.1 rfl (Nat.le_of_ble_eq_true rfl) ⟨Nat.le_of_ble_eq_true rfl, Nat.le_of_ble_eq_true rfl⟩ [] rfl rfl rfl (setB_same _ _ _ rfl) rfl dX7_ask_64 (fun H locs hP hD hS => ?_)
    refine lv_istore (lv' := [(8, .int g8), (7, .int g6), (0, .ref (a 0)), (1, .int p0), (2, .int p1), (3, .int p2), (4, .int x4_24), (5, .int x5_24), (6, .int x6_24)]) hx hb dX7_ask_67 hl (by decide) rfl (fun ls hl => ?_)
    refine lv_iload hx hb dX7_ask_69 (lv_at hl 1 rfl) ?_
    refine lv_iload hx hb dX7_ask_71 (lv_at hl 0 rfl) ?_
    obtain ⟨f10, hf10, hf⟩ := o_b hf
    have hJ : ∀ (H : Heap) (locs : List Loc) (ls : Array Slot), va_P G.1 vwCl (flat [wX7 G a a_book a_spare a_images a_kept a_text a_length a_refused a_items a_many a_at a_sort a_start a_size a_due a_rung a_anywhere]) H → va_D A (flat [wX7 G a a_book a_spare a_images a_kept a_text a_length a_refused a_items a_many a_at a_sort a_start a_size a_due a_rung a_anywhere]) → va_S A s.heap H locs → lv_has ls 11 [(0, .ref (a 0)), (1, .int p0), (2, .int p1), (3, .int p2), (4, .int x4_24), (5, .int x5_24), (6, .int x6_24), (7, .int g6), (8, .int g8)] → W p l e rmX7_ask s m args below meth c H locs 0 0 (MQ below (QI G A out.1 (flat [wX7 G a a_book a_spare a_images a_kept a_text a_length out.2 a_items a_many a_at a_sort a_start a_size a_due a_rung a_anywhere])) args s 0 0 A) (F0 m 83 ls [.int f10]) := by
      intro H locs ls hP hD hS hl
      refine lv_istore (lv' := [(9, .int f10), (0, .ref (a 0)), (1, .int p0), (2, .int p1), (3, .int p2), (4, .int x4_24), (5, .int x5_24), (6, .int x6_24), (7, .int g6), (8, .int g8)]) hx hb dX7_ask_83 hl (by decide) rfl (fun ls hl => ?_)
      refine lv_iload_n hx hb dX7_ask_85 rfl (lv_at hl 3 rfl) ?_
      refine lv_iload_n hx hb dX7_ask_86 rfl (lv_at hl 4 rfl) ?_
      refine lv_ior hx hb dX7_ask_87 ?_
      refine lv_iload hx hb dX7_ask_88 (lv_at hl 7 rfl) ?_
      refine lv_ishr hx hb dX7_ask_90 ?_
      refine lv_iconst (v := 1) hx hb dX7_ask_91 (by decide) ?_
      refine lv_iand hx hb dX7_ask_92 ?_
      obtain ⟨f12, hf12, hf⟩ := o_b hf
      have hJ : ∀ (H : Heap) (locs : List Loc) (ls : Array Slot), va_P G.1 vwCl (flat [wX7 G a a_book a_spare a_images a_kept a_text a_length a_refused a_items a_many a_at a_sort a_start a_size a_due a_rung a_anywhere]) H → va_D A (flat [wX7 G a a_book a_spare a_images a_kept a_text a_length a_refused a_items a_many a_at a_sort a_start a_size a_due a_rung a_anywhere]) → va_S A s.heap H locs → lv_has ls 11 [(0, .ref (a 0)), (1, .int p0), (2, .int p1), (3, .int p2), (4, .int x4_24), (5, .int x5_24), (6, .int x6_24), (7, .int g6), (8, .int g8), (9, .int f10)] → W p l e rmX7_ask s m args below meth c H locs 0 0 (MQ below (QI G A out.1 (flat [wX7 G a a_book a_spare a_images a_kept a_text a_length out.2 a_items a_many a_at a_sort a_start a_size a_due a_rung a_anywhere])) args s 0 0 A) (F0 m 108 ls [.int f12]) := by
        intro H locs ls hP hD hS hl
        refine lv_istore (lv' := [(10, .int f12), (0, .ref (a 0)), (1, .int p0), (2, .int p1), (3, .int p2), (4, .int x4_24), (5, .int x5_24), (6, .int x6_24), (7, .int g6), (8, .int g8), (9, .int f10)]) hx hb dX7_ask_108 hl (by decide) rfl (fun ls hl => ?_)
        refine lv_iload hx hb dX7_ask_110 (lv_at hl 0 rfl) ?_
        obtain ⟨f15, hf15, hf⟩ := o_b hf
        have hJ : ∀ (H : Heap) (locs : List Loc) (ls : Array Slot), va_P G.1 vwCl (flat [wX7 G a a_book a_spare a_images a_kept a_text a_length a_refused a_items a_many a_at a_sort a_start a_size a_due a_rung a_anywhere]) H → va_D A (flat [wX7 G a a_book a_spare a_images a_kept a_text a_length a_refused a_items a_many a_at a_sort a_start a_size a_due a_rung a_anywhere]) → va_S A s.heap H locs → lv_has ls 11 [(0, .ref (a 0)), (1, .int p0), (2, .int p1), (3, .int p2), (4, .int x4_24), (5, .int x5_24), (6, .int x6_24), (7, .int g6), (8, .int g8), (9, .int f10), (10, .int f12)] → W p l e rmX7_ask s m args below meth c H locs 0 0 (MQ below (QI G A out.1 (flat [wX7 G a a_book a_spare a_images a_kept a_text a_length out.2 a_items a_many a_at a_sort a_start a_size a_due a_rung a_anywhere])) args s 0 0 A) (F0 m 122 ls [.int f15]) := by
          intro H locs ls hP hD hS hl
          refine lv_istore (lv' := [(5, .int f15), (0, .ref (a 0)), (1, .int p0), (2, .int p1), (3, .int p2), (4, .int x4_24), (6, .int x6_24), (7, .int g6), (8, .int g8), (9, .int f10), (10, .int f12)]) hx hb dX7_ask_122 hl (by decide) rfl (fun ls hl => ?_)
          refine lv_iload hx hb dX7_ask_124 (lv_at hl 10 rfl) ?_
          refine lv_if_eq (tgt := 134) hx hb dX7_ask_126 (by decide) (fun c16 => ?_) (fun c16 => ?_)
          · have hf := (o_i hf).1 c16
            refine lv_iload hx hb dX7_ask_134 (lv_at hl 5 rfl) ?_
            refine lv_istore (lv' := [(4, .int x4_24), (5, .int f15), (0, .ref (a 0)), (1, .int p0), (2, .int p1), (3, .int p2), (6, .int x6_24), (7, .int g6), (8, .int g8), (9, .int f10), (10, .int f12)]) hx hb dX7_ask_136 hl (by decide) rfl (fun ls hl => ?_)
            refine lv_iinc (v := x6_24 + 1) (lv' := [(6, .int (x6_24 + 1)), (4, .int x4_24), (5, .int f15), (0, .ref (a 0)), (1, .int p0), (2, .int p1), (3, .int p2), (7, .int g6), (8, .int g8), (9, .int f10), (10, .int f12)]) hx hb dX7_ask_138 hl (k := 6) rfl (congrArg (fun z => x6_24 + z) (by decide)) (by decide) rfl (fun ls hl => ?_)
            refine lv_goto (tgt := 24) hx hb dX7_ask_141 (by decide) ?_
            exact ih _ _ _ _ _ _ hP hD hS (lv_sub hl [3, 4, 5, 6, 1, 2, 0] rfl) hf
          have hf := (o_i hf).2 c16
          refine lv_iload hx hb dX7_ask_129 (lv_at hl 9 rfl) ?_
          refine lv_goto (tgt := 136) hx hb dX7_ask_131 (by decide) ?_
          refine lv_istore (lv' := [(4, .int f10), (5, .int f15), (0, .ref (a 0)), (1, .int p0), (2, .int p1), (3, .int p2), (6, .int x6_24), (7, .int g6), (8, .int g8), (9, .int f10), (10, .int f12)]) hx hb dX7_ask_136 hl (by decide) rfl (fun ls hl => ?_)
          refine lv_iinc (v := x6_24 + 1) (lv' := [(6, .int (x6_24 + 1)), (4, .int f10), (5, .int f15), (0, .ref (a 0)), (1, .int p0), (2, .int p1), (3, .int p2), (7, .int g6), (8, .int g8), (9, .int f10), (10, .int f12)]) hx hb dX7_ask_138 hl (k := 6) rfl (congrArg (fun z => x6_24 + z) (by decide)) (by decide) rfl (fun ls hl => ?_)
          refine lv_goto (tgt := 24) hx hb dX7_ask_141 (by decide) ?_
          exact ih _ _ _ _ _ _ hP hD hS (lv_sub hl [3, 4, 5, 6, 1, 2, 0] rfl) hf
        clear hf
        have hf := hf15
        refine lv_if_eq (tgt := 120) hx hb dX7_ask_112 (by decide) (fun c14 => ?_) (fun c14 => ?_)
        · have hf := (o_i hf).1 c14
          refine lv_iload hx hb dX7_ask_120 (lv_at hl 6 rfl) ?_
          have e9 := Option.some.inj hf
          subst e9
          exact hJ _ _ _ hP hD hS (lv_sub hl [1, 2, 3, 4, 5, 6, 7, 8, 9, 10, 0] rfl)
        have hf := (o_i hf).2 c14
        refine lv_iload hx hb dX7_ask_115 (lv_at hl 7 rfl) ?_
        refine lv_goto (tgt := 122) hx hb dX7_ask_117 (by decide) ?_
        have e9 := Option.some.inj hf
        subst e9
        exact hJ _ _ _ hP hD hS (lv_sub hl [1, 2, 3, 4, 5, 6, 7, 8, 9, 10, 0] rfl)
      clear hf
      have hf := hf12
      refine lv_if_ne (tgt := 107) hx hb dX7_ask_93 (by decide) (fun c11 => ?_) (fun c11 => ?_)
      · have hf := (o_i hf).2 c11
        refine lv_iconst (v := 0) hx hb dX7_ask_107 (by decide) ?_
        have e9 := Option.some.inj hf
        subst e9
        exact hJ _ _ _ hP hD hS (lv_sub hl [1, 2, 3, 4, 5, 6, 7, 8, 9, 0] rfl)
      have hf := (o_i hf).1 c11
      refine lv_iload hx hb dX7_ask_96 (lv_at hl 0 rfl) ?_
      refine lv_iload hx hb dX7_ask_98 (lv_at hl 5 rfl) ?_
      refine lv_icmp_le (tgt := 107) hx hb dX7_ask_100 (by decide) (fun c13 => ?_) (fun c13 => ?_)
      · have hf := (o_i hf).1 c13
        refine lv_iconst (v := 0) hx hb dX7_ask_107 (by decide) ?_
        have e9 := Option.some.inj hf
        subst e9
        exact hJ _ _ _ hP hD hS (lv_sub hl [1, 2, 3, 4, 5, 6, 7, 8, 9, 0] rfl)
      have hf := (o_i hf).2 c13
      refine lv_iconst (v := 1) hx hb dX7_ask_103 (by decide) ?_
      refine lv_goto (tgt := 108) hx hb dX7_ask_104 (by decide) ?_
      have e9 := Option.some.inj hf
      subst e9
      exact hJ _ _ _ hP hD hS (lv_sub hl [1, 2, 3, 4, 5, 6, 7, 8, 9, 0] rfl)
    clear hf
    have hf := hf10
    refine lv_icmp_ge (tgt := 81) hx hb dX7_ask_73 (by decide) (fun c9 => ?_) (fun c9 => ?_)
    · have hf := (o_i hf).1 c9
      refine lv_iload hx hb dX7_ask_81 (lv_at hl 0 rfl) ?_
      have e9 := Option.some.inj hf
      subst e9
      exact hJ _ _ _ hP hD hS (lv_sub hl [2, 3, 4, 5, 6, 7, 8, 1, 0] rfl)
    have hf := (o_i hf).2 c9
    refine lv_iload hx hb dX7_ask_76 (lv_at hl 1 rfl) ?_
    refine lv_goto (tgt := 83) hx hb dX7_ask_78 (by decide) ?_
    have e9 := Option.some.inj hf
    subst e9
    exact hJ _ _ _ hP hD hS (lv_sub hl [2, 3, 4, 5, 6, 7, 8, 1, 0] rfl)
set_option maxHeartbeats 4000000 in
set_option maxRecDepth 100000 in
theorem tX7_ask (l : Launch) (G : GG) (a : Nat → Nat) (a_book : Nat → Int32) (a_spare : Nat → Int32) (a_images : Nat → Int32) (a_kept : Nat → Int32) (a_text : Nat → Int32) (a_length : Int32) (a_refused : Nat → Int32) (a_items : Nat → Int32) (a_many : Int32) (a_at : Int32) (a_sort : Int32) (a_start : Int32) (a_size : Int32) (a_due : Nat → Int32) (a_rung : Nat → Int32) (a_anywhere : Nat → Int32) (p0 : Int32) (p1 : Int32) (p2 : Int32) (out : Int32 × (Nat → Int32)) (hf : fX7_ask a_book a_refused p0 p1 p2 = some out) : cMi l G yX7_ask wsX7_ask rmX7_ask [.ref (a 0), .int p0, .int p1, .int p2] (flat [wX7 G a a_book a_spare a_images a_kept a_text a_length a_refused a_items a_many a_at a_sort a_start a_size a_due a_rung a_anywhere]) out.1 (flat [wX7 G a a_book a_spare a_images a_kept a_text a_length out.2 a_items a_many a_at a_sort a_start a_size a_due a_rung a_anywhere]) := by
  intro sz
  refine met_of (cc := cX7_ask) (nL := 11) (ret := (some .int)) (Qc := fun A9 => QI G A9 out.1 (flat [wX7 G a a_book a_spare a_images a_kept a_text a_length out.2 a_items a_many a_at a_sort a_start a_size a_due a_rung a_anywhere])) (by decide) rfl (Nat.le_of_ble_eq_true rfl) ?_
  intro p e s m args below meth c A ls C hP hD hS hl
  obtain ⟨⟨hx, hb, hml, hown, hts⟩, hr, hlocks, hK, hN, hE, hA⟩ := id C
  have hl : lv_has ls 11 [(0, .ref (a 0)), (1, .int p0), (2, .int p1), (3, .int p2)] := hl
  unfold fX7_ask at hf
  refine lv_aload_n hx hb dX7_ask_0 rfl (lv_at hl 0 rfl) ?_
  refine lv_iload_n hx hb dX7_ask_1 rfl (lv_at hl 1 rfl) ?_
  refine lv_iload_n hx hb dX7_ask_2 rfl (lv_at hl 2 rfl) ?_
  refine lv_iload_n hx hb dX7_ask_3 rfl (lv_at hl 3 rfl) ?_
  obtain ⟨g1, hg1, hf⟩ := o_b hf
  refine bVi C hP hD hS (tX7_isHeard l G a a_book a_spare a_images a_kept a_text a_length a_refused a_items a_many a_at a_sort a_start a_size a_due a_rung a_anywhere p0 p1 p2 g1 hg1) gX7_ask_X7_isHeard rfl ⟨rfl, rfl⟩ hdX7_isHeard ⟨Nat.le_of_ble_eq_true rfl, Nat.le_of_ble_eq_true rfl⟩ rfl hl.1 rfl (Nat.le_of_ble_eq_true rfl) ⟨Nat.le_of_ble_eq_true rfl, Nat.le_of_ble_eq_true rfl⟩ [0] rfl rfl rfl (setB_same _ _ _ rfl) rfl (ci := 7) (q0 := 0) rfl rfl rfl dX7_ask_4 (fun H locs hP hD hS => ?_)
  refine lv_if_ne (tgt := 15) hx hb dX7_ask_7 (by decide) (fun c2 => ?_) (fun c2 => ?_)
  · have hf := (o_i hf).2 c2
    refine lv_iconst (v := 0) hx hb dX7_ask_15 (by decide) ?_
    refine lv_istore (lv' := [(4, .int 0), (0, .ref (a 0)), (1, .int p0), (2, .int p1), (3, .int p2)]) hx hb dX7_ask_16 hl (by decide) rfl (fun ls hl => ?_)
    refine lv_iconst (v := (-1)) hx hb dX7_ask_18 (by decide) ?_
    refine lv_istore (lv' := [(5, .int ((-1))), (4, .int 0), (0, .ref (a 0)), (1, .int p0), (2, .int p1), (3, .int p2)]) hx hb dX7_ask_19 hl (by decide) rfl (fun ls hl => ?_)
    refine lv_iconst (v := 0) hx hb dX7_ask_21 (by decide) ?_
    refine lv_istore (lv' := [(6, .int 0), (5, .int ((-1))), (4, .int 0), (0, .ref (a 0)), (1, .int p0), (2, .int p1), (3, .int p2)]) hx hb dX7_ask_22 hl (by decide) rfl (fun ls hl => ?_)
    refine lX7_ask_24 l G C a a_book a_spare a_images a_kept a_text a_length a_refused a_items a_many a_at a_sort a_start a_size a_due a_rung a_anywhere p0 p1 p2 out _ (fun x4_24_17 x5_24_18 x6_24_19 H locs ls hP hD hS hl hf => ?_) fu 0 ((-1)) 0 _ _ _ hP hD hS (lv_sub hl [3, 4, 5, 6, 2, 1, 0] rfl) hf
    refine lv_iload hx hb dX7_ask_144 (lv_at hl 5 rfl) ?_
    have e9 := Option.some.inj hf
    subst e9
    exact rt_i C hP hS rfl dX7_ask_146
  have hf := (o_i hf).1 c2
  refine lv_aload_n hx hb dX7_ask_10 rfl (lv_at hl 0 rfl) ?_
  obtain ⟨g20, hg20, hf⟩ := o_b hf
  refine bVi (Bs' := [wX7 G a a_book a_spare a_images a_kept a_text a_length g20.2 a_items a_many a_at a_sort a_start a_size a_due a_rung a_anywhere]) C hP hD hS (tX7_bad l G a a_book a_spare a_images a_kept a_text a_length a_refused a_items a_many a_at a_sort a_start a_size a_due a_rung a_anywhere g20 hg20) gX7_ask_X7_bad rfl ⟨rfl, rfl⟩ hdX7_bad ⟨Nat.le_of_ble_eq_true rfl, Nat.le_of_ble_eq_true rfl⟩ rfl hl.1 rfl (Nat.le_of_ble_eq_true rfl) ⟨Nat.le_of_ble_eq_true rfl, Nat.le_of_ble_eq_true rfl⟩ [0] rfl rfl rfl rfl rfl (ci := 7) (q0 := 0) rfl rfl rfl dX7_ask_11 (fun H locs hP hD hS => ?_)
  have hP : va_P G.1 vwCl (flat [wX7 G a a_book a_spare a_images a_kept a_text a_length g20.2 a_items a_many a_at a_sort a_start a_size a_due a_rung a_anywhere]) H := hP
  have hD : va_D A (flat [wX7 G a a_book a_spare a_images a_kept a_text a_length g20.2 a_items a_many a_at a_sort a_start a_size a_due a_rung a_anywhere]) := hD
  have e9 := Option.some.inj hf
  subst e9
  exact rt_i C hP hS rfl dX7_ask_14

/-! RX7 image(I)I -/
theorem iiX7_image_X7 : ∀ w ∈ wsX70, w ∈ wsX7_image := by decide +kernel
theorem mmX7_image_1 : (Cond.fieldLink RX7 16 "BlindBellsModel" "images" "[I") ∈ wsX7_image := by decide +kernel
theorem mmX7_image_2 : (Cond.fieldLink RX7 7 "BlindBellsModel" "book" "[I") ∈ wsX7_image := by decide +kernel
theorem mmX7_image_3 : (Cond.fieldLink RX7 19 "BlindBellsModel" "kept" "[Z") ∈ wsX7_image := by decide +kernel
theorem hdX7_image : yX7_image.cls = RX7 ∧ yX7_image.cls ≠ "java/lang/invoke/MethodHandle" ∧ yX7_image.cls ≠ "java/lang/invoke/VarHandle" ∧ (parseMethodDescriptor yX7_image.desc).map (fun d => d.parameters.length) = some 1 := by decide +kernel
abbrev rmX7_image : Room := { frames := 2, cells := 0, slots := 0, locals := 42 }
set_option maxHeartbeats 4000000 in
set_option maxRecDepth 100000 in
theorem lX7_image_16 {p : Program} {e : Env} {s : State} {m : MethodId} {args : Array Value} {below : List Frame} {meth : Method} {c : Code} {A : Nat → Prop} (l : Launch) (G : GG) (C : Cx p m c cX7_image 3 s args wsX7_image RX7 meth (some .int) G A) (a : Nat → Nat) (a_book : Nat → Int32) (a_spare : Nat → Int32) (a_images : Nat → Int32) (a_kept : Nat → Int32) (a_text : Nat → Int32) (a_length : Int32) (a_refused : Nat → Int32) (a_items : Nat → Int32) (a_many : Int32) (a_at : Int32) (a_sort : Int32) (a_start : Int32) (a_size : Int32) (a_due : Nat → Int32) (a_rung : Nat → Int32) (a_anywhere : Nat → Int32) (p0 : Int32) (out : Int32 × (Nat → Int32) × (Nat → Int32) × (Nat → Int32)) (kx : Int32 → (Nat → Int32) → Option (Int32 × (Nat → Int32) × (Nat → Int32) × (Nat → Int32))) (HX : ∀ (x2_16 : Int32) (a_images_16 : Nat → Int32) (H : Heap) (locs : List Loc) (ls : Array Slot), va_P G.1 vwCl (flat [wX7 G a a_book a_spare a_images_16 a_kept a_text a_length a_refused a_items a_many a_at a_sort a_start a_size a_due a_rung a_anywhere]) H → va_D A (flat [wX7 G a a_book a_spare a_images_16 a_kept a_text a_length a_refused a_items a_many a_at a_sort a_start a_size a_due a_rung a_anywhere]) → va_S A s.heap H locs → lv_has ls 3 [(0, .ref (a 0)), (1, .int p0), (2, .int x2_16)] → kx x2_16 a_images_16 = some out → W p l e rmX7_image s m args below meth c H locs 0 0 (MQ below (QI G A out.1 (flat [wX7 G a a_book a_spare out.2.1 out.2.2.1 a_text a_length out.2.2.2 a_items a_many a_at a_sort a_start a_size a_due a_rung a_anywhere])) args s 0 0 A) (F0 m 45 ls [])) : ∀ (n : Nat) (x2_16 : Int32) (a_images_16 : Nat → Int32) (H : Heap) (locs : List Loc) (ls : Array Slot), va_P G.1 vwCl (flat [wX7 G a a_book a_spare a_images_16 a_kept a_text a_length a_refused a_items a_many a_at a_sort a_start a_size a_due a_rung a_anywhere]) H → va_D A (flat [wX7 G a a_book a_spare a_images_16 a_kept a_text a_length a_refused a_items a_many a_at a_sort a_start a_size a_due a_rung a_anywhere]) → va_S A s.heap H locs → lv_has ls 3 [(0, .ref (a 0)), (1, .int p0), (2, .int x2_16)] → fX7_image_16 p0 a_book kx n x2_16 a_images_16 = some out → W p l e rmX7_image s m args below meth c H locs 0 0 (MQ below (QI G A out.1 (flat [wX7 G a a_book a_spare out.2.1 out.2.2.1 a_text a_length out.2.2.2 a_items a_many a_at a_sort a_start a_size a_due a_rung a_anywhere])) args s 0 0 A) (F0 m 16 ls []) := by
  obtain ⟨⟨hx, hb, hml, hown, hts⟩, hr, hlocks, hK, hN, hE, hA⟩ := id C
  intro n
  induction n with
  | zero =>
    intro x2_16 a_images_16 H locs ls hP hD hS hl hf
    exact absurd (show (none : Option (Int32 × (Nat → Int32) × (Nat → Int32) × (Nat → Int32))) = some out from hf) (by intro q9; cases q9)
  | succ n ih =>
    intro x2_16 a_images_16 H locs ls hP hD hS hl hf
    rw [fX7_image_16] at hf
    refine lv_iload_n hx hb dX7_image_16 rfl (lv_at hl 2 rfl) ?_
    refine lv_bipush (v := 104) hx hb dX7_image_17 (by decide) ?_
    refine lv_icmp_ge (tgt := 45) hx hb dX7_image_19 (by decide) (fun c3 => ?_) (fun c3 => ?_)
    · have hf := (o_i hf).1 c3
      exact HX _ _ _ _ _ hP hD hS (lv_sub hl [0, 1, 2] rfl) hf
    have hf := (o_i hf).2 c3
    refine lv_aload_n hx hb dX7_image_22 rfl (lv_at hl 0 rfl) ?_
    refine va_get (D := G.1) (ci := 7) (v := .ref (a 3)) (C := RX7) (T := TX7) (N := 16) hx hb hts iiX7_image_X7 hown hK hP 0 rfl rfl 2 (by decide) (hts _ mmX7_image_1) (fun _ h9 => h9) rfl dX7_image_23 ?_
    refine lv_bipush (v := 104) hx hb dX7_image_26 (by decide) ?_
    refine lv_iload_n hx hb dX7_image_28 rfl (lv_at hl 1 rfl) ?_
    refine lv_imul hx hb dX7_image_29 ?_
    refine lv_iload_n hx hb dX7_image_30 rfl (lv_at hl 2 rfl) ?_
    refine lv_iadd hx hb dX7_image_31 ?_
    refine lv_aload_n hx hb dX7_image_32 rfl (lv_at hl 0 rfl) ?_
    refine va_get (D := G.1) (ci := 7) (v := .ref (a 1)) (C := RX7) (T := TX7) (N := 16) hx hb hts iiX7_image_X7 hown hK hP 0 rfl rfl 0 (by decide) (hts _ mmX7_image_2) (fun _ h9 => h9) rfl dX7_image_33 ?_
    refine at_pc (pc' := 36) rfl ?_
    refine lv_iload_n hx hb dX7_image_36 rfl (lv_at hl 2 rfl) ?_
    obtain ⟨z4, hz4, hf⟩ := o_b hf
    refine k_iald hx hb hK hP 1 0 rfl rfl hz4 dX7_image_37 ?_
    obtain ⟨u5, hu5, hf⟩ := o_b hf
    refine k_iast hx hb hK hP hD hS 3 0 rfl rfl hu5 dX7_image_38 (fun H locs hP hD hS => ?_)
    have hP : va_P G.1 vwCl (flat [wX7 G a a_book a_spare u5 a_kept a_text a_length a_refused a_items a_many a_at a_sort a_start a_size a_due a_rung a_anywhere]) H := hP
    have hD : va_D A (flat [wX7 G a a_book a_spare u5 a_kept a_text a_length a_refused a_items a_many a_at a_sort a_start a_size a_due a_rung a_anywhere]) := hD
    refine lv_iinc (v := x2_16 + 1) (lv' := [(2, .int (x2_16 + 1)), (0, .ref (a 0)), (1, .int p0)]) hx hb dX7_image_39 hl (k := 2) rfl (congrArg (fun z => x2_16 + z) (by decide)) (by decide) rfl (fun ls hl => ?_)
    refine lv_goto (tgt := 16) hx hb dX7_image_42 (by decide) ?_
    exact ih _ _ _ _ _ hP hD hS (lv_sub hl [1, 2, 0] rfl) hf
set_option maxHeartbeats 4000000 in
set_option maxRecDepth 100000 in
theorem tX7_image (l : Launch) (G : GG) (a : Nat → Nat) (a_book : Nat → Int32) (a_spare : Nat → Int32) (a_images : Nat → Int32) (a_kept : Nat → Int32) (a_text : Nat → Int32) (a_length : Int32) (a_refused : Nat → Int32) (a_items : Nat → Int32) (a_many : Int32) (a_at : Int32) (a_sort : Int32) (a_start : Int32) (a_size : Int32) (a_due : Nat → Int32) (a_rung : Nat → Int32) (a_anywhere : Nat → Int32) (p0 : Int32) (out : Int32 × (Nat → Int32) × (Nat → Int32) × (Nat → Int32)) (hf : fX7_image a_book a_images a_kept a_refused p0 = some out) : cMi l G yX7_image wsX7_image rmX7_image [.ref (a 0), .int p0] (flat [wX7 G a a_book a_spare a_images a_kept a_text a_length a_refused a_items a_many a_at a_sort a_start a_size a_due a_rung a_anywhere]) out.1 (flat [wX7 G a a_book a_spare out.2.1 out.2.2.1 a_text a_length out.2.2.2 a_items a_many a_at a_sort a_start a_size a_due a_rung a_anywhere]) := by
  intro sz
  refine met_of (cc := cX7_image) (nL := 3) (ret := (some .int)) (Qc := fun A9 => QI G A9 out.1 (flat [wX7 G a a_book a_spare out.2.1 out.2.2.1 a_text a_length out.2.2.2 a_items a_many a_at a_sort a_start a_size a_due a_rung a_anywhere])) (by decide) rfl (Nat.le_of_ble_eq_true rfl) ?_
  intro p e s m args below meth c A ls C hP hD hS hl
  obtain ⟨⟨hx, hb, hml, hown, hts⟩, hr, hlocks, hK, hN, hE, hA⟩ := id C
  have hl : lv_has ls 3 [(0, .ref (a 0)), (1, .int p0)] := hl
  unfold fX7_image at hf
  refine lv_iload_n hx hb dX7_image_0 rfl (lv_at hl 1 rfl) ?_
  refine lv_iconst (v := 0) hx hb dX7_image_1 (by decide) ?_
  refine lv_iconst (v := 1) hx hb dX7_image_2 (by decide) ?_
  obtain ⟨g1, hg1, hf⟩ := o_b hf
  refine bSi C hP hD hS (tX7_in l G p0 0 1 g1 hg1) gX7_image_X7_in rfl ⟨rfl, rfl⟩ hdX7_in ⟨Nat.le_of_ble_eq_true rfl, Nat.le_of_ble_eq_true rfl⟩ rfl hl.1 rfl (Nat.le_of_ble_eq_true rfl) ⟨Nat.le_of_ble_eq_true rfl, Nat.le_of_ble_eq_true rfl⟩ [] rfl rfl rfl (setB_same _ _ _ rfl) rfl dX7_image_3 (fun H locs hP hD hS => ?_)
  refine lv_if_ne (tgt := 14) hx hb dX7_image_6 (by decide) (fun c2 => ?_) (fun c2 => ?_)
  · have hf := (o_i hf).2 c2
    refine lv_iconst (v := 0) hx hb dX7_image_14 (by decide) ?_
    refine lv_istore_n (lv' := [(2, .int 0), (0, .ref (a 0)), (1, .int p0)]) hx hb dX7_image_15 rfl hl (by decide) rfl (fun ls hl => ?_)
    refine lX7_image_16 l G C a a_book a_spare a_images a_kept a_text a_length a_refused a_items a_many a_at a_sort a_start a_size a_due a_rung a_anywhere p0 out _ (fun x2_16_6 a_images_16_7 H locs ls hP hD hS hl hf => ?_) fu 0 a_images _ _ _ hP hD hS (lv_sub hl [1, 2, 0] rfl) hf
    refine lv_aload_n hx hb dX7_image_45 rfl (lv_at hl 0 rfl) ?_
    refine va_get (D := G.1) (ci := 7) (v := .ref (a 4)) (C := RX7) (T := TX7) (N := 16) hx hb hts iiX7_image_X7 hown hK hP 0 rfl rfl 3 (by decide) (hts _ mmX7_image_3) (fun _ h9 => h9) rfl dX7_image_46 ?_
    refine lv_iload_n hx hb dX7_image_49 rfl (lv_at hl 1 rfl) ?_
    refine lv_iconst (v := 1) hx hb dX7_image_50 (by decide) ?_
    obtain ⟨u8, hu8, hf⟩ := o_b hf
    refine k_zast hx hb hK hP hD hS 4 2 rfl rfl hu8 dX7_image_51 (fun H locs hP hD hS => ?_)
    have hP : va_P G.1 vwCl (flat [wX7 G a a_book a_spare a_images_16_7 u8 a_text a_length a_refused a_items a_many a_at a_sort a_start a_size a_due a_rung a_anywhere]) H := hP
    have hD : va_D A (flat [wX7 G a a_book a_spare a_images_16_7 u8 a_text a_length a_refused a_items a_many a_at a_sort a_start a_size a_due a_rung a_anywhere]) := hD
    refine lv_iconst (v := 1) hx hb dX7_image_52 (by decide) ?_
    have e9 := Option.some.inj hf
    subst e9
    exact rt_i C hP hS rfl dX7_image_53
  have hf := (o_i hf).1 c2
  refine lv_aload_n hx hb dX7_image_9 rfl (lv_at hl 0 rfl) ?_
  obtain ⟨g9, hg9, hf⟩ := o_b hf
  refine bVi (Bs' := [wX7 G a a_book a_spare a_images a_kept a_text a_length g9.2 a_items a_many a_at a_sort a_start a_size a_due a_rung a_anywhere]) C hP hD hS (tX7_bad l G a a_book a_spare a_images a_kept a_text a_length a_refused a_items a_many a_at a_sort a_start a_size a_due a_rung a_anywhere g9 hg9) gX7_image_X7_bad rfl ⟨rfl, rfl⟩ hdX7_bad ⟨Nat.le_of_ble_eq_true rfl, Nat.le_of_ble_eq_true rfl⟩ rfl hl.1 rfl (Nat.le_of_ble_eq_true rfl) ⟨Nat.le_of_ble_eq_true rfl, Nat.le_of_ble_eq_true rfl⟩ [0] rfl rfl rfl rfl rfl (ci := 7) (q0 := 0) rfl rfl rfl dX7_image_10 (fun H locs hP hD hS => ?_)
  have hP : va_P G.1 vwCl (flat [wX7 G a a_book a_spare a_images a_kept a_text a_length g9.2 a_items a_many a_at a_sort a_start a_size a_due a_rung a_anywhere]) H := hP
  have hD : va_D A (flat [wX7 G a a_book a_spare a_images a_kept a_text a_length g9.2 a_items a_many a_at a_sort a_start a_size a_due a_rung a_anywhere]) := hD
  have e9 := Option.some.inj hf
  subst e9
  exact rt_i C hP hS rfl dX7_image_13

/-! RX7 from(I)I -/
theorem iiX7_from_X7 : ∀ w ∈ wsX70, w ∈ wsX7_from := by decide +kernel
theorem mmX7_from_1 : (Cond.fieldLink RX7 19 "BlindBellsModel" "kept" "[Z") ∈ wsX7_from := by decide +kernel
theorem mmX7_from_2 : (Cond.fieldLink RX7 7 "BlindBellsModel" "book" "[I") ∈ wsX7_from := by decide +kernel
theorem mmX7_from_3 : (Cond.fieldLink RX7 16 "BlindBellsModel" "images" "[I") ∈ wsX7_from := by decide +kernel
theorem hdX7_from : yX7_from.cls = RX7 ∧ yX7_from.cls ≠ "java/lang/invoke/MethodHandle" ∧ yX7_from.cls ≠ "java/lang/invoke/VarHandle" ∧ (parseMethodDescriptor yX7_from.desc).map (fun d => d.parameters.length) = some 1 := by decide +kernel
abbrev rmX7_from : Room := { frames := 2, cells := 0, slots := 0, locals := 42 }
set_option maxHeartbeats 4000000 in
set_option maxRecDepth 100000 in
theorem lX7_from_33 {p : Program} {e : Env} {s : State} {m : MethodId} {args : Array Value} {below : List Frame} {meth : Method} {c : Code} {A : Nat → Prop} (l : Launch) (G : GG) (C : Cx p m c cX7_from 3 s args wsX7_from RX7 meth (some .int) G A) (a : Nat → Nat) (a_book : Nat → Int32) (a_spare : Nat → Int32) (a_images : Nat → Int32) (a_kept : Nat → Int32) (a_text : Nat → Int32) (a_length : Int32) (a_refused : Nat → Int32) (a_items : Nat → Int32) (a_many : Int32) (a_at : Int32) (a_sort : Int32) (a_start : Int32) (a_size : Int32) (a_due : Nat → Int32) (a_rung : Nat → Int32) (a_anywhere : Nat → Int32) (p0 : Int32) (out : Int32 × (Nat → Int32) × (Nat → Int32)) (kx : Int32 → (Nat → Int32) → Option (Int32 × (Nat → Int32) × (Nat → Int32))) (HX : ∀ (x2_33 : Int32) (a_book_33 : Nat → Int32) (H : Heap) (locs : List Loc) (ls : Array Slot), va_P G.1 vwCl (flat [wX7 G a a_book_33 a_spare a_images a_kept a_text a_length a_refused a_items a_many a_at a_sort a_start a_size a_due a_rung a_anywhere]) H → va_D A (flat [wX7 G a a_book_33 a_spare a_images a_kept a_text a_length a_refused a_items a_many a_at a_sort a_start a_size a_due a_rung a_anywhere]) → va_S A s.heap H locs → lv_has ls 3 [(0, .ref (a 0)), (1, .int p0), (2, .int x2_33)] → kx x2_33 a_book_33 = some out → W p l e rmX7_from s m args below meth c H locs 0 0 (MQ below (QI G A out.1 (flat [wX7 G a out.2.1 a_spare a_images a_kept a_text a_length out.2.2 a_items a_many a_at a_sort a_start a_size a_due a_rung a_anywhere])) args s 0 0 A) (F0 m 62 ls [])) : ∀ (n : Nat) (x2_33 : Int32) (a_book_33 : Nat → Int32) (H : Heap) (locs : List Loc) (ls : Array Slot), va_P G.1 vwCl (flat [wX7 G a a_book_33 a_spare a_images a_kept a_text a_length a_refused a_items a_many a_at a_sort a_start a_size a_due a_rung a_anywhere]) H → va_D A (flat [wX7 G a a_book_33 a_spare a_images a_kept a_text a_length a_refused a_items a_many a_at a_sort a_start a_size a_due a_rung a_anywhere]) → va_S A s.heap H locs → lv_has ls 3 [(0, .ref (a 0)), (1, .int p0), (2, .int x2_33)] → fX7_from_33 p0 a_images kx n x2_33 a_book_33 = some out → W p l e rmX7_from s m args below meth c H locs 0 0 (MQ below (QI G A out.1 (flat [wX7 G a out.2.1 a_spare a_images a_kept a_text a_length out.2.2 a_items a_many a_at a_sort a_start a_size a_due a_rung a_anywhere])) args s 0 0 A) (F0 m 33 ls []) := by
  obtain ⟨⟨hx, hb, hml, hown, hts⟩, hr, hlocks, hK, hN, hE, hA⟩ := id C
  intro n
  induction n with
  | zero =>
    intro x2_33 a_book_33 H locs ls hP hD hS hl hf
    exact absurd (show (none : Option (Int32 × (Nat → Int32) × (Nat → Int32))) = some out from hf) (by intro q9; cases q9)
  | succ n ih =>
    intro x2_33 a_book_33 H locs ls hP hD hS hl hf
    rw [fX7_from_33] at hf
    refine lv_iload_n hx hb dX7_from_33 rfl (lv_at hl 2 rfl) ?_
    refine lv_bipush (v := 104) hx hb dX7_from_34 (by decide) ?_
    refine lv_icmp_ge (tgt := 62) hx hb dX7_from_36 (by decide) (fun c5 => ?_) (fun c5 => ?_)
    · have hf := (o_i hf).1 c5
      exact HX _ _ _ _ _ hP hD hS (lv_sub hl [0, 1, 2] rfl) hf
    have hf := (o_i hf).2 c5
    refine lv_aload_n hx hb dX7_from_39 rfl (lv_at hl 0 rfl) ?_
    refine va_get (D := G.1) (ci := 7) (v := .ref (a 1)) (C := RX7) (T := TX7) (N := 16) hx hb hts iiX7_from_X7 hown hK hP 0 rfl rfl 0 (by decide) (hts _ mmX7_from_2) (fun _ h9 => h9) rfl dX7_from_40 ?_
    refine lv_iload_n hx hb dX7_from_43 rfl (lv_at hl 2 rfl) ?_
    refine lv_aload_n hx hb dX7_from_44 rfl (lv_at hl 0 rfl) ?_
    refine va_get (D := G.1) (ci := 7) (v := .ref (a 3)) (C := RX7) (T := TX7) (N := 16) hx hb hts iiX7_from_X7 hown hK hP 0 rfl rfl 2 (by decide) (hts _ mmX7_from_3) (fun _ h9 => h9) rfl dX7_from_45 ?_
    refine lv_bipush (v := 104) hx hb dX7_from_48 (by decide) ?_
    refine lv_iload_n hx hb dX7_from_50 rfl (lv_at hl 1 rfl) ?_
    refine lv_imul hx hb dX7_from_51 ?_
    refine lv_iload_n hx hb dX7_from_52 rfl (lv_at hl 2 rfl) ?_
    refine at_pc (pc' := 53) rfl ?_
    refine lv_iadd hx hb dX7_from_53 ?_
    obtain ⟨z6, hz6, hf⟩ := o_b hf
    refine k_iald hx hb hK hP 3 0 rfl rfl hz6 dX7_from_54 ?_
    obtain ⟨u7, hu7, hf⟩ := o_b hf
    refine k_iast hx hb hK hP hD hS 1 0 rfl rfl hu7 dX7_from_55 (fun H locs hP hD hS => ?_)
    have hP : va_P G.1 vwCl (flat [wX7 G a u7 a_spare a_images a_kept a_text a_length a_refused a_items a_many a_at a_sort a_start a_size a_due a_rung a_anywhere]) H := hP
    have hD : va_D A (flat [wX7 G a u7 a_spare a_images a_kept a_text a_length a_refused a_items a_many a_at a_sort a_start a_size a_due a_rung a_anywhere]) := hD
    refine lv_iinc (v := x2_33 + 1) (lv' := [(2, .int (x2_33 + 1)), (0, .ref (a 0)), (1, .int p0)]) hx hb dX7_from_56 hl (k := 2) rfl (congrArg (fun z => x2_33 + z) (by decide)) (by decide) rfl (fun ls hl => ?_)
    refine lv_goto (tgt := 33) hx hb dX7_from_59 (by decide) ?_
    exact ih _ _ _ _ _ hP hD hS (lv_sub hl [1, 2, 0] rfl) hf
set_option maxHeartbeats 4000000 in
set_option maxRecDepth 100000 in
theorem tX7_from (l : Launch) (G : GG) (a : Nat → Nat) (a_book : Nat → Int32) (a_spare : Nat → Int32) (a_images : Nat → Int32) (a_kept : Nat → Int32) (a_text : Nat → Int32) (a_length : Int32) (a_refused : Nat → Int32) (a_items : Nat → Int32) (a_many : Int32) (a_at : Int32) (a_sort : Int32) (a_start : Int32) (a_size : Int32) (a_due : Nat → Int32) (a_rung : Nat → Int32) (a_anywhere : Nat → Int32) (p0 : Int32) (out : Int32 × (Nat → Int32) × (Nat → Int32)) (hf : fX7_from a_book a_images a_kept a_refused p0 = some out) : cMi l G yX7_from wsX7_from rmX7_from [.ref (a 0), .int p0] (flat [wX7 G a a_book a_spare a_images a_kept a_text a_length a_refused a_items a_many a_at a_sort a_start a_size a_due a_rung a_anywhere]) out.1 (flat [wX7 G a out.2.1 a_spare a_images a_kept a_text a_length out.2.2 a_items a_many a_at a_sort a_start a_size a_due a_rung a_anywhere]) := by
  intro sz
  refine met_of (cc := cX7_from) (nL := 3) (ret := (some .int)) (Qc := fun A9 => QI G A9 out.1 (flat [wX7 G a out.2.1 a_spare a_images a_kept a_text a_length out.2.2 a_items a_many a_at a_sort a_start a_size a_due a_rung a_anywhere])) (by decide) rfl (Nat.le_of_ble_eq_true rfl) ?_
  intro p e s m args below meth c A ls C hP hD hS hl
  obtain ⟨⟨hx, hb, hml, hown, hts⟩, hr, hlocks, hK, hN, hE, hA⟩ := id C
  have hl : lv_has ls 3 [(0, .ref (a 0)), (1, .int p0)] := hl
  unfold fX7_from at hf
  refine lv_iload_n hx hb dX7_from_0 rfl (lv_at hl 1 rfl) ?_
  refine lv_iconst (v := 0) hx hb dX7_from_1 (by decide) ?_
  refine lv_iconst (v := 1) hx hb dX7_from_2 (by decide) ?_
  obtain ⟨g1, hg1, hf⟩ := o_b hf
  refine bSi C hP hD hS (tX7_in l G p0 0 1 g1 hg1) gX7_from_X7_in rfl ⟨rfl, rfl⟩ hdX7_in ⟨Nat.le_of_ble_eq_true rfl, Nat.le_of_ble_eq_true rfl⟩ rfl hl.1 rfl (Nat.le_of_ble_eq_true rfl) ⟨Nat.le_of_ble_eq_true rfl, Nat.le_of_ble_eq_true rfl⟩ [] rfl rfl rfl (setB_same _ _ _ rfl) rfl dX7_from_3 (fun H locs hP hD hS => ?_)
  refine lv_if_ne (tgt := 14) hx hb dX7_from_6 (by decide) (fun c2 => ?_) (fun c2 => ?_)
  · have hf := (o_i hf).2 c2
    refine lv_aload_n hx hb dX7_from_14 rfl (lv_at hl 0 rfl) ?_
    refine va_get (D := G.1) (ci := 7) (v := .ref (a 4)) (C := RX7) (T := TX7) (N := 16) hx hb hts iiX7_from_X7 hown hK hP 0 rfl rfl 3 (by decide) (hts _ mmX7_from_1) (fun _ h9 => h9) rfl dX7_from_15 ?_
    refine lv_iload_n hx hb dX7_from_18 rfl (lv_at hl 1 rfl) ?_
    obtain ⟨z3, hz3, hf⟩ := o_b hf
    refine k_zald hx hb hK hP 4 2 rfl rfl hz3 dX7_from_19 ?_
    refine lv_if_ne (tgt := 31) hx hb dX7_from_20 (by decide) (fun c4 => ?_) (fun c4 => ?_)
    · have hf := (o_i hf).2 c4
      refine lv_iconst (v := 0) hx hb dX7_from_31 (by decide) ?_
      refine lv_istore_n (lv' := [(2, .int 0), (0, .ref (a 0)), (1, .int p0)]) hx hb dX7_from_32 rfl hl (by decide) rfl (fun ls hl => ?_)
      refine lX7_from_33 l G C a a_book a_spare a_images a_kept a_text a_length a_refused a_items a_many a_at a_sort a_start a_size a_due a_rung a_anywhere p0 out _ (fun x2_33_8 a_book_33_9 H locs ls hP hD hS hl hf => ?_) fu 0 a_book _ _ _ hP hD hS (lv_sub hl [1, 2, 0] rfl) hf
      refine lv_iconst (v := 1) hx hb dX7_from_62 (by decide) ?_
      have e9 := Option.some.inj hf
      subst e9
      exact rt_i C hP hS rfl dX7_from_63
    have hf := (o_i hf).1 c4
    refine lv_aload_n hx hb dX7_from_23 rfl (lv_at hl 0 rfl) ?_
    refine lv_iconst (v := 1) hx hb dX7_from_24 (by decide) ?_
    refine lv_bipush (v := (-3)) hx hb dX7_from_25 (by decide) ?_
    obtain ⟨g10, hg10, hf⟩ := o_b hf
    refine bVi (Bs' := [wX7 G a a_book a_spare a_images a_kept a_text a_length g10.2 a_items a_many a_at a_sort a_start a_size a_due a_rung a_anywhere]) C hP hD hS (tX7_refuses l G a a_book a_spare a_images a_kept a_text a_length a_refused a_items a_many a_at a_sort a_start a_size a_due a_rung a_anywhere 1 ((-3)) g10 hg10) gX7_from_X7_refuses rfl ⟨rfl, rfl⟩ hdX7_refuses ⟨Nat.le_of_ble_eq_true rfl, Nat.le_of_ble_eq_true rfl⟩ rfl hl.1 rfl (Nat.le_of_ble_eq_true rfl) ⟨Nat.le_of_ble_eq_true rfl, Nat.le_of_ble_eq_true rfl⟩ [0] rfl rfl rfl rfl rfl (ci := 7) (q0 := 0) rfl rfl rfl dX7_from_27 (fun H locs hP hD hS => ?_)
    have hP : va_P G.1 vwCl (flat [wX7 G a a_book a_spare a_images a_kept a_text a_length g10.2 a_items a_many a_at a_sort a_start a_size a_due a_rung a_anywhere]) H := hP
    have hD : va_D A (flat [wX7 G a a_book a_spare a_images a_kept a_text a_length g10.2 a_items a_many a_at a_sort a_start a_size a_due a_rung a_anywhere]) := hD
    have e9 := Option.some.inj hf
    subst e9
    exact rt_i C hP hS rfl dX7_from_30
  have hf := (o_i hf).1 c2
  refine lv_aload_n hx hb dX7_from_9 rfl (lv_at hl 0 rfl) ?_
  obtain ⟨g11, hg11, hf⟩ := o_b hf
  refine bVi (Bs' := [wX7 G a a_book a_spare a_images a_kept a_text a_length g11.2 a_items a_many a_at a_sort a_start a_size a_due a_rung a_anywhere]) C hP hD hS (tX7_bad l G a a_book a_spare a_images a_kept a_text a_length a_refused a_items a_many a_at a_sort a_start a_size a_due a_rung a_anywhere g11 hg11) gX7_from_X7_bad rfl ⟨rfl, rfl⟩ hdX7_bad ⟨Nat.le_of_ble_eq_true rfl, Nat.le_of_ble_eq_true rfl⟩ rfl hl.1 rfl (Nat.le_of_ble_eq_true rfl) ⟨Nat.le_of_ble_eq_true rfl, Nat.le_of_ble_eq_true rfl⟩ [0] rfl rfl rfl rfl rfl (ci := 7) (q0 := 0) rfl rfl rfl dX7_from_10 (fun H locs hP hD hS => ?_)
  have hP : va_P G.1 vwCl (flat [wX7 G a a_book a_spare a_images a_kept a_text a_length g11.2 a_items a_many a_at a_sort a_start a_size a_due a_rung a_anywhere]) H := hP
  have hD : va_D A (flat [wX7 G a a_book a_spare a_images a_kept a_text a_length g11.2 a_items a_many a_at a_sort a_start a_size a_due a_rung a_anywhere]) := hD
  have e9 := Option.some.inj hf
  subst e9
  exact rt_i C hP hS rfl dX7_from_13

/-! RX7 status(I)I -/
theorem iiX7_status_X7 : ∀ w ∈ wsX70, w ∈ wsX7_status := by decide +kernel
theorem mmX7_status_1 : (Cond.fieldLink RX7 26 "BlindBellsModel" "refused" "[I") ∈ wsX7_status := by decide +kernel
theorem hdX7_status : yX7_status.cls = RX7 ∧ yX7_status.cls ≠ "java/lang/invoke/MethodHandle" ∧ yX7_status.cls ≠ "java/lang/invoke/VarHandle" ∧ (parseMethodDescriptor yX7_status.desc).map (fun d => d.parameters.length) = some 1 := by decide +kernel
abbrev rmX7_status : Room := { frames := 1, cells := 0, slots := 0, locals := 22 }
set_option maxHeartbeats 4000000 in
set_option maxRecDepth 100000 in
theorem tX7_status (l : Launch) (G : GG) (a : Nat → Nat) (a_book : Nat → Int32) (a_spare : Nat → Int32) (a_images : Nat → Int32) (a_kept : Nat → Int32) (a_text : Nat → Int32) (a_length : Int32) (a_refused : Nat → Int32) (a_items : Nat → Int32) (a_many : Int32) (a_at : Int32) (a_sort : Int32) (a_start : Int32) (a_size : Int32) (a_due : Nat → Int32) (a_rung : Nat → Int32) (a_anywhere : Nat → Int32) (p0 : Int32) (out : Int32 × (Nat → Int32)) (hf : fX7_status a_refused p0 = some out) : cMi l G yX7_status wsX7_status rmX7_status [.ref (a 0), .int p0] (flat [wX7 G a a_book a_spare a_images a_kept a_text a_length a_refused a_items a_many a_at a_sort a_start a_size a_due a_rung a_anywhere]) out.1 (flat [wX7 G a a_book a_spare a_images a_kept a_text a_length out.2 a_items a_many a_at a_sort a_start a_size a_due a_rung a_anywhere]) := by
  intro sz
  refine met_of (cc := cX7_status) (nL := 2) (ret := (some .int)) (Qc := fun A9 => QI G A9 out.1 (flat [wX7 G a a_book a_spare a_images a_kept a_text a_length out.2 a_items a_many a_at a_sort a_start a_size a_due a_rung a_anywhere])) (by decide) rfl (Nat.le_of_ble_eq_true rfl) ?_
  intro p e s m args below meth c A ls C hP hD hS hl
  obtain ⟨⟨hx, hb, hml, hown, hts⟩, hr, hlocks, hK, hN, hE, hA⟩ := id C
  have hl : lv_has ls 2 [(0, .ref (a 0)), (1, .int p0)] := hl
  unfold fX7_status at hf
  refine lv_iload_n hx hb dX7_status_0 rfl (lv_at hl 1 rfl) ?_
  refine lv_iconst (v := 0) hx hb dX7_status_1 (by decide) ?_
  refine lv_iconst (v := 2) hx hb dX7_status_2 (by decide) ?_
  obtain ⟨g1, hg1, hf⟩ := o_b hf
  refine bSi C hP hD hS (tX7_in l G p0 0 2 g1 hg1) gX7_status_X7_in rfl ⟨rfl, rfl⟩ hdX7_in ⟨Nat.le_of_ble_eq_true rfl, Nat.le_of_ble_eq_true rfl⟩ rfl hl.1 rfl (Nat.le_of_ble_eq_true rfl) ⟨Nat.le_of_ble_eq_true rfl, Nat.le_of_ble_eq_true rfl⟩ [] rfl rfl rfl (setB_same _ _ _ rfl) rfl dX7_status_3 (fun H locs hP hD hS => ?_)
  refine lv_if_eq (tgt := 18) hx hb dX7_status_6 (by decide) (fun c2 => ?_) (fun c2 => ?_)
  · have hf := (o_i hf).1 c2
    refine lv_aload_n hx hb dX7_status_18 rfl (lv_at hl 0 rfl) ?_
    refine lv_iconst (v := 0) hx hb dX7_status_19 (by decide) ?_
    refine lv_iconst (v := (-1)) hx hb dX7_status_20 (by decide) ?_
    obtain ⟨g3, hg3, hf⟩ := o_b hf
    refine bVi (Bs' := [wX7 G a a_book a_spare a_images a_kept a_text a_length g3.2 a_items a_many a_at a_sort a_start a_size a_due a_rung a_anywhere]) C hP hD hS (tX7_refuses l G a a_book a_spare a_images a_kept a_text a_length a_refused a_items a_many a_at a_sort a_start a_size a_due a_rung a_anywhere 0 ((-1)) g3 hg3) gX7_status_X7_refuses rfl ⟨rfl, rfl⟩ hdX7_refuses ⟨Nat.le_of_ble_eq_true rfl, Nat.le_of_ble_eq_true rfl⟩ rfl hl.1 rfl (Nat.le_of_ble_eq_true rfl) ⟨Nat.le_of_ble_eq_true rfl, Nat.le_of_ble_eq_true rfl⟩ [0] rfl rfl rfl rfl rfl (ci := 7) (q0 := 0) rfl rfl rfl dX7_status_21 (fun H locs hP hD hS => ?_)
    have hP : va_P G.1 vwCl (flat [wX7 G a a_book a_spare a_images a_kept a_text a_length g3.2 a_items a_many a_at a_sort a_start a_size a_due a_rung a_anywhere]) H := hP
    have hD : va_D A (flat [wX7 G a a_book a_spare a_images a_kept a_text a_length g3.2 a_items a_many a_at a_sort a_start a_size a_due a_rung a_anywhere]) := hD
    have e9 := Option.some.inj hf
    subst e9
    exact rt_i C hP hS rfl dX7_status_24
  have hf := (o_i hf).2 c2
  refine lv_aload_n hx hb dX7_status_9 rfl (lv_at hl 0 rfl) ?_
  refine va_get (D := G.1) (ci := 7) (v := .ref (a 6)) (C := RX7) (T := TX7) (N := 16) hx hb hts iiX7_status_X7 hown hK hP 0 rfl rfl 6 (by decide) (hts _ mmX7_status_1) (fun _ h9 => h9) rfl dX7_status_10 ?_
  refine lv_iload_n hx hb dX7_status_13 rfl (lv_at hl 1 rfl) ?_
  obtain ⟨z4, hz4, hf⟩ := o_b hf
  refine k_iald hx hb hK hP 6 0 rfl rfl hz4 dX7_status_14 ?_
  refine lv_goto (tgt := 24) hx hb dX7_status_15 (by decide) ?_
  have e9 := Option.some.inj hf
  subst e9
  exact rt_i C hP hS rfl dX7_status_24

/-! RX7 count(I)I -/
theorem iiX7_count_X7 : ∀ w ∈ wsX70, w ∈ wsX7_count := by decide +kernel
theorem mmX7_count_1 : (Cond.fieldLink RX7 94 "BlindBellsModel" "length" "I") ∈ wsX7_count := by decide +kernel
theorem mmX7_count_2 : (Cond.fieldLink RX7 7 "BlindBellsModel" "book" "[I") ∈ wsX7_count := by decide +kernel
theorem hdX7_count : yX7_count.cls = RX7 ∧ yX7_count.cls ≠ "java/lang/invoke/MethodHandle" ∧ yX7_count.cls ≠ "java/lang/invoke/VarHandle" ∧ (parseMethodDescriptor yX7_count.desc).map (fun d => d.parameters.length) = some 1 := by decide +kernel
abbrev rmX7_count : Room := { frames := 2, cells := 0, slots := 0, locals := 42 }
set_option maxHeartbeats 4000000 in
set_option maxRecDepth 100000 in
theorem tX7_count (l : Launch) (G : GG) (a : Nat → Nat) (a_book : Nat → Int32) (a_spare : Nat → Int32) (a_images : Nat → Int32) (a_kept : Nat → Int32) (a_text : Nat → Int32) (a_length : Int32) (a_refused : Nat → Int32) (a_items : Nat → Int32) (a_many : Int32) (a_at : Int32) (a_sort : Int32) (a_start : Int32) (a_size : Int32) (a_due : Nat → Int32) (a_rung : Nat → Int32) (a_anywhere : Nat → Int32) (p0 : Int32) (out : Int32 × (Nat → Int32)) (hf : fX7_count a_book a_length a_refused p0 = some out) : cMi l G yX7_count wsX7_count rmX7_count [.ref (a 0), .int p0] (flat [wX7 G a a_book a_spare a_images a_kept a_text a_length a_refused a_items a_many a_at a_sort a_start a_size a_due a_rung a_anywhere]) out.1 (flat [wX7 G a a_book a_spare a_images a_kept a_text a_length out.2 a_items a_many a_at a_sort a_start a_size a_due a_rung a_anywhere]) := by
  intro sz
  refine met_of (cc := cX7_count) (nL := 2) (ret := (some .int)) (Qc := fun A9 => QI G A9 out.1 (flat [wX7 G a a_book a_spare a_images a_kept a_text a_length out.2 a_items a_many a_at a_sort a_start a_size a_due a_rung a_anywhere])) (by decide) rfl (Nat.le_of_ble_eq_true rfl) ?_
  intro p e s m args below meth c A ls C hP hD hS hl
  obtain ⟨⟨hx, hb, hml, hown, hts⟩, hr, hlocks, hK, hN, hE, hA⟩ := id C
  have hl : lv_has ls 2 [(0, .ref (a 0)), (1, .int p0)] := hl
  unfold fX7_count at hf
  refine lv_iload_n hx hb dX7_count_0 rfl (lv_at hl 1 rfl) ?_
  refine lv_iconst (v := 0) hx hb dX7_count_1 (by decide) ?_
  refine lv_iconst (v := 3) hx hb dX7_count_2 (by decide) ?_
  obtain ⟨g1, hg1, hf⟩ := o_b hf
  refine bSi C hP hD hS (tX7_in l G p0 0 3 g1 hg1) gX7_count_X7_in rfl ⟨rfl, rfl⟩ hdX7_in ⟨Nat.le_of_ble_eq_true rfl, Nat.le_of_ble_eq_true rfl⟩ rfl hl.1 rfl (Nat.le_of_ble_eq_true rfl) ⟨Nat.le_of_ble_eq_true rfl, Nat.le_of_ble_eq_true rfl⟩ [] rfl rfl rfl (setB_same _ _ _ rfl) rfl dX7_count_3 (fun H locs hP hD hS => ?_)
  refine lv_if_eq (tgt := 18) hx hb dX7_count_6 (by decide) (fun c2 => ?_) (fun c2 => ?_)
  · have hf := (o_i hf).1 c2
    refine lv_iload_n hx hb dX7_count_18 rfl (lv_at hl 1 rfl) ?_
    refine lv_iconst (v := 4) hx hb dX7_count_19 (by decide) ?_
    refine lv_icmp_ne (tgt := 30) hx hb dX7_count_20 (by decide) (fun c3 => ?_) (fun c3 => ?_)
    · have hf := (o_i hf).2 c3
      refine lv_aload_n hx hb dX7_count_30 rfl (lv_at hl 0 rfl) ?_
      obtain ⟨g4, hg4, hf⟩ := o_b hf
      refine bVi (Bs' := [wX7 G a a_book a_spare a_images a_kept a_text a_length g4.2 a_items a_many a_at a_sort a_start a_size a_due a_rung a_anywhere]) C hP hD hS (tX7_bad l G a a_book a_spare a_images a_kept a_text a_length a_refused a_items a_many a_at a_sort a_start a_size a_due a_rung a_anywhere g4 hg4) gX7_count_X7_bad rfl ⟨rfl, rfl⟩ hdX7_bad ⟨Nat.le_of_ble_eq_true rfl, Nat.le_of_ble_eq_true rfl⟩ rfl hl.1 rfl (Nat.le_of_ble_eq_true rfl) ⟨Nat.le_of_ble_eq_true rfl, Nat.le_of_ble_eq_true rfl⟩ [0] rfl rfl rfl rfl rfl (ci := 7) (q0 := 0) rfl rfl rfl dX7_count_31 (fun H locs hP hD hS => ?_)
      have hP : va_P G.1 vwCl (flat [wX7 G a a_book a_spare a_images a_kept a_text a_length g4.2 a_items a_many a_at a_sort a_start a_size a_due a_rung a_anywhere]) H := hP
      have hD : va_D A (flat [wX7 G a a_book a_spare a_images a_kept a_text a_length g4.2 a_items a_many a_at a_sort a_start a_size a_due a_rung a_anywhere]) := hD
      have e9 := Option.some.inj hf
      subst e9
      exact rt_i C hP hS rfl dX7_count_34
    have hf := (o_i hf).1 c3
    refine lv_aload_n hx hb dX7_count_23 rfl (lv_at hl 0 rfl) ?_
    refine va_get (D := G.1) (ci := 7) (v := .int a_length) (C := RX7) (T := TX7) (N := 16) hx hb hts iiX7_count_X7 hown hK hP 0 rfl rfl 5 (by decide) (hts _ mmX7_count_1) (fun _ h9 => h9) rfl dX7_count_24 ?_
    refine lv_goto (tgt := 34) hx hb dX7_count_27 (by decide) ?_
    have e9 := Option.some.inj hf
    subst e9
    exact rt_i C hP hS rfl dX7_count_34
  have hf := (o_i hf).2 c2
  refine lv_aload_n hx hb dX7_count_9 rfl (lv_at hl 0 rfl) ?_
  refine va_get (D := G.1) (ci := 7) (v := .ref (a 1)) (C := RX7) (T := TX7) (N := 16) hx hb hts iiX7_count_X7 hown hK hP 0 rfl rfl 0 (by decide) (hts _ mmX7_count_2) (fun _ h9 => h9) rfl dX7_count_10 ?_
  refine lv_iload_n hx hb dX7_count_13 rfl (lv_at hl 1 rfl) ?_
  obtain ⟨z5, hz5, hf⟩ := o_b hf
  refine k_iald hx hb hK hP 1 0 rfl rfl hz5 dX7_count_14 ?_
  refine lv_goto (tgt := 34) hx hb dX7_count_15 (by decide) ?_
  have e9 := Option.some.inj hf
  subst e9
  exact rt_i C hP hS rfl dX7_count_34

/-! RX7 digest()J -/
theorem mmX7_digest_0 : (Cond.constantLong RX7 207 (727)) ∈ wsX7_digest := by decide +kernel
theorem mmX7_digest_1 : (Cond.constantLong RX7 209 (31)) ∈ wsX7_digest := by decide +kernel
theorem iiX7_digest_X7 : ∀ w ∈ wsX70, w ∈ wsX7_digest := by decide +kernel
theorem mmX7_digest_3 : (Cond.fieldLink RX7 7 "BlindBellsModel" "book" "[I") ∈ wsX7_digest := by decide +kernel
theorem mmX7_digest_4 : (Cond.fieldLink RX7 94 "BlindBellsModel" "length" "I") ∈ wsX7_digest := by decide +kernel
theorem hdX7_digest : yX7_digest.cls = RX7 ∧ yX7_digest.cls ≠ "java/lang/invoke/MethodHandle" ∧ yX7_digest.cls ≠ "java/lang/invoke/VarHandle" ∧ (parseMethodDescriptor yX7_digest.desc).map (fun d => d.parameters.length) = some 0 := by decide +kernel
abbrev rmX7_digest : Room := { frames := 0, cells := 0, slots := 0, locals := 0 }
set_option maxHeartbeats 4000000 in
set_option maxRecDepth 100000 in
theorem lX7_digest_6 {p : Program} {e : Env} {s : State} {m : MethodId} {args : Array Value} {below : List Frame} {meth : Method} {c : Code} {A : Nat → Prop} (l : Launch) (G : GG) (C : Cx p m c cX7_digest 5 s args wsX7_digest RX7 meth (some .long) G A) (a : Nat → Nat) (a_book : Nat → Int32) (a_spare : Nat → Int32) (a_images : Nat → Int32) (a_kept : Nat → Int32) (a_text : Nat → Int32) (a_length : Int32) (a_refused : Nat → Int32) (a_items : Nat → Int32) (a_many : Int32) (a_at : Int32) (a_sort : Int32) (a_start : Int32) (a_size : Int32) (a_due : Nat → Int32) (a_rung : Nat → Int32) (a_anywhere : Nat → Int32)  (out : Int64) (kx : Int64 → Int32 → Option (Int64)) (HX : ∀ (x1_6 : Int64) (x3_6 : Int32) (H : Heap) (locs : List Loc) (ls : Array Slot), va_P G.1 vwCl (flat [wX7 G a a_book a_spare a_images a_kept a_text a_length a_refused a_items a_many a_at a_sort a_start a_size a_due a_rung a_anywhere]) H → va_D A (flat [wX7 G a a_book a_spare a_images a_kept a_text a_length a_refused a_items a_many a_at a_sort a_start a_size a_due a_rung a_anywhere]) → va_S A s.heap H locs → lv_has ls 5 [(0, .ref (a 0)), (1, .long x1_6), (3, .int x3_6)] → kx x1_6 x3_6 = some out → W p l e rmX7_digest s m args below meth c H locs 0 0 (MQ below (QL G A out (flat [wX7 G a a_book a_spare a_images a_kept a_text a_length a_refused a_items a_many a_at a_sort a_start a_size a_due a_rung a_anywhere])) args s 0 0 A) (F0 m 31 ls [])) : ∀ (n : Nat) (x1_6 : Int64) (x3_6 : Int32) (H : Heap) (locs : List Loc) (ls : Array Slot), va_P G.1 vwCl (flat [wX7 G a a_book a_spare a_images a_kept a_text a_length a_refused a_items a_many a_at a_sort a_start a_size a_due a_rung a_anywhere]) H → va_D A (flat [wX7 G a a_book a_spare a_images a_kept a_text a_length a_refused a_items a_many a_at a_sort a_start a_size a_due a_rung a_anywhere]) → va_S A s.heap H locs → lv_has ls 5 [(0, .ref (a 0)), (1, .long x1_6), (3, .int x3_6)] → fX7_digest_6 a_book kx n x1_6 x3_6 = some out → W p l e rmX7_digest s m args below meth c H locs 0 0 (MQ below (QL G A out (flat [wX7 G a a_book a_spare a_images a_kept a_text a_length a_refused a_items a_many a_at a_sort a_start a_size a_due a_rung a_anywhere])) args s 0 0 A) (F0 m 6 ls []) := by
  obtain ⟨⟨hx, hb, hml, hown, hts⟩, hr, hlocks, hK, hN, hE, hA⟩ := id C
  intro n
  induction n with
  | zero =>
    intro x1_6 x3_6 H locs ls hP hD hS hl hf
    exact absurd (show (none : Option (Int64)) = some out from hf) (by intro q9; cases q9)
  | succ n ih =>
    intro x1_6 x3_6 H locs ls hP hD hS hl hf
    rw [fX7_digest_6] at hf
    refine lv_iload_n hx hb dX7_digest_6 rfl (lv_at hl 2 rfl) ?_
    refine lv_iconst (v := 4) hx hb dX7_digest_7 (by decide) ?_
    refine lv_icmp_ge (tgt := 31) hx hb dX7_digest_8 (by decide) (fun c1 => ?_) (fun c1 => ?_)
    · have hf := (o_i hf).1 c1
      exact HX _ _ _ _ _ hP hD hS (lv_sub hl [0, 1, 2] rfl) hf
    have hf := (o_i hf).2 c1
    refine lv_ldc2 (v := 31) hx hb hown (hts _ mmX7_digest_1) dX7_digest_11 ?_
    refine lv_lload_n hx hb dX7_digest_14 rfl (lv_at hl 1 rfl) ?_
    refine lv_lmul hx hb dX7_digest_15 ?_
    refine lv_aload_n hx hb dX7_digest_16 rfl (lv_at hl 0 rfl) ?_
    refine va_get (D := G.1) (ci := 7) (v := .ref (a 1)) (C := RX7) (T := TX7) (N := 16) hx hb hts iiX7_digest_X7 hown hK hP 0 rfl rfl 0 (by decide) (hts _ mmX7_digest_3) (fun _ h9 => h9) rfl dX7_digest_17 ?_
    refine lv_iload_n hx hb dX7_digest_20 rfl (lv_at hl 2 rfl) ?_
    obtain ⟨z2, hz2, hf⟩ := o_b hf
    refine k_iald hx hb hK hP 1 0 rfl rfl hz2 dX7_digest_21 ?_
    refine lv_i2l (v := z2.toInt64) hx hb dX7_digest_22 rfl ?_
    refine lv_ladd hx hb dX7_digest_23 ?_
    refine at_pc (pc' := 24) rfl ?_
    refine lv_lstore_n (lv' := [(1, .long ((31 * x1_6) + z2.toInt64)), (0, .ref (a 0)), (3, .int x3_6)]) hx hb dX7_digest_24 rfl hl (by decide) rfl (fun ls hl => ?_)
    refine lv_iinc (v := x3_6 + 1) (lv' := [(3, .int (x3_6 + 1)), (1, .long ((31 * x1_6) + z2.toInt64)), (0, .ref (a 0))]) hx hb dX7_digest_25 hl (k := 2) rfl (congrArg (fun z => x3_6 + z) (by decide)) (by decide) rfl (fun ls hl => ?_)
    refine lv_goto (tgt := 6) hx hb dX7_digest_28 (by decide) ?_
    exact ih _ _ _ _ _ hP hD hS (lv_sub hl [2, 1, 0] rfl) hf
set_option maxHeartbeats 4000000 in
set_option maxRecDepth 100000 in
theorem lX7_digest_104 {p : Program} {e : Env} {s : State} {m : MethodId} {args : Array Value} {below : List Frame} {meth : Method} {c : Code} {A : Nat → Prop} (l : Launch) (G : GG) (C : Cx p m c cX7_digest 5 s args wsX7_digest RX7 meth (some .long) G A) (a : Nat → Nat) (a_book : Nat → Int32) (a_spare : Nat → Int32) (a_images : Nat → Int32) (a_kept : Nat → Int32) (a_text : Nat → Int32) (a_length : Int32) (a_refused : Nat → Int32) (a_items : Nat → Int32) (a_many : Int32) (a_at : Int32) (a_sort : Int32) (a_start : Int32) (a_size : Int32) (a_due : Nat → Int32) (a_rung : Nat → Int32) (a_anywhere : Nat → Int32) (x3_45 : Int32) (out : Int64) (kx : Int64 → Int32 → Option (Int64)) (HX : ∀ (x1_104 : Int64) (x4_104 : Int32) (H : Heap) (locs : List Loc) (ls : Array Slot), va_P G.1 vwCl (flat [wX7 G a a_book a_spare a_images a_kept a_text a_length a_refused a_items a_many a_at a_sort a_start a_size a_due a_rung a_anywhere]) H → va_D A (flat [wX7 G a a_book a_spare a_images a_kept a_text a_length a_refused a_items a_many a_at a_sort a_start a_size a_due a_rung a_anywhere]) → va_S A s.heap H locs → lv_has ls 5 [(0, .ref (a 0)), (1, .long x1_104), (3, .int x3_45), (4, .int x4_104)] → kx x1_104 x4_104 = some out → W p l e rmX7_digest s m args below meth c H locs 0 0 (MQ below (QL G A out (flat [wX7 G a a_book a_spare a_images a_kept a_text a_length a_refused a_items a_many a_at a_sort a_start a_size a_due a_rung a_anywhere])) args s 0 0 A) (F0 m 138 ls [])) : ∀ (n : Nat) (x1_104 : Int64) (x4_104 : Int32) (H : Heap) (locs : List Loc) (ls : Array Slot), va_P G.1 vwCl (flat [wX7 G a a_book a_spare a_images a_kept a_text a_length a_refused a_items a_many a_at a_sort a_start a_size a_due a_rung a_anywhere]) H → va_D A (flat [wX7 G a a_book a_spare a_images a_kept a_text a_length a_refused a_items a_many a_at a_sort a_start a_size a_due a_rung a_anywhere]) → va_S A s.heap H locs → lv_has ls 5 [(0, .ref (a 0)), (1, .long x1_104), (3, .int x3_45), (4, .int x4_104)] → fX7_digest_104 a_book x3_45 kx n x1_104 x4_104 = some out → W p l e rmX7_digest s m args below meth c H locs 0 0 (MQ below (QL G A out (flat [wX7 G a a_book a_spare a_images a_kept a_text a_length a_refused a_items a_many a_at a_sort a_start a_size a_due a_rung a_anywhere])) args s 0 0 A) (F0 m 104 ls []) := by
  obtain ⟨⟨hx, hb, hml, hown, hts⟩, hr, hlocks, hK, hN, hE, hA⟩ := id C
  intro n
  induction n with
  | zero =>
    intro x1_104 x4_104 H locs ls hP hD hS hl hf
    exact absurd (show (none : Option (Int64)) = some out from hf) (by intro q9; cases q9)
  | succ n ih =>
    intro x1_104 x4_104 H locs ls hP hD hS hl hf
    rw [fX7_digest_104] at hf
    refine lv_iload hx hb dX7_digest_104 (lv_at hl 3 rfl) ?_
    refine lv_iconst (v := 4) hx hb dX7_digest_106 (by decide) ?_
    refine lv_icmp_ge (tgt := 138) hx hb dX7_digest_107 (by decide) (fun c10 => ?_) (fun c10 => ?_)
    · have hf := (o_i hf).1 c10
      exact HX _ _ _ _ _ hP hD hS (lv_sub hl [0, 1, 2, 3] rfl) hf
    have hf := (o_i hf).2 c10
    refine lv_ldc2 (v := 31) hx hb hown (hts _ mmX7_digest_1) dX7_digest_110 ?_
    refine lv_lload_n hx hb dX7_digest_113 rfl (lv_at hl 1 rfl) ?_
    refine lv_lmul hx hb dX7_digest_114 ?_
    refine lv_aload_n hx hb dX7_digest_115 rfl (lv_at hl 0 rfl) ?_
    refine va_get (D := G.1) (ci := 7) (v := .ref (a 1)) (C := RX7) (T := TX7) (N := 16) hx hb hts iiX7_digest_X7 hown hK hP 0 rfl rfl 0 (by decide) (hts _ mmX7_digest_3) (fun _ h9 => h9) rfl dX7_digest_116 ?_
    refine lv_bipush (v := 22) hx hb dX7_digest_119 (by decide) ?_
    refine lv_iconst (v := 4) hx hb dX7_digest_121 (by decide) ?_
    refine lv_iload_n hx hb dX7_digest_122 rfl (lv_at hl 2 rfl) ?_
    refine lv_imul hx hb dX7_digest_123 ?_
    refine at_pc (pc' := 124) rfl ?_
    refine lv_iadd hx hb dX7_digest_124 ?_
    refine lv_iload hx hb dX7_digest_125 (lv_at hl 3 rfl) ?_
    refine lv_iadd hx hb dX7_digest_127 ?_
    obtain ⟨z11, hz11, hf⟩ := o_b hf
    refine k_iald hx hb hK hP 1 0 rfl rfl hz11 dX7_digest_128 ?_
    refine lv_i2l (v := z11.toInt64) hx hb dX7_digest_129 rfl ?_
    refine lv_ladd hx hb dX7_digest_130 ?_
    refine lv_lstore_n (lv' := [(1, .long ((31 * x1_104) + z11.toInt64)), (0, .ref (a 0)), (3, .int x3_45), (4, .int x4_104)]) hx hb dX7_digest_131 rfl hl (by decide) rfl (fun ls hl => ?_)
    refine lv_iinc (v := x4_104 + 1) (lv' := [(4, .int (x4_104 + 1)), (1, .long ((31 * x1_104) + z11.toInt64)), (0, .ref (a 0)), (3, .int x3_45)]) hx hb dX7_digest_132 hl (k := 3) rfl (congrArg (fun z => x4_104 + z) (by decide)) (by decide) rfl (fun ls hl => ?_)
    refine lv_goto (tgt := 104) hx hb dX7_digest_135 (by decide) ?_
    exact ih _ _ _ _ _ hP hD hS (lv_sub hl [2, 1, 3, 0] rfl) hf
set_option maxHeartbeats 4000000 in
set_option maxRecDepth 100000 in
theorem lX7_digest_45 {p : Program} {e : Env} {s : State} {m : MethodId} {args : Array Value} {below : List Frame} {meth : Method} {c : Code} {A : Nat → Prop} (l : Launch) (G : GG) (C : Cx p m c cX7_digest 5 s args wsX7_digest RX7 meth (some .long) G A) (a : Nat → Nat) (a_book : Nat → Int32) (a_spare : Nat → Int32) (a_images : Nat → Int32) (a_kept : Nat → Int32) (a_text : Nat → Int32) (a_length : Int32) (a_refused : Nat → Int32) (a_items : Nat → Int32) (a_many : Int32) (a_at : Int32) (a_sort : Int32) (a_start : Int32) (a_size : Int32) (a_due : Nat → Int32) (a_rung : Nat → Int32) (a_anywhere : Nat → Int32)  (out : Int64) (kx : Int64 → Int32 → Option (Int64)) (HX : ∀ (x1_45 : Int64) (x3_45 : Int32) (H : Heap) (locs : List Loc) (ls : Array Slot), va_P G.1 vwCl (flat [wX7 G a a_book a_spare a_images a_kept a_text a_length a_refused a_items a_many a_at a_sort a_start a_size a_due a_rung a_anywhere]) H → va_D A (flat [wX7 G a a_book a_spare a_images a_kept a_text a_length a_refused a_items a_many a_at a_sort a_start a_size a_due a_rung a_anywhere]) → va_S A s.heap H locs → lv_has ls 5 [(0, .ref (a 0)), (1, .long x1_45), (3, .int x3_45)] → kx x1_45 x3_45 = some out → W p l e rmX7_digest s m args below meth c H locs 0 0 (MQ below (QL G A out (flat [wX7 G a a_book a_spare a_images a_kept a_text a_length a_refused a_items a_many a_at a_sort a_start a_size a_due a_rung a_anywhere])) args s 0 0 A) (F0 m 144 ls [])) : ∀ (n : Nat) (x1_45 : Int64) (x3_45 : Int32) (H : Heap) (locs : List Loc) (ls : Array Slot), va_P G.1 vwCl (flat [wX7 G a a_book a_spare a_images a_kept a_text a_length a_refused a_items a_many a_at a_sort a_start a_size a_due a_rung a_anywhere]) H → va_D A (flat [wX7 G a a_book a_spare a_images a_kept a_text a_length a_refused a_items a_many a_at a_sort a_start a_size a_due a_rung a_anywhere]) → va_S A s.heap H locs → lv_has ls 5 [(0, .ref (a 0)), (1, .long x1_45), (3, .int x3_45)] → fX7_digest_45 a_book kx n x1_45 x3_45 = some out → W p l e rmX7_digest s m args below meth c H locs 0 0 (MQ below (QL G A out (flat [wX7 G a a_book a_spare a_images a_kept a_text a_length a_refused a_items a_many a_at a_sort a_start a_size a_due a_rung a_anywhere])) args s 0 0 A) (F0 m 45 ls []) := by
  obtain ⟨⟨hx, hb, hml, hown, hts⟩, hr, hlocks, hK, hN, hE, hA⟩ := id C
  intro n
  induction n with
  | zero =>
    intro x1_45 x3_45 H locs ls hP hD hS hl hf
    exact absurd (show (none : Option (Int64)) = some out from hf) (by intro q9; cases q9)
  | succ n ih =>
    intro x1_45 x3_45 H locs ls hP hD hS hl hf
    rw [fX7_digest_45] at hf
    refine lv_iload_n hx hb dX7_digest_45 rfl (lv_at hl 2 rfl) ?_
    refine lv_aload_n hx hb dX7_digest_46 rfl (lv_at hl 0 rfl) ?_
    refine va_get (D := G.1) (ci := 7) (v := .ref (a 1)) (C := RX7) (T := TX7) (N := 16) hx hb hts iiX7_digest_X7 hown hK hP 0 rfl rfl 0 (by decide) (hts _ mmX7_digest_3) (fun _ h9 => h9) rfl dX7_digest_47 ?_
    refine lv_iconst (v := 0) hx hb dX7_digest_50 (by decide) ?_
    obtain ⟨z5, hz5, hf⟩ := o_b hf
    refine k_iald hx hb hK hP 1 0 rfl rfl hz5 dX7_digest_51 ?_
    refine lv_icmp_ge (tgt := 144) hx hb dX7_digest_52 (by decide) (fun c6 => ?_) (fun c6 => ?_)
    · have hf := (o_i hf).1 c6
      exact HX _ _ _ _ _ hP hD hS (lv_sub hl [0, 1, 2] rfl) hf
    have hf := (o_i hf).2 c6
    refine lv_ldc2 (v := 31) hx hb hown (hts _ mmX7_digest_1) dX7_digest_55 ?_
    refine lv_ldc2 (v := 31) hx hb hown (hts _ mmX7_digest_1) dX7_digest_58 ?_
    refine lv_ldc2 (v := 31) hx hb hown (hts _ mmX7_digest_1) dX7_digest_61 ?_
    refine lv_lload_n hx hb dX7_digest_64 rfl (lv_at hl 1 rfl) ?_
    refine lv_lmul hx hb dX7_digest_65 ?_
    refine lv_aload_n hx hb dX7_digest_66 rfl (lv_at hl 0 rfl) ?_
    refine va_get (D := G.1) (ci := 7) (v := .ref (a 1)) (C := RX7) (T := TX7) (N := 16) hx hb hts iiX7_digest_X7 hown hK hP 0 rfl rfl 0 (by decide) (hts _ mmX7_digest_3) (fun _ h9 => h9) rfl dX7_digest_67 ?_
    refine lv_iconst (v := 4) hx hb dX7_digest_70 (by decide) ?_
    refine lv_iload_n hx hb dX7_digest_71 rfl (lv_at hl 2 rfl) ?_
    refine at_pc (pc' := 72) rfl ?_
    refine lv_iadd hx hb dX7_digest_72 ?_
    obtain ⟨z7, hz7, hf⟩ := o_b hf
    refine k_iald hx hb hK hP 1 0 rfl rfl hz7 dX7_digest_73 ?_
    refine lv_i2l (v := z7.toInt64) hx hb dX7_digest_74 rfl ?_
    refine lv_ladd hx hb dX7_digest_75 ?_
    refine lv_lmul hx hb dX7_digest_76 ?_
    refine lv_aload_n hx hb dX7_digest_77 rfl (lv_at hl 0 rfl) ?_
    refine va_get (D := G.1) (ci := 7) (v := .ref (a 1)) (C := RX7) (T := TX7) (N := 16) hx hb hts iiX7_digest_X7 hown hK hP 0 rfl rfl 0 (by decide) (hts _ mmX7_digest_3) (fun _ h9 => h9) rfl dX7_digest_78 ?_
    refine lv_bipush (v := 10) hx hb dX7_digest_81 (by decide) ?_
    refine lv_iload_n hx hb dX7_digest_83 rfl (lv_at hl 2 rfl) ?_
    refine lv_iadd hx hb dX7_digest_84 ?_
    refine at_pc (pc' := 85) rfl ?_
    obtain ⟨z8, hz8, hf⟩ := o_b hf
    refine k_iald hx hb hK hP 1 0 rfl rfl hz8 dX7_digest_85 ?_
    refine lv_i2l (v := z8.toInt64) hx hb dX7_digest_86 rfl ?_
    refine lv_ladd hx hb dX7_digest_87 ?_
    refine lv_lmul hx hb dX7_digest_88 ?_
    refine lv_aload_n hx hb dX7_digest_89 rfl (lv_at hl 0 rfl) ?_
    refine va_get (D := G.1) (ci := 7) (v := .ref (a 1)) (C := RX7) (T := TX7) (N := 16) hx hb hts iiX7_digest_X7 hown hK hP 0 rfl rfl 0 (by decide) (hts _ mmX7_digest_3) (fun _ h9 => h9) rfl dX7_digest_90 ?_
    refine lv_bipush (v := 16) hx hb dX7_digest_93 (by decide) ?_
    refine lv_iload_n hx hb dX7_digest_95 rfl (lv_at hl 2 rfl) ?_
    refine lv_iadd hx hb dX7_digest_96 ?_
    obtain ⟨z9, hz9, hf⟩ := o_b hf
    refine k_iald hx hb hK hP 1 0 rfl rfl hz9 dX7_digest_97 ?_
    refine at_pc (pc' := 98) rfl ?_
    refine lv_i2l (v := z9.toInt64) hx hb dX7_digest_98 rfl ?_
    refine lv_ladd hx hb dX7_digest_99 ?_
    refine lv_lstore_n (lv' := [(1, .long ((31 * ((31 * ((31 * x1_45) + z7.toInt64)) + z8.toInt64)) + z9.toInt64)), (0, .ref (a 0)), (3, .int x3_45)]) hx hb dX7_digest_100 rfl hl (by decide) rfl (fun ls hl => ?_)
    refine lv_iconst (v := 0) hx hb dX7_digest_101 (by decide) ?_
    refine lv_istore (lv' := [(4, .int 0), (1, .long ((31 * ((31 * ((31 * x1_45) + z7.toInt64)) + z8.toInt64)) + z9.toInt64)), (0, .ref (a 0)), (3, .int x3_45)]) hx hb dX7_digest_102 hl (by decide) rfl (fun ls hl => ?_)
    refine lX7_digest_104 l G C a a_book a_spare a_images a_kept a_text a_length a_refused a_items a_many a_at a_sort a_start a_size a_due a_rung a_anywhere x3_45 out _ (fun x1_104_12 x4_104_13 H locs ls hP hD hS hl hf => ?_) fu ((31 * ((31 * ((31 * x1_45) + z7.toInt64)) + z8.toInt64)) + z9.toInt64) 0 _ _ _ hP hD hS (lv_sub hl [2, 1, 3, 0] rfl) hf
    refine lv_iinc (v := x3_45 + 1) (lv' := [(3, .int (x3_45 + 1)), (0, .ref (a 0)), (1, .long x1_104_12), (4, .int x4_104_13)]) hx hb dX7_digest_138 hl (k := 2) rfl (congrArg (fun z => x3_45 + z) (by decide)) (by decide) rfl (fun ls hl => ?_)
    refine lv_goto (tgt := 45) hx hb dX7_digest_141 (by decide) ?_
    exact ih _ _ _ _ _ hP hD hS (lv_sub hl [1, 2, 0] rfl) hf
set_option maxHeartbeats 4000000 in
set_option maxRecDepth 100000 in
theorem lX7_digest_146 {p : Program} {e : Env} {s : State} {m : MethodId} {args : Array Value} {below : List Frame} {meth : Method} {c : Code} {A : Nat → Prop} (l : Launch) (G : GG) (C : Cx p m c cX7_digest 5 s args wsX7_digest RX7 meth (some .long) G A) (a : Nat → Nat) (a_book : Nat → Int32) (a_spare : Nat → Int32) (a_images : Nat → Int32) (a_kept : Nat → Int32) (a_text : Nat → Int32) (a_length : Int32) (a_refused : Nat → Int32) (a_items : Nat → Int32) (a_many : Int32) (a_at : Int32) (a_sort : Int32) (a_start : Int32) (a_size : Int32) (a_due : Nat → Int32) (a_rung : Nat → Int32) (a_anywhere : Nat → Int32)  (out : Int64) (kx : Int64 → Int32 → Option (Int64)) (HX : ∀ (x1_146 : Int64) (x3_146 : Int32) (H : Heap) (locs : List Loc) (ls : Array Slot), va_P G.1 vwCl (flat [wX7 G a a_book a_spare a_images a_kept a_text a_length a_refused a_items a_many a_at a_sort a_start a_size a_due a_rung a_anywhere]) H → va_D A (flat [wX7 G a a_book a_spare a_images a_kept a_text a_length a_refused a_items a_many a_at a_sort a_start a_size a_due a_rung a_anywhere]) → va_S A s.heap H locs → lv_has ls 5 [(0, .ref (a 0)), (1, .long x1_146), (3, .int x3_146)] → kx x1_146 x3_146 = some out → W p l e rmX7_digest s m args below meth c H locs 0 0 (MQ below (QL G A out (flat [wX7 G a a_book a_spare a_images a_kept a_text a_length a_refused a_items a_many a_at a_sort a_start a_size a_due a_rung a_anywhere])) args s 0 0 A) (F0 m 194 ls [])) : ∀ (n : Nat) (x1_146 : Int64) (x3_146 : Int32) (H : Heap) (locs : List Loc) (ls : Array Slot), va_P G.1 vwCl (flat [wX7 G a a_book a_spare a_images a_kept a_text a_length a_refused a_items a_many a_at a_sort a_start a_size a_due a_rung a_anywhere]) H → va_D A (flat [wX7 G a a_book a_spare a_images a_kept a_text a_length a_refused a_items a_many a_at a_sort a_start a_size a_due a_rung a_anywhere]) → va_S A s.heap H locs → lv_has ls 5 [(0, .ref (a 0)), (1, .long x1_146), (3, .int x3_146)] → fX7_digest_146 a_book kx n x1_146 x3_146 = some out → W p l e rmX7_digest s m args below meth c H locs 0 0 (MQ below (QL G A out (flat [wX7 G a a_book a_spare a_images a_kept a_text a_length a_refused a_items a_many a_at a_sort a_start a_size a_due a_rung a_anywhere])) args s 0 0 A) (F0 m 146 ls []) := by
  obtain ⟨⟨hx, hb, hml, hown, hts⟩, hr, hlocks, hK, hN, hE, hA⟩ := id C
  intro n
  induction n with
  | zero =>
    intro x1_146 x3_146 H locs ls hP hD hS hl hf
    exact absurd (show (none : Option (Int64)) = some out from hf) (by intro q9; cases q9)
  | succ n ih =>
    intro x1_146 x3_146 H locs ls hP hD hS hl hf
    rw [fX7_digest_146] at hf
    refine lv_iload_n hx hb dX7_digest_146 rfl (lv_at hl 2 rfl) ?_
    refine lv_aload_n hx hb dX7_digest_147 rfl (lv_at hl 0 rfl) ?_
    refine va_get (D := G.1) (ci := 7) (v := .ref (a 1)) (C := RX7) (T := TX7) (N := 16) hx hb hts iiX7_digest_X7 hown hK hP 0 rfl rfl 0 (by decide) (hts _ mmX7_digest_3) (fun _ h9 => h9) rfl dX7_digest_148 ?_
    refine lv_iconst (v := 1) hx hb dX7_digest_151 (by decide) ?_
    obtain ⟨z16, hz16, hf⟩ := o_b hf
    refine k_iald hx hb hK hP 1 0 rfl rfl hz16 dX7_digest_152 ?_
    refine lv_icmp_ge (tgt := 194) hx hb dX7_digest_153 (by decide) (fun c17 => ?_) (fun c17 => ?_)
    · have hf := (o_i hf).1 c17
      exact HX _ _ _ _ _ hP hD hS (lv_sub hl [0, 1, 2] rfl) hf
    have hf := (o_i hf).2 c17
    refine lv_ldc2 (v := 31) hx hb hown (hts _ mmX7_digest_1) dX7_digest_156 ?_
    refine lv_ldc2 (v := 31) hx hb hown (hts _ mmX7_digest_1) dX7_digest_159 ?_
    refine lv_lload_n hx hb dX7_digest_162 rfl (lv_at hl 1 rfl) ?_
    refine lv_lmul hx hb dX7_digest_163 ?_
    refine lv_aload_n hx hb dX7_digest_164 rfl (lv_at hl 0 rfl) ?_
    refine va_get (D := G.1) (ci := 7) (v := .ref (a 1)) (C := RX7) (T := TX7) (N := 16) hx hb hts iiX7_digest_X7 hown hK hP 0 rfl rfl 0 (by decide) (hts _ mmX7_digest_3) (fun _ h9 => h9) rfl dX7_digest_165 ?_
    refine lv_bipush (v := 46) hx hb dX7_digest_168 (by decide) ?_
    refine lv_iload_n hx hb dX7_digest_170 rfl (lv_at hl 2 rfl) ?_
    refine lv_iadd hx hb dX7_digest_171 ?_
    refine at_pc (pc' := 172) rfl ?_
    obtain ⟨z18, hz18, hf⟩ := o_b hf
    refine k_iald hx hb hK hP 1 0 rfl rfl hz18 dX7_digest_172 ?_
    refine lv_i2l (v := z18.toInt64) hx hb dX7_digest_173 rfl ?_
    refine lv_ladd hx hb dX7_digest_174 ?_
    refine lv_lmul hx hb dX7_digest_175 ?_
    refine lv_aload_n hx hb dX7_digest_176 rfl (lv_at hl 0 rfl) ?_
    refine va_get (D := G.1) (ci := 7) (v := .ref (a 1)) (C := RX7) (T := TX7) (N := 16) hx hb hts iiX7_digest_X7 hown hK hP 0 rfl rfl 0 (by decide) (hts _ mmX7_digest_3) (fun _ h9 => h9) rfl dX7_digest_177 ?_
    refine lv_bipush (v := 54) hx hb dX7_digest_180 (by decide) ?_
    refine lv_iload_n hx hb dX7_digest_182 rfl (lv_at hl 2 rfl) ?_
    refine lv_iadd hx hb dX7_digest_183 ?_
    obtain ⟨z19, hz19, hf⟩ := o_b hf
    refine k_iald hx hb hK hP 1 0 rfl rfl hz19 dX7_digest_184 ?_
    refine at_pc (pc' := 185) rfl ?_
    refine lv_i2l (v := z19.toInt64) hx hb dX7_digest_185 rfl ?_
    refine lv_ladd hx hb dX7_digest_186 ?_
    refine lv_lstore_n (lv' := [(1, .long ((31 * ((31 * x1_146) + z18.toInt64)) + z19.toInt64)), (0, .ref (a 0)), (3, .int x3_146)]) hx hb dX7_digest_187 rfl hl (by decide) rfl (fun ls hl => ?_)
    refine lv_iinc (v := x3_146 + 1) (lv' := [(3, .int (x3_146 + 1)), (1, .long ((31 * ((31 * x1_146) + z18.toInt64)) + z19.toInt64)), (0, .ref (a 0))]) hx hb dX7_digest_188 hl (k := 2) rfl (congrArg (fun z => x3_146 + z) (by decide)) (by decide) rfl (fun ls hl => ?_)
    refine lv_goto (tgt := 146) hx hb dX7_digest_191 (by decide) ?_
    exact ih _ _ _ _ _ hP hD hS (lv_sub hl [2, 1, 0] rfl) hf
set_option maxHeartbeats 4000000 in
set_option maxRecDepth 100000 in
theorem lX7_digest_196 {p : Program} {e : Env} {s : State} {m : MethodId} {args : Array Value} {below : List Frame} {meth : Method} {c : Code} {A : Nat → Prop} (l : Launch) (G : GG) (C : Cx p m c cX7_digest 5 s args wsX7_digest RX7 meth (some .long) G A) (a : Nat → Nat) (a_book : Nat → Int32) (a_spare : Nat → Int32) (a_images : Nat → Int32) (a_kept : Nat → Int32) (a_text : Nat → Int32) (a_length : Int32) (a_refused : Nat → Int32) (a_items : Nat → Int32) (a_many : Int32) (a_at : Int32) (a_sort : Int32) (a_start : Int32) (a_size : Int32) (a_due : Nat → Int32) (a_rung : Nat → Int32) (a_anywhere : Nat → Int32)  (out : Int64) (kx : Int64 → Int32 → Option (Int64)) (HX : ∀ (x1_196 : Int64) (x3_196 : Int32) (H : Heap) (locs : List Loc) (ls : Array Slot), va_P G.1 vwCl (flat [wX7 G a a_book a_spare a_images a_kept a_text a_length a_refused a_items a_many a_at a_sort a_start a_size a_due a_rung a_anywhere]) H → va_D A (flat [wX7 G a a_book a_spare a_images a_kept a_text a_length a_refused a_items a_many a_at a_sort a_start a_size a_due a_rung a_anywhere]) → va_S A s.heap H locs → lv_has ls 5 [(0, .ref (a 0)), (1, .long x1_196), (3, .int x3_196)] → kx x1_196 x3_196 = some out → W p l e rmX7_digest s m args below meth c H locs 0 0 (MQ below (QL G A out (flat [wX7 G a a_book a_spare a_images a_kept a_text a_length a_refused a_items a_many a_at a_sort a_start a_size a_due a_rung a_anywhere])) args s 0 0 A) (F0 m 259 ls [])) : ∀ (n : Nat) (x1_196 : Int64) (x3_196 : Int32) (H : Heap) (locs : List Loc) (ls : Array Slot), va_P G.1 vwCl (flat [wX7 G a a_book a_spare a_images a_kept a_text a_length a_refused a_items a_many a_at a_sort a_start a_size a_due a_rung a_anywhere]) H → va_D A (flat [wX7 G a a_book a_spare a_images a_kept a_text a_length a_refused a_items a_many a_at a_sort a_start a_size a_due a_rung a_anywhere]) → va_S A s.heap H locs → lv_has ls 5 [(0, .ref (a 0)), (1, .long x1_196), (3, .int x3_196)] → fX7_digest_196 a_book kx n x1_196 x3_196 = some out → W p l e rmX7_digest s m args below meth c H locs 0 0 (MQ below (QL G A out (flat [wX7 G a a_book a_spare a_images a_kept a_text a_length a_refused a_items a_many a_at a_sort a_start a_size a_due a_rung a_anywhere])) args s 0 0 A) (F0 m 196 ls []) := by
  obtain ⟨⟨hx, hb, hml, hown, hts⟩, hr, hlocks, hK, hN, hE, hA⟩ := id C
  intro n
  induction n with
  | zero =>
    intro x1_196 x3_196 H locs ls hP hD hS hl hf
    exact absurd (show (none : Option (Int64)) = some out from hf) (by intro q9; cases q9)
  | succ n ih =>
    intro x1_196 x3_196 H locs ls hP hD hS hl hf
    rw [fX7_digest_196] at hf
    refine lv_iload_n hx hb dX7_digest_196 rfl (lv_at hl 2 rfl) ?_
    refine lv_aload_n hx hb dX7_digest_197 rfl (lv_at hl 0 rfl) ?_
    refine va_get (D := G.1) (ci := 7) (v := .ref (a 1)) (C := RX7) (T := TX7) (N := 16) hx hb hts iiX7_digest_X7 hown hK hP 0 rfl rfl 0 (by decide) (hts _ mmX7_digest_3) (fun _ h9 => h9) rfl dX7_digest_198 ?_
    refine lv_iconst (v := 2) hx hb dX7_digest_201 (by decide) ?_
    obtain ⟨z22, hz22, hf⟩ := o_b hf
    refine k_iald hx hb hK hP 1 0 rfl rfl hz22 dX7_digest_202 ?_
    refine lv_icmp_ge (tgt := 259) hx hb dX7_digest_203 (by decide) (fun c23 => ?_) (fun c23 => ?_)
    · have hf := (o_i hf).1 c23
      exact HX _ _ _ _ _ hP hD hS (lv_sub hl [0, 1, 2] rfl) hf
    have hf := (o_i hf).2 c23
    refine lv_ldc2 (v := 31) hx hb hown (hts _ mmX7_digest_1) dX7_digest_206 ?_
    refine lv_ldc2 (v := 31) hx hb hown (hts _ mmX7_digest_1) dX7_digest_209 ?_
    refine lv_ldc2 (v := 31) hx hb hown (hts _ mmX7_digest_1) dX7_digest_212 ?_
    refine lv_lload_n hx hb dX7_digest_215 rfl (lv_at hl 1 rfl) ?_
    refine lv_lmul hx hb dX7_digest_216 ?_
    refine lv_aload_n hx hb dX7_digest_217 rfl (lv_at hl 0 rfl) ?_
    refine va_get (D := G.1) (ci := 7) (v := .ref (a 1)) (C := RX7) (T := TX7) (N := 16) hx hb hts iiX7_digest_X7 hown hK hP 0 rfl rfl 0 (by decide) (hts _ mmX7_digest_3) (fun _ h9 => h9) rfl dX7_digest_218 ?_
    refine lv_bipush (v := 62) hx hb dX7_digest_221 (by decide) ?_
    refine lv_iload_n hx hb dX7_digest_223 rfl (lv_at hl 2 rfl) ?_
    refine at_pc (pc' := 224) rfl ?_
    refine lv_iadd hx hb dX7_digest_224 ?_
    obtain ⟨z24, hz24, hf⟩ := o_b hf
    refine k_iald hx hb hK hP 1 0 rfl rfl hz24 dX7_digest_225 ?_
    refine lv_i2l (v := z24.toInt64) hx hb dX7_digest_226 rfl ?_
    refine lv_ladd hx hb dX7_digest_227 ?_
    refine lv_lmul hx hb dX7_digest_228 ?_
    refine lv_aload_n hx hb dX7_digest_229 rfl (lv_at hl 0 rfl) ?_
    refine va_get (D := G.1) (ci := 7) (v := .ref (a 1)) (C := RX7) (T := TX7) (N := 16) hx hb hts iiX7_digest_X7 hown hK hP 0 rfl rfl 0 (by decide) (hts _ mmX7_digest_3) (fun _ h9 => h9) rfl dX7_digest_230 ?_
    refine lv_bipush (v := 74) hx hb dX7_digest_233 (by decide) ?_
    refine lv_iload_n hx hb dX7_digest_235 rfl (lv_at hl 2 rfl) ?_
    refine lv_iadd hx hb dX7_digest_236 ?_
    refine at_pc (pc' := 237) rfl ?_
    obtain ⟨z25, hz25, hf⟩ := o_b hf
    refine k_iald hx hb hK hP 1 0 rfl rfl hz25 dX7_digest_237 ?_
    refine lv_i2l (v := z25.toInt64) hx hb dX7_digest_238 rfl ?_
    refine lv_ladd hx hb dX7_digest_239 ?_
    refine lv_lmul hx hb dX7_digest_240 ?_
    refine lv_aload_n hx hb dX7_digest_241 rfl (lv_at hl 0 rfl) ?_
    refine va_get (D := G.1) (ci := 7) (v := .ref (a 1)) (C := RX7) (T := TX7) (N := 16) hx hb hts iiX7_digest_X7 hown hK hP 0 rfl rfl 0 (by decide) (hts _ mmX7_digest_3) (fun _ h9 => h9) rfl dX7_digest_242 ?_
    refine lv_bipush (v := 86) hx hb dX7_digest_245 (by decide) ?_
    refine lv_iload_n hx hb dX7_digest_247 rfl (lv_at hl 2 rfl) ?_
    refine lv_iadd hx hb dX7_digest_248 ?_
    obtain ⟨z26, hz26, hf⟩ := o_b hf
    refine k_iald hx hb hK hP 1 0 rfl rfl hz26 dX7_digest_249 ?_
    refine at_pc (pc' := 250) rfl ?_
    refine lv_i2l (v := z26.toInt64) hx hb dX7_digest_250 rfl ?_
    refine lv_ladd hx hb dX7_digest_251 ?_
    refine lv_lstore_n (lv' := [(1, .long ((31 * ((31 * ((31 * x1_196) + z24.toInt64)) + z25.toInt64)) + z26.toInt64)), (0, .ref (a 0)), (3, .int x3_196)]) hx hb dX7_digest_252 rfl hl (by decide) rfl (fun ls hl => ?_)
    refine lv_iinc (v := x3_196 + 1) (lv' := [(3, .int (x3_196 + 1)), (1, .long ((31 * ((31 * ((31 * x1_196) + z24.toInt64)) + z25.toInt64)) + z26.toInt64)), (0, .ref (a 0))]) hx hb dX7_digest_253 hl (k := 2) rfl (congrArg (fun z => x3_196 + z) (by decide)) (by decide) rfl (fun ls hl => ?_)
    refine lv_goto (tgt := 196) hx hb dX7_digest_256 (by decide) ?_
    exact ih _ _ _ _ _ hP hD hS (lv_sub hl [2, 1, 0] rfl) hf
set_option maxHeartbeats 4000000 in
set_option maxRecDepth 100000 in
theorem lX7_digest_261 {p : Program} {e : Env} {s : State} {m : MethodId} {args : Array Value} {below : List Frame} {meth : Method} {c : Code} {A : Nat → Prop} (l : Launch) (G : GG) (C : Cx p m c cX7_digest 5 s args wsX7_digest RX7 meth (some .long) G A) (a : Nat → Nat) (a_book : Nat → Int32) (a_spare : Nat → Int32) (a_images : Nat → Int32) (a_kept : Nat → Int32) (a_text : Nat → Int32) (a_length : Int32) (a_refused : Nat → Int32) (a_items : Nat → Int32) (a_many : Int32) (a_at : Int32) (a_sort : Int32) (a_start : Int32) (a_size : Int32) (a_due : Nat → Int32) (a_rung : Nat → Int32) (a_anywhere : Nat → Int32)  (out : Int64) (kx : Int64 → Int32 → Option (Int64)) (HX : ∀ (x1_261 : Int64) (x3_261 : Int32) (H : Heap) (locs : List Loc) (ls : Array Slot), va_P G.1 vwCl (flat [wX7 G a a_book a_spare a_images a_kept a_text a_length a_refused a_items a_many a_at a_sort a_start a_size a_due a_rung a_anywhere]) H → va_D A (flat [wX7 G a a_book a_spare a_images a_kept a_text a_length a_refused a_items a_many a_at a_sort a_start a_size a_due a_rung a_anywhere]) → va_S A s.heap H locs → lv_has ls 5 [(0, .ref (a 0)), (1, .long x1_261), (3, .int x3_261)] → kx x1_261 x3_261 = some out → W p l e rmX7_digest s m args below meth c H locs 0 0 (MQ below (QL G A out (flat [wX7 G a a_book a_spare a_images a_kept a_text a_length a_refused a_items a_many a_at a_sort a_start a_size a_due a_rung a_anywhere])) args s 0 0 A) (F0 m 294 ls [])) : ∀ (n : Nat) (x1_261 : Int64) (x3_261 : Int32) (H : Heap) (locs : List Loc) (ls : Array Slot), va_P G.1 vwCl (flat [wX7 G a a_book a_spare a_images a_kept a_text a_length a_refused a_items a_many a_at a_sort a_start a_size a_due a_rung a_anywhere]) H → va_D A (flat [wX7 G a a_book a_spare a_images a_kept a_text a_length a_refused a_items a_many a_at a_sort a_start a_size a_due a_rung a_anywhere]) → va_S A s.heap H locs → lv_has ls 5 [(0, .ref (a 0)), (1, .long x1_261), (3, .int x3_261)] → fX7_digest_261 a_book kx n x1_261 x3_261 = some out → W p l e rmX7_digest s m args below meth c H locs 0 0 (MQ below (QL G A out (flat [wX7 G a a_book a_spare a_images a_kept a_text a_length a_refused a_items a_many a_at a_sort a_start a_size a_due a_rung a_anywhere])) args s 0 0 A) (F0 m 261 ls []) := by
  obtain ⟨⟨hx, hb, hml, hown, hts⟩, hr, hlocks, hK, hN, hE, hA⟩ := id C
  intro n
  induction n with
  | zero =>
    intro x1_261 x3_261 H locs ls hP hD hS hl hf
    exact absurd (show (none : Option (Int64)) = some out from hf) (by intro q9; cases q9)
  | succ n ih =>
    intro x1_261 x3_261 H locs ls hP hD hS hl hf
    rw [fX7_digest_261] at hf
    refine lv_iload_n hx hb dX7_digest_261 rfl (lv_at hl 2 rfl) ?_
    refine lv_aload_n hx hb dX7_digest_262 rfl (lv_at hl 0 rfl) ?_
    refine va_get (D := G.1) (ci := 7) (v := .ref (a 1)) (C := RX7) (T := TX7) (N := 16) hx hb hts iiX7_digest_X7 hown hK hP 0 rfl rfl 0 (by decide) (hts _ mmX7_digest_3) (fun _ h9 => h9) rfl dX7_digest_263 ?_
    refine lv_iconst (v := 3) hx hb dX7_digest_266 (by decide) ?_
    obtain ⟨z29, hz29, hf⟩ := o_b hf
    refine k_iald hx hb hK hP 1 0 rfl rfl hz29 dX7_digest_267 ?_
    refine lv_icmp_ge (tgt := 294) hx hb dX7_digest_268 (by decide) (fun c30 => ?_) (fun c30 => ?_)
    · have hf := (o_i hf).1 c30
      exact HX _ _ _ _ _ hP hD hS (lv_sub hl [0, 1, 2] rfl) hf
    have hf := (o_i hf).2 c30
    refine lv_ldc2 (v := 31) hx hb hown (hts _ mmX7_digest_1) dX7_digest_271 ?_
    refine lv_lload_n hx hb dX7_digest_274 rfl (lv_at hl 1 rfl) ?_
    refine lv_lmul hx hb dX7_digest_275 ?_
    refine lv_aload_n hx hb dX7_digest_276 rfl (lv_at hl 0 rfl) ?_
    refine va_get (D := G.1) (ci := 7) (v := .ref (a 1)) (C := RX7) (T := TX7) (N := 16) hx hb hts iiX7_digest_X7 hown hK hP 0 rfl rfl 0 (by decide) (hts _ mmX7_digest_3) (fun _ h9 => h9) rfl dX7_digest_277 ?_
    refine lv_bipush (v := 98) hx hb dX7_digest_280 (by decide) ?_
    refine lv_iload_n hx hb dX7_digest_282 rfl (lv_at hl 2 rfl) ?_
    refine lv_iadd hx hb dX7_digest_283 ?_
    obtain ⟨z31, hz31, hf⟩ := o_b hf
    refine k_iald hx hb hK hP 1 0 rfl rfl hz31 dX7_digest_284 ?_
    refine at_pc (pc' := 285) rfl ?_
    refine lv_i2l (v := z31.toInt64) hx hb dX7_digest_285 rfl ?_
    refine lv_ladd hx hb dX7_digest_286 ?_
    refine lv_lstore_n (lv' := [(1, .long ((31 * x1_261) + z31.toInt64)), (0, .ref (a 0)), (3, .int x3_261)]) hx hb dX7_digest_287 rfl hl (by decide) rfl (fun ls hl => ?_)
    refine lv_iinc (v := x3_261 + 1) (lv' := [(3, .int (x3_261 + 1)), (1, .long ((31 * x1_261) + z31.toInt64)), (0, .ref (a 0))]) hx hb dX7_digest_288 hl (k := 2) rfl (congrArg (fun z => x3_261 + z) (by decide)) (by decide) rfl (fun ls hl => ?_)
    refine lv_goto (tgt := 261) hx hb dX7_digest_291 (by decide) ?_
    exact ih _ _ _ _ _ hP hD hS (lv_sub hl [2, 1, 0] rfl) hf
set_option maxHeartbeats 4000000 in
set_option maxRecDepth 100000 in
theorem tX7_digest (l : Launch) (G : GG) (a : Nat → Nat) (a_book : Nat → Int32) (a_spare : Nat → Int32) (a_images : Nat → Int32) (a_kept : Nat → Int32) (a_text : Nat → Int32) (a_length : Int32) (a_refused : Nat → Int32) (a_items : Nat → Int32) (a_many : Int32) (a_at : Int32) (a_sort : Int32) (a_start : Int32) (a_size : Int32) (a_due : Nat → Int32) (a_rung : Nat → Int32) (a_anywhere : Nat → Int32) (out : Int64) (hf : fX7_digest a_book a_length = some out) : cMl l G yX7_digest wsX7_digest rmX7_digest [.ref (a 0)] (flat [wX7 G a a_book a_spare a_images a_kept a_text a_length a_refused a_items a_many a_at a_sort a_start a_size a_due a_rung a_anywhere]) out (flat [wX7 G a a_book a_spare a_images a_kept a_text a_length a_refused a_items a_many a_at a_sort a_start a_size a_due a_rung a_anywhere]) := by
  intro sz
  refine met_of (cc := cX7_digest) (nL := 5) (ret := (some .long)) (Qc := fun A9 => QL G A9 out (flat [wX7 G a a_book a_spare a_images a_kept a_text a_length a_refused a_items a_many a_at a_sort a_start a_size a_due a_rung a_anywhere])) (by decide) rfl (Nat.le_of_ble_eq_true rfl) ?_
  intro p e s m args below meth c A ls C hP hD hS hl
  obtain ⟨⟨hx, hb, hml, hown, hts⟩, hr, hlocks, hK, hN, hE, hA⟩ := id C
  have hl : lv_has ls 5 [(0, .ref (a 0))] := hl
  unfold fX7_digest at hf
  refine lv_ldc2 (v := 727) hx hb hown (hts _ mmX7_digest_0) dX7_digest_0 ?_
  refine lv_lstore_n (lv' := [(1, .long 727), (0, .ref (a 0))]) hx hb dX7_digest_3 rfl hl (by decide) rfl (fun ls hl => ?_)
  refine lv_iconst (v := 0) hx hb dX7_digest_4 (by decide) ?_
  refine lv_istore_n (lv' := [(3, .int 0), (1, .long 727), (0, .ref (a 0))]) hx hb dX7_digest_5 rfl hl (by decide) rfl (fun ls hl => ?_)
  refine lX7_digest_6 l G C a a_book a_spare a_images a_kept a_text a_length a_refused a_items a_many a_at a_sort a_start a_size a_due a_rung a_anywhere out _ (fun x1_6_3 x3_6_4 H locs ls hP hD hS hl hf => ?_) fu 727 0 _ _ _ hP hD hS (lv_sub hl [2, 1, 0] rfl) hf
  refine lv_ldc2 (v := 31) hx hb hown (hts _ mmX7_digest_1) dX7_digest_31 ?_
  refine lv_lload_n hx hb dX7_digest_34 rfl (lv_at hl 1 rfl) ?_
  refine lv_lmul hx hb dX7_digest_35 ?_
  refine lv_aload_n hx hb dX7_digest_36 rfl (lv_at hl 0 rfl) ?_
  refine va_get (D := G.1) (ci := 7) (v := .int a_length) (C := RX7) (T := TX7) (N := 16) hx hb hts iiX7_digest_X7 hown hK hP 0 rfl rfl 5 (by decide) (hts _ mmX7_digest_4) (fun _ h9 => h9) rfl dX7_digest_37 ?_
  refine lv_i2l (v := a_length.toInt64) hx hb dX7_digest_40 rfl ?_
  refine lv_ladd hx hb dX7_digest_41 ?_
  refine lv_lstore_n (lv' := [(1, .long ((31 * x1_6_3) + a_length.toInt64)), (0, .ref (a 0)), (3, .int x3_6_4)]) hx hb dX7_digest_42 rfl hl (by decide) rfl (fun ls hl => ?_)
  refine lv_iconst (v := 0) hx hb dX7_digest_43 (by decide) ?_
  refine at_pc (pc' := 44) rfl ?_
  refine lv_istore_n (lv' := [(3, .int 0), (1, .long ((31 * x1_6_3) + a_length.toInt64)), (0, .ref (a 0))]) hx hb dX7_digest_44 rfl hl (by decide) rfl (fun ls hl => ?_)
  refine lX7_digest_45 l G C a a_book a_spare a_images a_kept a_text a_length a_refused a_items a_many a_at a_sort a_start a_size a_due a_rung a_anywhere out _ (fun x1_45_14 x3_45_15 H locs ls hP hD hS hl hf => ?_) fu ((31 * x1_6_3) + a_length.toInt64) 0 _ _ _ hP hD hS (lv_sub hl [2, 1, 0] rfl) hf
  refine lv_iconst (v := 0) hx hb dX7_digest_144 (by decide) ?_
  refine lv_istore_n (lv' := [(3, .int 0), (0, .ref (a 0)), (1, .long x1_45_14)]) hx hb dX7_digest_145 rfl hl (by decide) rfl (fun ls hl => ?_)
  refine lX7_digest_146 l G C a a_book a_spare a_images a_kept a_text a_length a_refused a_items a_many a_at a_sort a_start a_size a_due a_rung a_anywhere out _ (fun x1_146_20 x3_146_21 H locs ls hP hD hS hl hf => ?_) fu x1_45_14 0 _ _ _ hP hD hS (lv_sub hl [1, 2, 0] rfl) hf
  refine lv_iconst (v := 0) hx hb dX7_digest_194 (by decide) ?_
  refine lv_istore_n (lv' := [(3, .int 0), (0, .ref (a 0)), (1, .long x1_146_20)]) hx hb dX7_digest_195 rfl hl (by decide) rfl (fun ls hl => ?_)
  refine lX7_digest_196 l G C a a_book a_spare a_images a_kept a_text a_length a_refused a_items a_many a_at a_sort a_start a_size a_due a_rung a_anywhere out _ (fun x1_196_27 x3_196_28 H locs ls hP hD hS hl hf => ?_) fu x1_146_20 0 _ _ _ hP hD hS (lv_sub hl [1, 2, 0] rfl) hf
  refine lv_iconst (v := 0) hx hb dX7_digest_259 (by decide) ?_
  refine lv_istore_n (lv' := [(3, .int 0), (0, .ref (a 0)), (1, .long x1_196_27)]) hx hb dX7_digest_260 rfl hl (by decide) rfl (fun ls hl => ?_)
  refine lX7_digest_261 l G C a a_book a_spare a_images a_kept a_text a_length a_refused a_items a_many a_at a_sort a_start a_size a_due a_rung a_anywhere out _ (fun x1_261_32 x3_261_33 H locs ls hP hD hS hl hf => ?_) fu x1_196_27 0 _ _ _ hP hD hS (lv_sub hl [1, 2, 0] rfl) hf
  refine lv_lload_n hx hb dX7_digest_294 rfl (lv_at hl 1 rfl) ?_
  have e9 := Option.some.inj hf
  subst e9
  exact rt_l C hP hS rfl dX7_digest_295
