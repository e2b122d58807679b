/-! RX0 closes(LBlindBells$RingSearch;III)Z -/
theorem iiX0_closes_X0 : ∀ w ∈ wsX00, w ∈ wsX0_closes := by decide +kernel
theorem mmX0_closes_1 : (Cond.fieldLink RX0 15 "BlindBells$RingSearch" "favoured" "[I") ∈ wsX0_closes := by decide +kernel
theorem mmX0_closes_2 : (Cond.fieldLink RX0 9 "BlindBells$RingSearch" "path" "[I") ∈ wsX0_closes := by decide +kernel
theorem mmX0_closes_3 : (Cond.static yX6_has) ∈ wsX0_closes := by decide +kernel
theorem mmX0_closes_4 : (Cond.initialized RX6) ∈ wsX0_closes := by decide +kernel
theorem mmX0_closes_5 : (Cond.fieldLink RX0 24 "BlindBells$RingSearch" "villages" "I") ∈ wsX0_closes := by decide +kernel
theorem hdX0_closes : yX0_closes.cls ≠ "java/lang/invoke/MethodHandle" ∧ yX0_closes.cls ≠ "java/lang/invoke/VarHandle" ∧ (parseMethodDescriptor yX0_closes.desc).map (fun d => d.parameters.length) = some 4 := by decide +kernel
abbrev rmX0_closes (d : Nat) : Room := { frames := d + 1, cells := 0, slots := 0, locals := 25 * d + 21 }
set_option maxHeartbeats 4000000 in
set_option maxRecDepth 100000 in
theorem lX0_closes_48 {p : Program} {e : Env} {s : State} {m : MethodId} {args : Array Value} {below : List Frame} {meth : Method} {c : Code} {A : Nat → Prop} (l : Launch) (G : GG) (C : Cx p m c cX0_closes 6 s args wsX0_closes RX0 meth (some .boolean) G A) (b : Nat → Nat) (b_path : Nat → Int32) (b_favoured : Nat → Int32) (b_villages : Int32) (p1 : Int32) (p2 : Int32) (p3 : Int32) (z2 : Int32) (d : Nat) (rec : (Nat → Int32) → (Nat → Int32) → Int32 → Int32 → Int32 → Int32 → Option (Int32 × (Nat → Int32))) (IH : ∀ (b_path : Nat → Int32) (b_favoured : Nat → Int32) (b_villages : Int32) (p1 : Int32) (p2 : Int32) (p3 : Int32) (out : Int32 × (Nat → Int32)), rec b_path b_favoured b_villages p1 p2 p3 = some out → cMi l G yX0_closes wsX0_closes (rmX0_closes d) [.ref (b 0), .int p1, .int p2, .int p3] (flat [wX0 G b b_path b_favoured b_villages]) out.1 (flat [wX0 G b out.2 b_favoured b_villages])) (out : Int32 × (Nat → Int32)) (kx : Int32 → (Nat → Int32) → Option (Int32 × (Nat → Int32))) (HX : ∀ (x5_48 : Int32) (b_path_48 : Nat → Int32) (H : Heap) (locs : List Loc) (ls : Array Slot), va_P G.1 vwCl (flat [wX0 G b b_path_48 b_favoured b_villages]) H → va_D A (flat [wX0 G b b_path_48 b_favoured b_villages]) → va_S A s.heap H locs → lv_has ls 6 [(0, .ref (b 0)), (1, .int p1), (2, .int p2), (3, .int p3), (4, .int z2), (5, .int x5_48)] → kx x5_48 b_path_48 = some out → W p l e (rmX0_closes (d + 1)) s m args below meth c H locs 0 0 (MQ below (QI G A out.1 (flat [wX0 G b out.2 b_favoured b_villages])) args s 0 0 A) (F0 m 109 ls [])) : ∀ (n : Nat) (x5_48 : Int32) (b_path_48 : Nat → Int32) (H : Heap) (locs : List Loc) (ls : Array Slot), va_P G.1 vwCl (flat [wX0 G b b_path_48 b_favoured b_villages]) H → va_D A (flat [wX0 G b b_path_48 b_favoured b_villages]) → va_S A s.heap H locs → lv_has ls 6 [(0, .ref (b 0)), (1, .int p1), (2, .int p2), (3, .int p3), (4, .int z2), (5, .int x5_48)] → fX0_closes_48 p1 p2 p3 b_favoured b_villages rec z2 kx n x5_48 b_path_48 = some out → W p l e (rmX0_closes (d + 1)) s m args below meth c H locs 0 0 (MQ below (QI G A out.1 (flat [wX0 G b out.2 b_favoured b_villages])) args s 0 0 A) (F0 m 48 ls []) := by
  obtain ⟨⟨hx, hb, hml, hown, hts⟩, hr, hlocks, hK, hN, hE, hA⟩ := id C
  intro n
  induction n with
  | zero =>
    intro x5_48 b_path_48 H locs ls hP hD hS hl hf
    exact absurd (show (none : Option (Int32 × (Nat → Int32))) = some out from hf) (by intro q9; cases q9)
  | succ n ih =>
    intro x5_48 b_path_48 H locs ls hP hD hS hl hf
    rw [fX0_closes_48] at hf
    refine lv_iload hx hb dX0_closes_48 (lv_at hl 5 rfl) ?_
    refine lv_aload_n hx hb dX0_closes_50 rfl (lv_at hl 0 rfl) ?_
    refine va_get (D := G.1) (ci := 0) (v := .int b_villages) (C := RX0) (T := TX0) (N := 3) hx hb hts iiX0_closes_X0 hown hK hP 0 rfl rfl 2 (by decide) (hts _ mmX0_closes_5) (fun _ h9 => h9) rfl dX0_closes_51 ?_
    refine lv_icmp_ge (tgt := 109) hx hb dX0_closes_54 (by decide) (fun c9 => ?_) (fun c9 => ?_)
    · have hf := (o_i hf).1 c9
      exact HX _ _ _ _ _ hP hD hS (lv_sub hl [0, 1, 2, 3, 4, 5] rfl) hf
    have hf := (o_i hf).2 c9
    refine lv_iload hx hb dX0_closes_57 (lv_at hl 4 rfl) ?_
    refine lv_iload hx hb dX0_closes_59 (lv_at hl 5 rfl) ?_
    obtain ⟨g10, hg10, hf⟩ := o_b hf
    refine bNi C hP hD hS (tX6_has l G z2 x5_48 g10 hg10) gX0_closes_X6_has_n36 (nw5 hN) (hts _ mmX0_closes_3) (hts _ mmX0_closes_4) rfl ⟨rfl, rfl⟩ hdX6_has ⟨by dsimp only [rmX0_closes, rmX6_has]; omega, by dsimp only [rmX0_closes, rmX6_has]; omega⟩ rfl hl.1 rfl (Nat.le_of_ble_eq_true rfl) ⟨Nat.le_of_ble_eq_true rfl, Nat.le_of_ble_eq_true rfl⟩ [] rfl rfl rfl (setB_same _ _ _ rfl) rfl dX0_closes_61 (fun H locs hP hD hS => ?_)
    refine lv_if_eq (tgt := 103) hx hb dX0_closes_64 (by decide) (fun c11 => ?_) (fun c11 => ?_)
    · have hf := (o_i hf).1 c11
      refine lv_iinc (v := x5_48 + 1) (lv' := [(5, .int (x5_48 + 1)), (0, .ref (b 0)), (1, .int p1), (2, .int p2), (3, .int p3), (4, .int z2)]) hx hb dX0_closes_103 hl (k := 5) rfl (congrArg (fun z => x5_48 + z) (by decide)) (by decide) rfl (fun ls hl => ?_)
      refine lv_goto (tgt := 48) hx hb dX0_closes_106 (by decide) ?_
      exact ih _ _ _ _ _ hP hD hS (lv_sub hl [1, 2, 3, 4, 5, 0] rfl) hf
    have hf := (o_i hf).2 c11
    refine lv_iload_n hx hb dX0_closes_67 rfl (lv_at hl 3 rfl) ?_
    refine lv_iload hx hb dX0_closes_68 (lv_at hl 5 rfl) ?_
    obtain ⟨g12, hg12, hf⟩ := o_b hf
    refine bNi C hP hD hS (tX6_has l G p3 x5_48 g12 hg12) gX0_closes_X6_has_n36 (nw5 hN) (hts _ mmX0_closes_3) (hts _ mmX0_closes_4) rfl ⟨rfl, rfl⟩ hdX6_has ⟨by dsimp only [rmX0_closes, rmX6_has]; omega, by dsimp only [rmX0_closes, rmX6_has]; omega⟩ rfl hl.1 rfl (Nat.le_of_ble_eq_true rfl) ⟨Nat.le_of_ble_eq_true rfl, Nat.le_of_ble_eq_true rfl⟩ [] rfl rfl rfl (setB_same _ _ _ rfl) rfl dX0_closes_70 (fun H locs hP hD hS => ?_)
    refine lv_if_ne (tgt := 103) hx hb dX0_closes_73 (by decide) (fun c13 => ?_) (fun c13 => ?_)
    · have hf := (o_i hf).2 c13
      refine lv_iinc (v := x5_48 + 1) (lv' := [(5, .int (x5_48 + 1)), (0, .ref (b 0)), (1, .int p1), (2, .int p2), (3, .int p3), (4, .int z2)]) hx hb dX0_closes_103 hl (k := 5) rfl (congrArg (fun z => x5_48 + z) (by decide)) (by decide) rfl (fun ls hl => ?_)
      refine lv_goto (tgt := 48) hx hb dX0_closes_106 (by decide) ?_
      exact ih _ _ _ _ _ hP hD hS (lv_sub hl [1, 2, 3, 4, 5, 0] rfl) hf
    have hf := (o_i hf).1 c13
    refine lv_aload_n hx hb dX0_closes_76 rfl (lv_at hl 0 rfl) ?_
    refine va_get (D := G.1) (ci := 0) (v := .ref (b 1)) (C := RX0) (T := TX0) (N := 3) hx hb hts iiX0_closes_X0 hown hK hP 0 rfl rfl 0 (by decide) (hts _ mmX0_closes_2) (fun _ h9 => h9) rfl dX0_closes_77 ?_
    refine lv_iload_n hx hb dX0_closes_80 rfl (lv_at hl 2 rfl) ?_
    refine lv_iload hx hb dX0_closes_81 (lv_at hl 5 rfl) ?_
    obtain ⟨u14, hu14, hf⟩ := o_b hf
    refine k_iast hx hb hK hP hD hS 1 0 rfl rfl hu14 dX0_closes_83 (fun H locs hP hD hS => ?_)
    have hP : va_P G.1 vwCl (flat [wX0 G b u14 b_favoured b_villages]) H := hP
    have hD : va_D A (flat [wX0 G b u14 b_favoured b_villages]) := hD
    refine lv_aload_n hx hb dX0_closes_84 rfl (lv_at hl 0 rfl) ?_
    refine lv_iload_n hx hb dX0_closes_85 rfl (lv_at hl 1 rfl) ?_
    refine lv_iload_n hx hb dX0_closes_86 rfl (lv_at hl 2 rfl) ?_
    refine lv_iconst (v := 1) hx hb dX0_closes_87 (by decide) ?_
    refine at_pc (pc' := 88) rfl ?_
    refine lv_iadd hx hb dX0_closes_88 ?_
    refine lv_iload_n hx hb dX0_closes_89 rfl (lv_at hl 3 rfl) ?_
    refine lv_iconst (v := 1) hx hb dX0_closes_90 (by decide) ?_
    refine lv_iload hx hb dX0_closes_91 (lv_at hl 5 rfl) ?_
    refine lv_ishl hx hb dX0_closes_93 ?_
    refine lv_ior hx hb dX0_closes_94 ?_
    obtain ⟨g15, hg15, hf⟩ := o_b hf
    refine bSi (Bs' := [wX0 G b g15.2 b_favoured b_villages]) C hP hD hS (IH u14 b_favoured b_villages p1 (p2 + 1) (p3 ||| (1 <<< (x5_48 &&& 31))) g15 hg15) gX0_closes_X0_closes rfl ⟨rfl, rfl⟩ hdX0_closes ⟨by dsimp only [rmX0_closes]; omega, by dsimp only [rmX0_closes]; omega⟩ rfl hl.1 rfl (Nat.le_of_ble_eq_true rfl) ⟨Nat.le_of_ble_eq_true rfl, Nat.le_of_ble_eq_true rfl⟩ [0] rfl rfl rfl rfl rfl dX0_closes_95 (fun H locs hP hD hS => ?_)
    have hP : va_P G.1 vwCl (flat [wX0 G b g15.2 b_favoured b_villages]) H := hP
    have hD : va_D A (flat [wX0 G b g15.2 b_favoured b_villages]) := hD
    refine lv_if_eq (tgt := 103) hx hb dX0_closes_98 (by decide) (fun c16 => ?_) (fun c16 => ?_)
    · have hf := (o_i hf).1 c16
      refine lv_iinc (v := x5_48 + 1) (lv' := [(5, .int (x5_48 + 1)), (0, .ref (b 0)), (1, .int p1), (2, .int p2), (3, .int p3), (4, .int z2)]) hx hb dX0_closes_103 hl (k := 5) rfl (congrArg (fun z => x5_48 + z) (by decide)) (by decide) rfl (fun ls hl => ?_)
      refine lv_goto (tgt := 48) hx hb dX0_closes_106 (by decide) ?_
      exact ih _ _ _ _ _ hP hD hS (lv_sub hl [1, 2, 3, 4, 5, 0] rfl) hf
    have hf := (o_i hf).2 c16
    refine lv_iconst (v := 1) hx hb dX0_closes_101 (by decide) ?_
    have e9 := Option.some.inj hf
    subst e9
    exact rt_z C hP hS rfl rfl dX0_closes_102
set_option maxHeartbeats 4000000 in
set_option maxRecDepth 100000 in
theorem tX0_closes (l : Launch) (G : GG) (b : Nat → Nat) : ∀ (d : Nat) (b_path : Nat → Int32) (b_favoured : Nat → Int32) (b_villages : Int32) (p1 : Int32) (p2 : Int32) (p3 : Int32) (out : Int32 × (Nat → Int32)) (hf : fX0_closes d b_path b_favoured b_villages p1 p2 p3 = some out), cMi l G yX0_closes wsX0_closes (rmX0_closes d) [.ref (b 0), .int p1, .int p2, .int p3] (flat [wX0 G b b_path b_favoured b_villages]) out.1 (flat [wX0 G b out.2 b_favoured b_villages]) := by
  intro d
  induction d with
  | zero =>
    intro b_path b_favoured b_villages p1 p2 p3 out hf
    exact absurd (show (none : Option (Int32 × (Nat → Int32))) = some out from hf) (by intro q9; cases q9)
  | succ d IH =>
    intro b_path b_favoured b_villages p1 p2 p3 out hf
    intro sz
    refine met_of (cc := cX0_closes) (nL := 6) (ret := (some .boolean)) (Qc := fun A9 => QI G A9 out.1 (flat [wX0 G b out.2 b_favoured b_villages])) (by decide) rfl (Nat.le_of_ble_eq_true rfl) ?_
    intro p e s m args below meth c A ls C hP hD hS hl
    obtain ⟨⟨hx, hb, hml, hown, hts⟩, hr, hlocks, hK, hN, hE, hA⟩ := id C
    have hl : lv_has ls 6 [(0, .ref (b 0)), (1, .int p1), (2, .int p2), (3, .int p3)] := hl
    rw [fX0_closes] at hf
    refine lv_aload_n hx hb dX0_closes_0 rfl (lv_at hl 0 rfl) ?_
    refine va_get (D := G.1) (ci := 0) (v := .ref (b 2)) (C := RX0) (T := TX0) (N := 3) hx hb hts iiX0_closes_X0 hown hK hP 0 rfl rfl 1 (by decide) (hts _ mmX0_closes_1) (fun _ h9 => h9) rfl dX0_closes_1 ?_
    refine lv_aload_n hx hb dX0_closes_4 rfl (lv_at hl 0 rfl) ?_
    refine va_get (D := G.1) (ci := 0) (v := .ref (b 1)) (C := RX0) (T := TX0) (N := 3) hx hb hts iiX0_closes_X0 hown hK hP 0 rfl rfl 0 (by decide) (hts _ mmX0_closes_2) (fun _ h9 => h9) rfl dX0_closes_5 ?_
    refine lv_iload_n hx hb dX0_closes_8 rfl (lv_at hl 2 rfl) ?_
    refine lv_iconst (v := 1) hx hb dX0_closes_9 (by decide) ?_
    refine lv_isub hx hb dX0_closes_10 ?_
    obtain ⟨z1, hz1, hf⟩ := o_b hf
    refine k_iald hx hb hK hP 1 0 rfl rfl hz1 dX0_closes_11 ?_
    obtain ⟨z2, hz2, hf⟩ := o_b hf
    refine k_iald hx hb hK hP 2 0 rfl rfl hz2 dX0_closes_12 ?_
    refine at_pc (pc' := 13) rfl ?_
    refine lv_istore (lv' := [(4, .int z2), (0, .ref (b 0)), (1, .int p1), (2, .int p2), (3, .int p3)]) hx hb dX0_closes_13 hl (by decide) rfl (fun ls hl => ?_)
    refine lv_iload_n hx hb dX0_closes_15 rfl (lv_at hl 3 rfl) ?_
    refine lv_iload_n hx hb dX0_closes_16 rfl (lv_at hl 2 rfl) ?_
    refine lv_icmp_ge (tgt := 26) hx hb dX0_closes_17 (by decide) (fun c3 => ?_) (fun c3 => ?_)
    · have hf := (o_i hf).1 c3
      refine lv_iload hx hb dX0_closes_26 (lv_at hl 0 rfl) ?_
      refine lv_aload_n hx hb dX0_closes_28 rfl (lv_at hl 1 rfl) ?_
      refine va_get (D := G.1) (ci := 0) (v := .ref (b 1)) (C := RX0) (T := TX0) (N := 3) hx hb hts iiX0_closes_X0 hown hK hP 0 rfl rfl 0 (by decide) (hts _ mmX0_closes_2) (fun _ h9 => h9) rfl dX0_closes_29 ?_
      refine lv_iconst (v := 0) hx hb dX0_closes_32 (by decide) ?_
      obtain ⟨z4, hz4, hf⟩ := o_b hf
      refine k_iald hx hb hK hP 1 0 rfl rfl hz4 dX0_closes_33 ?_
      obtain ⟨g5, hg5, hf⟩ := o_b hf
      refine bNi C hP hD hS (tX6_has l G z2 z4 g5 hg5) gX0_closes_X6_has_n36 (nw5 hN) (hts _ mmX0_closes_3) (hts _ mmX0_closes_4) rfl ⟨rfl, rfl⟩ hdX6_has ⟨by dsimp only [rmX0_closes, rmX6_has]; omega, by dsimp only [rmX0_closes, rmX6_has]; omega⟩ rfl hl.1 rfl (Nat.le_of_ble_eq_true rfl) ⟨Nat.le_of_ble_eq_true rfl, Nat.le_of_ble_eq_true rfl⟩ [] rfl rfl rfl (setB_same _ _ _ rfl) rfl dX0_closes_34 (fun H locs hP hD hS => ?_)
      obtain ⟨z6, hz6, hf⟩ := o_b hf
      obtain ⟨hn9, e8⟩ := zb_ok hz6
      have e8 := e8.symm
      subst e8
      have e9 := Option.some.inj hf
      subst e9
      exact rt_z C hP hS rfl hn9 dX0_closes_37
    have hf := (o_i hf).2 c3
    refine lv_iload_n hx hb dX0_closes_20 rfl (lv_at hl 3 rfl) ?_
    refine lv_bipush (v := 6) hx hb dX0_closes_21 (by decide) ?_
    refine lv_icmp_lt (tgt := 38) hx hb dX0_closes_23 (by decide) (fun c7 => ?_) (fun c7 => ?_)
    · have hf := (o_i hf).1 c7
      refine lv_aload_n hx hb dX0_closes_38 rfl (lv_at hl 1 rfl) ?_
      refine va_get (D := G.1) (ci := 0) (v := .ref (b 1)) (C := RX0) (T := TX0) (N := 3) hx hb hts iiX0_closes_X0 hown hK hP 0 rfl rfl 0 (by decide) (hts _ mmX0_closes_2) (fun _ h9 => h9) rfl dX0_closes_39 ?_
      refine lv_iconst (v := 0) hx hb dX0_closes_42 (by decide) ?_
      obtain ⟨z8, hz8, hf⟩ := o_b hf
      refine k_iald hx hb hK hP 1 0 rfl rfl hz8 dX0_closes_43 ?_
      refine lv_iconst (v := 1) hx hb dX0_closes_44 (by decide) ?_
      refine lv_iadd hx hb dX0_closes_45 ?_
      refine lv_istore (lv' := [(5, .int (z8 + 1)), (4, .int z2), (0, .ref (b 0)), (1, .int p1), (2, .int p2), (3, .int p3)]) hx hb dX0_closes_46 hl (by decide) rfl (fun ls hl => ?_)
      refine lX0_closes_48 l G C b b_path b_favoured b_villages p1 p2 p3 z2 d (fX0_closes d) IH out _ (fun x5_48_17 b_path_48_18 H locs ls hP hD hS hl hf => ?_) fu (z8 + 1) b_path _ _ _ hP hD hS (lv_sub hl [2, 3, 4, 5, 1, 0] rfl) hf
      refine lv_iconst (v := 0) hx hb dX0_closes_109 (by decide) ?_
      have e9 := Option.some.inj hf
      subst e9
      exact rt_z C hP hS rfl rfl dX0_closes_110
    have hf := (o_i hf).2 c7
    refine lv_iload hx hb dX0_closes_26 (lv_at hl 0 rfl) ?_
    refine lv_aload_n hx hb dX0_closes_28 rfl (lv_at hl 1 rfl) ?_
    refine va_get (D := G.1) (ci := 0) (v := .ref (b 1)) (C := RX0) (T := TX0) (N := 3) hx hb hts iiX0_closes_X0 hown hK hP 0 rfl rfl 0 (by decide) (hts _ mmX0_closes_2) (fun _ h9 => h9) rfl dX0_closes_29 ?_
    refine lv_iconst (v := 0) hx hb dX0_closes_32 (by decide) ?_
    obtain ⟨z19, hz19, hf⟩ := o_b hf
    refine k_iald hx hb hK hP 1 0 rfl rfl hz19 dX0_closes_33 ?_
    obtain ⟨g20, hg20, hf⟩ := o_b hf
    refine bNi C hP hD hS (tX6_has l G z2 z19 g20 hg20) gX0_closes_X6_has_n36 (nw5 hN) (hts _ mmX0_closes_3) (hts _ mmX0_closes_4) rfl ⟨rfl, rfl⟩ hdX6_has ⟨by dsimp only [rmX0_closes, rmX6_has]; omega, by dsimp only [rmX0_closes, rmX6_has]; omega⟩ rfl hl.1 rfl (Nat.le_of_ble_eq_true rfl) ⟨Nat.le_of_ble_eq_true rfl, Nat.le_of_ble_eq_true rfl⟩ [] rfl rfl rfl (setB_same _ _ _ rfl) rfl dX0_closes_34 (fun H locs hP hD hS => ?_)
    obtain ⟨z21, hz21, hf⟩ := o_b hf
    obtain ⟨hn9, e8⟩ := zb_ok hz21
    have e8 := e8.symm
    subst e8
    have e9 := Option.some.inj hf
    subst e9
    exact rt_z C hP hS rfl hn9 dX0_closes_37

/-! RX0 go(LBlindBells$Valley;)I -/
theorem iiX0_go_X3 : ∀ w ∈ wsX30, w ∈ wsX0_go := by decide +kernel
theorem mmX0_go_1 : (Cond.fieldLink RX0 18 "BlindBells$Valley" "villages" "I") ∈ wsX0_go := by decide +kernel
theorem iiX0_go_X0 : ∀ w ∈ wsX00, w ∈ wsX0_go := by decide +kernel
theorem mmX0_go_3 : (Cond.fieldLink RX0 24 "BlindBells$RingSearch" "villages" "I") ∈ wsX0_go := by decide +kernel
theorem mmX0_go_4 : (Cond.fieldLink RX0 15 "BlindBells$RingSearch" "favoured" "[I") ∈ wsX0_go := by decide +kernel
theorem mmX0_go_5 : (Cond.fieldLink RX0 25 "BlindBells$Valley" "rope" "[I") ∈ wsX0_go := by decide +kernel
theorem mmX0_go_6 : (Cond.fieldLink RX0 9 "BlindBells$RingSearch" "path" "[I") ∈ wsX0_go := by decide +kernel
theorem hdX0_go : yX0_go.cls = RX0 ∧ yX0_go.cls ≠ "java/lang/invoke/MethodHandle" ∧ yX0_go.cls ≠ "java/lang/invoke/VarHandle" ∧ (parseMethodDescriptor yX0_go.desc).map (fun d => d.parameters.length) = some 1 := by decide +kernel
abbrev rmX0_go : Room := { frames := 10, cells := 0, slots := 0, locals := 246 }
set_option maxHeartbeats 4000000 in
set_option maxRecDepth 100000 in
theorem lX0_go_10 {p : Program} {e : Env} {s : State} {m : MethodId} {args : Array Value} {below : List Frame} {meth : Method} {c : Code} {A : Nat → Prop} (l : Launch) (G : GG) (C : Cx p m c cX0_go 4 s args wsX0_go RX0 meth (some .int) G A) (a : Nat → Nat) (b : Nat → Nat) (a_path : Nat → Int32) (a_favoured : Nat → Int32) (a_villages : Int32) (b_villages : Int32) (b_woods : Int32) (b_needs : Int32) (b_signs : Int32) (b_temper : Nat → Int32) (b_friend : Nat → Int32) (b_rope : Nat → Int32) (b_hears : Nat → Int32) (b_shut : Nat → Int32) (b_woodBell : Nat → Int32) (b_woodVillage : Nat → Int32) (b_needVillage : Nat → Int32) (b_needWind : Nat → Int32) (b_needSeen : Nat → Int32) (b_sign : Nat → Int32)  (out : Int32 × (Nat → Int32) × (Nat → Int32) × Int32) (kx : Int32 → (Nat → Int32) → Option (Int32 × (Nat → Int32) × (Nat → Int32) × Int32)) (HX : ∀ (x2_10 : Int32) (a_favoured_10 : Nat → Int32) (H : Heap) (locs : List Loc) (ls : Array Slot), va_P G.1 vwCl (flat [wX0 G a a_path a_favoured_10 b_villages, wX3 G b b_villages b_woods b_needs b_signs b_temper b_friend b_rope b_hears b_shut b_woodBell b_woodVillage b_needVillage b_needWind b_needSeen b_sign]) H → va_D A (flat [wX0 G a a_path a_favoured_10 b_villages, wX3 G b b_villages b_woods b_needs b_signs b_temper b_friend b_rope b_hears b_shut b_woodBell b_woodVillage b_needVillage b_needWind b_needSeen b_sign]) → va_S A s.heap H locs → lv_has ls 4 [(0, .ref (a 0)), (1, .ref (b 0)), (2, .int x2_10)] → kx x2_10 a_favoured_10 = some out → W p l e rmX0_go s m args below meth c H locs 0 0 (MQ below (QI G A out.1 (flat [wX0 G a out.2.1 out.2.2.1 out.2.2.2, wX3 G b b_villages b_woods b_needs b_signs b_temper b_friend b_rope b_hears b_shut b_woodBell b_woodVillage b_needVillage b_needWind b_needSeen b_sign])) args s 0 0 A) (F0 m 40 ls [])) : ∀ (n : Nat) (x2_10 : Int32) (a_favoured_10 : Nat → Int32) (H : Heap) (locs : List Loc) (ls : Array Slot), va_P G.1 vwCl (flat [wX0 G a a_path a_favoured_10 b_villages, wX3 G b b_villages b_woods b_needs b_signs b_temper b_friend b_rope b_hears b_shut b_woodBell b_woodVillage b_needVillage b_needWind b_needSeen b_sign]) H → va_D A (flat [wX0 G a a_path a_favoured_10 b_villages, wX3 G b b_villages b_woods b_needs b_signs b_temper b_friend b_rope b_hears b_shut b_woodBell b_woodVillage b_needVillage b_needWind b_needSeen b_sign]) → va_S A s.heap H locs → lv_has ls 4 [(0, .ref (a 0)), (1, .ref (b 0)), (2, .int x2_10)] → fX0_go_10 b_villages b_rope b_hears b_shut kx n x2_10 a_favoured_10 = some out → W p l e rmX0_go s m args below meth c H locs 0 0 (MQ below (QI G A out.1 (flat [wX0 G a out.2.1 out.2.2.1 out.2.2.2, wX3 G b b_villages b_woods b_needs b_signs b_temper b_friend b_rope b_hears b_shut b_woodBell b_woodVillage b_needVillage b_needWind b_needSeen b_sign])) args s 0 0 A) (F0 m 10 ls []) := by
  obtain ⟨⟨hx, hb, hml, hown, hts⟩, hr, hlocks, hK, hN, hE, hA⟩ := id C
  intro n
  induction n with
  | zero =>
    intro x2_10 a_favoured_10 H locs ls hP hD hS hl hf
    exact absurd (show (none : Option (Int32 × (Nat → Int32) × (Nat → Int32) × Int32)) = some out from hf) (by intro q9; cases q9)
  | succ n ih =>
    intro x2_10 a_favoured_10 H locs ls hP hD hS hl hf
    rw [fX0_go_10] at hf
    refine lv_iload_n hx hb dX0_go_10 rfl (lv_at hl 2 rfl) ?_
    refine lv_aload_n hx hb dX0_go_11 rfl (lv_at hl 0 rfl) ?_
    refine va_get (D := G.1) (ci := 0) (v := .int b_villages) (C := RX0) (T := TX0) (N := 3) hx hb hts iiX0_go_X0 hown hK hP 0 rfl rfl 2 (by decide) (hts _ mmX0_go_3) (fun _ h9 => h9) rfl dX0_go_12 ?_
    refine lv_icmp_ge (tgt := 40) hx hb dX0_go_15 (by decide) (fun c1 => ?_) (fun c1 => ?_)
    · have hf := (o_i hf).1 c1
      exact HX _ _ _ _ _ hP hD hS (lv_sub hl [0, 1, 2] rfl) hf
    have hf := (o_i hf).2 c1
    refine lv_aload_n hx hb dX0_go_18 rfl (lv_at hl 0 rfl) ?_
    refine va_get (D := G.1) (ci := 0) (v := .ref (a 2)) (C := RX0) (T := TX0) (N := 3) hx hb hts iiX0_go_X0 hown hK hP 0 rfl rfl 1 (by decide) (hts _ mmX0_go_4) (fun _ h9 => h9) rfl dX0_go_19 ?_
    refine lv_aload_n hx hb dX0_go_22 rfl (lv_at hl 1 rfl) ?_
    refine va_get (D := G.1) (ci := 3) (v := .ref (b 3)) (C := RX3) (T := TX3) (N := 15) hx hb hts iiX0_go_X3 hown hK hP 3 rfl rfl 6 (by decide) (hts _ mmX0_go_5) (fun _ h9 => h9) rfl dX0_go_23 ?_
    refine lv_iload_n hx hb dX0_go_26 rfl (lv_at hl 2 rfl) ?_
    obtain ⟨z2, hz2, hf⟩ := o_b hf
    refine k_iald hx hb hK hP 6 0 rfl rfl hz2 dX0_go_27 ?_
    refine lv_aload_n hx hb dX0_go_28 rfl (lv_at hl 1 rfl) ?_
    refine lv_iload_n hx hb dX0_go_29 rfl (lv_at hl 2 rfl) ?_
    obtain ⟨g3, hg3, hf⟩ := o_b hf
    refine bVi C hP hD hS (tX3_heardInAnyWind l G b b_villages b_woods b_needs b_signs b_temper b_friend b_rope b_hears b_shut b_woodBell b_woodVillage b_needVillage b_needWind b_needSeen b_sign x2_10 g3 hg3) gX0_go_X3_heardInAnyWind rfl ⟨rfl, rfl⟩ hdX3_heardInAnyWind ⟨Nat.le_of_ble_eq_true rfl, Nat.le_of_ble_eq_true rfl⟩ rfl hl.1 rfl (Nat.le_of_ble_eq_true rfl) ⟨Nat.le_of_ble_eq_true rfl, Nat.le_of_ble_eq_true rfl⟩ [1] rfl rfl rfl (setB_same _ _ _ rfl) rfl (ci := 3) (q0 := 3) rfl rfl rfl dX0_go_30 (fun H locs hP hD hS => ?_)
    refine at_pc (pc' := 33) rfl ?_
    obtain ⟨u4, hu4, hf⟩ := o_b hf
    refine k_iast hx hb hK hP hD hS 2 0 rfl rfl hu4 dX0_go_33 (fun H locs hP hD hS => ?_)
    have hP : va_P G.1 vwCl (flat [wX0 G a a_path u4 b_villages, wX3 G b b_villages b_woods b_needs b_signs b_temper b_friend b_rope b_hears b_shut b_woodBell b_woodVillage b_needVillage b_needWind b_needSeen b_sign]) H := hP
    have hD : va_D A (flat [wX0 G a a_path u4 b_villages, wX3 G b b_villages b_woods b_needs b_signs b_temper b_friend b_rope b_hears b_shut b_woodBell b_woodVillage b_needVillage b_needWind b_needSeen b_sign]) := hD
    refine lv_iinc (v := x2_10 + 1) (lv' := [(2, .int (x2_10 + 1)), (0, .ref (a 0)), (1, .ref (b 0))]) hx hb dX0_go_34 hl (k := 2) rfl (congrArg (fun z => x2_10 + z) (by decide)) (by decide) rfl (fun ls hl => ?_)
    refine lv_goto (tgt := 10) hx hb dX0_go_37 (by decide) ?_
    exact ih _ _ _ _ _ hP hD hS (lv_sub hl [1, 2, 0] rfl) hf
set_option maxHeartbeats 4000000 in
set_option maxRecDepth 100000 in
theorem lX0_go_52 {p : Program} {e : Env} {s : State} {m : MethodId} {args : Array Value} {below : List Frame} {meth : Method} {c : Code} {A : Nat → Prop} (l : Launch) (G : GG) (C : Cx p m c cX0_go 4 s args wsX0_go RX0 meth (some .int) G A) (a : Nat → Nat) (b : Nat → Nat) (a_path : Nat → Int32) (a_favoured : Nat → Int32) (a_villages : Int32) (b_villages : Int32) (b_woods : Int32) (b_needs : Int32) (b_signs : Int32) (b_temper : Nat → Int32) (b_friend : Nat → Int32) (b_rope : Nat → Int32) (b_hears : Nat → Int32) (b_shut : Nat → Int32) (b_woodBell : Nat → Int32) (b_woodVillage : Nat → Int32) (b_needVillage : Nat → Int32) (b_needWind : Nat → Int32) (b_needSeen : Nat → Int32) (b_sign : Nat → Int32) (a_favoured_10_6 : Nat → Int32) (x2_42 : Int32) (out : Int32 × (Nat → Int32) × (Nat → Int32) × Int32) (kx : Int32 → (Nat → Int32) → Option (Int32 × (Nat → Int32) × (Nat → Int32) × Int32)) (HX : ∀ (x3_52 : Int32) (a_path_52 : Nat → Int32) (H : Heap) (locs : List Loc) (ls : Array Slot), va_P G.1 vwCl (flat [wX0 G a a_path_52 a_favoured_10_6 b_villages, wX3 G b b_villages b_woods b_needs b_signs b_temper b_friend b_rope b_hears b_shut b_woodBell b_woodVillage b_needVillage b_needWind b_needSeen b_sign]) H → va_D A (flat [wX0 G a a_path_52 a_favoured_10_6 b_villages, wX3 G b b_villages b_woods b_needs b_signs b_temper b_friend b_rope b_hears b_shut b_woodBell b_woodVillage b_needVillage b_needWind b_needSeen b_sign]) → va_S A s.heap H locs → lv_has ls 4 [(0, .ref (a 0)), (1, .ref (b 0)), (2, .int x2_42), (3, .int x3_52)] → kx x3_52 a_path_52 = some out → W p l e rmX0_go s m args below meth c H locs 0 0 (MQ below (QI G A out.1 (flat [wX0 G a out.2.1 out.2.2.1 out.2.2.2, wX3 G b b_villages b_woods b_needs b_signs b_temper b_friend b_rope b_hears b_shut b_woodBell b_woodVillage b_needVillage b_needWind b_needSeen b_sign])) args s 0 0 A) (F0 m 87 ls [])) : ∀ (n : Nat) (x3_52 : Int32) (a_path_52 : Nat → Int32) (H : Heap) (locs : List Loc) (ls : Array Slot), va_P G.1 vwCl (flat [wX0 G a a_path_52 a_favoured_10_6 b_villages, wX3 G b b_villages b_woods b_needs b_signs b_temper b_friend b_rope b_hears b_shut b_woodBell b_woodVillage b_needVillage b_needWind b_needSeen b_sign]) H → va_D A (flat [wX0 G a a_path_52 a_favoured_10_6 b_villages, wX3 G b b_villages b_woods b_needs b_signs b_temper b_friend b_rope b_hears b_shut b_woodBell b_woodVillage b_needVillage b_needWind b_needSeen b_sign]) → va_S A s.heap H locs → lv_has ls 4 [(0, .ref (a 0)), (1, .ref (b 0)), (2, .int x2_42), (3, .int x3_52)] → fX0_go_52 b_villages a_favoured_10_6 x2_42 kx n x3_52 a_path_52 = some out → W p l e rmX0_go s m args below meth c H locs 0 0 (MQ below (QI G A out.1 (flat [wX0 G a out.2.1 out.2.2.1 out.2.2.2, wX3 G b b_villages b_woods b_needs b_signs b_temper b_friend b_rope b_hears b_shut b_woodBell b_woodVillage b_needVillage b_needWind b_needSeen b_sign])) args s 0 0 A) (F0 m 52 ls []) := by
  obtain ⟨⟨hx, hb, hml, hown, hts⟩, hr, hlocks, hK, hN, hE, hA⟩ := id C
  intro n
  induction n with
  | zero =>
    intro x3_52 a_path_52 H locs ls hP hD hS hl hf
    exact absurd (show (none : Option (Int32 × (Nat → Int32) × (Nat → Int32) × Int32)) = some out from hf) (by intro q9; cases q9)
  | succ n ih =>
    intro x3_52 a_path_52 H locs ls hP hD hS hl hf
    rw [fX0_go_52] at hf
    refine lv_iload_n hx hb dX0_go_52 rfl (lv_at hl 3 rfl) ?_
    refine lv_aload_n hx hb dX0_go_53 rfl (lv_at hl 0 rfl) ?_
    refine va_get (D := G.1) (ci := 0) (v := .int b_villages) (C := RX0) (T := TX0) (N := 3) hx hb hts iiX0_go_X0 hown hK hP 0 rfl rfl 2 (by decide) (hts _ mmX0_go_3) (fun _ h9 => h9) rfl dX0_go_54 ?_
    refine lv_icmp_ge (tgt := 87) hx hb dX0_go_57 (by decide) (fun c8 => ?_) (fun c8 => ?_)
    · have hf := (o_i hf).1 c8
      exact HX _ _ _ _ _ hP hD hS (lv_sub hl [0, 1, 2, 3] rfl) hf
    have hf := (o_i hf).2 c8
    refine lv_aload_n hx hb dX0_go_60 rfl (lv_at hl 0 rfl) ?_
    refine va_get (D := G.1) (ci := 0) (v := .ref (a 1)) (C := RX0) (T := TX0) (N := 3) hx hb hts iiX0_go_X0 hown hK hP 0 rfl rfl 0 (by decide) (hts _ mmX0_go_6) (fun _ h9 => h9) rfl dX0_go_61 ?_
    refine lv_iconst (v := 0) hx hb dX0_go_64 (by decide) ?_
    refine lv_iload_n hx hb dX0_go_65 rfl (lv_at hl 3 rfl) ?_
    obtain ⟨u9, hu9, hf⟩ := o_b hf
    refine k_iast hx hb hK hP hD hS 1 0 rfl rfl hu9 dX0_go_66 (fun H locs hP hD hS => ?_)
    have hP : va_P G.1 vwCl (flat [wX0 G a u9 a_favoured_10_6 b_villages, wX3 G b b_villages b_woods b_needs b_signs b_temper b_friend b_rope b_hears b_shut b_woodBell b_woodVillage b_needVillage b_needWind b_needSeen b_sign]) H := hP
    have hD : va_D A (flat [wX0 G a u9 a_favoured_10_6 b_villages, wX3 G b b_villages b_woods b_needs b_signs b_temper b_friend b_rope b_hears b_shut b_woodBell b_woodVillage b_needVillage b_needWind b_needSeen b_sign]) := hD
    refine lv_aload_n hx hb dX0_go_67 rfl (lv_at hl 0 rfl) ?_
    refine lv_iload_n hx hb dX0_go_68 rfl (lv_at hl 2 rfl) ?_
    refine lv_iconst (v := 1) hx hb dX0_go_69 (by decide) ?_
    refine lv_iconst (v := 1) hx hb dX0_go_70 (by decide) ?_
    refine at_pc (pc' := 71) rfl ?_
    refine lv_iload_n hx hb dX0_go_71 rfl (lv_at hl 3 rfl) ?_
    refine lv_ishl hx hb dX0_go_72 ?_
    obtain ⟨g10, hg10, hf⟩ := o_b hf
    refine bSi (Bs' := [wX0 G a g10.2 a_favoured_10_6 b_villages, wX3 G b b_villages b_woods b_needs b_signs b_temper b_friend b_rope b_hears b_shut b_woodBell b_woodVillage b_needVillage b_needWind b_needSeen b_sign]) C hP hD hS (tX0_closes l G a 8 u9 a_favoured_10_6 b_villages x2_42 1 (1 <<< (x3_52 &&& 31)) g10 hg10) gX0_go_X0_closes rfl ⟨rfl, rfl⟩ hdX0_closes ⟨Nat.le_of_ble_eq_true rfl, Nat.le_of_ble_eq_true rfl⟩ rfl hl.1 rfl (Nat.le_of_ble_eq_true rfl) ⟨Nat.le_of_ble_eq_true rfl, Nat.le_of_ble_eq_true rfl⟩ [0] rfl rfl rfl rfl rfl dX0_go_73 (fun H locs hP hD hS => ?_)
    have hP : va_P G.1 vwCl (flat [wX0 G a g10.2 a_favoured_10_6 b_villages, wX3 G b b_villages b_woods b_needs b_signs b_temper b_friend b_rope b_hears b_shut b_woodBell b_woodVillage b_needVillage b_needWind b_needSeen b_sign]) H := hP
    have hD : va_D A (flat [wX0 G a g10.2 a_favoured_10_6 b_villages, wX3 G b b_villages b_woods b_needs b_signs b_temper b_friend b_rope b_hears b_shut b_woodBell b_woodVillage b_needVillage b_needWind b_needSeen b_sign]) := hD
    refine lv_if_eq (tgt := 81) hx hb dX0_go_76 (by decide) (fun c11 => ?_) (fun c11 => ?_)
    · have hf := (o_i hf).1 c11
      refine lv_iinc (v := x3_52 + 1) (lv' := [(3, .int (x3_52 + 1)), (0, .ref (a 0)), (1, .ref (b 0)), (2, .int x2_42)]) hx hb dX0_go_81 hl (k := 3) rfl (congrArg (fun z => x3_52 + z) (by decide)) (by decide) rfl (fun ls hl => ?_)
      refine lv_goto (tgt := 52) hx hb dX0_go_84 (by decide) ?_
      exact ih _ _ _ _ _ hP hD hS (lv_sub hl [1, 2, 3, 0] rfl) hf
    have hf := (o_i hf).2 c11
    refine lv_iload_n hx hb dX0_go_79 rfl (lv_at hl 2 rfl) ?_
    have e9 := Option.some.inj hf
    subst e9
    exact rt_i C hP hS rfl dX0_go_80
set_option maxHeartbeats 4000000 in
set_option maxRecDepth 100000 in
theorem lX0_go_42 {p : Program} {e : Env} {s : State} {m : MethodId} {args : Array Value} {below : List Frame} {meth : Method} {c : Code} {A : Nat → Prop} (l : Launch) (G : GG) (C : Cx p m c cX0_go 4 s args wsX0_go RX0 meth (some .int) G A) (a : Nat → Nat) (b : Nat → Nat) (a_path : Nat → Int32) (a_favoured : Nat → Int32) (a_villages : Int32) (b_villages : Int32) (b_woods : Int32) (b_needs : Int32) (b_signs : Int32) (b_temper : Nat → Int32) (b_friend : Nat → Int32) (b_rope : Nat → Int32) (b_hears : Nat → Int32) (b_shut : Nat → Int32) (b_woodBell : Nat → Int32) (b_woodVillage : Nat → Int32) (b_needVillage : Nat → Int32) (b_needWind : Nat → Int32) (b_needSeen : Nat → Int32) (b_sign : Nat → Int32) (a_favoured_10_6 : Nat → Int32) (out : Int32 × (Nat → Int32) × (Nat → Int32) × Int32) (kx : Int32 → (Nat → Int32) → Option (Int32 × (Nat → Int32) × (Nat → Int32) × Int32)) (HX : ∀ (x2_42 : Int32) (a_path_42 : Nat → Int32) (H : Heap) (locs : List Loc) (ls : Array Slot), va_P G.1 vwCl (flat [wX0 G a a_path_42 a_favoured_10_6 b_villages, wX3 G b b_villages b_woods b_needs b_signs b_temper b_friend b_rope b_hears b_shut b_woodBell b_woodVillage b_needVillage b_needWind b_needSeen b_sign]) H → va_D A (flat [wX0 G a a_path_42 a_favoured_10_6 b_villages, wX3 G b b_villages b_woods b_needs b_signs b_temper b_friend b_rope b_hears b_shut b_woodBell b_woodVillage b_needVillage b_needWind b_needSeen b_sign]) → va_S A s.heap H locs → lv_has ls 4 [(0, .ref (a 0)), (1, .ref (b 0)), (2, .int x2_42)] → kx x2_42 a_path_42 = some out → W p l e rmX0_go s m args below meth c H locs 0 0 (MQ below (QI G A out.1 (flat [wX0 G a out.2.1 out.2.2.1 out.2.2.2, wX3 G b b_villages b_woods b_needs b_signs b_temper b_friend b_rope b_hears b_shut b_woodBell b_woodVillage b_needVillage b_needWind b_needSeen b_sign])) args s 0 0 A) (F0 m 93 ls [])) : ∀ (n : Nat) (x2_42 : Int32) (a_path_42 : Nat → Int32) (H : Heap) (locs : List Loc) (ls : Array Slot), va_P G.1 vwCl (flat [wX0 G a a_path_42 a_favoured_10_6 b_villages, wX3 G b b_villages b_woods b_needs b_signs b_temper b_friend b_rope b_hears b_shut b_woodBell b_woodVillage b_needVillage b_needWind b_needSeen b_sign]) H → va_D A (flat [wX0 G a a_path_42 a_favoured_10_6 b_villages, wX3 G b b_villages b_woods b_needs b_signs b_temper b_friend b_rope b_hears b_shut b_woodBell b_woodVillage b_needVillage b_needWind b_needSeen b_sign]) → va_S A s.heap H locs → lv_has ls 4 [(0, .ref (a 0)), (1, .ref (b 0)), (2, .int x2_42)] → fX0_go_42 b_villages a_favoured_10_6 kx n x2_42 a_path_42 = some out → W p l e rmX0_go s m args below meth c H locs 0 0 (MQ below (QI G A out.1 (flat [wX0 G a out.2.1 out.2.2.1 out.2.2.2, wX3 G b b_villages b_woods b_needs b_signs b_temper b_friend b_rope b_hears b_shut b_woodBell b_woodVillage b_needVillage b_needWind b_needSeen b_sign])) args s 0 0 A) (F0 m 42 ls []) := by
  obtain ⟨⟨hx, hb, hml, hown, hts⟩, hr, hlocks, hK, hN, hE, hA⟩ := id C
  intro n
  induction n with
  | zero =>
    intro x2_42 a_path_42 H locs ls hP hD hS hl hf
    exact absurd (show (none : Option (Int32 × (Nat → Int32) × (Nat → Int32) × Int32)) = some out from hf) (by intro q9; cases q9)
  | succ n ih =>
    intro x2_42 a_path_42 H locs ls hP hD hS hl hf
    rw [fX0_go_42] at hf
    refine lv_iload_n hx hb dX0_go_42 rfl (lv_at hl 2 rfl) ?_
    refine lv_aload_n hx hb dX0_go_43 rfl (lv_at hl 0 rfl) ?_
    refine va_get (D := G.1) (ci := 0) (v := .int b_villages) (C := RX0) (T := TX0) (N := 3) hx hb hts iiX0_go_X0 hown hK hP 0 rfl rfl 2 (by decide) (hts _ mmX0_go_3) (fun _ h9 => h9) rfl dX0_go_44 ?_
    refine lv_icmp_gt (tgt := 93) hx hb dX0_go_47 (by decide) (fun c7 => ?_) (fun c7 => ?_)
    · have hf := (o_i hf).1 c7
      exact HX _ _ _ _ _ hP hD hS (lv_sub hl [0, 1, 2] rfl) hf
    have hf := (o_i hf).2 c7
    refine lv_iconst (v := 0) hx hb dX0_go_50 (by decide) ?_
    refine lv_istore_n (lv' := [(3, .int 0), (0, .ref (a 0)), (1, .ref (b 0)), (2, .int x2_42)]) hx hb dX0_go_51 rfl hl (by decide) rfl (fun ls hl => ?_)
    refine lX0_go_52 l G C a b a_path a_favoured a_villages b_villages b_woods b_needs b_signs b_temper b_friend b_rope b_hears b_shut b_woodBell b_woodVillage b_needVillage b_needWind b_needSeen b_sign a_favoured_10_6 x2_42 out _ (fun x3_52_12 a_path_52_13 H locs ls hP hD hS hl hf => ?_) fu 0 a_path_42 _ _ _ hP hD hS (lv_sub hl [1, 2, 3, 0] rfl) hf
    refine lv_iinc (v := x2_42 + 1) (lv' := [(2, .int (x2_42 + 1)), (0, .ref (a 0)), (1, .ref (b 0)), (3, .int x3_52_12)]) hx hb dX0_go_87 hl (k := 2) rfl (congrArg (fun z => x2_42 + z) (by decide)) (by decide) rfl (fun ls hl => ?_)
    refine lv_goto (tgt := 42) hx hb dX0_go_90 (by decide) ?_
    exact ih _ _ _ _ _ hP hD hS (lv_sub hl [1, 2, 0] rfl) hf
set_option maxHeartbeats 4000000 in
set_option maxRecDepth 100000 in
theorem tX0_go (l : Launch) (G : GG) (a : Nat → Nat) (b : Nat → Nat) (a_path : Nat → Int32) (a_favoured : Nat → Int32) (a_villages : Int32) (b_villages : Int32) (b_woods : Int32) (b_needs : Int32) (b_signs : Int32) (b_temper : Nat → Int32) (b_friend : Nat → Int32) (b_rope : Nat → Int32) (b_hears : Nat → Int32) (b_shut : Nat → Int32) (b_woodBell : Nat → Int32) (b_woodVillage : Nat → Int32) (b_needVillage : Nat → Int32) (b_needWind : Nat → Int32) (b_needSeen : Nat → Int32) (b_sign : Nat → Int32) (out : Int32 × (Nat → Int32) × (Nat → Int32) × Int32) (hf : fX0_go a_path a_favoured b_villages b_rope b_hears b_shut = some out) : cMi l G yX0_go wsX0_go rmX0_go [.ref (a 0), .ref (b 0)] (flat [wX0 G a a_path a_favoured a_villages, wX3 G b b_villages b_woods b_needs b_signs b_temper b_friend b_rope b_hears b_shut b_woodBell b_woodVillage b_needVillage b_needWind b_needSeen b_sign]) out.1 (flat [wX0 G a out.2.1 out.2.2.1 out.2.2.2, wX3 G b b_villages b_woods b_needs b_signs b_temper b_friend b_rope b_hears b_shut b_woodBell b_woodVillage b_needVillage b_needWind b_needSeen b_sign]) := by
  intro sz
  refine met_of (cc := cX0_go) (nL := 4) (ret := (some .int)) (Qc := fun A9 => QI G A9 out.1 (flat [wX0 G a out.2.1 out.2.2.1 out.2.2.2, wX3 G b b_villages b_woods b_needs b_signs b_temper b_friend b_rope b_hears b_shut b_woodBell b_woodVillage b_needVillage b_needWind b_needSeen b_sign])) (by decide) rfl (Nat.le_of_ble_eq_true rfl) ?_
  intro p e s m args below meth c A ls C hP hD hS hl
  obtain ⟨⟨hx, hb, hml, hown, hts⟩, hr, hlocks, hK, hN, hE, hA⟩ := id C
  have hl : lv_has ls 4 [(0, .ref (a 0)), (1, .ref (b 0))] := hl
  unfold fX0_go at hf
  refine lv_aload_n hx hb dX0_go_0 rfl (lv_at hl 0 rfl) ?_
  refine lv_aload_n hx hb dX0_go_1 rfl (lv_at hl 1 rfl) ?_
  refine va_get (D := G.1) (ci := 3) (v := .int b_villages) (C := RX3) (T := TX3) (N := 15) hx hb hts iiX0_go_X3 hown hK hP 3 rfl rfl 0 (by decide) (hts _ mmX0_go_1) (fun _ h9 => h9) rfl dX0_go_2 ?_
  refine va_put (D := G.1) (ci := 0) (v := .int b_villages) (ty := .int) (C := RX0) (T := TX0) (N := 3) hx hb hts iiX0_go_X0 tyX0 tyX0_ok nmX0 hown hK hP hD hS 0 rfl rfl 2 (by decide) (hts _ mmX0_go_3) (fun _ h9 => h9) rfl (by decide +kernel) rfl rfl (Nat.le_of_ble_eq_true rfl) dX0_go_5 (fun H locs hP hD hS => ?_)
  have hP : va_P G.1 vwCl (flat [wX0 G a a_path a_favoured b_villages, wX3 G b b_villages b_woods b_needs b_signs b_temper b_friend b_rope b_hears b_shut b_woodBell b_woodVillage b_needVillage b_needWind b_needSeen b_sign]) H := hP
  have hD : va_D A (flat [wX0 G a a_path a_favoured b_villages, wX3 G b b_villages b_woods b_needs b_signs b_temper b_friend b_rope b_hears b_shut b_woodBell b_woodVillage b_needVillage b_needWind b_needSeen b_sign]) := hD
  refine lv_iconst (v := 0) hx hb dX0_go_8 (by decide) ?_
  refine lv_istore_n (lv' := [(2, .int 0), (0, .ref (a 0)), (1, .ref (b 0))]) hx hb dX0_go_9 rfl hl (by decide) rfl (fun ls hl => ?_)
  refine lX0_go_10 l G C a b a_path a_favoured a_villages b_villages b_woods b_needs b_signs b_temper b_friend b_rope b_hears b_shut b_woodBell b_woodVillage b_needVillage b_needWind b_needSeen b_sign out _ (fun x2_10_5 a_favoured_10_6 H locs ls hP hD hS hl hf => ?_) fu 0 a_favoured _ _ _ hP hD hS (lv_sub hl [1, 2, 0] rfl) hf
  refine lv_iconst (v := 2) hx hb dX0_go_40 (by decide) ?_
  refine lv_istore_n (lv' := [(2, .int 2), (0, .ref (a 0)), (1, .ref (b 0))]) hx hb dX0_go_41 rfl hl (by decide) rfl (fun ls hl => ?_)
  refine lX0_go_42 l G C a b a_path a_favoured a_villages b_villages b_woods b_needs b_signs b_temper b_friend b_rope b_hears b_shut b_woodBell b_woodVillage b_needVillage b_needWind b_needSeen b_sign a_favoured_10_6 out _ (fun x2_42_14 a_path_42_15 H locs ls hP hD hS hl hf => ?_) fu 2 a_path _ _ _ hP hD hS (lv_sub hl [1, 2, 0] rfl) hf
  refine lv_iconst (v := 0) hx hb dX0_go_93 (by decide) ?_
  have e9 := Option.some.inj hf
  subst e9
  exact rt_i C hP hS rfl dX0_go_94

/-! RX1 needsMet(LBlindBells$Valley;II)I -/
theorem iiX1_needsMet_X3 : ∀ w ∈ wsX30, w ∈ wsX1_needsMet := by decide +kernel
theorem mmX1_needsMet_1 : (Cond.fieldLink RX1 51 "BlindBells$Valley" "needs" "I") ∈ wsX1_needsMet := by decide +kernel
theorem mmX1_needsMet_2 : (Cond.fieldLink RX1 54 "BlindBells$Valley" "needWind" "[I") ∈ wsX1_needsMet := by decide +kernel
theorem mmX1_needsMet_3 : (Cond.fieldLink RX1 60 "BlindBells$Valley" "needVillage" "[I") ∈ wsX1_needsMet := by decide +kernel
theorem mmX1_needsMet_4 : (Cond.static yX6_has) ∈ wsX1_needsMet := by decide +kernel
theorem mmX1_needsMet_5 : (Cond.initialized RX6) ∈ wsX1_needsMet := by decide +kernel
theorem mmX1_needsMet_6 : (Cond.fieldLink RX1 63 "BlindBells$Valley" "needSeen" "[I") ∈ wsX1_needsMet := by decide +kernel
theorem hdX1_needsMet : yX1_needsMet.cls ≠ "java/lang/invoke/MethodHandle" ∧ yX1_needsMet.cls ≠ "java/lang/invoke/VarHandle" ∧ (parseMethodDescriptor yX1_needsMet.desc).map (fun d => d.parameters.length) = some 3 := by decide +kernel
abbrev rmX1_needsMet : Room := { frames := 1, cells := 0, slots := 0, locals := 22 }
set_option maxHeartbeats 4000000 in
set_option maxRecDepth 100000 in
theorem lX1_needsMet_5 {p : Program} {e : Env} {s : State} {m : MethodId} {args : Array Value} {below : List Frame} {meth : Method} {c : Code} {A : Nat → Prop} (l : Launch) (G : GG) (C : Cx p m c cX1_needsMet 6 s args wsX1_needsMet RX1 meth (some .int) G A) (b : Nat → Nat) (b_villages : Int32) (b_woods : Int32) (b_needs : Int32) (b_signs : Int32) (b_temper : Nat → Int32) (b_friend : Nat → Int32) (b_rope : Nat → Int32) (b_hears : Nat → Int32) (b_shut : Nat → Int32) (b_woodBell : Nat → Int32) (b_woodVillage : Nat → Int32) (b_needVillage : Nat → Int32) (b_needWind : Nat → Int32) (b_needSeen : Nat → Int32) (b_sign : Nat → Int32) (p1 : Int32) (p2 : Int32) (out : Int32) (kx : Int32 → Int32 → Option (Int32)) (HX : ∀ (x3_5 : Int32) (x4_5 : Int32) (H : Heap) (locs : List Loc) (ls : Array Slot), va_P G.1 vwCl (flat [wX3 G b b_villages b_woods b_needs b_signs b_temper b_friend b_rope b_hears b_shut b_woodBell b_woodVillage b_needVillage b_needWind b_needSeen b_sign]) H → va_D A (flat [wX3 G b b_villages b_woods b_needs b_signs b_temper b_friend b_rope b_hears b_shut b_woodBell b_woodVillage b_needVillage b_needWind b_needSeen b_sign]) → va_S A s.heap H locs → lv_has ls 6 [(0, .ref (b 0)), (1, .int p1), (2, .int p2), (3, .int x3_5), (4, .int x4_5)] → kx x3_5 x4_5 = some out → W p l e rmX1_needsMet s m args below meth c H locs 0 0 (MQ below (QI G A out (flat [wX3 G b b_villages b_woods b_needs b_signs b_temper b_friend b_rope b_hears b_shut b_woodBell b_woodVillage b_needVillage b_needWind b_needSeen b_sign])) args s 0 0 A) (F0 m 70 ls [])) : ∀ (n : Nat) (x3_5 : Int32) (x4_5 : Int32) (H : Heap) (locs : List Loc) (ls : Array Slot), va_P G.1 vwCl (flat [wX3 G b b_villages b_woods b_needs b_signs b_temper b_friend b_rope b_hears b_shut b_woodBell b_woodVillage b_needVillage b_needWind b_needSeen b_sign]) H → va_D A (flat [wX3 G b b_villages b_woods b_needs b_signs b_temper b_friend b_rope b_hears b_shut b_woodBell b_woodVillage b_needVillage b_needWind b_needSeen b_sign]) → va_S A s.heap H locs → lv_has ls 6 [(0, .ref (b 0)), (1, .int p1), (2, .int p2), (3, .int x3_5), (4, .int x4_5)] → fX1_needsMet_5 p1 p2 b_needs b_hears b_shut b_needVillage b_needWind b_needSeen kx n x3_5 x4_5 = some out → W p l e rmX1_needsMet s m args below meth c H locs 0 0 (MQ below (QI G A out (flat [wX3 G b b_villages b_woods b_needs b_signs b_temper b_friend b_rope b_hears b_shut b_woodBell b_woodVillage b_needVillage b_needWind b_needSeen b_sign])) args s 0 0 A) (F0 m 5 ls []) := by
  obtain ⟨⟨hx, hb, hml, hown, hts⟩, hr, hlocks, hK, hN, hE, hA⟩ := id C
  intro n
  induction n with
  | zero =>
    intro x3_5 x4_5 H locs ls hP hD hS hl hf
    exact absurd (show (none : Option (Int32)) = some out from hf) (by intro q9; cases q9)
  | succ n ih =>
    intro x3_5 x4_5 H locs ls hP hD hS hl hf
    rw [fX1_needsMet_5] at hf
    refine lv_iload hx hb dX1_needsMet_5 (lv_at hl 4 rfl) ?_
    refine lv_aload_n hx hb dX1_needsMet_7 rfl (lv_at hl 0 rfl) ?_
    refine va_get (D := G.1) (ci := 3) (v := .int b_needs) (C := RX3) (T := TX3) (N := 15) hx hb hts iiX1_needsMet_X3 hown hK hP 0 rfl rfl 2 (by decide) (hts _ mmX1_needsMet_1) (fun _ h9 => h9) rfl dX1_needsMet_8 ?_
    refine lv_icmp_ge (tgt := 70) hx hb dX1_needsMet_11 (by decide) (fun c1 => ?_) (fun c1 => ?_)
    · have hf := (o_i hf).1 c1
      exact HX _ _ _ _ _ hP hD hS (lv_sub hl [0, 1, 2, 3, 4] rfl) hf
    have hf := (o_i hf).2 c1
    refine lv_aload_n hx hb dX1_needsMet_14 rfl (lv_at hl 0 rfl) ?_
    refine lv_iload_n hx hb dX1_needsMet_15 rfl (lv_at hl 1 rfl) ?_
    refine lv_aload_n hx hb dX1_needsMet_16 rfl (lv_at hl 0 rfl) ?_
    refine va_get (D := G.1) (ci := 3) (v := .ref (b 9)) (C := RX3) (T := TX3) (N := 15) hx hb hts iiX1_needsMet_X3 hown hK hP 0 rfl rfl 12 (by decide) (hts _ mmX1_needsMet_2) (fun _ h9 => h9) rfl dX1_needsMet_17 ?_
    refine lv_iload hx hb dX1_needsMet_20 (lv_at hl 4 rfl) ?_
    obtain ⟨z2, hz2, hf⟩ := o_b hf
    refine k_iald hx hb hK hP 9 0 rfl rfl hz2 dX1_needsMet_22 ?_
    obtain ⟨g3, hg3, hf⟩ := o_b hf
    refine bVi C hP hD hS (tX3_heardIn l G b b_villages b_woods b_needs b_signs b_temper b_friend b_rope b_hears b_shut b_woodBell b_woodVillage b_needVillage b_needWind b_needSeen b_sign p1 z2 g3 hg3) gX1_needsMet_X3_heardIn rfl ⟨rfl, rfl⟩ hdX3_heardIn ⟨Nat.le_of_ble_eq_true rfl, Nat.le_of_ble_eq_true rfl⟩ rfl hl.1 rfl (Nat.le_of_ble_eq_true rfl) ⟨Nat.le_of_ble_eq_true rfl, Nat.le_of_ble_eq_true rfl⟩ [0] rfl rfl rfl (setB_same _ _ _ rfl) rfl (ci := 3) (q0 := 0) rfl rfl rfl dX1_needsMet_23 (fun H locs hP hD hS => ?_)
    refine lv_aload_n hx hb dX1_needsMet_26 rfl (lv_at hl 0 rfl) ?_
    refine va_get (D := G.1) (ci := 3) (v := .ref (b 8)) (C := RX3) (T := TX3) (N := 15) hx hb hts iiX1_needsMet_X3 hown hK hP 0 rfl rfl 11 (by decide) (hts _ mmX1_needsMet_3) (fun _ h9 => h9) rfl dX1_needsMet_27 ?_
    refine at_pc (pc' := 30) rfl ?_
    refine lv_iload hx hb dX1_needsMet_30 (lv_at hl 4 rfl) ?_
    obtain ⟨z4, hz4, hf⟩ := o_b hf
    refine k_iald hx hb hK hP 8 0 rfl rfl hz4 dX1_needsMet_32 ?_
    obtain ⟨g5, hg5, hf⟩ := o_b hf
    refine bNi C hP hD hS (tX6_has l G g3 z4 g5 hg5) gX1_needsMet_X6_has_n39 (nw7 hN) (hts _ mmX1_needsMet_4) (hts _ mmX1_needsMet_5) rfl ⟨rfl, rfl⟩ hdX6_has ⟨Nat.le_of_ble_eq_true rfl, Nat.le_of_ble_eq_true rfl⟩ rfl hl.1 rfl (Nat.le_of_ble_eq_true rfl) ⟨Nat.le_of_ble_eq_true rfl, Nat.le_of_ble_eq_true rfl⟩ [] rfl rfl rfl (setB_same _ _ _ rfl) rfl dX1_needsMet_33 (fun H locs hP hD hS => ?_)
    refine lv_istore (lv' := [(5, .int g5), (0, .ref (b 0)), (1, .int p1), (2, .int p2), (3, .int x3_5), (4, .int x4_5)]) hx hb dX1_needsMet_36 hl (by decide) rfl (fun ls hl => ?_)
    refine lv_iload hx hb dX1_needsMet_38 (lv_at hl 0 rfl) ?_
    refine lv_if_eq (tgt := 64) hx hb dX1_needsMet_40 (by decide) (fun c6 => ?_) (fun c6 => ?_)
    · have hf := (o_i hf).1 c6
      refine lv_iinc (v := x4_5 + 1) (lv' := [(4, .int (x4_5 + 1)), (5, .int g5), (0, .ref (b 0)), (1, .int p1), (2, .int p2), (3, .int x3_5)]) hx hb dX1_needsMet_64 hl (k := 5) rfl (congrArg (fun z => x4_5 + z) (by decide)) (by decide) rfl (fun ls hl => ?_)
      refine lv_goto (tgt := 5) hx hb dX1_needsMet_67 (by decide) ?_
      exact ih _ _ _ _ _ hP hD hS (lv_sub hl [2, 3, 4, 5, 0] rfl) hf
    have hf := (o_i hf).2 c6
    refine lv_aload_n hx hb dX1_needsMet_43 rfl (lv_at hl 1 rfl) ?_
    refine va_get (D := G.1) (ci := 3) (v := .ref (b 10)) (C := RX3) (T := TX3) (N := 15) hx hb hts iiX1_needsMet_X3 hown hK hP 0 rfl rfl 13 (by decide) (hts _ mmX1_needsMet_6) (fun _ h9 => h9) rfl dX1_needsMet_44 ?_
    refine lv_iload hx hb dX1_needsMet_47 (lv_at hl 5 rfl) ?_
    obtain ⟨z7, hz7, hf⟩ := o_b hf
    refine k_iald hx hb hK hP 10 0 rfl rfl hz7 dX1_needsMet_49 ?_
    refine lv_iload_n hx hb dX1_needsMet_50 rfl (lv_at hl 3 rfl) ?_
    obtain ⟨g8, hg8, hf⟩ := o_b hf
    refine bNi C hP hD hS (tX6_has l G z7 p2 g8 hg8) gX1_needsMet_X6_has_n39 (nw7 hN) (hts _ mmX1_needsMet_4) (hts _ mmX1_needsMet_5) rfl ⟨rfl, rfl⟩ hdX6_has ⟨Nat.le_of_ble_eq_true rfl, Nat.le_of_ble_eq_true rfl⟩ rfl hl.1 rfl (Nat.le_of_ble_eq_true rfl) ⟨Nat.le_of_ble_eq_true rfl, Nat.le_of_ble_eq_true rfl⟩ [] rfl rfl rfl (setB_same _ _ _ rfl) rfl dX1_needsMet_51 (fun H locs hP hD hS => ?_)
    refine lv_if_eq (tgt := 64) hx hb dX1_needsMet_54 (by decide) (fun c9 => ?_) (fun c9 => ?_)
    · have hf := (o_i hf).1 c9
      refine lv_iinc (v := x4_5 + 1) (lv' := [(4, .int (x4_5 + 1)), (5, .int g5), (0, .ref (b 0)), (1, .int p1), (2, .int p2), (3, .int x3_5)]) hx hb dX1_needsMet_64 hl (k := 5) rfl (congrArg (fun z => x4_5 + z) (by decide)) (by decide) rfl (fun ls hl => ?_)
      refine lv_goto (tgt := 5) hx hb dX1_needsMet_67 (by decide) ?_
      exact ih _ _ _ _ _ hP hD hS (lv_sub hl [2, 3, 4, 5, 0] rfl) hf
    have hf := (o_i hf).2 c9
    refine lv_iload_n hx hb dX1_needsMet_57 rfl (lv_at hl 4 rfl) ?_
    refine lv_iconst (v := 1) hx hb dX1_needsMet_58 (by decide) ?_
    refine lv_iload hx hb dX1_needsMet_59 (lv_at hl 5 rfl) ?_
    refine lv_ishl hx hb dX1_needsMet_61 ?_
    refine lv_ior hx hb dX1_needsMet_62 ?_
    refine lv_istore_n (lv' := [(3, .int (x3_5 ||| (1 <<< (x4_5 &&& 31)))), (5, .int g5), (0, .ref (b 0)), (1, .int p1), (2, .int p2), (4, .int x4_5)]) hx hb dX1_needsMet_63 rfl hl (by decide) rfl (fun ls hl => ?_)
    refine lv_iinc (v := x4_5 + 1) (lv' := [(4, .int (x4_5 + 1)), (3, .int (x3_5 ||| (1 <<< (x4_5 &&& 31)))), (5, .int g5), (0, .ref (b 0)), (1, .int p1), (2, .int p2)]) hx hb dX1_needsMet_64 hl (k := 5) rfl (congrArg (fun z => x4_5 + z) (by decide)) (by decide) rfl (fun ls hl => ?_)
    refine lv_goto (tgt := 5) hx hb dX1_needsMet_67 (by decide) ?_
    exact ih _ _ _ _ _ hP hD hS (lv_sub hl [3, 4, 5, 1, 0] rfl) hf
set_option maxHeartbeats 4000000 in
set_option maxRecDepth 100000 in
theorem tX1_needsMet (l : Launch) (G : GG) (b : Nat → Nat) (b_villages : Int32) (b_woods : Int32) (b_needs : Int32) (b_signs : Int32) (b_temper : Nat → Int32) (b_friend : Nat → Int32) (b_rope : Nat → Int32) (b_hears : Nat → Int32) (b_shut : Nat → Int32) (b_woodBell : Nat → Int32) (b_woodVillage : Nat → Int32) (b_needVillage : Nat → Int32) (b_needWind : Nat → Int32) (b_needSeen : Nat → Int32) (b_sign : Nat → Int32) (p1 : Int32) (p2 : Int32) (out : Int32) (hf : fX1_needsMet b_needs b_hears b_shut b_needVillage b_needWind b_needSeen p1 p2 = some out) : cMi l G yX1_needsMet wsX1_needsMet rmX1_needsMet [.ref (b 0), .int p1, .int p2] (flat [wX3 G b b_villages b_woods b_needs b_signs b_temper b_friend b_rope b_hears b_shut b_woodBell b_woodVillage b_needVillage b_needWind b_needSeen b_sign]) out (flat [wX3 G b b_villages b_woods b_needs b_signs b_temper b_friend b_rope b_hears b_shut b_woodBell b_woodVillage b_needVillage b_needWind b_needSeen b_sign]) := by
  intro sz
  refine met_of (cc := cX1_needsMet) (nL := 6) (ret := (some .int)) (Qc := fun A9 => QI G A9 out (flat [wX3 G b b_villages b_woods b_needs b_signs b_temper b_friend b_rope b_hears b_shut b_woodBell b_woodVillage b_needVillage b_needWind b_needSeen b_sign])) (by decide) rfl (Nat.le_of_ble_eq_true rfl) ?_
  intro p e s m args below meth c A ls C hP hD hS hl
  obtain ⟨⟨hx, hb, hml, hown, hts⟩, hr, hlocks, hK, hN, hE, hA⟩ := id C
  have hl : lv_has ls 6 [(0, .ref (b 0)), (1, .int p1), (2, .int p2)] := hl
  unfold fX1_needsMet at hf
  refine lv_iconst (v := 0) hx hb dX1_needsMet_0 (by decide) ?_
  refine lv_istore_n (lv' := [(3, .int 0), (0, .ref (b 0)), (1, .int p1), (2, .int p2)]) hx hb dX1_needsMet_1 rfl hl (by decide) rfl (fun ls hl => ?_)
  refine lv_iconst (v := 0) hx hb dX1_needsMet_2 (by decide) ?_
  refine lv_istore (lv' := [(4, .int 0), (3, .int 0), (0, .ref (b 0)), (1, .int p1), (2, .int p2)]) hx hb dX1_needsMet_3 hl (by decide) rfl (fun ls hl => ?_)
  refine lX1_needsMet_5 l G C b b_villages b_woods b_needs b_signs b_temper b_friend b_rope b_hears b_shut b_woodBell b_woodVillage b_needVillage b_needWind b_needSeen b_sign p1 p2 out _ (fun x3_5_10 x4_5_11 H locs ls hP hD hS hl hf => ?_) fu 0 0 _ _ _ hP hD hS (lv_sub hl [2, 3, 4, 1, 0] rfl) hf
  refine lv_iload_n hx hb dX1_needsMet_70 rfl (lv_at hl 3 rfl) ?_
  have e9 := Option.some.inj hf
  subst e9
  exact rt_i C hP hS rfl dX1_needsMet_71

/-! RX1 keepIfMore(I)V -/
theorem iiX1_keepIfMore_X1 : ∀ w ∈ wsX10, w ∈ wsX1_keepIfMore := by decide +kernel
theorem mmX1_keepIfMore_1 : (Cond.fieldLink RX1 28 "BlindBells$RopeSearch" "most" "I") ∈ wsX1_keepIfMore := by decide +kernel
theorem mmX1_keepIfMore_2 : (Cond.fieldLink RX1 15 "BlindBells$RopeSearch" "given" "[I") ∈ wsX1_keepIfMore := by decide +kernel
theorem mmX1_keepIfMore_3 : (Cond.fieldLink RX1 9 "BlindBells$RopeSearch" "best" "[I") ∈ wsX1_keepIfMore := by decide +kernel
theorem mmX1_keepIfMore_4 : (Cond.methodLink RX1 75 arraycopyName) ∈ wsX1_keepIfMore := by decide +kernel
theorem mmX1_keepIfMore_5 : (Cond.native arraycopyName) ∈ wsX1_keepIfMore := by decide +kernel
theorem mmX1_keepIfMore_6 : (Cond.static arraycopyName) ∈ wsX1_keepIfMore := by decide +kernel
theorem mmX1_keepIfMore_7 : (Cond.initialized "java/lang/System") ∈ wsX1_keepIfMore := by decide +kernel
theorem hdX1_keepIfMore : yX1_keepIfMore.cls = RX1 ∧ yX1_keepIfMore.cls ≠ "java/lang/invoke/MethodHandle" ∧ yX1_keepIfMore.cls ≠ "java/lang/invoke/VarHandle" ∧ (parseMethodDescriptor yX1_keepIfMore.desc).map (fun d => d.parameters.length) = some 1 := by decide +kernel
abbrev rmX1_keepIfMore : Room := { frames := 1, cells := 0, slots := 0, locals := 80 }
set_option maxHeartbeats 4000000 in
set_option maxRecDepth 100000 in
theorem tX1_keepIfMore (l : Launch) (G : GG) (a : Nat → Nat) (a_best : Nat → Int32) (a_most : Int32) (a_given : Nat → Int32) (a_meets : Nat → Int32) (a_villages : Int32) (p0 : Int32) (out : (Nat → Int32) × Int32) (hf : fX1_keepIfMore a_best a_most a_given p0 = some out) : cMv l G yX1_keepIfMore wsX1_keepIfMore rmX1_keepIfMore [.ref (a 0), .int p0] (flat [wX1 G a a_best a_most a_given a_meets a_villages]) (flat [wX1 G a out.1 out.2 a_given a_meets a_villages]) := by
  intro sz
  refine met_of (cc := cX1_keepIfMore) (nL := 2) (ret := none) (Qc := fun A9 => QV G A9 (flat [wX1 G a out.1 out.2 a_given a_meets a_villages])) (by decide) rfl (Nat.le_of_ble_eq_true rfl) ?_
  intro p e s m args below meth c A ls C hP hD hS hl
  obtain ⟨⟨hx, hb, hml, hown, hts⟩, hr, hlocks, hK, hN, hE, hA⟩ := id C
  have hl : lv_has ls 2 [(0, .ref (a 0)), (1, .int p0)] := hl
  unfold fX1_keepIfMore at hf
  refine lv_iload_n hx hb dX1_keepIfMore_0 rfl (lv_at hl 1 rfl) ?_
  refine lv_aload_n hx hb dX1_keepIfMore_1 rfl (lv_at hl 0 rfl) ?_
  refine va_get (D := G.1) (ci := 1) (v := .int a_most) (C := RX1) (T := TX1) (N := 5) hx hb hts iiX1_keepIfMore_X1 hown hK hP 0 rfl rfl 1 (by decide) (hts _ mmX1_keepIfMore_1) (fun _ h9 => h9) rfl dX1_keepIfMore_2 ?_
  refine lv_icmp_le (tgt := 28) hx hb dX1_keepIfMore_5 (by decide) (fun c1 => ?_) (fun c1 => ?_)
  · have hf := (o_i hf).1 c1
    have e9 := Option.some.inj hf
    subst e9
    exact rt_v C hP hS dX1_keepIfMore_28
  have hf := (o_i hf).2 c1
  refine lv_aload_n hx hb dX1_keepIfMore_8 rfl (lv_at hl 0 rfl) ?_
  refine lv_iload_n hx hb dX1_keepIfMore_9 rfl (lv_at hl 1 rfl) ?_
  refine va_put (D := G.1) (ci := 1) (v := .int p0) (ty := .int) (C := RX1) (T := TX1) (N := 5) hx hb hts iiX1_keepIfMore_X1 tyX1 tyX1_ok nmX1 hown hK hP hD hS 0 rfl rfl 1 (by decide) (hts _ mmX1_keepIfMore_1) (fun _ h9 => h9) rfl (by decide +kernel) rfl rfl (Nat.le_of_ble_eq_true rfl) dX1_keepIfMore_10 (fun H locs hP hD hS => ?_)
  have hP : va_P G.1 vwCl (flat [wX1 G a a_best p0 a_given a_meets a_villages]) H := hP
  have hD : va_D A (flat [wX1 G a a_best p0 a_given a_meets a_villages]) := hD
  refine lv_aload_n hx hb dX1_keepIfMore_13 rfl (lv_at hl 0 rfl) ?_
  refine va_get (D := G.1) (ci := 1) (v := .ref (a 2)) (C := RX1) (T := TX1) (N := 5) hx hb hts iiX1_keepIfMore_X1 hown hK hP 0 rfl rfl 2 (by decide) (hts _ mmX1_keepIfMore_2) (fun _ h9 => h9) rfl dX1_keepIfMore_14 ?_
  refine lv_iconst (v := 0) hx hb dX1_keepIfMore_17 (by decide) ?_
  refine lv_aload_n hx hb dX1_keepIfMore_18 rfl (lv_at hl 0 rfl) ?_
  refine va_get (D := G.1) (ci := 1) (v := .ref (a 1)) (C := RX1) (T := TX1) (N := 5) hx hb hts iiX1_keepIfMore_X1 hown hK hP 0 rfl rfl 0 (by decide) (hts _ mmX1_keepIfMore_3) (fun _ h9 => h9) rfl dX1_keepIfMore_19 ?_
  refine lv_iconst (v := 0) hx hb dX1_keepIfMore_22 (by decide) ?_
  refine at_pc (pc' := 23) rfl ?_
  refine lv_bipush (v := 6) hx hb dX1_keepIfMore_23 (by decide) ?_
  refine va_copyi hx hb (by rw [hml]; exact hl.1.symm) hown (hts _ mmX1_keepIfMore_4) (hts _ mmX1_keepIfMore_5) (hts _ mmX1_keepIfMore_6) (hts _ mmX1_keepIfMore_7) hK hP hD hS 2 1 0 0 rfl rfl rfl rfl rfl (by decide) (by decide) (by decide) (by decide) (by decide) (fun _ _ => rfl) (Nat.le_of_ble_eq_true rfl) (by decide) dX1_keepIfMore_25 (fun H locs hP hD hS => ?_)
  have hP : va_P G.1 vwCl (flat [wX1 G a (cpI 6 a_given a_best) p0 a_given a_meets a_villages]) H := hP
  have hD : va_D A (flat [wX1 G a (cpI 6 a_given a_best) p0 a_given a_meets a_villages]) := hD
  have e9 := Option.some.inj hf
  subst e9
  exact rt_v C hP hS dX1_keepIfMore_28

/-! RX1 give(LBlindBells$RopeSearch;III)V -/
theorem iiX1_give_X1 : ∀ w ∈ wsX10, w ∈ wsX1_give := by decide +kernel
theorem mmX1_give_1 : (Cond.fieldLink RX1 27 "BlindBells$RopeSearch" "villages" "I") ∈ wsX1_give := by decide +kernel
theorem mmX1_give_2 : (Cond.fieldLink RX1 18 "BlindBells$RopeSearch" "meets" "[I") ∈ wsX1_give := by decide +kernel
theorem mmX1_give_3 : (Cond.static yX6_pair) ∈ wsX1_give := by decide +kernel
theorem mmX1_give_4 : (Cond.initialized RX6) ∈ wsX1_give := by decide +kernel
theorem mmX1_give_5 : (Cond.static yX6_has) ∈ wsX1_give := by decide +kernel
theorem mmX1_give_6 : (Cond.fieldLink RX1 15 "BlindBells$RopeSearch" "given" "[I") ∈ wsX1_give := by decide +kernel
theorem hdX1_give : yX1_give.cls ≠ "java/lang/invoke/MethodHandle" ∧ yX1_give.cls ≠ "java/lang/invoke/VarHandle" ∧ (parseMethodDescriptor yX1_give.desc).map (fun d => d.parameters.length) = some 4 := by decide +kernel
abbrev rmX1_give (d : Nat) : Room := { frames := d + 2, cells := 0, slots := 0, locals := 25 * d + 101 }
set_option maxHeartbeats 4000000 in
set_option maxRecDepth 100000 in
theorem lX1_give_26 {p : Program} {e : Env} {s : State} {m : MethodId} {args : Array Value} {below : List Frame} {meth : Method} {c : Code} {A : Nat → Prop} (l : Launch) (G : GG) (C : Cx p m c cX1_give 6 s args wsX1_give RX1 meth none G A) (b : Nat → Nat) (b_best : Nat → Int32) (b_most : Int32) (b_given : Nat → Int32) (b_meets : Nat → Int32) (b_villages : Int32) (p1 : Int32) (p2 : Int32) (p3 : Int32) (d : Nat) (rec : (Nat → Int32) → Int32 → (Nat → Int32) → (Nat → Int32) → Int32 → Int32 → Int32 → Int32 → Option ((Nat → Int32) × Int32 × (Nat → Int32))) (IH : ∀ (b_best : Nat → Int32) (b_most : Int32) (b_given : Nat → Int32) (b_meets : Nat → Int32) (b_villages : Int32) (p1 : Int32) (p2 : Int32) (p3 : Int32) (out : (Nat → Int32) × Int32 × (Nat → Int32)), rec b_best b_most b_given b_meets b_villages p1 p2 p3 = some out → cMv l G yX1_give wsX1_give (rmX1_give d) [.ref (b 0), .int p1, .int p2, .int p3] (flat [wX1 G b b_best b_most b_given b_meets b_villages]) (flat [wX1 G b out.1 out.2.1 out.2.2 b_meets b_villages])) (out : (Nat → Int32) × Int32 × (Nat → Int32)) (kx : Int32 → (Nat → Int32) → Int32 → (Nat → Int32) → Option ((Nat → Int32) × Int32 × (Nat → Int32))) (HX : ∀ (x4_26 : Int32) (b_best_26 : Nat → Int32) (b_most_26 : Int32) (b_given_26 : Nat → Int32) (H : Heap) (locs : List Loc) (ls : Array Slot), va_P G.1 vwCl (flat [wX1 G b b_best_26 b_most_26 b_given_26 b_meets b_villages]) H → va_D A (flat [wX1 G b b_best_26 b_most_26 b_given_26 b_meets b_villages]) → va_S A s.heap H locs → lv_has ls 6 [(0, .ref (b 0)), (1, .int p1), (2, .int p2), (3, .int p3), (4, .int x4_26)] → kx x4_26 b_best_26 b_most_26 b_given_26 = some out → W p l e (rmX1_give (d + 1)) s m args below meth c H locs 0 0 (MQ below (QV G A (flat [wX1 G b out.1 out.2.1 out.2.2 b_meets b_villages])) args s 0 0 A) (F0 m 94 ls [])) : ∀ (n : Nat) (x4_26 : Int32) (b_best_26 : Nat → Int32) (b_most_26 : Int32) (b_given_26 : Nat → Int32) (H : Heap) (locs : List Loc) (ls : Array Slot), va_P G.1 vwCl (flat [wX1 G b b_best_26 b_most_26 b_given_26 b_meets b_villages]) H → va_D A (flat [wX1 G b b_best_26 b_most_26 b_given_26 b_meets b_villages]) → va_S A s.heap H locs → lv_has ls 6 [(0, .ref (b 0)), (1, .int p1), (2, .int p2), (3, .int p3), (4, .int x4_26)] → fX1_give_26 p1 p2 p3 b_meets b_villages rec kx n x4_26 b_best_26 b_most_26 b_given_26 = some out → W p l e (rmX1_give (d + 1)) s m args below meth c H locs 0 0 (MQ below (QV G A (flat [wX1 G b out.1 out.2.1 out.2.2 b_meets b_villages])) args s 0 0 A) (F0 m 26 ls []) := by
  obtain ⟨⟨hx, hb, hml, hown, hts⟩, hr, hlocks, hK, hN, hE, hA⟩ := id C
  intro n
  induction n with
  | zero =>
    intro x4_26 b_best_26 b_most_26 b_given_26 H locs ls hP hD hS hl hf
    exact absurd (show (none : Option ((Nat → Int32) × Int32 × (Nat → Int32))) = some out from hf) (by intro q9; cases q9)
  | succ n ih =>
    intro x4_26 b_best_26 b_most_26 b_given_26 H locs ls hP hD hS hl hf
    rw [fX1_give_26] at hf
    refine lv_iload hx hb dX1_give_26 (lv_at hl 4 rfl) ?_
    refine lv_aload_n hx hb dX1_give_28 rfl (lv_at hl 0 rfl) ?_
    refine va_get (D := G.1) (ci := 1) (v := .int b_villages) (C := RX1) (T := TX1) (N := 5) hx hb hts iiX1_give_X1 hown hK hP 0 rfl rfl 4 (by decide) (hts _ mmX1_give_1) (fun _ h9 => h9) rfl dX1_give_29 ?_
    refine lv_icmp_ge (tgt := 94) hx hb dX1_give_32 (by decide) (fun c5 => ?_) (fun c5 => ?_)
    · have hf := (o_i hf).1 c5
      exact HX _ _ _ _ _ _ _ hP hD hS (lv_sub hl [0, 1, 2, 3, 4] rfl) hf
    have hf := (o_i hf).2 c5
    refine lv_aload_n hx hb dX1_give_35 rfl (lv_at hl 0 rfl) ?_
    refine va_get (D := G.1) (ci := 1) (v := .ref (b 3)) (C := RX1) (T := TX1) (N := 5) hx hb hts iiX1_give_X1 hown hK hP 0 rfl rfl 3 (by decide) (hts _ mmX1_give_2) (fun _ h9 => h9) rfl dX1_give_36 ?_
    refine lv_iload_n hx hb dX1_give_39 rfl (lv_at hl 1 rfl) ?_
    refine lv_iload hx hb dX1_give_40 (lv_at hl 4 rfl) ?_
    obtain ⟨g6, hg6, hf⟩ := o_b hf
    refine bNi C hP hD hS (tX6_pair l G p1 x4_26 g6 hg6) gX1_give_X6_pair_n35 (nw6 hN) (hts _ mmX1_give_3) (hts _ mmX1_give_4) rfl ⟨rfl, rfl⟩ hdX6_pair ⟨by dsimp only [rmX1_give, rmX6_pair]; omega, by dsimp only [rmX1_give, rmX6_pair]; omega⟩ rfl hl.1 rfl (Nat.le_of_ble_eq_true rfl) ⟨Nat.le_of_ble_eq_true rfl, Nat.le_of_ble_eq_true rfl⟩ [] rfl rfl rfl (setB_same _ _ _ rfl) rfl dX1_give_42 (fun H locs hP hD hS => ?_)
    obtain ⟨z7, hz7, hf⟩ := o_b hf
    refine k_iald hx hb hK hP 3 0 rfl rfl hz7 dX1_give_45 ?_
    refine lv_istore (lv' := [(5, .int z7), (0, .ref (b 0)), (1, .int p1), (2, .int p2), (3, .int p3), (4, .int x4_26)]) hx hb dX1_give_46 hl (by decide) rfl (fun ls hl => ?_)
    refine lv_iload hx hb dX1_give_48 (lv_at hl 0 rfl) ?_
    refine lv_iconst (v := (-1)) hx hb dX1_give_50 (by decide) ?_
    refine at_pc (pc' := 51) rfl ?_
    refine lv_icmp_eq (tgt := 88) hx hb dX1_give_51 (by decide) (fun c8 => ?_) (fun c8 => ?_)
    · have hf := (o_i hf).1 c8
      refine lv_iinc (v := x4_26 + 1) (lv' := [(4, .int (x4_26 + 1)), (5, .int z7), (0, .ref (b 0)), (1, .int p1), (2, .int p2), (3, .int p3)]) hx hb dX1_give_88 hl (k := 5) rfl (congrArg (fun z => x4_26 + z) (by decide)) (by decide) rfl (fun ls hl => ?_)
      refine lv_goto (tgt := 26) hx hb dX1_give_91 (by decide) ?_
      exact ih _ _ _ _ _ _ _ hP hD hS (lv_sub hl [2, 3, 4, 5, 0] rfl) hf
    have hf := (o_i hf).2 c8
    refine lv_iload_n hx hb dX1_give_54 rfl (lv_at hl 3 rfl) ?_
    refine lv_iload hx hb dX1_give_55 (lv_at hl 5 rfl) ?_
    obtain ⟨g9, hg9, hf⟩ := o_b hf
    refine bNi C hP hD hS (tX6_has l G p2 x4_26 g9 hg9) gX1_give_X6_has_n39 (nw7 hN) (hts _ mmX1_give_5) (hts _ mmX1_give_4) rfl ⟨rfl, rfl⟩ hdX6_has ⟨by dsimp only [rmX1_give, rmX6_has]; omega, by dsimp only [rmX1_give, rmX6_has]; omega⟩ rfl hl.1 rfl (Nat.le_of_ble_eq_true rfl) ⟨Nat.le_of_ble_eq_true rfl, Nat.le_of_ble_eq_true rfl⟩ [] rfl rfl rfl (setB_same _ _ _ rfl) rfl dX1_give_57 (fun H locs hP hD hS => ?_)
    refine lv_if_ne (tgt := 88) hx hb dX1_give_60 (by decide) (fun c10 => ?_) (fun c10 => ?_)
    · have hf := (o_i hf).2 c10
      refine lv_iinc (v := x4_26 + 1) (lv' := [(4, .int (x4_26 + 1)), (5, .int z7), (0, .ref (b 0)), (1, .int p1), (2, .int p2), (3, .int p3)]) hx hb dX1_give_88 hl (k := 5) rfl (congrArg (fun z => x4_26 + z) (by decide)) (by decide) rfl (fun ls hl => ?_)
      refine lv_goto (tgt := 26) hx hb dX1_give_91 (by decide) ?_
      exact ih _ _ _ _ _ _ _ hP hD hS (lv_sub hl [2, 3, 4, 5, 0] rfl) hf
    have hf := (o_i hf).1 c10
    refine lv_aload_n hx hb dX1_give_63 rfl (lv_at hl 1 rfl) ?_
    refine va_get (D := G.1) (ci := 1) (v := .ref (b 2)) (C := RX1) (T := TX1) (N := 5) hx hb hts iiX1_give_X1 hown hK hP 0 rfl rfl 2 (by decide) (hts _ mmX1_give_6) (fun _ h9 => h9) rfl dX1_give_64 ?_
    refine lv_iload_n hx hb dX1_give_67 rfl (lv_at hl 2 rfl) ?_
    refine lv_iload hx hb dX1_give_68 (lv_at hl 5 rfl) ?_
    obtain ⟨u11, hu11, hf⟩ := o_b hf
    refine k_iast hx hb hK hP hD hS 2 0 rfl rfl hu11 dX1_give_70 (fun H locs hP hD hS => ?_)
    have hP : va_P G.1 vwCl (flat [wX1 G b b_best_26 b_most_26 u11 b_meets b_villages]) H := hP
    have hD : va_D A (flat [wX1 G b b_best_26 b_most_26 u11 b_meets b_villages]) := hD
    refine lv_aload_n hx hb dX1_give_71 rfl (lv_at hl 1 rfl) ?_
    refine lv_iload_n hx hb dX1_give_72 rfl (lv_at hl 2 rfl) ?_
    refine lv_iconst (v := 1) hx hb dX1_give_73 (by decide) ?_
    refine lv_iadd hx hb dX1_give_74 ?_
    refine at_pc (pc' := 75) rfl ?_
    refine lv_iload_n hx hb dX1_give_75 rfl (lv_at hl 3 rfl) ?_
    refine lv_iconst (v := 1) hx hb dX1_give_76 (by decide) ?_
    refine lv_iload hx hb dX1_give_77 (lv_at hl 5 rfl) ?_
    refine lv_ishl hx hb dX1_give_79 ?_
    refine lv_ior hx hb dX1_give_80 ?_
    refine lv_iload_n hx hb dX1_give_81 rfl (lv_at hl 4 rfl) ?_
    refine lv_iload hx hb dX1_give_82 (lv_at hl 0 rfl) ?_
    refine lv_ior hx hb dX1_give_84 ?_
    obtain ⟨g12, hg12, hf⟩ := o_b hf
    refine bSv (Bs' := [wX1 G b g12.1 g12.2.1 g12.2.2 b_meets b_villages]) C hP hD hS (IH b_best_26 b_most_26 u11 b_meets b_villages (p1 + 1) (p2 ||| (1 <<< (x4_26 &&& 31))) (p3 ||| z7) g12 hg12) gX1_give_X1_give rfl ⟨rfl, rfl⟩ hdX1_give ⟨by dsimp only [rmX1_give]; omega, by dsimp only [rmX1_give]; omega⟩ rfl hl.1 rfl (Nat.le_of_ble_eq_true rfl) ⟨Nat.le_of_ble_eq_true rfl, Nat.le_of_ble_eq_true rfl⟩ [0] rfl rfl rfl rfl rfl dX1_give_85 (fun H locs hP hD hS => ?_)
    have hP : va_P G.1 vwCl (flat [wX1 G b g12.1 g12.2.1 g12.2.2 b_meets b_villages]) H := hP
    have hD : va_D A (flat [wX1 G b g12.1 g12.2.1 g12.2.2 b_meets b_villages]) := hD
    refine lv_iinc (v := x4_26 + 1) (lv' := [(4, .int (x4_26 + 1)), (5, .int z7), (0, .ref (b 0)), (1, .int p1), (2, .int p2), (3, .int p3)]) hx hb dX1_give_88 hl (k := 5) rfl (congrArg (fun z => x4_26 + z) (by decide)) (by decide) rfl (fun ls hl => ?_)
    refine at_pc (pc' := 91) rfl ?_
    refine lv_goto (tgt := 26) hx hb dX1_give_91 (by decide) ?_
    exact ih _ _ _ _ _ _ _ hP hD hS (lv_sub hl [2, 3, 4, 5, 0] rfl) hf
set_option maxHeartbeats 4000000 in
set_option maxRecDepth 100000 in
theorem tX1_give (l : Launch) (G : GG) (b : Nat → Nat) : ∀ (d : Nat) (b_best : Nat → Int32) (b_most : Int32) (b_given : Nat → Int32) (b_meets : Nat → Int32) (b_villages : Int32) (p1 : Int32) (p2 : Int32) (p3 : Int32) (out : (Nat → Int32) × Int32 × (Nat → Int32)) (hf : fX1_give d b_best b_most b_given b_meets b_villages p1 p2 p3 = some out), cMv l G yX1_give wsX1_give (rmX1_give d) [.ref (b 0), .int p1, .int p2, .int p3] (flat [wX1 G b b_best b_most b_given b_meets b_villages]) (flat [wX1 G b out.1 out.2.1 out.2.2 b_meets b_villages]) := by
  intro d
  induction d with
  | zero =>
    intro b_best b_most b_given b_meets b_villages p1 p2 p3 out hf
    exact absurd (show (none : Option ((Nat → Int32) × Int32 × (Nat → Int32))) = some out from hf) (by intro q9; cases q9)
  | succ d IH =>
    intro b_best b_most b_given b_meets b_villages p1 p2 p3 out hf
    intro sz
    refine met_of (cc := cX1_give) (nL := 6) (ret := none) (Qc := fun A9 => QV G A9 (flat [wX1 G b out.1 out.2.1 out.2.2 b_meets b_villages])) (by decide) rfl (Nat.le_of_ble_eq_true rfl) ?_
    intro p e s m args below meth c A ls C hP hD hS hl
    obtain ⟨⟨hx, hb, hml, hown, hts⟩, hr, hlocks, hK, hN, hE, hA⟩ := id C
    have hl : lv_has ls 6 [(0, .ref (b 0)), (1, .int p1), (2, .int p2), (3, .int p3)] := hl
    rw [fX1_give] at hf
    refine lv_iload_n hx hb dX1_give_0 rfl (lv_at hl 1 rfl) ?_
    refine lv_aload_n hx hb dX1_give_1 rfl (lv_at hl 0 rfl) ?_
    refine va_get (D := G.1) (ci := 1) (v := .int b_villages) (C := RX1) (T := TX1) (N := 5) hx hb hts iiX1_give_X1 hown hK hP 0 rfl rfl 4 (by decide) (hts _ mmX1_give_1) (fun _ h9 => h9) rfl dX1_give_2 ?_
    refine lv_icmp_ge (tgt := 14) hx hb dX1_give_5 (by decide) (fun c1 => ?_) (fun c1 => ?_)
    · have hf := (o_i hf).1 c1
      refine lv_aload_n hx hb dX1_give_14 rfl (lv_at hl 0 rfl) ?_
      refine lv_iload_n hx hb dX1_give_15 rfl (lv_at hl 3 rfl) ?_
      obtain ⟨g2, hg2, hf⟩ := o_b hf
      refine bSi C hP hD hS (tJ6_bitCount_0f7a4 l G p3 g2 hg2) gX1_give_J6_bitCount_0f7a4 rfl ⟨rfl, rfl⟩ hdJ6_bitCount_0f7a4 ⟨by dsimp only [rmX1_give, rmJ6_bitCount_0f7a4]; omega, by dsimp only [rmX1_give, rmJ6_bitCount_0f7a4]; omega⟩ rfl hl.1 rfl (Nat.le_of_ble_eq_true rfl) ⟨Nat.le_of_ble_eq_true rfl, Nat.le_of_ble_eq_true rfl⟩ [] rfl rfl rfl (setB_same _ _ _ rfl) rfl dX1_give_16 (fun H locs hP hD hS => ?_)
      obtain ⟨g3, hg3, hf⟩ := o_b hf
      refine bVv (Bs' := [wX1 G b g3.1 g3.2 b_given b_meets b_villages]) C hP hD hS (tX1_keepIfMore l G b b_best b_most b_given b_meets b_villages g2 g3 hg3) gX1_give_X1_keepIfMore rfl ⟨rfl, rfl⟩ hdX1_keepIfMore ⟨by dsimp only [rmX1_give, rmX1_keepIfMore]; omega, by dsimp only [rmX1_give, rmX1_keepIfMore]; omega⟩ rfl hl.1 rfl (Nat.le_of_ble_eq_true rfl) ⟨Nat.le_of_ble_eq_true rfl, Nat.le_of_ble_eq_true rfl⟩ [0] rfl rfl rfl rfl rfl (ci := 1) (q0 := 0) rfl rfl rfl dX1_give_19 (fun H locs hP hD hS => ?_)
      have hP : va_P G.1 vwCl (flat [wX1 G b g3.1 g3.2 b_given b_meets b_villages]) H := hP
      have hD : va_D A (flat [wX1 G b g3.1 g3.2 b_given b_meets b_villages]) := hD
      have e9 := Option.some.inj hf
      subst e9
      exact rt_v C hP hS dX1_give_22
    have hf := (o_i hf).2 c1
    refine lv_iload_n hx hb dX1_give_8 rfl (lv_at hl 1 rfl) ?_
    refine lv_bipush (v := 6) hx hb dX1_give_9 (by decide) ?_
    refine lv_icmp_lt (tgt := 23) hx hb dX1_give_11 (by decide) (fun c4 => ?_) (fun c4 => ?_)
    · have hf := (o_i hf).1 c4
      refine lv_iconst (v := 0) hx hb dX1_give_23 (by decide) ?_
      refine lv_istore (lv' := [(4, .int 0), (0, .ref (b 0)), (1, .int p1), (2, .int p2), (3, .int p3)]) hx hb dX1_give_24 hl (by decide) rfl (fun ls hl => ?_)
      refine lX1_give_26 l G C b b_best b_most b_given b_meets b_villages p1 p2 p3 d (fX1_give d) IH out _ (fun x4_26_13 b_best_26_14 b_most_26_15 b_given_26_16 H locs ls hP hD hS hl hf => ?_) fu 0 b_best b_most b_given _ _ _ hP hD hS (lv_sub hl [1, 2, 3, 4, 0] rfl) hf
      have e9 := Option.some.inj hf
      subst e9
      exact rt_v C hP hS dX1_give_94
    have hf := (o_i hf).2 c4
    refine lv_aload_n hx hb dX1_give_14 rfl (lv_at hl 0 rfl) ?_
    refine lv_iload_n hx hb dX1_give_15 rfl (lv_at hl 3 rfl) ?_
    obtain ⟨g17, hg17, hf⟩ := o_b hf
    refine bSi C hP hD hS (tJ6_bitCount_0f7a4 l G p3 g17 hg17) gX1_give_J6_bitCount_0f7a4 rfl ⟨rfl, rfl⟩ hdJ6_bitCount_0f7a4 ⟨by dsimp only [rmX1_give, rmJ6_bitCount_0f7a4]; omega, by dsimp only [rmX1_give, rmJ6_bitCount_0f7a4]; omega⟩ rfl hl.1 rfl (Nat.le_of_ble_eq_true rfl) ⟨Nat.le_of_ble_eq_true rfl, Nat.le_of_ble_eq_true rfl⟩ [] rfl rfl rfl (setB_same _ _ _ rfl) rfl dX1_give_16 (fun H locs hP hD hS => ?_)
    obtain ⟨g18, hg18, hf⟩ := o_b hf
    refine bVv (Bs' := [wX1 G b g18.1 g18.2 b_given b_meets b_villages]) C hP hD hS (tX1_keepIfMore l G b b_best b_most b_given b_meets b_villages g17 g18 hg18) gX1_give_X1_keepIfMore rfl ⟨rfl, rfl⟩ hdX1_keepIfMore ⟨by dsimp only [rmX1_give, rmX1_keepIfMore]; omega, by dsimp only [rmX1_give, rmX1_keepIfMore]; omega⟩ rfl hl.1 rfl (Nat.le_of_ble_eq_true rfl) ⟨Nat.le_of_ble_eq_true rfl, Nat.le_of_ble_eq_true rfl⟩ [0] rfl rfl rfl rfl rfl (ci := 1) (q0 := 0) rfl rfl rfl dX1_give_19 (fun H locs hP hD hS => ?_)
    have hP : va_P G.1 vwCl (flat [wX1 G b g18.1 g18.2 b_given b_meets b_villages]) H := hP
    have hD : va_D A (flat [wX1 G b g18.1 g18.2 b_given b_meets b_villages]) := hD
    have e9 := Option.some.inj hf
    subst e9
    exact rt_v C hP hS dX1_give_22

/-! RX1 go(LBlindBells$Valley;)V -/
theorem iiX1_go_X3 : ∀ w ∈ wsX30, w ∈ wsX1_go := by decide +kernel
theorem mmX1_go_1 : (Cond.fieldLink RX1 21 "BlindBells$Valley" "villages" "I") ∈ wsX1_go := by decide +kernel
theorem iiX1_go_X1 : ∀ w ∈ wsX10, w ∈ wsX1_go := by decide +kernel
theorem mmX1_go_3 : (Cond.fieldLink RX1 27 "BlindBells$RopeSearch" "villages" "I") ∈ wsX1_go := by decide +kernel
theorem mmX1_go_4 : (Cond.fieldLink RX1 28 "BlindBells$RopeSearch" "most" "I") ∈ wsX1_go := by decide +kernel
theorem mmX1_go_5 : (Cond.fieldLink RX1 18 "BlindBells$RopeSearch" "meets" "[I") ∈ wsX1_go := by decide +kernel
theorem mmX1_go_6 : (Cond.static yX6_pair) ∈ wsX1_go := by decide +kernel
theorem mmX1_go_7 : (Cond.initialized RX6) ∈ wsX1_go := by decide +kernel
theorem mmX1_go_8 : (Cond.static yX6_has) ∈ wsX1_go := by decide +kernel
theorem hdX1_go : yX1_go.cls = RX1 ∧ yX1_go.cls ≠ "java/lang/invoke/MethodHandle" ∧ yX1_go.cls ≠ "java/lang/invoke/VarHandle" ∧ (parseMethodDescriptor yX1_go.desc).map (fun d => d.parameters.length) = some 1 := by decide +kernel
abbrev rmX1_go : Room := { frames := 11, cells := 0, slots := 0, locals := 326 }
set_option maxHeartbeats 4000000 in
set_option maxRecDepth 100000 in
theorem lX1_go_32 {p : Program} {e : Env} {s : State} {m : MethodId} {args : Array Value} {below : List Frame} {meth : Method} {c : Code} {A : Nat → Prop} (l : Launch) (G : GG) (C : Cx p m c cX1_go 5 s args wsX1_go RX1 meth none G A) (a : Nat → Nat) (b : Nat → Nat) (a_best : Nat → Int32) (a_most : Int32) (a_given : Nat → Int32) (a_meets : Nat → Int32) (a_villages : Int32) (b_villages : Int32) (b_woods : Int32) (b_needs : Int32) (b_signs : Int32) (b_temper : Nat → Int32) (b_friend : Nat → Int32) (b_rope : Nat → Int32) (b_hears : Nat → Int32) (b_shut : Nat → Int32) (b_woodBell : Nat → Int32) (b_woodVillage : Nat → Int32) (b_needVillage : Nat → Int32) (b_needWind : Nat → Int32) (b_needSeen : Nat → Int32) (b_sign : Nat → Int32) (x2_15 : Int32) (g2 : Int32) (out : (Nat → Int32) × Int32 × (Nat → Int32) × (Nat → Int32) × Int32) (kx : Int32 → (Nat → Int32) → Option ((Nat → Int32) × Int32 × (Nat → Int32) × (Nat → Int32) × Int32)) (HX : ∀ (x4_32 : Int32) (a_meets_32 : Nat → Int32) (H : Heap) (locs : List Loc) (ls : Array Slot), va_P G.1 vwCl (flat [wX1 G a a_best ((-1)) a_given a_meets_32 b_villages, wX3 G b b_villages b_woods b_needs b_signs b_temper b_friend b_rope b_hears b_shut b_woodBell b_woodVillage b_needVillage b_needWind b_needSeen b_sign]) H → va_D A (flat [wX1 G a a_best ((-1)) a_given a_meets_32 b_villages, wX3 G b b_villages b_woods b_needs b_signs b_temper b_friend b_rope b_hears b_shut b_woodBell b_woodVillage b_needVillage b_needWind b_needSeen b_sign]) → va_S A s.heap H locs → lv_has ls 5 [(0, .ref (a 0)), (1, .ref (b 0)), (2, .int x2_15), (3, .int g2), (4, .int x4_32)] → kx x4_32 a_meets_32 = some out → W p l e rmX1_go s m args below meth c H locs 0 0 (MQ below (QV G A (flat [wX1 G a out.1 out.2.1 out.2.2.1 out.2.2.2.1 out.2.2.2.2, wX3 G b b_villages b_woods b_needs b_signs b_temper b_friend b_rope b_hears b_shut b_woodBell b_woodVillage b_needVillage b_needWind b_needSeen b_sign])) args s 0 0 A) (F0 m 78 ls [])) : ∀ (n : Nat) (x4_32 : Int32) (a_meets_32 : Nat → Int32) (H : Heap) (locs : List Loc) (ls : Array Slot), va_P G.1 vwCl (flat [wX1 G a a_best ((-1)) a_given a_meets_32 b_villages, wX3 G b b_villages b_woods b_needs b_signs b_temper b_friend b_rope b_hears b_shut b_woodBell b_woodVillage b_needVillage b_needWind b_needSeen b_sign]) H → va_D A (flat [wX1 G a a_best ((-1)) a_given a_meets_32 b_villages, wX3 G b b_villages b_woods b_needs b_signs b_temper b_friend b_rope b_hears b_shut b_woodBell b_woodVillage b_needVillage b_needWind b_needSeen b_sign]) → va_S A s.heap H locs → lv_has ls 5 [(0, .ref (a 0)), (1, .ref (b 0)), (2, .int x2_15), (3, .int g2), (4, .int x4_32)] → fX1_go_32 b_villages b_needs b_hears b_shut b_needVillage b_needWind b_needSeen x2_15 g2 kx n x4_32 a_meets_32 = some out → W p l e rmX1_go s m args below meth c H locs 0 0 (MQ below (QV G A (flat [wX1 G a out.1 out.2.1 out.2.2.1 out.2.2.2.1 out.2.2.2.2, wX3 G b b_villages b_woods b_needs b_signs b_temper b_friend b_rope b_hears b_shut b_woodBell b_woodVillage b_needVillage b_needWind b_needSeen b_sign])) args s 0 0 A) (F0 m 32 ls []) := by
  obtain ⟨⟨hx, hb, hml, hown, hts⟩, hr, hlocks, hK, hN, hE, hA⟩ := id C
  intro n
  induction n with
  | zero =>
    intro x4_32 a_meets_32 H locs ls hP hD hS hl hf
    exact absurd (show (none : Option ((Nat → Int32) × Int32 × (Nat → Int32) × (Nat → Int32) × Int32)) = some out from hf) (by intro q9; cases q9)
  | succ n ih =>
    intro x4_32 a_meets_32 H locs ls hP hD hS hl hf
    rw [fX1_go_32] at hf
    refine lv_iload hx hb dX1_go_32 (lv_at hl 4 rfl) ?_
    refine lv_aload_n hx hb dX1_go_34 rfl (lv_at hl 0 rfl) ?_
    refine va_get (D := G.1) (ci := 1) (v := .int b_villages) (C := RX1) (T := TX1) (N := 5) hx hb hts iiX1_go_X1 hown hK hP 0 rfl rfl 4 (by decide) (hts _ mmX1_go_3) (fun _ h9 => h9) rfl dX1_go_35 ?_
    refine lv_icmp_ge (tgt := 78) hx hb dX1_go_38 (by decide) (fun c3 => ?_) (fun c3 => ?_)
    · have hf := (o_i hf).1 c3
      exact HX _ _ _ _ _ hP hD hS (lv_sub hl [0, 1, 2, 3, 4] rfl) hf
    have hf := (o_i hf).2 c3
    refine lv_aload_n hx hb dX1_go_41 rfl (lv_at hl 0 rfl) ?_
    refine va_get (D := G.1) (ci := 1) (v := .ref (a 3)) (C := RX1) (T := TX1) (N := 5) hx hb hts iiX1_go_X1 hown hK hP 0 rfl rfl 3 (by decide) (hts _ mmX1_go_5) (fun _ h9 => h9) rfl dX1_go_42 ?_
    refine lv_iload_n hx hb dX1_go_45 rfl (lv_at hl 2 rfl) ?_
    refine lv_iload hx hb dX1_go_46 (lv_at hl 4 rfl) ?_
    obtain ⟨g4, hg4, hf⟩ := o_b hf
    refine bNi C hP hD hS (tX6_pair l G x2_15 x4_32 g4 hg4) gX1_go_X6_pair_n35 (nw6 hN) (hts _ mmX1_go_6) (hts _ mmX1_go_7) rfl ⟨rfl, rfl⟩ hdX6_pair ⟨Nat.le_of_ble_eq_true rfl, Nat.le_of_ble_eq_true rfl⟩ rfl hl.1 rfl (Nat.le_of_ble_eq_true rfl) ⟨Nat.le_of_ble_eq_true rfl, Nat.le_of_ble_eq_true rfl⟩ [] rfl rfl rfl (setB_same _ _ _ rfl) rfl dX1_go_48 (fun H locs hP hD hS => ?_)
    refine lv_iload_n hx hb dX1_go_51 rfl (lv_at hl 3 rfl) ?_
    refine lv_iload hx hb dX1_go_52 (lv_at hl 4 rfl) ?_
    obtain ⟨g5, hg5, hf⟩ := o_b hf
    refine bNi C hP hD hS (tX6_has l G g2 x4_32 g5 hg5) gX1_go_X6_has_n39 (nw7 hN) (hts _ mmX1_go_8) (hts _ mmX1_go_7) rfl ⟨rfl, rfl⟩ hdX6_has ⟨Nat.le_of_ble_eq_true rfl, Nat.le_of_ble_eq_true rfl⟩ rfl hl.1 rfl (Nat.le_of_ble_eq_true rfl) ⟨Nat.le_of_ble_eq_true rfl, Nat.le_of_ble_eq_true rfl⟩ [] rfl rfl rfl (setB_same _ _ _ rfl) rfl dX1_go_54 (fun H locs hP hD hS => ?_)
    refine lv_if_eq (tgt := 64) hx hb dX1_go_57 (by decide) (fun c6 => ?_) (fun c6 => ?_)
    · have hf := (o_i hf).1 c6
      refine lv_aload_n hx hb dX1_go_64 rfl (lv_at hl 1 rfl) ?_
      refine lv_iload_n hx hb dX1_go_65 rfl (lv_at hl 2 rfl) ?_
      refine lv_iload hx hb dX1_go_66 (lv_at hl 4 rfl) ?_
      obtain ⟨g7, hg7, hf⟩ := o_b hf
      refine bSi C hP hD hS (tX1_needsMet l G b b_villages b_woods b_needs b_signs b_temper b_friend b_rope b_hears b_shut b_woodBell b_woodVillage b_needVillage b_needWind b_needSeen b_sign x2_15 x4_32 g7 hg7) gX1_go_X1_needsMet rfl ⟨rfl, rfl⟩ hdX1_needsMet ⟨Nat.le_of_ble_eq_true rfl, Nat.le_of_ble_eq_true rfl⟩ rfl hl.1 rfl (Nat.le_of_ble_eq_true rfl) ⟨Nat.le_of_ble_eq_true rfl, Nat.le_of_ble_eq_true rfl⟩ [1] rfl rfl rfl (setB_same _ _ _ rfl) rfl dX1_go_68 (fun H locs hP hD hS => ?_)
      obtain ⟨u8, hu8, hf⟩ := o_b hf
      refine k_iast hx hb hK hP hD hS 3 0 rfl rfl hu8 dX1_go_71 (fun H locs hP hD hS => ?_)
      have hP : va_P G.1 vwCl (flat [wX1 G a a_best ((-1)) a_given u8 b_villages, wX3 G b b_villages b_woods b_needs b_signs b_temper b_friend b_rope b_hears b_shut b_woodBell b_woodVillage b_needVillage b_needWind b_needSeen b_sign]) H := hP
      have hD : va_D A (flat [wX1 G a a_best ((-1)) a_given u8 b_villages, wX3 G b b_villages b_woods b_needs b_signs b_temper b_friend b_rope b_hears b_shut b_woodBell b_woodVillage b_needVillage b_needWind b_needSeen b_sign]) := hD
      refine lv_iinc (v := x4_32 + 1) (lv' := [(4, .int (x4_32 + 1)), (0, .ref (a 0)), (1, .ref (b 0)), (2, .int x2_15), (3, .int g2)]) hx hb dX1_go_72 hl (k := 4) rfl (congrArg (fun z => x4_32 + z) (by decide)) (by decide) rfl (fun ls hl => ?_)
      refine lv_goto (tgt := 32) hx hb dX1_go_75 (by decide) ?_
      exact ih _ _ _ _ _ hP hD hS (lv_sub hl [1, 2, 3, 4, 0] rfl) hf
    have hf := (o_i hf).2 c6
    refine lv_iconst (v := (-1)) hx hb dX1_go_60 (by decide) ?_
    refine lv_goto (tgt := 71) hx hb dX1_go_61 (by decide) ?_
    obtain ⟨u9, hu9, hf⟩ := o_b hf
    refine k_iast hx hb hK hP hD hS 3 0 rfl rfl hu9 dX1_go_71 (fun H locs hP hD hS => ?_)
    have hP : va_P G.1 vwCl (flat [wX1 G a a_best ((-1)) a_given u9 b_villages, wX3 G b b_villages b_woods b_needs b_signs b_temper b_friend b_rope b_hears b_shut b_woodBell b_woodVillage b_needVillage b_needWind b_needSeen b_sign]) H := hP
    have hD : va_D A (flat [wX1 G a a_best ((-1)) a_given u9 b_villages, wX3 G b b_villages b_woods b_needs b_signs b_temper b_friend b_rope b_hears b_shut b_woodBell b_woodVillage b_needVillage b_needWind b_needSeen b_sign]) := hD
    refine lv_iinc (v := x4_32 + 1) (lv' := [(4, .int (x4_32 + 1)), (0, .ref (a 0)), (1, .ref (b 0)), (2, .int x2_15), (3, .int g2)]) hx hb dX1_go_72 hl (k := 4) rfl (congrArg (fun z => x4_32 + z) (by decide)) (by decide) rfl (fun ls hl => ?_)
    refine lv_goto (tgt := 32) hx hb dX1_go_75 (by decide) ?_
    exact ih _ _ _ _ _ hP hD hS (lv_sub hl [1, 2, 3, 4, 0] rfl) hf
set_option maxHeartbeats 4000000 in
set_option maxRecDepth 100000 in
theorem lX1_go_15 {p : Program} {e : Env} {s : State} {m : MethodId} {args : Array Value} {below : List Frame} {meth : Method} {c : Code} {A : Nat → Prop} (l : Launch) (G : GG) (C : Cx p m c cX1_go 5 s args wsX1_go RX1 meth none G A) (a : Nat → Nat) (b : Nat → Nat) (a_best : Nat → Int32) (a_most : Int32) (a_given : Nat → Int32) (a_meets : Nat → Int32) (a_villages : Int32) (b_villages : Int32) (b_woods : Int32) (b_needs : Int32) (b_signs : Int32) (b_temper : Nat → Int32) (b_friend : Nat → Int32) (b_rope : Nat → Int32) (b_hears : Nat → Int32) (b_shut : Nat → Int32) (b_woodBell : Nat → Int32) (b_woodVillage : Nat → Int32) (b_needVillage : Nat → Int32) (b_needWind : Nat → Int32) (b_needSeen : Nat → Int32) (b_sign : Nat → Int32)  (out : (Nat → Int32) × Int32 × (Nat → Int32) × (Nat → Int32) × Int32) (kx : Int32 → (Nat → Int32) → Option ((Nat → Int32) × Int32 × (Nat → Int32) × (Nat → Int32) × Int32)) (HX : ∀ (x2_15 : Int32) (a_meets_15 : Nat → Int32) (H : Heap) (locs : List Loc) (ls : Array Slot), va_P G.1 vwCl (flat [wX1 G a a_best ((-1)) a_given a_meets_15 b_villages, wX3 G b b_villages b_woods b_needs b_signs b_temper b_friend b_rope b_hears b_shut b_woodBell b_woodVillage b_needVillage b_needWind b_needSeen b_sign]) H → va_D A (flat [wX1 G a a_best ((-1)) a_given a_meets_15 b_villages, wX3 G b b_villages b_woods b_needs b_signs b_temper b_friend b_rope b_hears b_shut b_woodBell b_woodVillage b_needVillage b_needWind b_needSeen b_sign]) → va_S A s.heap H locs → lv_has ls 5 [(0, .ref (a 0)), (1, .ref (b 0)), (2, .int x2_15)] → kx x2_15 a_meets_15 = some out → W p l e rmX1_go s m args below meth c H locs 0 0 (MQ below (QV G A (flat [wX1 G a out.1 out.2.1 out.2.2.1 out.2.2.2.1 out.2.2.2.2, wX3 G b b_villages b_woods b_needs b_signs b_temper b_friend b_rope b_hears b_shut b_woodBell b_woodVillage b_needVillage b_needWind b_needSeen b_sign])) args s 0 0 A) (F0 m 84 ls [])) : ∀ (n : Nat) (x2_15 : Int32) (a_meets_15 : Nat → Int32) (H : Heap) (locs : List Loc) (ls : Array Slot), va_P G.1 vwCl (flat [wX1 G a a_best ((-1)) a_given a_meets_15 b_villages, wX3 G b b_villages b_woods b_needs b_signs b_temper b_friend b_rope b_hears b_shut b_woodBell b_woodVillage b_needVillage b_needWind b_needSeen b_sign]) H → va_D A (flat [wX1 G a a_best ((-1)) a_given a_meets_15 b_villages, wX3 G b b_villages b_woods b_needs b_signs b_temper b_friend b_rope b_hears b_shut b_woodBell b_woodVillage b_needVillage b_needWind b_needSeen b_sign]) → va_S A s.heap H locs → lv_has ls 5 [(0, .ref (a 0)), (1, .ref (b 0)), (2, .int x2_15)] → fX1_go_15 b_villages b_needs b_hears b_shut b_needVillage b_needWind b_needSeen kx n x2_15 a_meets_15 = some out → W p l e rmX1_go s m args below meth c H locs 0 0 (MQ below (QV G A (flat [wX1 G a out.1 out.2.1 out.2.2.1 out.2.2.2.1 out.2.2.2.2, wX3 G b b_villages b_woods b_needs b_signs b_temper b_friend b_rope b_hears b_shut b_woodBell b_woodVillage b_needVillage b_needWind b_needSeen b_sign])) args s 0 0 A) (F0 m 15 ls []) := by
  obtain ⟨⟨hx, hb, hml, hown, hts⟩, hr, hlocks, hK, hN, hE, hA⟩ := id C
  intro n
  induction n with
  | zero =>
    intro x2_15 a_meets_15 H locs ls hP hD hS hl hf
    exact absurd (show (none : Option ((Nat → Int32) × Int32 × (Nat → Int32) × (Nat → Int32) × Int32)) = some out from hf) (by intro q9; cases q9)
  | succ n ih =>
    intro x2_15 a_meets_15 H locs ls hP hD hS hl hf
    rw [fX1_go_15] at hf
    refine lv_iload_n hx hb dX1_go_15 rfl (lv_at hl 2 rfl) ?_
    refine lv_aload_n hx hb dX1_go_16 rfl (lv_at hl 0 rfl) ?_
    refine va_get (D := G.1) (ci := 1) (v := .int b_villages) (C := RX1) (T := TX1) (N := 5) hx hb hts iiX1_go_X1 hown hK hP 0 rfl rfl 4 (by decide) (hts _ mmX1_go_3) (fun _ h9 => h9) rfl dX1_go_17 ?_
    refine lv_icmp_ge (tgt := 84) hx hb dX1_go_20 (by decide) (fun c1 => ?_) (fun c1 => ?_)
    · have hf := (o_i hf).1 c1
      exact HX _ _ _ _ _ hP hD hS (lv_sub hl [0, 1, 2] rfl) hf
    have hf := (o_i hf).2 c1
    refine lv_aload_n hx hb dX1_go_23 rfl (lv_at hl 1 rfl) ?_
    refine lv_iload_n hx hb dX1_go_24 rfl (lv_at hl 2 rfl) ?_
    obtain ⟨g2, hg2, hf⟩ := o_b hf
    refine bVi C hP hD hS (tX3_heardInAnyWind l G b b_villages b_woods b_needs b_signs b_temper b_friend b_rope b_hears b_shut b_woodBell b_woodVillage b_needVillage b_needWind b_needSeen b_sign x2_15 g2 hg2) gX1_go_X3_heardInAnyWind rfl ⟨rfl, rfl⟩ hdX3_heardInAnyWind ⟨Nat.le_of_ble_eq_true rfl, Nat.le_of_ble_eq_true rfl⟩ rfl hl.1 rfl (Nat.le_of_ble_eq_true rfl) ⟨Nat.le_of_ble_eq_true rfl, Nat.le_of_ble_eq_true rfl⟩ [1] rfl rfl rfl (setB_same _ _ _ rfl) rfl (ci := 3) (q0 := 4) rfl rfl rfl dX1_go_25 (fun H locs hP hD hS => ?_)
    refine lv_istore_n (lv' := [(3, .int g2), (0, .ref (a 0)), (1, .ref (b 0)), (2, .int x2_15)]) hx hb dX1_go_28 rfl hl (by decide) rfl (fun ls hl => ?_)
    refine lv_iconst (v := 0) hx hb dX1_go_29 (by decide) ?_
    refine lv_istore (lv' := [(4, .int 0), (3, .int g2), (0, .ref (a 0)), (1, .ref (b 0)), (2, .int x2_15)]) hx hb dX1_go_30 hl (by decide) rfl (fun ls hl => ?_)
    refine lX1_go_32 l G C a b a_best a_most a_given a_meets a_villages b_villages b_woods b_needs b_signs b_temper b_friend b_rope b_hears b_shut b_woodBell b_woodVillage b_needVillage b_needWind b_needSeen b_sign x2_15 g2 out _ (fun x4_32_10 a_meets_32_11 H locs ls hP hD hS hl hf => ?_) fu 0 a_meets_15 _ _ _ hP hD hS (lv_sub hl [2, 3, 4, 1, 0] rfl) hf
    refine lv_iinc (v := x2_15 + 1) (lv' := [(2, .int (x2_15 + 1)), (0, .ref (a 0)), (1, .ref (b 0)), (3, .int g2), (4, .int x4_32_10)]) hx hb dX1_go_78 hl (k := 2) rfl (congrArg (fun z => x2_15 + z) (by decide)) (by decide) rfl (fun ls hl => ?_)
    refine lv_goto (tgt := 15) hx hb dX1_go_81 (by decide) ?_
    exact ih _ _ _ _ _ hP hD hS (lv_sub hl [1, 2, 0] rfl) hf
set_option maxHeartbeats 4000000 in
set_option maxRecDepth 100000 in
theorem tX1_go (l : Launch) (G : GG) (a : Nat → Nat) (b : Nat → Nat) (a_best : Nat → Int32) (a_most : Int32) (a_given : Nat → Int32) (a_meets : Nat → Int32) (a_villages : Int32) (b_villages : Int32) (b_woods : Int32) (b_needs : Int32) (b_signs : Int32) (b_temper : Nat → Int32) (b_friend : Nat → Int32) (b_rope : Nat → Int32) (b_hears : Nat → Int32) (b_shut : Nat → Int32) (b_woodBell : Nat → Int32) (b_woodVillage : Nat → Int32) (b_needVillage : Nat → Int32) (b_needWind : Nat → Int32) (b_needSeen : Nat → Int32) (b_sign : Nat → Int32) (out : (Nat → Int32) × Int32 × (Nat → Int32) × (Nat → Int32) × Int32) (hf : fX1_go a_best a_given a_meets b_villages b_needs b_hears b_shut b_needVillage b_needWind b_needSeen = some out) : cMv l G yX1_go wsX1_go rmX1_go [.ref (a 0), .ref (b 0)] (flat [wX1 G a a_best a_most a_given a_meets a_villages, wX3 G b b_villages b_woods b_needs b_signs b_temper b_friend b_rope b_hears b_shut b_woodBell b_woodVillage b_needVillage b_needWind b_needSeen b_sign]) (flat [wX1 G a out.1 out.2.1 out.2.2.1 out.2.2.2.1 out.2.2.2.2, wX3 G b b_villages b_woods b_needs b_signs b_temper b_friend b_rope b_hears b_shut b_woodBell b_woodVillage b_needVillage b_needWind b_needSeen b_sign]) := by
  intro sz
  refine met_of (cc := cX1_go) (nL := 5) (ret := none) (Qc := fun A9 => QV G A9 (flat [wX1 G a out.1 out.2.1 out.2.2.1 out.2.2.2.1 out.2.2.2.2, wX3 G b b_villages b_woods b_needs b_signs b_temper b_friend b_rope b_hears b_shut b_woodBell b_woodVillage b_needVillage b_needWind b_needSeen b_sign])) (by decide) rfl (Nat.le_of_ble_eq_true rfl) ?_
  intro p e s m args below meth c A ls C hP hD hS hl
  obtain ⟨⟨hx, hb, hml, hown, hts⟩, hr, hlocks, hK, hN, hE, hA⟩ := id C
  have hl : lv_has ls 5 [(0, .ref (a 0)), (1, .ref (b 0))] := hl
  unfold fX1_go at hf
  refine lv_aload_n hx hb dX1_go_0 rfl (lv_at hl 0 rfl) ?_
  refine lv_aload_n hx hb dX1_go_1 rfl (lv_at hl 1 rfl) ?_
  refine va_get (D := G.1) (ci := 3) (v := .int b_villages) (C := RX3) (T := TX3) (N := 15) hx hb hts iiX1_go_X3 hown hK hP 4 rfl rfl 0 (by decide) (hts _ mmX1_go_1) (fun _ h9 => h9) rfl dX1_go_2 ?_
  refine va_put (D := G.1) (ci := 1) (v := .int b_villages) (ty := .int) (C := RX1) (T := TX1) (N := 5) hx hb hts iiX1_go_X1 tyX1 tyX1_ok nmX1 hown hK hP hD hS 0 rfl rfl 4 (by decide) (hts _ mmX1_go_3) (fun _ h9 => h9) rfl (by decide +kernel) rfl rfl (Nat.le_of_ble_eq_true rfl) dX1_go_5 (fun H locs hP hD hS => ?_)
  have hP : va_P G.1 vwCl (flat [wX1 G a a_best a_most a_given a_meets b_villages, wX3 G b b_villages b_woods b_needs b_signs b_temper b_friend b_rope b_hears b_shut b_woodBell b_woodVillage b_needVillage b_needWind b_needSeen b_sign]) H := hP
  have hD : va_D A (flat [wX1 G a a_best a_most a_given a_meets b_villages, wX3 G b b_villages b_woods b_needs b_signs b_temper b_friend b_rope b_hears b_shut b_woodBell b_woodVillage b_needVillage b_needWind b_needSeen b_sign]) := hD
  refine lv_aload_n hx hb dX1_go_8 rfl (lv_at hl 0 rfl) ?_
  refine lv_iconst (v := (-1)) hx hb dX1_go_9 (by decide) ?_
  refine va_put (D := G.1) (ci := 1) (v := .int ((-1))) (ty := .int) (C := RX1) (T := TX1) (N := 5) hx hb hts iiX1_go_X1 tyX1 tyX1_ok nmX1 hown hK hP hD hS 0 rfl rfl 1 (by decide) (hts _ mmX1_go_4) (fun _ h9 => h9) rfl (by decide +kernel) rfl rfl (Nat.le_of_ble_eq_true rfl) dX1_go_10 (fun H locs hP hD hS => ?_)
  have hP : va_P G.1 vwCl (flat [wX1 G a a_best ((-1)) a_given a_meets b_villages, wX3 G b b_villages b_woods b_needs b_signs b_temper b_friend b_rope b_hears b_shut b_woodBell b_woodVillage b_needVillage b_needWind b_needSeen b_sign]) H := hP
  have hD : va_D A (flat [wX1 G a a_best ((-1)) a_given a_meets b_villages, wX3 G b b_villages b_woods b_needs b_signs b_temper b_friend b_rope b_hears b_shut b_woodBell b_woodVillage b_needVillage b_needWind b_needSeen b_sign]) := hD
  refine lv_iconst (v := 0) hx hb dX1_go_13 (by decide) ?_
  refine lv_istore_n (lv' := [(2, .int 0), (0, .ref (a 0)), (1, .ref (b 0))]) hx hb dX1_go_14 rfl hl (by decide) rfl (fun ls hl => ?_)
  refine lX1_go_15 l G C a b a_best a_most a_given a_meets a_villages b_villages b_woods b_needs b_signs b_temper b_friend b_rope b_hears b_shut b_woodBell b_woodVillage b_needVillage b_needWind b_needSeen b_sign out _ (fun x2_15_12 a_meets_15_13 H locs ls hP hD hS hl hf => ?_) fu 0 a_meets _ _ _ hP hD hS (lv_sub hl [1, 2, 0] rfl) hf
  refine lv_aload_n hx hb dX1_go_84 rfl (lv_at hl 0 rfl) ?_
  refine lv_iconst (v := 0) hx hb dX1_go_85 (by decide) ?_
  refine lv_iconst (v := 0) hx hb dX1_go_86 (by decide) ?_
  refine lv_iconst (v := 0) hx hb dX1_go_87 (by decide) ?_
  obtain ⟨g14, hg14, hf⟩ := o_b hf
  refine bSv (Bs' := [wX1 G a g14.1 g14.2.1 g14.2.2 a_meets_15_13 b_villages, wX3 G b b_villages b_woods b_needs b_signs b_temper b_friend b_rope b_hears b_shut b_woodBell b_woodVillage b_needVillage b_needWind b_needSeen b_sign]) C hP hD hS (tX1_give l G a 8 a_best ((-1)) a_given a_meets_15_13 b_villages 0 0 0 g14 hg14) gX1_go_X1_give rfl ⟨rfl, rfl⟩ hdX1_give ⟨Nat.le_of_ble_eq_true rfl, Nat.le_of_ble_eq_true rfl⟩ rfl hl.1 rfl (Nat.le_of_ble_eq_true rfl) ⟨Nat.le_of_ble_eq_true rfl, Nat.le_of_ble_eq_true rfl⟩ [0] rfl rfl rfl rfl rfl dX1_go_88 (fun H locs hP hD hS => ?_)
  have hP : va_P G.1 vwCl (flat [wX1 G a g14.1 g14.2.1 g14.2.2 a_meets_15_13 b_villages, wX3 G b b_villages b_woods b_needs b_signs b_temper b_friend b_rope b_hears b_shut b_woodBell b_woodVillage b_needVillage b_needWind b_needSeen b_sign]) H := hP
  have hD : va_D A (flat [wX1 G a g14.1 g14.2.1 g14.2.2 a_meets_15_13 b_villages, wX3 G b b_villages b_woods b_needs b_signs b_temper b_friend b_rope b_hears b_shut b_woodBell b_woodVillage b_needVillage b_needWind b_needSeen b_sign]) := hD
  have e9 := Option.some.inj hf
  subst e9
  exact rt_v C hP hS dX1_go_91

/-! RX4 wasRefused(II)Z -/
theorem iiX4_wasRefused_X4 : ∀ w ∈ wsX40, w ∈ wsX4_wasRefused := by decide +kernel
theorem mmX4_wasRefused_1 : (Cond.fieldLink RX4 21 "BlindBells$ValleyRun" "last" "[I") ∈ wsX4_wasRefused := by decide +kernel
theorem mmX4_wasRefused_2 : (Cond.static yX6_pair) ∈ wsX4_wasRefused := by decide +kernel
theorem mmX4_wasRefused_3 : (Cond.initialized RX6) ∈ wsX4_wasRefused := by decide +kernel
theorem hdX4_wasRefused : yX4_wasRefused.cls = RX4 ∧ yX4_wasRefused.cls ≠ "java/lang/invoke/MethodHandle" ∧ yX4_wasRefused.cls ≠ "java/lang/invoke/VarHandle" ∧ (parseMethodDescriptor yX4_wasRefused.desc).map (fun d => d.parameters.length) = some 2 := by decide +kernel
abbrev rmX4_wasRefused : Room := { frames := 1, cells := 0, slots := 0, locals := 21 }
set_option maxHeartbeats 4000000 in
set_option maxRecDepth 100000 in
theorem tX4_wasRefused (l : Launch) (G : GG) (a : Nat → Nat) (a_due : Nat → Int32) (a_rang : Nat → Int32) (a_times : Nat → Int32) (a_last : Nat → Int32) (p0 : Int32) (p1 : Int32) (out : Int32) (hf : fX4_wasRefused a_last p0 p1 = some out) : cMi l G yX4_wasRefused wsX4_wasRefused rmX4_wasRefused [.ref (a 0), .int p0, .int p1] (flat [wX4 G a a_due a_rang a_times a_last]) out (flat [wX4 G a a_due a_rang a_times a_last]) := by
  intro sz
  refine met_of (cc := cX4_wasRefused) (nL := 3) (ret := (some .boolean)) (Qc := fun A9 => QI G A9 out (flat [wX4 G a a_due a_rang a_times a_last])) (by decide) rfl (Nat.le_of_ble_eq_true rfl) ?_
  intro p e s m args below meth c A ls C hP hD hS hl
  obtain ⟨⟨hx, hb, hml, hown, hts⟩, hr, hlocks, hK, hN, hE, hA⟩ := id C
  have hl : lv_has ls 3 [(0, .ref (a 0)), (1, .int p0), (2, .int p1)] := hl
  unfold fX4_wasRefused at hf
  refine lv_aload_n hx hb dX4_wasRefused_0 rfl (lv_at hl 0 rfl) ?_
  refine va_get (D := G.1) (ci := 4) (v := .ref (a 4)) (C := RX4) (T := TX4) (N := 4) hx hb hts iiX4_wasRefused_X4 hown hK hP 0 rfl rfl 3 (by decide) (hts _ mmX4_wasRefused_1) (fun _ h9 => h9) rfl dX4_wasRefused_1 ?_
  refine lv_iload_n hx hb dX4_wasRefused_4 rfl (lv_at hl 2 rfl) ?_
  refine lv_iload_n hx hb dX4_wasRefused_5 rfl (lv_at hl 1 rfl) ?_
  obtain ⟨g1, hg1, hf⟩ := o_b hf
  refine bNi C hP hD hS (tX6_pair l G p1 p0 g1 hg1) gX4_wasRefused_X6_pair_n74 (nw11 hN) (hts _ mmX4_wasRefused_2) (hts _ mmX4_wasRefused_3) rfl ⟨rfl, rfl⟩ hdX6_pair ⟨Nat.le_of_ble_eq_true rfl, Nat.le_of_ble_eq_true rfl⟩ rfl hl.1 rfl (Nat.le_of_ble_eq_true rfl) ⟨Nat.le_of_ble_eq_true rfl, Nat.le_of_ble_eq_true rfl⟩ [] rfl rfl rfl (setB_same _ _ _ rfl) rfl dX4_wasRefused_6 (fun H locs hP hD hS => ?_)
  obtain ⟨z2, hz2, hf⟩ := o_b hf
  refine k_iald hx hb hK hP 4 0 rfl rfl hz2 dX4_wasRefused_9 ?_
  refine lv_if_ne (tgt := 17) hx hb dX4_wasRefused_10 (by decide) (fun c3 => ?_) (fun c3 => ?_)
  · have hf := (o_i hf).2 c3
    refine lv_iconst (v := 0) hx hb dX4_wasRefused_17 (by decide) ?_
    have e9 := Option.some.inj hf
    subst e9
    exact rt_z C hP hS rfl rfl dX4_wasRefused_18
  have hf := (o_i hf).1 c3
  refine lv_iconst (v := 1) hx hb dX4_wasRefused_13 (by decide) ?_
  refine lv_goto (tgt := 18) hx hb dX4_wasRefused_14 (by decide) ?_
  have e9 := Option.some.inj hf
  subst e9
  exact rt_z C hP hS rfl rfl dX4_wasRefused_18

/-! RX4 wasJustLetDown(LBlindBells$Valley;II)Z -/
theorem iiX4_wasJustLetDown_X3 : ∀ w ∈ wsX30, w ∈ wsX4_wasJustLetDown := by decide +kernel
theorem mmX4_wasJustLetDown_1 : (Cond.fieldLink RX4 48 "BlindBells$Valley" "needVillage" "[I") ∈ wsX4_wasJustLetDown := by decide +kernel
theorem iiX4_wasJustLetDown_X4 : ∀ w ∈ wsX40, w ∈ wsX4_wasJustLetDown := by decide +kernel
theorem mmX4_wasJustLetDown_3 : (Cond.fieldLink RX4 15 "BlindBells$ValleyRun" "rang" "[I") ∈ wsX4_wasJustLetDown := by decide +kernel
theorem hdX4_wasJustLetDown : yX4_wasJustLetDown.cls = RX4 ∧ yX4_wasJustLetDown.cls ≠ "java/lang/invoke/MethodHandle" ∧ yX4_wasJustLetDown.cls ≠ "java/lang/invoke/VarHandle" ∧ (parseMethodDescriptor yX4_wasJustLetDown.desc).map (fun d => d.parameters.length) = some 3 := by decide +kernel
abbrev rmX4_wasJustLetDown : Room := { frames := 0, cells := 0, slots := 0, locals := 0 }
set_option maxHeartbeats 4000000 in
set_option maxRecDepth 100000 in
theorem tX4_wasJustLetDown (l : Launch) (G : GG) (a : Nat → Nat) (b : Nat → Nat) (a_due : Nat → Int32) (a_rang : Nat → Int32) (a_times : Nat → Int32) (a_last : Nat → Int32) (b_villages : Int32) (b_woods : Int32) (b_needs : Int32) (b_signs : Int32) (b_temper : Nat → Int32) (b_friend : Nat → Int32) (b_rope : Nat → Int32) (b_hears : Nat → Int32) (b_shut : Nat → Int32) (b_woodBell : Nat → Int32) (b_woodVillage : Nat → Int32) (b_needVillage : Nat → Int32) (b_needWind : Nat → Int32) (b_needSeen : Nat → Int32) (b_sign : Nat → Int32) (p1 : Int32) (p2 : Int32) (out : Int32) (hf : fX4_wasJustLetDown a_rang b_needVillage p1 p2 = some out) : cMi l G yX4_wasJustLetDown wsX4_wasJustLetDown rmX4_wasJustLetDown [.ref (a 0), .ref (b 0), .int p1, .int p2] (flat [wX4 G a a_due a_rang a_times a_last, wX3 G b b_villages b_woods b_needs b_signs b_temper b_friend b_rope b_hears b_shut b_woodBell b_woodVillage b_needVillage b_needWind b_needSeen b_sign]) out (flat [wX4 G a a_due a_rang a_times a_last, wX3 G b b_villages b_woods b_needs b_signs b_temper b_friend b_rope b_hears b_shut b_woodBell b_woodVillage b_needVillage b_needWind b_needSeen b_sign]) := by
  intro sz
  refine met_of (cc := cX4_wasJustLetDown) (nL := 4) (ret := (some .boolean)) (Qc := fun A9 => QI G A9 out (flat [wX4 G a a_due a_rang a_times a_last, wX3 G b b_villages b_woods b_needs b_signs b_temper b_friend b_rope b_hears b_shut b_woodBell b_woodVillage b_needVillage b_needWind b_needSeen b_sign])) (by decide) rfl (Nat.le_of_ble_eq_true rfl) ?_
  intro p e s m args below meth c A ls C hP hD hS hl
  obtain ⟨⟨hx, hb, hml, hown, hts⟩, hr, hlocks, hK, hN, hE, hA⟩ := id C
  have hl : lv_has ls 4 [(0, .ref (a 0)), (1, .ref (b 0)), (2, .int p1), (3, .int p2)] := hl
  unfold fX4_wasJustLetDown at hf
  refine lv_iload_n hx hb dX4_wasJustLetDown_0 rfl (lv_at hl 3 rfl) ?_
  refine lv_if_le (tgt := 31) hx hb dX4_wasJustLetDown_1 (by decide) (fun c1 => ?_) (fun c1 => ?_)
  · have hf := (o_i hf).1 c1
    refine lv_iconst (v := 0) hx hb dX4_wasJustLetDown_31 (by decide) ?_
    have e9 := Option.some.inj hf
    subst e9
    exact rt_z C hP hS rfl rfl dX4_wasJustLetDown_32
  have hf := (o_i hf).2 c1
  refine lv_aload_n hx hb dX4_wasJustLetDown_4 rfl (lv_at hl 1 rfl) ?_
  refine va_get (D := G.1) (ci := 3) (v := .ref (b 8)) (C := RX3) (T := TX3) (N := 15) hx hb hts iiX4_wasJustLetDown_X3 hown hK hP 5 rfl rfl 11 (by decide) (hts _ mmX4_wasJustLetDown_1) (fun _ h9 => h9) rfl dX4_wasJustLetDown_5 ?_
  refine lv_iload_n hx hb dX4_wasJustLetDown_8 rfl (lv_at hl 3 rfl) ?_
  refine lv_iconst (v := 1) hx hb dX4_wasJustLetDown_9 (by decide) ?_
  refine lv_isub hx hb dX4_wasJustLetDown_10 ?_
  obtain ⟨z2, hz2, hf⟩ := o_b hf
  refine k_iald hx hb hK hP 13 0 rfl rfl hz2 dX4_wasJustLetDown_11 ?_
  refine lv_iload_n hx hb dX4_wasJustLetDown_12 rfl (lv_at hl 2 rfl) ?_
  refine lv_icmp_ne (tgt := 31) hx hb dX4_wasJustLetDown_13 (by decide) (fun c3 => ?_) (fun c3 => ?_)
  · have hf := (o_i hf).2 c3
    refine lv_iconst (v := 0) hx hb dX4_wasJustLetDown_31 (by decide) ?_
    have e9 := Option.some.inj hf
    subst e9
    exact rt_z C hP hS rfl rfl dX4_wasJustLetDown_32
  have hf := (o_i hf).1 c3
  refine lv_aload_n hx hb dX4_wasJustLetDown_16 rfl (lv_at hl 0 rfl) ?_
  refine va_get (D := G.1) (ci := 4) (v := .ref (a 2)) (C := RX4) (T := TX4) (N := 4) hx hb hts iiX4_wasJustLetDown_X4 hown hK hP 0 rfl rfl 1 (by decide) (hts _ mmX4_wasJustLetDown_3) (fun _ h9 => h9) rfl dX4_wasJustLetDown_17 ?_
  refine lv_iload_n hx hb dX4_wasJustLetDown_20 rfl (lv_at hl 3 rfl) ?_
  refine lv_iconst (v := 1) hx hb dX4_wasJustLetDown_21 (by decide) ?_
  refine lv_isub hx hb dX4_wasJustLetDown_22 ?_
  obtain ⟨z4, hz4, hf⟩ := o_b hf
  refine k_iald hx hb hK hP 2 0 rfl rfl hz4 dX4_wasJustLetDown_23 ?_
  refine lv_if_ne (tgt := 31) hx hb dX4_wasJustLetDown_24 (by decide) (fun c5 => ?_) (fun c5 => ?_)
  · have hf := (o_i hf).2 c5
    refine lv_iconst (v := 0) hx hb dX4_wasJustLetDown_31 (by decide) ?_
    have e9 := Option.some.inj hf
    subst e9
    exact rt_z C hP hS rfl rfl dX4_wasJustLetDown_32
  have hf := (o_i hf).1 c5
  refine lv_iconst (v := 1) hx hb dX4_wasJustLetDown_27 (by decide) ?_
  refine lv_goto (tgt := 32) hx hb dX4_wasJustLetDown_28 (by decide) ?_
  have e9 := Option.some.inj hf
  subst e9
  exact rt_z C hP hS rfl rfl dX4_wasJustLetDown_32

/-! RX4 rings(LBlindBells$Valley;II)Z -/
theorem iiX4_rings_X3 : ∀ w ∈ wsX30, w ∈ wsX4_rings := by decide +kernel
theorem mmX4_rings_1 : (Cond.fieldLink RX4 48 "BlindBells$Valley" "needVillage" "[I") ∈ wsX4_rings := by decide +kernel
theorem mmX4_rings_2 : (Cond.fieldLink RX4 62 "BlindBells$Valley" "temper" "[I") ∈ wsX4_rings := by decide +kernel
theorem mmX4_rings_3 : (Cond.fieldLink RX4 71 "BlindBells$Valley" "friend" "[I") ∈ wsX4_rings := by decide +kernel
theorem iiX4_rings_X4 : ∀ w ∈ wsX40, w ∈ wsX4_rings := by decide +kernel
theorem mmX4_rings_5 : (Cond.fieldLink RX4 18 "BlindBells$ValleyRun" "times" "[I") ∈ wsX4_rings := by decide +kernel
theorem mmX4_rings_6 : (Cond.static yX6_pair) ∈ wsX4_rings := by decide +kernel
theorem mmX4_rings_7 : (Cond.initialized RX6) ∈ wsX4_rings := by decide +kernel
theorem hdX4_rings : yX4_rings.cls = RX4 ∧ yX4_rings.cls ≠ "java/lang/invoke/MethodHandle" ∧ yX4_rings.cls ≠ "java/lang/invoke/VarHandle" ∧ (parseMethodDescriptor yX4_rings.desc).map (fun d => d.parameters.length) = some 3 := by decide +kernel
abbrev rmX4_rings : Room := { frames := 2, cells := 0, slots := 0, locals := 43 }
set_option maxHeartbeats 4000000 in
set_option maxRecDepth 100000 in
theorem tX4_rings (l : Launch) (G : GG) (a : Nat → Nat) (b : Nat → Nat) (a_due : Nat → Int32) (a_rang : Nat → Int32) (a_times : Nat → Int32) (a_last : Nat → Int32) (b_villages : Int32) (b_woods : Int32) (b_needs : Int32) (b_signs : Int32) (b_temper : Nat → Int32) (b_friend : Nat → Int32) (b_rope : Nat → Int32) (b_hears : Nat → Int32) (b_shut : Nat → Int32) (b_woodBell : Nat → Int32) (b_woodVillage : Nat → Int32) (b_needVillage : Nat → Int32) (b_needWind : Nat → Int32) (b_needSeen : Nat → Int32) (b_sign : Nat → Int32) (p1 : Int32) (p2 : Int32) (out : Int32) (hf : fX4_rings a_rang a_times a_last b_temper b_friend b_needVillage p1 p2 = some out) : cMi l G yX4_rings wsX4_rings rmX4_rings [.ref (a 0), .ref (b 0), .int p1, .int p2] (flat [wX4 G a a_due a_rang a_times a_last, wX3 G b b_villages b_woods b_needs b_signs b_temper b_friend b_rope b_hears b_shut b_woodBell b_woodVillage b_needVillage b_needWind b_needSeen b_sign]) out (flat [wX4 G a a_due a_rang a_times a_last, wX3 G b b_villages b_woods b_needs b_signs b_temper b_friend b_rope b_hears b_shut b_woodBell b_woodVillage b_needVillage b_needWind b_needSeen b_sign]) := by
  intro sz
  refine met_of (cc := cX4_rings) (nL := 5) (ret := (some .boolean)) (Qc := fun A9 => QI G A9 out (flat [wX4 G a a_due a_rang a_times a_last, wX3 G b b_villages b_woods b_needs b_signs b_temper b_friend b_rope b_hears b_shut b_woodBell b_woodVillage b_needVillage b_needWind b_needSeen b_sign])) (by decide) rfl (Nat.le_of_ble_eq_true rfl) ?_
  intro p e s m args below meth c A ls C hP hD hS hl
  obtain ⟨⟨hx, hb, hml, hown, hts⟩, hr, hlocks, hK, hN, hE, hA⟩ := id C
  have hl : lv_has ls 5 [(0, .ref (a 0)), (1, .ref (b 0)), (2, .int p1), (3, .int p2)] := hl
  unfold fX4_rings at hf
  refine lv_aload_n hx hb dX4_rings_0 rfl (lv_at hl 1 rfl) ?_
  refine va_get (D := G.1) (ci := 3) (v := .ref (b 8)) (C := RX3) (T := TX3) (N := 15) hx hb hts iiX4_rings_X3 hown hK hP 5 rfl rfl 11 (by decide) (hts _ mmX4_rings_1) (fun _ h9 => h9) rfl dX4_rings_1 ?_
  refine lv_iload_n hx hb dX4_rings_4 rfl (lv_at hl 3 rfl) ?_
  obtain ⟨z1, hz1, hf⟩ := o_b hf
  refine k_iald hx hb hK hP 13 0 rfl rfl hz1 dX4_rings_5 ?_
  refine lv_istore (lv' := [(4, .int z1), (0, .ref (a 0)), (1, .ref (b 0)), (2, .int p1), (3, .int p2)]) hx hb dX4_rings_6 hl (by decide) rfl (fun ls hl => ?_)
  refine lv_aload_n hx hb dX4_rings_8 rfl (lv_at hl 2 rfl) ?_
  refine va_get (D := G.1) (ci := 3) (v := .ref (b 1)) (C := RX3) (T := TX3) (N := 15) hx hb hts iiX4_rings_X3 hown hK hP 5 rfl rfl 4 (by decide) (hts _ mmX4_rings_2) (fun _ h9 => h9) rfl dX4_rings_9 ?_
  refine lv_iload_n hx hb dX4_rings_12 rfl (lv_at hl 3 rfl) ?_
  obtain ⟨z2, hz2, hf⟩ := o_b hf
  refine k_iald hx hb hK hP 6 0 rfl rfl hz2 dX4_rings_13 ?_
  refine at_pc (pc' := 14) rfl ?_
  by_cases c3 : z2 = 1
  · have hf := (o_i hf).1 c3
    refine lv_tableIn (tgt := 44) hx hb dX4_rings_14 (by rw [c3]; decide) (by rw [c3]; decide) (off := 30) (by rw [c3]; rfl) (by decide) ?_
    refine lv_aload_n hx hb dX4_rings_44 rfl (lv_at hl 1 rfl) ?_
    refine lv_iload_n hx hb dX4_rings_45 rfl (lv_at hl 3 rfl) ?_
    refine lv_iload hx hb dX4_rings_46 (lv_at hl 0 rfl) ?_
    obtain ⟨g4, hg4, hf⟩ := o_b hf
    refine bVi C hP hD hS (tX4_wasRefused l G a a_due a_rang a_times a_last p1 z1 g4 hg4) gX4_rings_X4_wasRefused rfl ⟨rfl, rfl⟩ hdX4_wasRefused ⟨Nat.le_of_ble_eq_true rfl, Nat.le_of_ble_eq_true rfl⟩ rfl hl.1 rfl (Nat.le_of_ble_eq_true rfl) ⟨Nat.le_of_ble_eq_true rfl, Nat.le_of_ble_eq_true rfl⟩ [0] rfl rfl rfl (setB_same _ _ _ rfl) rfl (ci := 4) (q0 := 0) rfl rfl rfl dX4_rings_48 (fun H locs hP hD hS => ?_)
    refine lv_if_ne (tgt := 58) hx hb dX4_rings_51 (by decide) (fun c5 => ?_) (fun c5 => ?_)
    · have hf := (o_i hf).2 c5
      refine lv_iconst (v := 0) hx hb dX4_rings_58 (by decide) ?_
      have e9 := Option.some.inj hf
      subst e9
      exact rt_z C hP hS rfl rfl dX4_rings_59
    have hf := (o_i hf).1 c5
    refine lv_iconst (v := 1) hx hb dX4_rings_54 (by decide) ?_
    refine lv_goto (tgt := 59) hx hb dX4_rings_55 (by decide) ?_
    have e9 := Option.some.inj hf
    subst e9
    exact rt_z C hP hS rfl rfl dX4_rings_59
  have hf := (o_i hf).2 c3
  by_cases c6 : z2 = 2
  · have hf := (o_i hf).1 c6
    refine lv_tableIn (tgt := 60) hx hb dX4_rings_14 (by rw [c6]; decide) (by rw [c6]; decide) (off := 46) (by rw [c6]; rfl) (by decide) ?_
    refine lv_aload_n hx hb dX4_rings_60 rfl (lv_at hl 1 rfl) ?_
    refine lv_iload_n hx hb dX4_rings_61 rfl (lv_at hl 3 rfl) ?_
    refine lv_iload hx hb dX4_rings_62 (lv_at hl 0 rfl) ?_
    obtain ⟨g7, hg7, hf⟩ := o_b hf
    refine bVi C hP hD hS (tX4_wasRefused l G a a_due a_rang a_times a_last p1 z1 g7 hg7) gX4_rings_X4_wasRefused rfl ⟨rfl, rfl⟩ hdX4_wasRefused ⟨Nat.le_of_ble_eq_true rfl, Nat.le_of_ble_eq_true rfl⟩ rfl hl.1 rfl (Nat.le_of_ble_eq_true rfl) ⟨Nat.le_of_ble_eq_true rfl, Nat.le_of_ble_eq_true rfl⟩ [0] rfl rfl rfl (setB_same _ _ _ rfl) rfl (ci := 4) (q0 := 0) rfl rfl rfl dX4_rings_64 (fun H locs hP hD hS => ?_)
    refine lv_if_ne (tgt := 84) hx hb dX4_rings_67 (by decide) (fun c8 => ?_) (fun c8 => ?_)
    · have hf := (o_i hf).2 c8
      refine lv_iconst (v := 0) hx hb dX4_rings_84 (by decide) ?_
      have e9 := Option.some.inj hf
      subst e9
      exact rt_z C hP hS rfl rfl dX4_rings_85
    have hf := (o_i hf).1 c8
    refine lv_aload_n hx hb dX4_rings_70 rfl (lv_at hl 1 rfl) ?_
    refine lv_aload_n hx hb dX4_rings_71 rfl (lv_at hl 2 rfl) ?_
    refine lv_iload_n hx hb dX4_rings_72 rfl (lv_at hl 3 rfl) ?_
    refine lv_iload_n hx hb dX4_rings_73 rfl (lv_at hl 4 rfl) ?_
    obtain ⟨g9, hg9, hf⟩ := o_b hf
    refine bVi C hP hD hS (tX4_wasJustLetDown l G a b a_due a_rang a_times a_last b_villages b_woods b_needs b_signs b_temper b_friend b_rope b_hears b_shut b_woodBell b_woodVillage b_needVillage b_needWind b_needSeen b_sign p1 p2 g9 hg9) gX4_rings_X4_wasJustLetDown rfl ⟨rfl, rfl⟩ hdX4_wasJustLetDown ⟨Nat.le_of_ble_eq_true rfl, Nat.le_of_ble_eq_true rfl⟩ rfl hl.1 rfl (Nat.le_of_ble_eq_true rfl) ⟨Nat.le_of_ble_eq_true rfl, Nat.le_of_ble_eq_true rfl⟩ [0, 1] rfl rfl rfl (setB_same _ _ _ rfl) rfl (ci := 4) (q0 := 0) rfl rfl rfl dX4_rings_74 (fun H locs hP hD hS => ?_)
    refine lv_if_ne (tgt := 84) hx hb dX4_rings_77 (by decide) (fun c10 => ?_) (fun c10 => ?_)
    · have hf := (o_i hf).2 c10
      refine lv_iconst (v := 0) hx hb dX4_rings_84 (by decide) ?_
      have e9 := Option.some.inj hf
      subst e9
      exact rt_z C hP hS rfl rfl dX4_rings_85
    have hf := (o_i hf).1 c10
    refine lv_iconst (v := 1) hx hb dX4_rings_80 (by decide) ?_
    refine lv_goto (tgt := 85) hx hb dX4_rings_81 (by decide) ?_
    have e9 := Option.some.inj hf
    subst e9
    exact rt_z C hP hS rfl rfl dX4_rings_85
  have hf := (o_i hf).2 c6
  by_cases c11 : z2 = 3
  · have hf := (o_i hf).1 c11
    refine lv_tableIn (tgt := 86) hx hb dX4_rings_14 (by rw [c11]; decide) (by rw [c11]; decide) (off := 72) (by rw [c11]; rfl) (by decide) ?_
    refine lv_aload_n hx hb dX4_rings_86 rfl (lv_at hl 2 rfl) ?_
    refine va_get (D := G.1) (ci := 3) (v := .ref (b 2)) (C := RX3) (T := TX3) (N := 15) hx hb hts iiX4_rings_X3 hown hK hP 5 rfl rfl 5 (by decide) (hts _ mmX4_rings_3) (fun _ h9 => h9) rfl dX4_rings_87 ?_
    refine lv_iload_n hx hb dX4_rings_90 rfl (lv_at hl 3 rfl) ?_
    obtain ⟨z12, hz12, hf⟩ := o_b hf
    refine k_iald hx hb hK hP 7 0 rfl rfl hz12 dX4_rings_91 ?_
    refine lv_iload hx hb dX4_rings_92 (lv_at hl 0 rfl) ?_
    refine lv_icmp_eq (tgt := 107) hx hb dX4_rings_94 (by decide) (fun c13 => ?_) (fun c13 => ?_)
    · have hf := (o_i hf).1 c13
      refine lv_iconst (v := 1) hx hb dX4_rings_107 (by decide) ?_
      refine lv_goto (tgt := 112) hx hb dX4_rings_108 (by decide) ?_
      have e9 := Option.some.inj hf
      subst e9
      exact rt_z C hP hS rfl rfl dX4_rings_112
    have hf := (o_i hf).2 c13
    refine lv_aload_n hx hb dX4_rings_97 rfl (lv_at hl 1 rfl) ?_
    refine lv_iload_n hx hb dX4_rings_98 rfl (lv_at hl 3 rfl) ?_
    refine lv_iload hx hb dX4_rings_99 (lv_at hl 0 rfl) ?_
    obtain ⟨g14, hg14, hf⟩ := o_b hf
    refine bVi C hP hD hS (tX4_wasRefused l G a a_due a_rang a_times a_last p1 z1 g14 hg14) gX4_rings_X4_wasRefused rfl ⟨rfl, rfl⟩ hdX4_wasRefused ⟨Nat.le_of_ble_eq_true rfl, Nat.le_of_ble_eq_true rfl⟩ rfl hl.1 rfl (Nat.le_of_ble_eq_true rfl) ⟨Nat.le_of_ble_eq_true rfl, Nat.le_of_ble_eq_true rfl⟩ [0] rfl rfl rfl (setB_same _ _ _ rfl) rfl (ci := 4) (q0 := 0) rfl rfl rfl dX4_rings_101 (fun H locs hP hD hS => ?_)
    refine lv_if_ne (tgt := 111) hx hb dX4_rings_104 (by decide) (fun c15 => ?_) (fun c15 => ?_)
    · have hf := (o_i hf).2 c15
      refine lv_iconst (v := 0) hx hb dX4_rings_111 (by decide) ?_
      have e9 := Option.some.inj hf
      subst e9
      exact rt_z C hP hS rfl rfl dX4_rings_112
    have hf := (o_i hf).1 c15
    refine lv_iconst (v := 1) hx hb dX4_rings_107 (by decide) ?_
    refine lv_goto (tgt := 112) hx hb dX4_rings_108 (by decide) ?_
    have e9 := Option.some.inj hf
    subst e9
    exact rt_z C hP hS rfl rfl dX4_rings_112
  have hf := (o_i hf).2 c11
  by_cases c16 : z2 = 4
  · have hf := (o_i hf).1 c16
    refine lv_tableIn (tgt := 113) hx hb dX4_rings_14 (by rw [c16]; decide) (by rw [c16]; decide) (off := 99) (by rw [c16]; rfl) (by decide) ?_
    refine lv_aload_n hx hb dX4_rings_113 rfl (lv_at hl 1 rfl) ?_
    refine va_get (D := G.1) (ci := 4) (v := .ref (a 3)) (C := RX4) (T := TX4) (N := 4) hx hb hts iiX4_rings_X4 hown hK hP 0 rfl rfl 2 (by decide) (hts _ mmX4_rings_5) (fun _ h9 => h9) rfl dX4_rings_114 ?_
    refine lv_iload_n hx hb dX4_rings_117 rfl (lv_at hl 3 rfl) ?_
    refine lv_iload hx hb dX4_rings_118 (lv_at hl 0 rfl) ?_
    obtain ⟨g17, hg17, hf⟩ := o_b hf
    refine bNi C hP hD hS (tX6_pair l G p1 z1 g17 hg17) gX4_rings_X6_pair_n74 (nw11 hN) (hts _ mmX4_rings_6) (hts _ mmX4_rings_7) rfl ⟨rfl, rfl⟩ hdX6_pair ⟨Nat.le_of_ble_eq_true rfl, Nat.le_of_ble_eq_true rfl⟩ rfl hl.1 rfl (Nat.le_of_ble_eq_true rfl) ⟨Nat.le_of_ble_eq_true rfl, Nat.le_of_ble_eq_true rfl⟩ [] rfl rfl rfl (setB_same _ _ _ rfl) rfl dX4_rings_120 (fun H locs hP hD hS => ?_)
    obtain ⟨z18, hz18, hf⟩ := o_b hf
    refine k_iald hx hb hK hP 3 0 rfl rfl hz18 dX4_rings_123 ?_
    refine lv_aload_n hx hb dX4_rings_124 rfl (lv_at hl 1 rfl) ?_
    refine va_get (D := G.1) (ci := 4) (v := .ref (a 3)) (C := RX4) (T := TX4) (N := 4) hx hb hts iiX4_rings_X4 hown hK hP 0 rfl rfl 2 (by decide) (hts _ mmX4_rings_5) (fun _ h9 => h9) rfl dX4_rings_125 ?_
    refine lv_iload hx hb dX4_rings_128 (lv_at hl 0 rfl) ?_
    refine at_pc (pc' := 130) rfl ?_
    refine lv_iload_n hx hb dX4_rings_130 rfl (lv_at hl 3 rfl) ?_
    obtain ⟨g19, hg19, hf⟩ := o_b hf
    refine bNi C hP hD hS (tX6_pair l G z1 p1 g19 hg19) gX4_rings_X6_pair_n74 (nw11 hN) (hts _ mmX4_rings_6) (hts _ mmX4_rings_7) rfl ⟨rfl, rfl⟩ hdX6_pair ⟨Nat.le_of_ble_eq_true rfl, Nat.le_of_ble_eq_true rfl⟩ rfl hl.1 rfl (Nat.le_of_ble_eq_true rfl) ⟨Nat.le_of_ble_eq_true rfl, Nat.le_of_ble_eq_true rfl⟩ [] rfl rfl rfl (setB_same _ _ _ rfl) rfl dX4_rings_131 (fun H locs hP hD hS => ?_)
    obtain ⟨z20, hz20, hf⟩ := o_b hf
    refine k_iald hx hb hK hP 3 0 rfl rfl hz20 dX4_rings_134 ?_
    refine lv_icmp_ge (tgt := 142) hx hb dX4_rings_135 (by decide) (fun c21 => ?_) (fun c21 => ?_)
    · have hf := (o_i hf).1 c21
      refine lv_iconst (v := 0) hx hb dX4_rings_142 (by decide) ?_
      have e9 := Option.some.inj hf
      subst e9
      exact rt_z C hP hS rfl rfl dX4_rings_143
    have hf := (o_i hf).2 c21
    refine lv_iconst (v := 1) hx hb dX4_rings_138 (by decide) ?_
    refine lv_goto (tgt := 143) hx hb dX4_rings_139 (by decide) ?_
    have e9 := Option.some.inj hf
    subst e9
    exact rt_z C hP hS rfl rfl dX4_rings_143
  have hf := (o_i hf).2 c16
  refine lv_tableOut (tgt := 144) hx hb dX4_rings_14 (by have q0 := lv_neT c3 (a := 1) rfl; have q1 := lv_neT c6 (a := 2) rfl; have q2 := lv_neT c11 (a := 3) rfl; have q3 := lv_neT c16 (a := 4) rfl; omega) (by decide) ?_
  refine lv_iconst (v := 1) hx hb dX4_rings_144 (by decide) ?_
  have e9 := Option.some.inj hf
  subst e9
  exact rt_z C hP hS rfl rfl dX4_rings_145

/-! RX4 whoRings(LBlindBells$Valley;I)I -/
theorem iiX4_whoRings_X3 : ∀ w ∈ wsX30, w ∈ wsX4_whoRings := by decide +kernel
theorem mmX4_whoRings_1 : (Cond.fieldLink RX4 51 "BlindBells$Valley" "villages" "I") ∈ wsX4_whoRings := by decide +kernel
theorem iiX4_whoRings_X4 : ∀ w ∈ wsX40, w ∈ wsX4_whoRings := by decide +kernel
theorem mmX4_whoRings_3 : (Cond.fieldLink RX4 9 "BlindBells$ValleyRun" "due" "[I") ∈ wsX4_whoRings := by decide +kernel
theorem mmX4_whoRings_4 : (Cond.static yX6_has) ∈ wsX4_whoRings := by decide +kernel
theorem mmX4_whoRings_5 : (Cond.initialized RX6) ∈ wsX4_whoRings := by decide +kernel
theorem hdX4_whoRings : yX4_whoRings.cls = RX4 ∧ yX4_whoRings.cls ≠ "java/lang/invoke/MethodHandle" ∧ yX4_whoRings.cls ≠ "java/lang/invoke/VarHandle" ∧ (parseMethodDescriptor yX4_whoRings.desc).map (fun d => d.parameters.length) = some 2 := by decide +kernel
abbrev rmX4_whoRings : Room := { frames := 3, cells := 0, slots := 0, locals := 67 }
set_option maxHeartbeats 4000000 in
set_option maxRecDepth 100000 in
theorem lX4_whoRings_5 {p : Program} {e : Env} {s : State} {m : MethodId} {args : Array Value} {below : List Frame} {meth : Method} {c : Code} {A : Nat → Prop} (l : Launch) (G : GG) (C : Cx p m c cX4_whoRings 5 s args wsX4_whoRings RX4 meth (some .int) G A) (a : Nat → Nat) (b : Nat → Nat) (a_due : Nat → Int32) (a_rang : Nat → Int32) (a_times : Nat → Int32) (a_last : Nat → Int32) (b_villages : Int32) (b_woods : Int32) (b_needs : Int32) (b_signs : Int32) (b_temper : Nat → Int32) (b_friend : Nat → Int32) (b_rope : Nat → Int32) (b_hears : Nat → Int32) (b_shut : Nat → Int32) (b_woodBell : Nat → Int32) (b_woodVillage : Nat → Int32) (b_needVillage : Nat → Int32) (b_needWind : Nat → Int32) (b_needSeen : Nat → Int32) (b_sign : Nat → Int32) (p1 : Int32) (out : Int32) (kx : Int32 → Int32 → Option (Int32)) (HX : ∀ (x3_5 : Int32) (x4_5 : Int32) (H : Heap) (locs : List Loc) (ls : Array Slot), va_P G.1 vwCl (flat [wX4 G a a_due a_rang a_times a_last, wX3 G b b_villages b_woods b_needs b_signs b_temper b_friend b_rope b_hears b_shut b_woodBell b_woodVillage b_needVillage b_needWind b_needSeen b_sign]) H → va_D A (flat [wX4 G a a_due a_rang a_times a_last, wX3 G b b_villages b_woods b_needs b_signs b_temper b_friend b_rope b_hears b_shut b_woodBell b_woodVillage b_needVillage b_needWind b_needSeen b_sign]) → va_S A s.heap H locs → lv_has ls 5 [(0, .ref (a 0)), (1, .ref (b 0)), (2, .int p1), (3, .int x3_5), (4, .int x4_5)] → kx x3_5 x4_5 = some out → W p l e rmX4_whoRings s m args below meth c H locs 0 0 (MQ below (QI G A out (flat [wX4 G a a_due a_rang a_times a_last, wX3 G b b_villages b_woods b_needs b_signs b_temper b_friend b_rope b_hears b_shut b_woodBell b_woodVillage b_needVillage b_needWind b_needSeen b_sign])) args s 0 0 A) (F0 m 52 ls [])) : ∀ (n : Nat) (x3_5 : Int32) (x4_5 : Int32) (H : Heap) (locs : List Loc) (ls : Array Slot), va_P G.1 vwCl (flat [wX4 G a a_due a_rang a_times a_last, wX3 G b b_villages b_woods b_needs b_signs b_temper b_friend b_rope b_hears b_shut b_woodBell b_woodVillage b_needVillage b_needWind b_needSeen b_sign]) H → va_D A (flat [wX4 G a a_due a_rang a_times a_last, wX3 G b b_villages b_woods b_needs b_signs b_temper b_friend b_rope b_hears b_shut b_woodBell b_woodVillage b_needVillage b_needWind b_needSeen b_sign]) → va_S A s.heap H locs → lv_has ls 5 [(0, .ref (a 0)), (1, .ref (b 0)), (2, .int p1), (3, .int x3_5), (4, .int x4_5)] → fX4_whoRings_5 p1 a_due a_rang a_times a_last b_villages b_temper b_friend b_needVillage kx n x3_5 x4_5 = some out → W p l e rmX4_whoRings s m args below meth c H locs 0 0 (MQ below (QI G A out (flat [wX4 G a a_due a_rang a_times a_last, wX3 G b b_villages b_woods b_needs b_signs b_temper b_friend b_rope b_hears b_shut b_woodBell b_woodVillage b_needVillage b_needWind b_needSeen b_sign])) args s 0 0 A) (F0 m 5 ls []) := by
  obtain ⟨⟨hx, hb, hml, hown, hts⟩, hr, hlocks, hK, hN, hE, hA⟩ := id C
  intro n
  induction n with
  | zero =>
    intro x3_5 x4_5 H locs ls hP hD hS hl hf
    exact absurd (show (none : Option (Int32)) = some out from hf) (by intro q9; cases q9)
  | succ n ih =>
    intro x3_5 x4_5 H locs ls hP hD hS hl hf
    rw [fX4_whoRings_5] at hf
    refine lv_iload hx hb dX4_whoRings_5 (lv_at hl 4 rfl) ?_
    refine lv_aload_n hx hb dX4_whoRings_7 rfl (lv_at hl 1 rfl) ?_
    refine va_get (D := G.1) (ci := 3) (v := .int b_villages) (C := RX3) (T := TX3) (N := 15) hx hb hts iiX4_whoRings_X3 hown hK hP 5 rfl rfl 0 (by decide) (hts _ mmX4_whoRings_1) (fun _ h9 => h9) rfl dX4_whoRings_8 ?_
    refine lv_icmp_ge (tgt := 52) hx hb dX4_whoRings_11 (by decide) (fun c1 => ?_) (fun c1 => ?_)
    · have hf := (o_i hf).1 c1
      exact HX _ _ _ _ _ hP hD hS (lv_sub hl [0, 1, 2, 3, 4] rfl) hf
    have hf := (o_i hf).2 c1
    refine lv_aload_n hx hb dX4_whoRings_14 rfl (lv_at hl 0 rfl) ?_
    refine va_get (D := G.1) (ci := 4) (v := .ref (a 1)) (C := RX4) (T := TX4) (N := 4) hx hb hts iiX4_whoRings_X4 hown hK hP 0 rfl rfl 0 (by decide) (hts _ mmX4_whoRings_3) (fun _ h9 => h9) rfl dX4_whoRings_15 ?_
    refine lv_iload_n hx hb dX4_whoRings_18 rfl (lv_at hl 2 rfl) ?_
    obtain ⟨z2, hz2, hf⟩ := o_b hf
    refine k_iald hx hb hK hP 1 0 rfl rfl hz2 dX4_whoRings_19 ?_
    refine lv_iload hx hb dX4_whoRings_20 (lv_at hl 4 rfl) ?_
    obtain ⟨g3, hg3, hf⟩ := o_b hf
    refine bNi C hP hD hS (tX6_has l G z2 x4_5 g3 hg3) gX4_whoRings_X6_has_n54 (nw10 hN) (hts _ mmX4_whoRings_4) (hts _ mmX4_whoRings_5) rfl ⟨rfl, rfl⟩ hdX6_has ⟨Nat.le_of_ble_eq_true rfl, Nat.le_of_ble_eq_true rfl⟩ rfl hl.1 rfl (Nat.le_of_ble_eq_true rfl) ⟨Nat.le_of_ble_eq_true rfl, Nat.le_of_ble_eq_true rfl⟩ [] rfl rfl rfl (setB_same _ _ _ rfl) rfl dX4_whoRings_22 (fun H locs hP hD hS => ?_)
    refine lv_if_eq (tgt := 46) hx hb dX4_whoRings_25 (by decide) (fun c4 => ?_) (fun c4 => ?_)
    · have hf := (o_i hf).1 c4
      refine lv_iinc (v := x4_5 + 1) (lv' := [(4, .int (x4_5 + 1)), (0, .ref (a 0)), (1, .ref (b 0)), (2, .int p1), (3, .int x3_5)]) hx hb dX4_whoRings_46 hl (k := 4) rfl (congrArg (fun z => x4_5 + z) (by decide)) (by decide) rfl (fun ls hl => ?_)
      refine lv_goto (tgt := 5) hx hb dX4_whoRings_49 (by decide) ?_
      exact ih _ _ _ _ _ hP hD hS (lv_sub hl [1, 2, 3, 4, 0] rfl) hf
    have hf := (o_i hf).2 c4
    refine lv_aload_n hx hb dX4_whoRings_28 rfl (lv_at hl 0 rfl) ?_
    refine lv_aload_n hx hb dX4_whoRings_29 rfl (lv_at hl 1 rfl) ?_
    refine lv_iload hx hb dX4_whoRings_30 (lv_at hl 4 rfl) ?_
    refine lv_iload_n hx hb dX4_whoRings_32 rfl (lv_at hl 2 rfl) ?_
    obtain ⟨g5, hg5, hf⟩ := o_b hf
    refine bVi C hP hD hS (tX4_rings l G a b a_due a_rang a_times a_last b_villages b_woods b_needs b_signs b_temper b_friend b_rope b_hears b_shut b_woodBell b_woodVillage b_needVillage b_needWind b_needSeen b_sign x4_5 p1 g5 hg5) gX4_whoRings_X4_rings rfl ⟨rfl, rfl⟩ hdX4_rings ⟨Nat.le_of_ble_eq_true rfl, Nat.le_of_ble_eq_true rfl⟩ rfl hl.1 rfl (Nat.le_of_ble_eq_true rfl) ⟨Nat.le_of_ble_eq_true rfl, Nat.le_of_ble_eq_true rfl⟩ [0, 1] rfl rfl rfl (setB_same _ _ _ rfl) rfl (ci := 4) (q0 := 0) rfl rfl rfl dX4_whoRings_33 (fun H locs hP hD hS => ?_)
    refine lv_if_eq (tgt := 46) hx hb dX4_whoRings_36 (by decide) (fun c6 => ?_) (fun c6 => ?_)
    · have hf := (o_i hf).1 c6
      refine lv_iinc (v := x4_5 + 1) (lv' := [(4, .int (x4_5 + 1)), (0, .ref (a 0)), (1, .ref (b 0)), (2, .int p1), (3, .int x3_5)]) hx hb dX4_whoRings_46 hl (k := 4) rfl (congrArg (fun z => x4_5 + z) (by decide)) (by decide) rfl (fun ls hl => ?_)
      refine lv_goto (tgt := 5) hx hb dX4_whoRings_49 (by decide) ?_
      exact ih _ _ _ _ _ hP hD hS (lv_sub hl [1, 2, 3, 4, 0] rfl) hf
    have hf := (o_i hf).2 c6
    refine lv_iload_n hx hb dX4_whoRings_39 rfl (lv_at hl 3 rfl) ?_
    refine lv_iconst (v := 1) hx hb dX4_whoRings_40 (by decide) ?_
    refine lv_iload hx hb dX4_whoRings_41 (lv_at hl 4 rfl) ?_
    refine lv_ishl hx hb dX4_whoRings_43 ?_
    refine lv_ior hx hb dX4_whoRings_44 ?_
    refine lv_istore_n (lv' := [(3, .int (x3_5 ||| (1 <<< (x4_5 &&& 31)))), (0, .ref (a 0)), (1, .ref (b 0)), (2, .int p1), (4, .int x4_5)]) hx hb dX4_whoRings_45 rfl hl (by decide) rfl (fun ls hl => ?_)
    refine lv_iinc (v := x4_5 + 1) (lv' := [(4, .int (x4_5 + 1)), (3, .int (x3_5 ||| (1 <<< (x4_5 &&& 31)))), (0, .ref (a 0)), (1, .ref (b 0)), (2, .int p1)]) hx hb dX4_whoRings_46 hl (k := 4) rfl (congrArg (fun z => x4_5 + z) (by decide)) (by decide) rfl (fun ls hl => ?_)
    refine lv_goto (tgt := 5) hx hb dX4_whoRings_49 (by decide) ?_
    exact ih _ _ _ _ _ hP hD hS (lv_sub hl [2, 3, 4, 1, 0] rfl) hf
set_option maxHeartbeats 4000000 in
set_option maxRecDepth 100000 in
theorem tX4_whoRings (l : Launch) (G : GG) (a : Nat → Nat) (b : Nat → Nat) (a_due : Nat → Int32) (a_rang : Nat → Int32) (a_times : Nat → Int32) (a_last : Nat → Int32) (b_villages : Int32) (b_woods : Int32) (b_needs : Int32) (b_signs : Int32) (b_temper : Nat → Int32) (b_friend : Nat → Int32) (b_rope : Nat → Int32) (b_hears : Nat → Int32) (b_shut : Nat → Int32) (b_woodBell : Nat → Int32) (b_woodVillage : Nat → Int32) (b_needVillage : Nat → Int32) (b_needWind : Nat → Int32) (b_needSeen : Nat → Int32) (b_sign : Nat → Int32) (p1 : Int32) (out : Int32) (hf : fX4_whoRings a_due a_rang a_times a_last b_villages b_temper b_friend b_needVillage p1 = some out) : cMi l G yX4_whoRings wsX4_whoRings rmX4_whoRings [.ref (a 0), .ref (b 0), .int p1] (flat [wX4 G a a_due a_rang a_times a_last, wX3 G b b_villages b_woods b_needs b_signs b_temper b_friend b_rope b_hears b_shut b_woodBell b_woodVillage b_needVillage b_needWind b_needSeen b_sign]) out (flat [wX4 G a a_due a_rang a_times a_last, wX3 G b b_villages b_woods b_needs b_signs b_temper b_friend b_rope b_hears b_shut b_woodBell b_woodVillage b_needVillage b_needWind b_needSeen b_sign]) := by
  intro sz
  refine met_of (cc := cX4_whoRings) (nL := 5) (ret := (some .int)) (Qc := fun A9 => QI G A9 out (flat [wX4 G a a_due a_rang a_times a_last, wX3 G b b_villages b_woods b_needs b_signs b_temper b_friend b_rope b_hears b_shut b_woodBell b_woodVillage b_needVillage b_needWind b_needSeen b_sign])) (by decide) rfl (Nat.le_of_ble_eq_true rfl) ?_
  intro p e s m args below meth c A ls C hP hD hS hl
  obtain ⟨⟨hx, hb, hml, hown, hts⟩, hr, hlocks, hK, hN, hE, hA⟩ := id C
  have hl : lv_has ls 5 [(0, .ref (a 0)), (1, .ref (b 0)), (2, .int p1)] := hl
  unfold fX4_whoRings at hf
  refine lv_iconst (v := 0) hx hb dX4_whoRings_0 (by decide) ?_
  refine lv_istore_n (lv' := [(3, .int 0), (0, .ref (a 0)), (1, .ref (b 0)), (2, .int p1)]) hx hb dX4_whoRings_1 rfl hl (by decide) rfl (fun ls hl => ?_)
  refine lv_iconst (v := 0) hx hb dX4_whoRings_2 (by decide) ?_
  refine lv_istore (lv' := [(4, .int 0), (3, .int 0), (0, .ref (a 0)), (1, .ref (b 0)), (2, .int p1)]) hx hb dX4_whoRings_3 hl (by decide) rfl (fun ls hl => ?_)
  refine lX4_whoRings_5 l G C a b a_due a_rang a_times a_last b_villages b_woods b_needs b_signs b_temper b_friend b_rope b_hears b_shut b_woodBell b_woodVillage b_needVillage b_needWind b_needSeen b_sign p1 out _ (fun x3_5_7 x4_5_8 H locs ls hP hD hS hl hf => ?_) fu 0 0 _ _ _ hP hD hS (lv_sub hl [2, 3, 4, 1, 0] rfl) hf
  refine lv_iload_n hx hb dX4_whoRings_52 rfl (lv_at hl 3 rfl) ?_
  have e9 := Option.some.inj hf
  subst e9
  exact rt_i C hP hS rfl dX4_whoRings_53

/-! RX4 remember(LBlindBells$Valley;I)V -/
theorem iiX4_remember_X3 : ∀ w ∈ wsX30, w ∈ wsX4_remember := by decide +kernel
theorem mmX4_remember_1 : (Cond.fieldLink RX4 48 "BlindBells$Valley" "needVillage" "[I") ∈ wsX4_remember := by decide +kernel
theorem mmX4_remember_2 : (Cond.fieldLink RX4 51 "BlindBells$Valley" "villages" "I") ∈ wsX4_remember := by decide +kernel
theorem iiX4_remember_X4 : ∀ w ∈ wsX40, w ∈ wsX4_remember := by decide +kernel
theorem mmX4_remember_4 : (Cond.fieldLink RX4 9 "BlindBells$ValleyRun" "due" "[I") ∈ wsX4_remember := by decide +kernel
theorem mmX4_remember_5 : (Cond.static yX6_has) ∈ wsX4_remember := by decide +kernel
theorem mmX4_remember_6 : (Cond.initialized RX6) ∈ wsX4_remember := by decide +kernel
theorem mmX4_remember_7 : (Cond.fieldLink RX4 15 "BlindBells$ValleyRun" "rang" "[I") ∈ wsX4_remember := by decide +kernel
theorem mmX4_remember_8 : (Cond.fieldLink RX4 18 "BlindBells$ValleyRun" "times" "[I") ∈ wsX4_remember := by decide +kernel
theorem mmX4_remember_9 : (Cond.static yX6_pair) ∈ wsX4_remember := by decide +kernel
theorem mmX4_remember_10 : (Cond.fieldLink RX4 21 "BlindBells$ValleyRun" "last" "[I") ∈ wsX4_remember := by decide +kernel
theorem hdX4_remember : yX4_remember.cls = RX4 ∧ yX4_remember.cls ≠ "java/lang/invoke/MethodHandle" ∧ yX4_remember.cls ≠ "java/lang/invoke/VarHandle" ∧ (parseMethodDescriptor yX4_remember.desc).map (fun d => d.parameters.length) = some 2 := by decide +kernel
abbrev rmX4_remember : Room := { frames := 1, cells := 0, slots := 0, locals := 21 }
set_option maxHeartbeats 4000000 in
set_option maxRecDepth 100000 in
theorem lX4_remember_10 {p : Program} {e : Env} {s : State} {m : MethodId} {args : Array Value} {below : List Frame} {meth : Method} {c : Code} {A : Nat → Prop} (l : Launch) (G : GG) (C : Cx p m c cX4_remember 6 s args wsX4_remember RX4 meth none G A) (a : Nat → Nat) (b : Nat → Nat) (a_due : Nat → Int32) (a_rang : Nat → Int32) (a_times : Nat → Int32) (a_last : Nat → Int32) (b_villages : Int32) (b_woods : Int32) (b_needs : Int32) (b_signs : Int32) (b_temper : Nat → Int32) (b_friend : Nat → Int32) (b_rope : Nat → Int32) (b_hears : Nat → Int32) (b_shut : Nat → Int32) (b_woodBell : Nat → Int32) (b_woodVillage : Nat → Int32) (b_needVillage : Nat → Int32) (b_needWind : Nat → Int32) (b_needSeen : Nat → Int32) (b_sign : Nat → Int32) (p1 : Int32) (z1 : Int32) (out : (Nat → Int32) × (Nat → Int32)) (kx : Int32 → (Nat → Int32) → (Nat → Int32) → Option ((Nat → Int32) × (Nat → Int32))) (HX : ∀ (x4_10 : Int32) (a_times_10 : Nat → Int32) (a_last_10 : Nat → Int32) (H : Heap) (locs : List Loc) (ls : Array Slot), va_P G.1 vwCl (flat [wX4 G a a_due a_rang a_times_10 a_last_10, wX3 G b b_villages b_woods b_needs b_signs b_temper b_friend b_rope b_hears b_shut b_woodBell b_woodVillage b_needVillage b_needWind b_needSeen b_sign]) H → va_D A (flat [wX4 G a a_due a_rang a_times_10 a_last_10, wX3 G b b_villages b_woods b_needs b_signs b_temper b_friend b_rope b_hears b_shut b_woodBell b_woodVillage b_needVillage b_needWind b_needSeen b_sign]) → va_S A s.heap H locs → lv_has ls 6 [(0, .ref (a 0)), (1, .ref (b 0)), (2, .int p1), (3, .int z1), (4, .int x4_10)] → kx x4_10 a_times_10 a_last_10 = some out → W p l e rmX4_remember s m args below meth c H locs 0 0 (MQ below (QV G A (flat [wX4 G a a_due a_rang out.1 out.2, wX3 G b b_villages b_woods b_needs b_signs b_temper b_friend b_rope b_hears b_shut b_woodBell b_woodVillage b_needVillage b_needWind b_needSeen b_sign])) args s 0 0 A) (F0 m 89 ls [])) : ∀ (n : Nat) (x4_10 : Int32) (a_times_10 : Nat → Int32) (a_last_10 : Nat → Int32) (H : Heap) (locs : List Loc) (ls : Array Slot), va_P G.1 vwCl (flat [wX4 G a a_due a_rang a_times_10 a_last_10, wX3 G b b_villages b_woods b_needs b_signs b_temper b_friend b_rope b_hears b_shut b_woodBell b_woodVillage b_needVillage b_needWind b_needSeen b_sign]) H → va_D A (flat [wX4 G a a_due a_rang a_times_10 a_last_10, wX3 G b b_villages b_woods b_needs b_signs b_temper b_friend b_rope b_hears b_shut b_woodBell b_woodVillage b_needVillage b_needWind b_needSeen b_sign]) → va_S A s.heap H locs → lv_has ls 6 [(0, .ref (a 0)), (1, .ref (b 0)), (2, .int p1), (3, .int z1), (4, .int x4_10)] → fX4_remember_10 p1 a_due a_rang b_villages z1 kx n x4_10 a_times_10 a_last_10 = some out → W p l e rmX4_remember s m args below meth c H locs 0 0 (MQ below (QV G A (flat [wX4 G a a_due a_rang out.1 out.2, wX3 G b b_villages b_woods b_needs b_signs b_temper b_friend b_rope b_hears b_shut b_woodBell b_woodVillage b_needVillage b_needWind b_needSeen b_sign])) args s 0 0 A) (F0 m 10 ls []) := by
  obtain ⟨⟨hx, hb, hml, hown, hts⟩, hr, hlocks, hK, hN, hE, hA⟩ := id C
  intro n
  induction n with
  | zero =>
    intro x4_10 a_times_10 a_last_10 H locs ls hP hD hS hl hf
    exact absurd (show (none : Option ((Nat → Int32) × (Nat → Int32))) = some out from hf) (by intro q9; cases q9)
  | succ n ih =>
    intro x4_10 a_times_10 a_last_10 H locs ls hP hD hS hl hf
    rw [fX4_remember_10] at hf
    refine lv_iload hx hb dX4_remember_10 (lv_at hl 4 rfl) ?_
    refine lv_aload_n hx hb dX4_remember_12 rfl (lv_at hl 1 rfl) ?_
    refine va_get (D := G.1) (ci := 3) (v := .int b_villages) (C := RX3) (T := TX3) (N := 15) hx hb hts iiX4_remember_X3 hown hK hP 5 rfl rfl 0 (by decide) (hts _ mmX4_remember_2) (fun _ h9 => h9) rfl dX4_remember_13 ?_
    refine lv_icmp_ge (tgt := 89) hx hb dX4_remember_16 (by decide) (fun c2 => ?_) (fun c2 => ?_)
    · have hf := (o_i hf).1 c2
      exact HX _ _ _ _ _ _ hP hD hS (lv_sub hl [0, 1, 2, 3, 4] rfl) hf
    have hf := (o_i hf).2 c2
    refine lv_aload_n hx hb dX4_remember_19 rfl (lv_at hl 0 rfl) ?_
    refine va_get (D := G.1) (ci := 4) (v := .ref (a 1)) (C := RX4) (T := TX4) (N := 4) hx hb hts iiX4_remember_X4 hown hK hP 0 rfl rfl 0 (by decide) (hts _ mmX4_remember_4) (fun _ h9 => h9) rfl dX4_remember_20 ?_
    refine lv_iload_n hx hb dX4_remember_23 rfl (lv_at hl 2 rfl) ?_
    obtain ⟨z3, hz3, hf⟩ := o_b hf
    refine k_iald hx hb hK hP 1 0 rfl rfl hz3 dX4_remember_24 ?_
    refine lv_iload hx hb dX4_remember_25 (lv_at hl 4 rfl) ?_
    obtain ⟨g4, hg4, hf⟩ := o_b hf
    refine bNi C hP hD hS (tX6_has l G z3 x4_10 g4 hg4) gX4_remember_X6_has_n54 (nw10 hN) (hts _ mmX4_remember_5) (hts _ mmX4_remember_6) rfl ⟨rfl, rfl⟩ hdX6_has ⟨Nat.le_of_ble_eq_true rfl, Nat.le_of_ble_eq_true rfl⟩ rfl hl.1 rfl (Nat.le_of_ble_eq_true rfl) ⟨Nat.le_of_ble_eq_true rfl, Nat.le_of_ble_eq_true rfl⟩ [] rfl rfl rfl (setB_same _ _ _ rfl) rfl dX4_remember_27 (fun H locs hP hD hS => ?_)
    refine lv_if_eq (tgt := 83) hx hb dX4_remember_30 (by decide) (fun c5 => ?_) (fun c5 => ?_)
    · have hf := (o_i hf).1 c5
      refine lv_iinc (v := x4_10 + 1) (lv' := [(4, .int (x4_10 + 1)), (0, .ref (a 0)), (1, .ref (b 0)), (2, .int p1), (3, .int z1)]) hx hb dX4_remember_83 hl (k := 4) rfl (congrArg (fun z => x4_10 + z) (by decide)) (by decide) rfl (fun ls hl => ?_)
      refine lv_goto (tgt := 10) hx hb dX4_remember_86 (by decide) ?_
      exact ih _ _ _ _ _ _ hP hD hS (lv_sub hl [1, 2, 3, 4, 0] rfl) hf
    have hf := (o_i hf).2 c5
    refine lv_aload_n hx hb dX4_remember_33 rfl (lv_at hl 0 rfl) ?_
    refine va_get (D := G.1) (ci := 4) (v := .ref (a 2)) (C := RX4) (T := TX4) (N := 4) hx hb hts iiX4_remember_X4 hown hK hP 0 rfl rfl 1 (by decide) (hts _ mmX4_remember_7) (fun _ h9 => h9) rfl dX4_remember_34 ?_
    refine lv_iload_n hx hb dX4_remember_37 rfl (lv_at hl 2 rfl) ?_
    obtain ⟨z6, hz6, hf⟩ := o_b hf
    refine k_iald hx hb hK hP 2 0 rfl rfl hz6 dX4_remember_38 ?_
    refine lv_iload hx hb dX4_remember_39 (lv_at hl 4 rfl) ?_
    obtain ⟨g7, hg7, hf⟩ := o_b hf
    refine bNi C hP hD hS (tX6_has l G z6 x4_10 g7 hg7) gX4_remember_X6_has_n54 (nw10 hN) (hts _ mmX4_remember_5) (hts _ mmX4_remember_6) rfl ⟨rfl, rfl⟩ hdX6_has ⟨Nat.le_of_ble_eq_true rfl, Nat.le_of_ble_eq_true rfl⟩ rfl hl.1 rfl (Nat.le_of_ble_eq_true rfl) ⟨Nat.le_of_ble_eq_true rfl, Nat.le_of_ble_eq_true rfl⟩ [] rfl rfl rfl (setB_same _ _ _ rfl) rfl dX4_remember_41 (fun H locs hP hD hS => ?_)
    obtain ⟨f9, hf9, hf⟩ := o_b hf
    have hJ : ∀ (H : Heap) (locs : List Loc) (ls : Array Slot), va_P G.1 vwCl (flat [wX4 G a a_due a_rang a_times_10 a_last_10, wX3 G b b_villages b_woods b_needs b_signs b_temper b_friend b_rope b_hears b_shut b_woodBell b_woodVillage b_needVillage b_needWind b_needSeen b_sign]) H → va_D A (flat [wX4 G a a_due a_rang a_times_10 a_last_10, wX3 G b b_villages b_woods b_needs b_signs b_temper b_friend b_rope b_hears b_shut b_woodBell b_woodVillage b_needVillage b_needWind b_needSeen b_sign]) → va_S A s.heap H locs → lv_has ls 6 [(0, .ref (a 0)), (1, .ref (b 0)), (2, .int p1), (3, .int z1), (4, .int x4_10)] → W p l e rmX4_remember s m args below meth c H locs 0 0 (MQ below (QV G A (flat [wX4 G a a_due a_rang out.1 out.2, wX3 G b b_villages b_woods b_needs b_signs b_temper b_friend b_rope b_hears b_shut b_woodBell b_woodVillage b_needVillage b_needWind b_needSeen b_sign])) args s 0 0 A) (F0 m 52 ls [.int f9]) := by
      intro H locs ls hP hD hS hl
      refine lv_istore (lv' := [(5, .int f9), (0, .ref (a 0)), (1, .ref (b 0)), (2, .int p1), (3, .int z1), (4, .int x4_10)]) hx hb dX4_remember_52 hl (by decide) rfl (fun ls hl => ?_)
      refine lv_aload_n hx hb dX4_remember_54 rfl (lv_at hl 1 rfl) ?_
      refine va_get (D := G.1) (ci := 4) (v := .ref (a 3)) (C := RX4) (T := TX4) (N := 4) hx hb hts iiX4_remember_X4 hown hK hP 0 rfl rfl 2 (by decide) (hts _ mmX4_remember_8) (fun _ h9 => h9) rfl dX4_remember_55 ?_
      refine lv_iload hx hb dX4_remember_58 (lv_at hl 5 rfl) ?_
      refine lv_iload_n hx hb dX4_remember_60 rfl (lv_at hl 4 rfl) ?_
      obtain ⟨g10, hg10, hf⟩ := o_b hf
      refine bNi C hP hD hS (tX6_pair l G x4_10 z1 g10 hg10) gX4_remember_X6_pair_n74 (nw11 hN) (hts _ mmX4_remember_9) (hts _ mmX4_remember_6) rfl ⟨rfl, rfl⟩ hdX6_pair ⟨Nat.le_of_ble_eq_true rfl, Nat.le_of_ble_eq_true rfl⟩ rfl hl.1 rfl (Nat.le_of_ble_eq_true rfl) ⟨Nat.le_of_ble_eq_true rfl, Nat.le_of_ble_eq_true rfl⟩ [] rfl rfl rfl (setB_same _ _ _ rfl) rfl dX4_remember_61 (fun H locs hP hD hS => ?_)
      refine lv_dup2_11 hx hb dX4_remember_64 rfl rfl ?_
      obtain ⟨z11, hz11, hf⟩ := o_b hf
      refine k_iald hx hb hK hP 3 0 rfl rfl hz11 dX4_remember_65 ?_
      refine lv_iload hx hb dX4_remember_66 (lv_at hl 0 rfl) ?_
      refine at_pc (pc' := 68) rfl ?_
      refine lv_iadd hx hb dX4_remember_68 ?_
      obtain ⟨u12, hu12, hf⟩ := o_b hf
      refine k_iast hx hb hK hP hD hS 3 0 rfl rfl hu12 dX4_remember_69 (fun H locs hP hD hS => ?_)
      have hP : va_P G.1 vwCl (flat [wX4 G a a_due a_rang u12 a_last_10, wX3 G b b_villages b_woods b_needs b_signs b_temper b_friend b_rope b_hears b_shut b_woodBell b_woodVillage b_needVillage b_needWind b_needSeen b_sign]) H := hP
      have hD : va_D A (flat [wX4 G a a_due a_rang u12 a_last_10, wX3 G b b_villages b_woods b_needs b_signs b_temper b_friend b_rope b_hears b_shut b_woodBell b_woodVillage b_needVillage b_needWind b_needSeen b_sign]) := hD
      refine lv_aload_n hx hb dX4_remember_70 rfl (lv_at hl 1 rfl) ?_
      refine va_get (D := G.1) (ci := 4) (v := .ref (a 4)) (C := RX4) (T := TX4) (N := 4) hx hb hts iiX4_remember_X4 hown hK hP 0 rfl rfl 3 (by decide) (hts _ mmX4_remember_10) (fun _ h9 => h9) rfl dX4_remember_71 ?_
      refine lv_iload hx hb dX4_remember_74 (lv_at hl 5 rfl) ?_
      refine lv_iload_n hx hb dX4_remember_76 rfl (lv_at hl 4 rfl) ?_
      obtain ⟨g13, hg13, hf⟩ := o_b hf
      refine bNi C hP hD hS (tX6_pair l G x4_10 z1 g13 hg13) gX4_remember_X6_pair_n74 (nw11 hN) (hts _ mmX4_remember_9) (hts _ mmX4_remember_6) rfl ⟨rfl, rfl⟩ hdX6_pair ⟨Nat.le_of_ble_eq_true rfl, Nat.le_of_ble_eq_true rfl⟩ rfl hl.1 rfl (Nat.le_of_ble_eq_true rfl) ⟨Nat.le_of_ble_eq_true rfl, Nat.le_of_ble_eq_true rfl⟩ [] rfl rfl rfl (setB_same _ _ _ rfl) rfl dX4_remember_77 (fun H locs hP hD hS => ?_)
      refine lv_iload hx hb dX4_remember_80 (lv_at hl 0 rfl) ?_
      obtain ⟨u14, hu14, hf⟩ := o_b hf
      refine k_iast hx hb hK hP hD hS 4 0 rfl rfl hu14 dX4_remember_82 (fun H locs hP hD hS => ?_)
      have hP : va_P G.1 vwCl (flat [wX4 G a a_due a_rang u12 u14, wX3 G b b_villages b_woods b_needs b_signs b_temper b_friend b_rope b_hears b_shut b_woodBell b_woodVillage b_needVillage b_needWind b_needSeen b_sign]) H := hP
      have hD : va_D A (flat [wX4 G a a_due a_rang u12 u14, wX3 G b b_villages b_woods b_needs b_signs b_temper b_friend b_rope b_hears b_shut b_woodBell b_woodVillage b_needVillage b_needWind b_needSeen b_sign]) := hD
      refine lv_iinc (v := x4_10 + 1) (lv' := [(4, .int (x4_10 + 1)), (5, .int f9), (0, .ref (a 0)), (1, .ref (b 0)), (2, .int p1), (3, .int z1)]) hx hb dX4_remember_83 hl (k := 5) rfl (congrArg (fun z => x4_10 + z) (by decide)) (by decide) rfl (fun ls hl => ?_)
      refine at_pc (pc' := 86) rfl ?_
      refine lv_goto (tgt := 10) hx hb dX4_remember_86 (by decide) ?_
      exact ih _ _ _ _ _ _ hP hD hS (lv_sub hl [2, 3, 4, 5, 0] rfl) hf
    clear hf
    have hf := hf9
    refine lv_if_eq (tgt := 51) hx hb dX4_remember_44 (by decide) (fun c8 => ?_) (fun c8 => ?_)
    · have hf := (o_i hf).1 c8
      refine lv_iconst (v := 0) hx hb dX4_remember_51 (by decide) ?_
      have e9 := Option.some.inj hf
      subst e9
      exact hJ _ _ _ hP hD hS (lv_sub hl [0, 1, 2, 3, 4] rfl)
    have hf := (o_i hf).2 c8
    refine lv_iconst (v := 1) hx hb dX4_remember_47 (by decide) ?_
    refine lv_goto (tgt := 52) hx hb dX4_remember_48 (by decide) ?_
    have e9 := Option.some.inj hf
    subst e9
    exact hJ _ _ _ hP hD hS (lv_sub hl [0, 1, 2, 3, 4] rfl)
set_option maxHeartbeats 4000000 in
set_option maxRecDepth 100000 in
theorem tX4_remember (l : Launch) (G : GG) (a : Nat → Nat) (b : Nat → Nat) (a_due : Nat → Int32) (a_rang : Nat → Int32) (a_times : Nat → Int32) (a_last : Nat → Int32) (b_villages : Int32) (b_woods : Int32) (b_needs : Int32) (b_signs : Int32) (b_temper : Nat → Int32) (b_friend : Nat → Int32) (b_rope : Nat → Int32) (b_hears : Nat → Int32) (b_shut : Nat → Int32) (b_woodBell : Nat → Int32) (b_woodVillage : Nat → Int32) (b_needVillage : Nat → Int32) (b_needWind : Nat → Int32) (b_needSeen : Nat → Int32) (b_sign : Nat → Int32) (p1 : Int32) (out : (Nat → Int32) × (Nat → Int32)) (hf : fX4_remember a_due a_rang a_times a_last b_villages b_needVillage p1 = some out) : cMv l G yX4_remember wsX4_remember rmX4_remember [.ref (a 0), .ref (b 0), .int p1] (flat [wX4 G a a_due a_rang a_times a_last, wX3 G b b_villages b_woods b_needs b_signs b_temper b_friend b_rope b_hears b_shut b_woodBell b_woodVillage b_needVillage b_needWind b_needSeen b_sign]) (flat [wX4 G a a_due a_rang out.1 out.2, wX3 G b b_villages b_woods b_needs b_signs b_temper b_friend b_rope b_hears b_shut b_woodBell b_woodVillage b_needVillage b_needWind b_needSeen b_sign]) := by
  intro sz
  refine met_of (cc := cX4_remember) (nL := 6) (ret := none) (Qc := fun A9 => QV G A9 (flat [wX4 G a a_due a_rang out.1 out.2, wX3 G b b_villages b_woods b_needs b_signs b_temper b_friend b_rope b_hears b_shut b_woodBell b_woodVillage b_needVillage b_needWind b_needSeen b_sign])) (by decide) rfl (Nat.le_of_ble_eq_true rfl) ?_
  intro p e s m args below meth c A ls C hP hD hS hl
  obtain ⟨⟨hx, hb, hml, hown, hts⟩, hr, hlocks, hK, hN, hE, hA⟩ := id C
  have hl : lv_has ls 6 [(0, .ref (a 0)), (1, .ref (b 0)), (2, .int p1)] := hl
  unfold fX4_remember at hf
  refine lv_aload_n hx hb dX4_remember_0 rfl (lv_at hl 1 rfl) ?_
  refine va_get (D := G.1) (ci := 3) (v := .ref (b 8)) (C := RX3) (T := TX3) (N := 15) hx hb hts iiX4_remember_X3 hown hK hP 5 rfl rfl 11 (by decide) (hts _ mmX4_remember_1) (fun _ h9 => h9) rfl dX4_remember_1 ?_
  refine lv_iload_n hx hb dX4_remember_4 rfl (lv_at hl 2 rfl) ?_
  obtain ⟨z1, hz1, hf⟩ := o_b hf
  refine k_iald hx hb hK hP 13 0 rfl rfl hz1 dX4_remember_5 ?_
  refine lv_istore_n (lv' := [(3, .int z1), (0, .ref (a 0)), (1, .ref (b 0)), (2, .int p1)]) hx hb dX4_remember_6 rfl hl (by decide) rfl (fun ls hl => ?_)
  refine lv_iconst (v := 0) hx hb dX4_remember_7 (by decide) ?_
  refine lv_istore (lv' := [(4, .int 0), (3, .int z1), (0, .ref (a 0)), (1, .ref (b 0)), (2, .int p1)]) hx hb dX4_remember_8 hl (by decide) rfl (fun ls hl => ?_)
  refine lX4_remember_10 l G C a b a_due a_rang a_times a_last b_villages b_woods b_needs b_signs b_temper b_friend b_rope b_hears b_shut b_woodBell b_woodVillage b_needVillage b_needWind b_needSeen b_sign p1 z1 out _ (fun x4_10_15 a_times_10_16 a_last_10_17 H locs ls hP hD hS hl hf => ?_) fu 0 a_times a_last _ _ _ hP hD hS (lv_sub hl [2, 3, 4, 1, 0] rfl) hf
  have e9 := Option.some.inj hf
  subst e9
  exact rt_v C hP hS dX4_remember_89

/-! RX4 go(LBlindBells$Valley;)V -/
theorem iiX4_go_X4 : ∀ w ∈ wsX40, w ∈ wsX4_go := by decide +kernel
theorem mmX4_go_1 : (Cond.fieldLink RX4 18 "BlindBells$ValleyRun" "times" "[I") ∈ wsX4_go := by decide +kernel
theorem mmX4_go_2 : (Cond.fieldLink RX4 21 "BlindBells$ValleyRun" "last" "[I") ∈ wsX4_go := by decide +kernel
theorem iiX4_go_X3 : ∀ w ∈ wsX30, w ∈ wsX4_go := by decide +kernel
theorem mmX4_go_4 : (Cond.fieldLink RX4 30 "BlindBells$Valley" "needs" "I") ∈ wsX4_go := by decide +kernel
theorem mmX4_go_5 : (Cond.fieldLink RX4 9 "BlindBells$ValleyRun" "due" "[I") ∈ wsX4_go := by decide +kernel
theorem mmX4_go_6 : (Cond.fieldLink RX4 15 "BlindBells$ValleyRun" "rang" "[I") ∈ wsX4_go := by decide +kernel
theorem hdX4_go : yX4_go.cls = RX4 ∧ yX4_go.cls ≠ "java/lang/invoke/MethodHandle" ∧ yX4_go.cls ≠ "java/lang/invoke/VarHandle" ∧ (parseMethodDescriptor yX4_go.desc).map (fun d => d.parameters.length) = some 1 := by decide +kernel
abbrev rmX4_go : Room := { frames := 4, cells := 0, slots := 0, locals := 91 }
set_option maxHeartbeats 4000000 in
set_option maxRecDepth 100000 in
theorem lX4_go_18 {p : Program} {e : Env} {s : State} {m : MethodId} {args : Array Value} {below : List Frame} {meth : Method} {c : Code} {A : Nat → Prop} (l : Launch) (G : GG) (C : Cx p m c cX4_go 3 s args wsX4_go RX4 meth none G A) (a : Nat → Nat) (b : Nat → Nat) (a_due : Nat → Int32) (a_rang : Nat → Int32) (a_times : Nat → Int32) (a_last : Nat → Int32) (b_villages : Int32) (b_woods : Int32) (b_needs : Int32) (b_signs : Int32) (b_temper : Nat → Int32) (b_friend : Nat → Int32) (b_rope : Nat → Int32) (b_hears : Nat → Int32) (b_shut : Nat → Int32) (b_woodBell : Nat → Int32) (b_woodVillage : Nat → Int32) (b_needVillage : Nat → Int32) (b_needWind : Nat → Int32) (b_needSeen : Nat → Int32) (b_sign : Nat → Int32)  (out : (Nat → Int32) × (Nat → Int32) × (Nat → Int32) × (Nat → Int32)) (kx : Int32 → (Nat → Int32) → (Nat → Int32) → (Nat → Int32) → (Nat → Int32) → Option ((Nat → Int32) × (Nat → Int32) × (Nat → Int32) × (Nat → Int32))) (HX : ∀ (x2_18 : Int32) (a_due_18 : Nat → Int32) (a_rang_18 : Nat → Int32) (a_times_18 : Nat → Int32) (a_last_18 : Nat → Int32) (H : Heap) (locs : List Loc) (ls : Array Slot), va_P G.1 vwCl (flat [wX4 G a a_due_18 a_rang_18 a_times_18 a_last_18, wX3 G b b_villages b_woods b_needs b_signs b_temper b_friend b_rope b_hears b_shut b_woodBell b_woodVillage b_needVillage b_needWind b_needSeen b_sign]) H → va_D A (flat [wX4 G a a_due_18 a_rang_18 a_times_18 a_last_18, wX3 G b b_villages b_woods b_needs b_signs b_temper b_friend b_rope b_hears b_shut b_woodBell b_woodVillage b_needVillage b_needWind b_needSeen b_sign]) → va_S A s.heap H locs → lv_has ls 3 [(0, .ref (a 0)), (1, .ref (b 0)), (2, .int x2_18)] → kx x2_18 a_due_18 a_rang_18 a_times_18 a_last_18 = some out → W p l e rmX4_go s m args below meth c H locs 0 0 (MQ below (QV G A (flat [wX4 G a out.1 out.2.1 out.2.2.1 out.2.2.2, wX3 G b b_villages b_woods b_needs b_signs b_temper b_friend b_rope b_hears b_shut b_woodBell b_woodVillage b_needVillage b_needWind b_needSeen b_sign])) args s 0 0 A) (F0 m 61 ls [])) : ∀ (n : Nat) (x2_18 : Int32) (a_due_18 : Nat → Int32) (a_rang_18 : Nat → Int32) (a_times_18 : Nat → Int32) (a_last_18 : Nat → Int32) (H : Heap) (locs : List Loc) (ls : Array Slot), va_P G.1 vwCl (flat [wX4 G a a_due_18 a_rang_18 a_times_18 a_last_18, wX3 G b b_villages b_woods b_needs b_signs b_temper b_friend b_rope b_hears b_shut b_woodBell b_woodVillage b_needVillage b_needWind b_needSeen b_sign]) H → va_D A (flat [wX4 G a a_due_18 a_rang_18 a_times_18 a_last_18, wX3 G b b_villages b_woods b_needs b_signs b_temper b_friend b_rope b_hears b_shut b_woodBell b_woodVillage b_needVillage b_needWind b_needSeen b_sign]) → va_S A s.heap H locs → lv_has ls 3 [(0, .ref (a 0)), (1, .ref (b 0)), (2, .int x2_18)] → fX4_go_18 b_villages b_needs b_temper b_friend b_rope b_hears b_shut b_needVillage b_needWind b_needSeen kx n x2_18 a_due_18 a_rang_18 a_times_18 a_last_18 = some out → W p l e rmX4_go s m args below meth c H locs 0 0 (MQ below (QV G A (flat [wX4 G a out.1 out.2.1 out.2.2.1 out.2.2.2, wX3 G b b_villages b_woods b_needs b_signs b_temper b_friend b_rope b_hears b_shut b_woodBell b_woodVillage b_needVillage b_needWind b_needSeen b_sign])) args s 0 0 A) (F0 m 18 ls []) := by
  obtain ⟨⟨hx, hb, hml, hown, hts⟩, hr, hlocks, hK, hN, hE, hA⟩ := id C
  intro n
  induction n with
  | zero =>
    intro x2_18 a_due_18 a_rang_18 a_times_18 a_last_18 H locs ls hP hD hS hl hf
    exact absurd (show (none : Option ((Nat → Int32) × (Nat → Int32) × (Nat → Int32) × (Nat → Int32))) = some out from hf) (by intro q9; cases q9)
  | succ n ih =>
    intro x2_18 a_due_18 a_rang_18 a_times_18 a_last_18 H locs ls hP hD hS hl hf
    rw [fX4_go_18] at hf
    refine lv_iload_n hx hb dX4_go_18 rfl (lv_at hl 2 rfl) ?_
    refine lv_aload_n hx hb dX4_go_19 rfl (lv_at hl 1 rfl) ?_
    refine va_get (D := G.1) (ci := 3) (v := .int b_needs) (C := RX3) (T := TX3) (N := 15) hx hb hts iiX4_go_X3 hown hK hP 5 rfl rfl 2 (by decide) (hts _ mmX4_go_4) (fun _ h9 => h9) rfl dX4_go_20 ?_
    refine lv_icmp_ge (tgt := 61) hx hb dX4_go_23 (by decide) (fun c3 => ?_) (fun c3 => ?_)
    · have hf := (o_i hf).1 c3
      exact HX _ _ _ _ _ _ _ _ hP hD hS (lv_sub hl [0, 1, 2] rfl) hf
    have hf := (o_i hf).2 c3
    refine lv_aload_n hx hb dX4_go_26 rfl (lv_at hl 0 rfl) ?_
    refine va_get (D := G.1) (ci := 4) (v := .ref (a 1)) (C := RX4) (T := TX4) (N := 4) hx hb hts iiX4_go_X4 hown hK hP 0 rfl rfl 0 (by decide) (hts _ mmX4_go_5) (fun _ h9 => h9) rfl dX4_go_27 ?_
    refine lv_iload_n hx hb dX4_go_30 rfl (lv_at hl 2 rfl) ?_
    refine lv_aload_n hx hb dX4_go_31 rfl (lv_at hl 1 rfl) ?_
    refine lv_iload_n hx hb dX4_go_32 rfl (lv_at hl 2 rfl) ?_
    obtain ⟨g4, hg4, hf⟩ := o_b hf
    refine bVi C hP hD hS (tX3_dueFor l G b b_villages b_woods b_needs b_signs b_temper b_friend b_rope b_hears b_shut b_woodBell b_woodVillage b_needVillage b_needWind b_needSeen b_sign x2_18 g4 hg4) gX4_go_X3_dueFor rfl ⟨rfl, rfl⟩ hdX3_dueFor ⟨Nat.le_of_ble_eq_true rfl, Nat.le_of_ble_eq_true rfl⟩ rfl hl.1 rfl (Nat.le_of_ble_eq_true rfl) ⟨Nat.le_of_ble_eq_true rfl, Nat.le_of_ble_eq_true rfl⟩ [1] rfl rfl rfl (setB_same _ _ _ rfl) rfl (ci := 3) (q0 := 5) rfl rfl rfl dX4_go_33 (fun H locs hP hD hS => ?_)
    obtain ⟨u5, hu5, hf⟩ := o_b hf
    refine k_iast hx hb hK hP hD hS 1 0 rfl rfl hu5 dX4_go_36 (fun H locs hP hD hS => ?_)
    have hP : va_P G.1 vwCl (flat [wX4 G a u5 a_rang_18 a_times_18 a_last_18, wX3 G b b_villages b_woods b_needs b_signs b_temper b_friend b_rope b_hears b_shut b_woodBell b_woodVillage b_needVillage b_needWind b_needSeen b_sign]) H := hP
    have hD : va_D A (flat [wX4 G a u5 a_rang_18 a_times_18 a_last_18, wX3 G b b_villages b_woods b_needs b_signs b_temper b_friend b_rope b_hears b_shut b_woodBell b_woodVillage b_needVillage b_needWind b_needSeen b_sign]) := hD
    refine lv_aload_n hx hb dX4_go_37 rfl (lv_at hl 0 rfl) ?_
    refine va_get (D := G.1) (ci := 4) (v := .ref (a 2)) (C := RX4) (T := TX4) (N := 4) hx hb hts iiX4_go_X4 hown hK hP 0 rfl rfl 1 (by decide) (hts _ mmX4_go_6) (fun _ h9 => h9) rfl dX4_go_38 ?_
    refine at_pc (pc' := 41) rfl ?_
    refine lv_iload_n hx hb dX4_go_41 rfl (lv_at hl 2 rfl) ?_
    refine lv_aload_n hx hb dX4_go_42 rfl (lv_at hl 0 rfl) ?_
    refine lv_aload_n hx hb dX4_go_43 rfl (lv_at hl 1 rfl) ?_
    refine lv_iload_n hx hb dX4_go_44 rfl (lv_at hl 2 rfl) ?_
    obtain ⟨g6, hg6, hf⟩ := o_b hf
    refine bVi C hP hD hS (tX4_whoRings l G a b u5 a_rang_18 a_times_18 a_last_18 b_villages b_woods b_needs b_signs b_temper b_friend b_rope b_hears b_shut b_woodBell b_woodVillage b_needVillage b_needWind b_needSeen b_sign x2_18 g6 hg6) gX4_go_X4_whoRings rfl ⟨rfl, rfl⟩ hdX4_whoRings ⟨Nat.le_of_ble_eq_true rfl, Nat.le_of_ble_eq_true rfl⟩ rfl hl.1 rfl (Nat.le_of_ble_eq_true rfl) ⟨Nat.le_of_ble_eq_true rfl, Nat.le_of_ble_eq_true rfl⟩ [0, 1] rfl rfl rfl (setB_same _ _ _ rfl) rfl (ci := 4) (q0 := 0) rfl rfl rfl dX4_go_45 (fun H locs hP hD hS => ?_)
    obtain ⟨u7, hu7, hf⟩ := o_b hf
    refine k_iast hx hb hK hP hD hS 2 0 rfl rfl hu7 dX4_go_48 (fun H locs hP hD hS => ?_)
    have hP : va_P G.1 vwCl (flat [wX4 G a u5 u7 a_times_18 a_last_18, wX3 G b b_villages b_woods b_needs b_signs b_temper b_friend b_rope b_hears b_shut b_woodBell b_woodVillage b_needVillage b_needWind b_needSeen b_sign]) H := hP
    have hD : va_D A (flat [wX4 G a u5 u7 a_times_18 a_last_18, wX3 G b b_villages b_woods b_needs b_signs b_temper b_friend b_rope b_hears b_shut b_woodBell b_woodVillage b_needVillage b_needWind b_needSeen b_sign]) := hD
    refine lv_aload_n hx hb dX4_go_49 rfl (lv_at hl 0 rfl) ?_
    refine lv_aload_n hx hb dX4_go_50 rfl (lv_at hl 1 rfl) ?_
    refine lv_iload_n hx hb dX4_go_51 rfl (lv_at hl 2 rfl) ?_
    obtain ⟨g8, hg8, hf⟩ := o_b hf
    refine bVv (Bs' := [wX4 G a u5 u7 g8.1 g8.2, wX3 G b b_villages b_woods b_needs b_signs b_temper b_friend b_rope b_hears b_shut b_woodBell b_woodVillage b_needVillage b_needWind b_needSeen b_sign]) C hP hD hS (tX4_remember l G a b u5 u7 a_times_18 a_last_18 b_villages b_woods b_needs b_signs b_temper b_friend b_rope b_hears b_shut b_woodBell b_woodVillage b_needVillage b_needWind b_needSeen b_sign x2_18 g8 hg8) gX4_go_X4_remember rfl ⟨rfl, rfl⟩ hdX4_remember ⟨Nat.le_of_ble_eq_true rfl, Nat.le_of_ble_eq_true rfl⟩ rfl hl.1 rfl (Nat.le_of_ble_eq_true rfl) ⟨Nat.le_of_ble_eq_true rfl, Nat.le_of_ble_eq_true rfl⟩ [0, 1] rfl rfl rfl rfl rfl (ci := 4) (q0 := 0) rfl rfl rfl dX4_go_52 (fun H locs hP hD hS => ?_)
    have hP : va_P G.1 vwCl (flat [wX4 G a u5 u7 g8.1 g8.2, wX3 G b b_villages b_woods b_needs b_signs b_temper b_friend b_rope b_hears b_shut b_woodBell b_woodVillage b_needVillage b_needWind b_needSeen b_sign]) H := hP
    have hD : va_D A (flat [wX4 G a u5 u7 g8.1 g8.2, wX3 G b b_villages b_woods b_needs b_signs b_temper b_friend b_rope b_hears b_shut b_woodBell b_woodVillage b_needVillage b_needWind b_needSeen b_sign]) := hD
    refine at_pc (pc' := 55) rfl ?_
    refine lv_iinc (v := x2_18 + 1) (lv' := [(2, .int (x2_18 + 1)), (0, .ref (a 0)), (1, .ref (b 0))]) hx hb dX4_go_55 hl (k := 2) rfl (congrArg (fun z => x2_18 + z) (by decide)) (by decide) rfl (fun ls hl => ?_)
    refine lv_goto (tgt := 18) hx hb dX4_go_58 (by decide) ?_
    exact ih _ _ _ _ _ _ _ _ hP hD hS (lv_sub hl [1, 2, 0] rfl) hf
set_option maxHeartbeats 4000000 in
set_option maxRecDepth 100000 in
theorem tX4_go (l : Launch) (G : GG) (a : Nat → Nat) (b : Nat → Nat) (a_due : Nat → Int32) (a_rang : Nat → Int32) (a_times : Nat → Int32) (a_last : Nat → Int32) (b_villages : Int32) (b_woods : Int32) (b_needs : Int32) (b_signs : Int32) (b_temper : Nat → Int32) (b_friend : Nat → Int32) (b_rope : Nat → Int32) (b_hears : Nat → Int32) (b_shut : Nat → Int32) (b_woodBell : Nat → Int32) (b_woodVillage : Nat → Int32) (b_needVillage : Nat → Int32) (b_needWind : Nat → Int32) (b_needSeen : Nat → Int32) (b_sign : Nat → Int32) (out : (Nat → Int32) × (Nat → Int32) × (Nat → Int32) × (Nat → Int32)) (hf : fX4_go a_due a_rang a_times a_last b_villages b_needs b_temper b_friend b_rope b_hears b_shut b_needVillage b_needWind b_needSeen = some out) : cMv l G yX4_go wsX4_go rmX4_go [.ref (a 0), .ref (b 0)] (flat [wX4 G a a_due a_rang a_times a_last, wX3 G b b_villages b_woods b_needs b_signs b_temper b_friend b_rope b_hears b_shut b_woodBell b_woodVillage b_needVillage b_needWind b_needSeen b_sign]) (flat [wX4 G a out.1 out.2.1 out.2.2.1 out.2.2.2, wX3 G b b_villages b_woods b_needs b_signs b_temper b_friend b_rope b_hears b_shut b_woodBell b_woodVillage b_needVillage b_needWind b_needSeen b_sign]) := by
  intro sz
  refine met_of (cc := cX4_go) (nL := 3) (ret := none) (Qc := fun A9 => QV G A9 (flat [wX4 G a out.1 out.2.1 out.2.2.1 out.2.2.2, wX3 G b b_villages b_woods b_needs b_signs b_temper b_friend b_rope b_hears b_shut b_woodBell b_woodVillage b_needVillage b_needWind b_needSeen b_sign])) (by decide) rfl (Nat.le_of_ble_eq_true rfl) ?_
  intro p e s m args below meth c A ls C hP hD hS hl
  obtain ⟨⟨hx, hb, hml, hown, hts⟩, hr, hlocks, hK, hN, hE, hA⟩ := id C
  have hl : lv_has ls 3 [(0, .ref (a 0)), (1, .ref (b 0))] := hl
  unfold fX4_go at hf
  refine lv_aload_n hx hb dX4_go_0 rfl (lv_at hl 0 rfl) ?_
  refine va_get (D := G.1) (ci := 4) (v := .ref (a 3)) (C := RX4) (T := TX4) (N := 4) hx hb hts iiX4_go_X4 hown hK hP 0 rfl rfl 2 (by decide) (hts _ mmX4_go_1) (fun _ h9 => h9) rfl dX4_go_1 ?_
  refine lv_iconst (v := 0) hx hb dX4_go_4 (by decide) ?_
  obtain ⟨g1, hg1, hf⟩ := o_b hf
  refine kSv (ws' := flat [wX4 G a a_due a_rang g1 a_last, wX3 G b b_villages b_woods b_needs b_signs b_temper b_friend b_rope b_hears b_shut b_woodBell b_woodVillage b_needVillage b_needWind b_needSeen b_sign]) C hP hD hS (tJ7_fill_53178 l G (a 3) 36 a_times 0 g1 hg1) gX4_go_J7_fill_53178 rfl ⟨rfl, rfl⟩ hdJ7_fill_53178 ⟨Nat.le_of_ble_eq_true rfl, Nat.le_of_ble_eq_true rfl⟩ rfl hl.1 rfl (Nat.le_of_ble_eq_true rfl) ⟨Nat.le_of_ble_eq_true rfl, Nat.le_of_ble_eq_true rfl⟩ [3] rfl rfl rfl rfl dX4_go_5 (fun H locs hP hD hS => ?_)
  have hP : va_P G.1 vwCl (flat [wX4 G a a_due a_rang g1 a_last, wX3 G b b_villages b_woods b_needs b_signs b_temper b_friend b_rope b_hears b_shut b_woodBell b_woodVillage b_needVillage b_needWind b_needSeen b_sign]) H := hP
  have hD : va_D A (flat [wX4 G a a_due a_rang g1 a_last, wX3 G b b_villages b_woods b_needs b_signs b_temper b_friend b_rope b_hears b_shut b_woodBell b_woodVillage b_needVillage b_needWind b_needSeen b_sign]) := hD
  refine lv_aload_n hx hb dX4_go_8 rfl (lv_at hl 0 rfl) ?_
  refine va_get (D := G.1) (ci := 4) (v := .ref (a 4)) (C := RX4) (T := TX4) (N := 4) hx hb hts iiX4_go_X4 hown hK hP 0 rfl rfl 3 (by decide) (hts _ mmX4_go_2) (fun _ h9 => h9) rfl dX4_go_9 ?_
  refine lv_iconst (v := (-1)) hx hb dX4_go_12 (by decide) ?_
  obtain ⟨g2, hg2, hf⟩ := o_b hf
  refine kSv (ws' := flat [wX4 G a a_due a_rang g1 g2, wX3 G b b_villages b_woods b_needs b_signs b_temper b_friend b_rope b_hears b_shut b_woodBell b_woodVillage b_needVillage b_needWind b_needSeen b_sign]) C hP hD hS (tJ7_fill_53178 l G (a 4) 36 a_last ((-1)) g2 hg2) gX4_go_J7_fill_53178 rfl ⟨rfl, rfl⟩ hdJ7_fill_53178 ⟨Nat.le_of_ble_eq_true rfl, Nat.le_of_ble_eq_true rfl⟩ rfl hl.1 rfl (Nat.le_of_ble_eq_true rfl) ⟨Nat.le_of_ble_eq_true rfl, Nat.le_of_ble_eq_true rfl⟩ [4] rfl rfl rfl rfl dX4_go_13 (fun H locs hP hD hS => ?_)
  have hP : va_P G.1 vwCl (flat [wX4 G a a_due a_rang g1 g2, wX3 G b b_villages b_woods b_needs b_signs b_temper b_friend b_rope b_hears b_shut b_woodBell b_woodVillage b_needVillage b_needWind b_needSeen b_sign]) H := hP
  have hD : va_D A (flat [wX4 G a a_due a_rang g1 g2, wX3 G b b_villages b_woods b_needs b_signs b_temper b_friend b_rope b_hears b_shut b_woodBell b_woodVillage b_needVillage b_needWind b_needSeen b_sign]) := hD
  refine lv_iconst (v := 0) hx hb dX4_go_16 (by decide) ?_
  refine at_pc (pc' := 17) rfl ?_
  refine lv_istore_n (lv' := [(2, .int 0), (0, .ref (a 0)), (1, .ref (b 0))]) hx hb dX4_go_17 rfl hl (by decide) rfl (fun ls hl => ?_)
  refine lX4_go_18 l G C a b a_due a_rang a_times a_last b_villages b_woods b_needs b_signs b_temper b_friend b_rope b_hears b_shut b_woodBell b_woodVillage b_needVillage b_needWind b_needSeen b_sign out _ (fun x2_18_9 a_due_18_10 a_rang_18_11 a_times_18_12 a_last_18_13 H locs ls hP hD hS hl hf => ?_) fu 0 a_due a_rang g1 g2 _ _ _ hP hD hS (lv_sub hl [1, 2, 0] rfl) hf
  have e9 := Option.some.inj hf
  subst e9
  exact rt_v C hP hS dX4_go_61

/-! RX4 needsHelped(LBlindBells$Valley;I)I -/
theorem iiX4_needsHelped_X3 : ∀ w ∈ wsX30, w ∈ wsX4_needsHelped := by decide +kernel
theorem mmX4_needsHelped_1 : (Cond.fieldLink RX4 30 "BlindBells$Valley" "needs" "I") ∈ wsX4_needsHelped := by decide +kernel
theorem mmX4_needsHelped_2 : (Cond.fieldLink RX4 48 "BlindBells$Valley" "needVillage" "[I") ∈ wsX4_needsHelped := by decide +kernel
theorem iiX4_needsHelped_X4 : ∀ w ∈ wsX40, w ∈ wsX4_needsHelped := by decide +kernel
theorem mmX4_needsHelped_4 : (Cond.fieldLink RX4 15 "BlindBells$ValleyRun" "rang" "[I") ∈ wsX4_needsHelped := by decide +kernel
theorem hdX4_needsHelped : yX4_needsHelped.cls = RX4 ∧ yX4_needsHelped.cls ≠ "java/lang/invoke/MethodHandle" ∧ yX4_needsHelped.cls ≠ "java/lang/invoke/VarHandle" ∧ (parseMethodDescriptor yX4_needsHelped.desc).map (fun d => d.parameters.length) = some 2 := by decide +kernel
abbrev rmX4_needsHelped : Room := { frames := 0, cells := 0, slots := 0, locals := 0 }
set_option maxHeartbeats 4000000 in
set_option maxRecDepth 100000 in
theorem lX4_needsHelped_5 {p : Program} {e : Env} {s : State} {m : MethodId} {args : Array Value} {below : List Frame} {meth : Method} {c : Code} {A : Nat → Prop} (l : Launch) (G : GG) (C : Cx p m c cX4_needsHelped 6 s args wsX4_needsHelped RX4 meth (some .int) G A) (a : Nat → Nat) (b : Nat → Nat) (a_due : Nat → Int32) (a_rang : Nat → Int32) (a_times : Nat → Int32) (a_last : Nat → Int32) (b_villages : Int32) (b_woods : Int32) (b_needs : Int32) (b_signs : Int32) (b_temper : Nat → Int32) (b_friend : Nat → Int32) (b_rope : Nat → Int32) (b_hears : Nat → Int32) (b_shut : Nat → Int32) (b_woodBell : Nat → Int32) (b_woodVillage : Nat → Int32) (b_needVillage : Nat → Int32) (b_needWind : Nat → Int32) (b_needSeen : Nat → Int32) (b_sign : Nat → Int32) (p1 : Int32) (out : Int32) (kx : Int32 → Int32 → Option (Int32)) (HX : ∀ (x3_5 : Int32) (x4_5 : Int32) (H : Heap) (locs : List Loc) (ls : Array Slot), va_P G.1 vwCl (flat [wX4 G a a_due a_rang a_times a_last, wX3 G b b_villages b_woods b_needs b_signs b_temper b_friend b_rope b_hears b_shut b_woodBell b_woodVillage b_needVillage b_needWind b_needSeen b_sign]) H → va_D A (flat [wX4 G a a_due a_rang a_times a_last, wX3 G b b_villages b_woods b_needs b_signs b_temper b_friend b_rope b_hears b_shut b_woodBell b_woodVillage b_needVillage b_needWind b_needSeen b_sign]) → va_S A s.heap H locs → lv_has ls 6 [(0, .ref (a 0)), (1, .ref (b 0)), (2, .int p1), (3, .int x3_5), (4, .int x4_5)] → kx x3_5 x4_5 = some out → W p l e rmX4_needsHelped s m args below meth c H locs 0 0 (MQ below (QI G A out (flat [wX4 G a a_due a_rang a_times a_last, wX3 G b b_villages b_woods b_needs b_signs b_temper b_friend b_rope b_hears b_shut b_woodBell b_woodVillage b_needVillage b_needWind b_needSeen b_sign])) args s 0 0 A) (F0 m 61 ls [])) : ∀ (n : Nat) (x3_5 : Int32) (x4_5 : Int32) (H : Heap) (locs : List Loc) (ls : Array Slot), va_P G.1 vwCl (flat [wX4 G a a_due a_rang a_times a_last, wX3 G b b_villages b_woods b_needs b_signs b_temper b_friend b_rope b_hears b_shut b_woodBell b_woodVillage b_needVillage b_needWind b_needSeen b_sign]) H → va_D A (flat [wX4 G a a_due a_rang a_times a_last, wX3 G b b_villages b_woods b_needs b_signs b_temper b_friend b_rope b_hears b_shut b_woodBell b_woodVillage b_needVillage b_needWind b_needSeen b_sign]) → va_S A s.heap H locs → lv_has ls 6 [(0, .ref (a 0)), (1, .ref (b 0)), (2, .int p1), (3, .int x3_5), (4, .int x4_5)] → fX4_needsHelped_5 p1 a_rang b_needs b_needVillage kx n x3_5 x4_5 = some out → W p l e rmX4_needsHelped s m args below meth c H locs 0 0 (MQ below (QI G A out (flat [wX4 G a a_due a_rang a_times a_last, wX3 G b b_villages b_woods b_needs b_signs b_temper b_friend b_rope b_hears b_shut b_woodBell b_woodVillage b_needVillage b_needWind b_needSeen b_sign])) args s 0 0 A) (F0 m 5 ls []) := by
  obtain ⟨⟨hx, hb, hml, hown, hts⟩, hr, hlocks, hK, hN, hE, hA⟩ := id C
  intro n
  induction n with
  | zero =>
    intro x3_5 x4_5 H locs ls hP hD hS hl hf
    exact absurd (show (none : Option (Int32)) = some out from hf) (by intro q9; cases q9)
  | succ n ih =>
    intro x3_5 x4_5 H locs ls hP hD hS hl hf
    rw [fX4_needsHelped_5] at hf
    refine lv_iload hx hb dX4_needsHelped_5 (lv_at hl 4 rfl) ?_
    refine lv_aload_n hx hb dX4_needsHelped_7 rfl (lv_at hl 1 rfl) ?_
    refine va_get (D := G.1) (ci := 3) (v := .int b_needs) (C := RX3) (T := TX3) (N := 15) hx hb hts iiX4_needsHelped_X3 hown hK hP 5 rfl rfl 2 (by decide) (hts _ mmX4_needsHelped_1) (fun _ h9 => h9) rfl dX4_needsHelped_8 ?_
    refine lv_icmp_ge (tgt := 61) hx hb dX4_needsHelped_11 (by decide) (fun c1 => ?_) (fun c1 => ?_)
    · have hf := (o_i hf).1 c1
      exact HX _ _ _ _ _ hP hD hS (lv_sub hl [0, 1, 2, 3, 4] rfl) hf
    have hf := (o_i hf).2 c1
    refine lv_iload_n hx hb dX4_needsHelped_14 rfl (lv_at hl 2 rfl) ?_
    refine lv_iconst (v := (-1)) hx hb dX4_needsHelped_15 (by decide) ?_
    obtain ⟨f3, hf3, hf⟩ := o_b hf
    have hJ : ∀ (H : Heap) (locs : List Loc) (ls : Array Slot), va_P G.1 vwCl (flat [wX4 G a a_due a_rang a_times a_last, wX3 G b b_villages b_woods b_needs b_signs b_temper b_friend b_rope b_hears b_shut b_woodBell b_woodVillage b_needVillage b_needWind b_needSeen b_sign]) H → va_D A (flat [wX4 G a a_due a_rang a_times a_last, wX3 G b b_villages b_woods b_needs b_signs b_temper b_friend b_rope b_hears b_shut b_woodBell b_woodVillage b_needVillage b_needWind b_needSeen b_sign]) → va_S A s.heap H locs → lv_has ls 6 [(0, .ref (a 0)), (1, .ref (b 0)), (2, .int p1), (3, .int x3_5), (4, .int x4_5)] → W p l e rmX4_needsHelped s m args below meth c H locs 0 0 (MQ below (QI G A out (flat [wX4 G a a_due a_rang a_times a_last, wX3 G b b_villages b_woods b_needs b_signs b_temper b_friend b_rope b_hears b_shut b_woodBell b_woodVillage b_needVillage b_needWind b_needSeen b_sign])) args s 0 0 A) (F0 m 35 ls [.int f3]) := by
      intro H locs ls hP hD hS hl
      refine lv_istore (lv' := [(5, .int f3), (0, .ref (a 0)), (1, .ref (b 0)), (2, .int p1), (3, .int x3_5), (4, .int x4_5)]) hx hb dX4_needsHelped_35 hl (by decide) rfl (fun ls hl => ?_)
      refine lv_iload hx hb dX4_needsHelped_37 (lv_at hl 0 rfl) ?_
      refine lv_if_eq (tgt := 55) hx hb dX4_needsHelped_39 (by decide) (fun c6 => ?_) (fun c6 => ?_)
      · have hf := (o_i hf).1 c6
        refine lv_iinc (v := x4_5 + 1) (lv' := [(4, .int (x4_5 + 1)), (5, .int f3), (0, .ref (a 0)), (1, .ref (b 0)), (2, .int p1), (3, .int x3_5)]) hx hb dX4_needsHelped_55 hl (k := 5) rfl (congrArg (fun z => x4_5 + z) (by decide)) (by decide) rfl (fun ls hl => ?_)
        refine lv_goto (tgt := 5) hx hb dX4_needsHelped_58 (by decide) ?_
        exact ih _ _ _ _ _ hP hD hS (lv_sub hl [2, 3, 4, 5, 0] rfl) hf
      have hf := (o_i hf).2 c6
      refine lv_aload_n hx hb dX4_needsHelped_42 rfl (lv_at hl 1 rfl) ?_
      refine va_get (D := G.1) (ci := 4) (v := .ref (a 2)) (C := RX4) (T := TX4) (N := 4) hx hb hts iiX4_needsHelped_X4 hown hK hP 0 rfl rfl 1 (by decide) (hts _ mmX4_needsHelped_4) (fun _ h9 => h9) rfl dX4_needsHelped_43 ?_
      refine lv_iload hx hb dX4_needsHelped_46 (lv_at hl 5 rfl) ?_
      obtain ⟨z7, hz7, hf⟩ := o_b hf
      refine k_iald hx hb hK hP 2 0 rfl rfl hz7 dX4_needsHelped_48 ?_
      refine lv_if_eq (tgt := 55) hx hb dX4_needsHelped_49 (by decide) (fun c8 => ?_) (fun c8 => ?_)
      · have hf := (o_i hf).1 c8
        refine lv_iinc (v := x4_5 + 1) (lv' := [(4, .int (x4_5 + 1)), (5, .int f3), (0, .ref (a 0)), (1, .ref (b 0)), (2, .int p1), (3, .int x3_5)]) hx hb dX4_needsHelped_55 hl (k := 5) rfl (congrArg (fun z => x4_5 + z) (by decide)) (by decide) rfl (fun ls hl => ?_)
        refine lv_goto (tgt := 5) hx hb dX4_needsHelped_58 (by decide) ?_
        exact ih _ _ _ _ _ hP hD hS (lv_sub hl [2, 3, 4, 5, 0] rfl) hf
      have hf := (o_i hf).2 c8
      refine lv_iinc (v := x3_5 + 1) (lv' := [(3, .int (x3_5 + 1)), (5, .int f3), (0, .ref (a 0)), (1, .ref (b 0)), (2, .int p1), (4, .int x4_5)]) hx hb dX4_needsHelped_52 hl (k := 4) rfl (congrArg (fun z => x3_5 + z) (by decide)) (by decide) rfl (fun ls hl => ?_)
      refine lv_iinc (v := x4_5 + 1) (lv' := [(4, .int (x4_5 + 1)), (3, .int (x3_5 + 1)), (5, .int f3), (0, .ref (a 0)), (1, .ref (b 0)), (2, .int p1)]) hx hb dX4_needsHelped_55 hl (k := 5) rfl (congrArg (fun z => x4_5 + z) (by decide)) (by decide) rfl (fun ls hl => ?_)
      refine lv_goto (tgt := 5) hx hb dX4_needsHelped_58 (by decide) ?_
      exact ih _ _ _ _ _ hP hD hS (lv_sub hl [3, 4, 5, 1, 0] rfl) hf
    clear hf
    have hf := hf3
    refine lv_icmp_eq (tgt := 30) hx hb dX4_needsHelped_16 (by decide) (fun c2 => ?_) (fun c2 => ?_)
    · have hf := (o_i hf).1 c2
      refine lv_iconst (v := 1) hx hb dX4_needsHelped_30 (by decide) ?_
      refine lv_goto (tgt := 35) hx hb dX4_needsHelped_31 (by decide) ?_
      have e9 := Option.some.inj hf
      subst e9
      exact hJ _ _ _ hP hD hS (lv_sub hl [0, 1, 2, 3, 4] rfl)
    have hf := (o_i hf).2 c2
    refine lv_aload_n hx hb dX4_needsHelped_19 rfl (lv_at hl 1 rfl) ?_
    refine va_get (D := G.1) (ci := 3) (v := .ref (b 8)) (C := RX3) (T := TX3) (N := 15) hx hb hts iiX4_needsHelped_X3 hown hK hP 5 rfl rfl 11 (by decide) (hts _ mmX4_needsHelped_2) (fun _ h9 => h9) rfl dX4_needsHelped_20 ?_
    refine lv_iload hx hb dX4_needsHelped_23 (lv_at hl 4 rfl) ?_
    obtain ⟨z4, hz4, hf⟩ := o_b hf
    refine k_iald hx hb hK hP 13 0 rfl rfl hz4 dX4_needsHelped_25 ?_
    refine lv_iload_n hx hb dX4_needsHelped_26 rfl (lv_at hl 2 rfl) ?_
    refine lv_icmp_ne (tgt := 34) hx hb dX4_needsHelped_27 (by decide) (fun c5 => ?_) (fun c5 => ?_)
    · have hf := (o_i hf).2 c5
      refine lv_iconst (v := 0) hx hb dX4_needsHelped_34 (by decide) ?_
      have e9 := Option.some.inj hf
      subst e9
      exact hJ _ _ _ hP hD hS (lv_sub hl [0, 1, 2, 3, 4] rfl)
    have hf := (o_i hf).1 c5
    refine lv_iconst (v := 1) hx hb dX4_needsHelped_30 (by decide) ?_
    refine lv_goto (tgt := 35) hx hb dX4_needsHelped_31 (by decide) ?_
    have e9 := Option.some.inj hf
    subst e9
    exact hJ _ _ _ hP hD hS (lv_sub hl [0, 1, 2, 3, 4] rfl)
set_option maxHeartbeats 4000000 in
set_option maxRecDepth 100000 in
theorem tX4_needsHelped (l : Launch) (G : GG) (a : Nat → Nat) (b : Nat → Nat) (a_due : Nat → Int32) (a_rang : Nat → Int32) (a_times : Nat → Int32) (a_last : Nat → Int32) (b_villages : Int32) (b_woods : Int32) (b_needs : Int32) (b_signs : Int32) (b_temper : Nat → Int32) (b_friend : Nat → Int32) (b_rope : Nat → Int32) (b_hears : Nat → Int32) (b_shut : Nat → Int32) (b_woodBell : Nat → Int32) (b_woodVillage : Nat → Int32) (b_needVillage : Nat → Int32) (b_needWind : Nat → Int32) (b_needSeen : Nat → Int32) (b_sign : Nat → Int32) (p1 : Int32) (out : Int32) (hf : fX4_needsHelped a_rang b_needs b_needVillage p1 = some out) : cMi l G yX4_needsHelped wsX4_needsHelped rmX4_needsHelped [.ref (a 0), .ref (b 0), .int p1] (flat [wX4 G a a_due a_rang a_times a_last, wX3 G b b_villages b_woods b_needs b_signs b_temper b_friend b_rope b_hears b_shut b_woodBell b_woodVillage b_needVillage b_needWind b_needSeen b_sign]) out (flat [wX4 G a a_due a_rang a_times a_last, wX3 G b b_villages b_woods b_needs b_signs b_temper b_friend b_rope b_hears b_shut b_woodBell b_woodVillage b_needVillage b_needWind b_needSeen b_sign]) := by
  intro sz
  refine met_of (cc := cX4_needsHelped) (nL := 6) (ret := (some .int)) (Qc := fun A9 => QI G A9 out (flat [wX4 G a a_due a_rang a_times a_last, wX3 G b b_villages b_woods b_needs b_signs b_temper b_friend b_rope b_hears b_shut b_woodBell b_woodVillage b_needVillage b_needWind b_needSeen b_sign])) (by decide) rfl (Nat.le_of_ble_eq_true rfl) ?_
  intro p e s m args below meth c A ls C hP hD hS hl
  obtain ⟨⟨hx, hb, hml, hown, hts⟩, hr, hlocks, hK, hN, hE, hA⟩ := id C
  have hl : lv_has ls 6 [(0, .ref (a 0)), (1, .ref (b 0)), (2, .int p1)] := hl
  unfold fX4_needsHelped at hf
  refine lv_iconst (v := 0) hx hb dX4_needsHelped_0 (by decide) ?_
  refine lv_istore_n (lv' := [(3, .int 0), (0, .ref (a 0)), (1, .ref (b 0)), (2, .int p1)]) hx hb dX4_needsHelped_1 rfl hl (by decide) rfl (fun ls hl => ?_)
  refine lv_iconst (v := 0) hx hb dX4_needsHelped_2 (by decide) ?_
  refine lv_istore (lv' := [(4, .int 0), (3, .int 0), (0, .ref (a 0)), (1, .ref (b 0)), (2, .int p1)]) hx hb dX4_needsHelped_3 hl (by decide) rfl (fun ls hl => ?_)
  refine lX4_needsHelped_5 l G C a b a_due a_rang a_times a_last b_villages b_woods b_needs b_signs b_temper b_friend b_rope b_hears b_shut b_woodBell b_woodVillage b_needVillage b_needWind b_needSeen b_sign p1 out _ (fun x3_5_9 x4_5_10 H locs ls hP hD hS hl hf => ?_) fu 0 0 _ _ _ hP hD hS (lv_sub hl [2, 3, 4, 1, 0] rfl) hf
  refine lv_iload_n hx hb dX4_needsHelped_61 rfl (lv_at hl 3 rfl) ?_
  have e9 := Option.some.inj hf
  subst e9
  exact rt_i C hP hS rfl dX4_needsHelped_62

/-! RX5 meetsOne(LBlindBells$Valley;II)Z -/
theorem iiX5_meetsOne_X3 : ∀ w ∈ wsX30, w ∈ wsX5_meetsOne := by decide +kernel
theorem mmX5_meetsOne_1 : (Cond.fieldLink RX5 54 "BlindBells$Valley" "needVillage" "[I") ∈ wsX5_meetsOne := by decide +kernel
theorem mmX5_meetsOne_2 : (Cond.fieldLink RX5 57 "BlindBells$Valley" "villages" "I") ∈ wsX5_meetsOne := by decide +kernel
theorem mmX5_meetsOne_3 : (Cond.fieldLink RX5 60 "BlindBells$Valley" "needSeen" "[I") ∈ wsX5_meetsOne := by decide +kernel
theorem mmX5_meetsOne_4 : (Cond.fieldLink RX5 63 "BlindBells$Valley" "rope" "[I") ∈ wsX5_meetsOne := by decide +kernel
theorem mmX5_meetsOne_5 : (Cond.static yX6_has) ∈ wsX5_meetsOne := by decide +kernel
theorem mmX5_meetsOne_6 : (Cond.initialized RX6) ∈ wsX5_meetsOne := by decide +kernel
theorem mmX5_meetsOne_7 : (Cond.fieldLink RX5 70 "BlindBells$Valley" "hears" "[I") ∈ wsX5_meetsOne := by decide +kernel
theorem mmX5_meetsOne_8 : (Cond.fieldLink RX5 73 "BlindBells$Valley" "needWind" "[I") ∈ wsX5_meetsOne := by decide +kernel
theorem iiX5_meetsOne_X5 : ∀ w ∈ wsX50, w ∈ wsX5_meetsOne := by decide +kernel
theorem mmX5_meetsOne_10 : (Cond.fieldLink RX5 9 "BlindBells$WoodSearch" "between" "[I") ∈ wsX5_meetsOne := by decide +kernel
theorem mmX5_meetsOne_11 : (Cond.static yX6_pair) ∈ wsX5_meetsOne := by decide +kernel
theorem hdX5_meetsOne : yX5_meetsOne.cls = RX5 ∧ yX5_meetsOne.cls ≠ "java/lang/invoke/MethodHandle" ∧ yX5_meetsOne.cls ≠ "java/lang/invoke/VarHandle" ∧ (parseMethodDescriptor yX5_meetsOne.desc).map (fun d => d.parameters.length) = some 3 := by decide +kernel
abbrev rmX5_meetsOne : Room := { frames := 1, cells := 0, slots := 0, locals := 21 }
set_option maxHeartbeats 4000000 in
set_option maxRecDepth 100000 in
theorem lX5_meetsOne_11 {p : Program} {e : Env} {s : State} {m : MethodId} {args : Array Value} {below : List Frame} {meth : Method} {c : Code} {A : Nat → Prop} (l : Launch) (G : GG) (C : Cx p m c cX5_meetsOne 8 s args wsX5_meetsOne RX5 meth (some .boolean) G A) (a : Nat → Nat) (b : Nat → Nat) (a_between : Nat → Int32) (b_villages : Int32) (b_woods : Int32) (b_needs : Int32) (b_signs : Int32) (b_temper : Nat → Int32) (b_friend : Nat → Int32) (b_rope : Nat → Int32) (b_hears : Nat → Int32) (b_shut : Nat → Int32) (b_woodBell : Nat → Int32) (b_woodVillage : Nat → Int32) (b_needVillage : Nat → Int32) (b_needWind : Nat → Int32) (b_needSeen : Nat → Int32) (b_sign : Nat → Int32) (p1 : Int32) (p2 : Int32) (z1 : Int32) (out : Int32) (kx : Int32 → Option (Int32)) (HX : ∀ (x5_11 : Int32) (H : Heap) (locs : List Loc) (ls : Array Slot), va_P G.1 vwCl (flat [wX5 G a a_between, wX3 G b b_villages b_woods b_needs b_signs b_temper b_friend b_rope b_hears b_shut b_woodBell b_woodVillage b_needVillage b_needWind b_needSeen b_sign]) H → va_D A (flat [wX5 G a a_between, wX3 G b b_villages b_woods b_needs b_signs b_temper b_friend b_rope b_hears b_shut b_woodBell b_woodVillage b_needVillage b_needWind b_needSeen b_sign]) → va_S A s.heap H locs → lv_has ls 8 [(0, .ref (a 0)), (1, .ref (b 0)), (2, .int p1), (3, .int p2), (4, .int z1), (5, .int x5_11)] → kx x5_11 = some out → W p l e rmX5_meetsOne s m args below meth c H locs 0 0 (MQ below (QI G A out (flat [wX5 G a a_between, wX3 G b b_villages b_woods b_needs b_signs b_temper b_friend b_rope b_hears b_shut b_woodBell b_woodVillage b_needVillage b_needWind b_needSeen b_sign])) args s 0 0 A) (F0 m 98 ls [])) : ∀ (n : Nat) (x5_11 : Int32) (H : Heap) (locs : List Loc) (ls : Array Slot), va_P G.1 vwCl (flat [wX5 G a a_between, wX3 G b b_villages b_woods b_needs b_signs b_temper b_friend b_rope b_hears b_shut b_woodBell b_woodVillage b_needVillage b_needWind b_needSeen b_sign]) H → va_D A (flat [wX5 G a a_between, wX3 G b b_villages b_woods b_needs b_signs b_temper b_friend b_rope b_hears b_shut b_woodBell b_woodVillage b_needVillage b_needWind b_needSeen b_sign]) → va_S A s.heap H locs → lv_has ls 8 [(0, .ref (a 0)), (1, .ref (b 0)), (2, .int p1), (3, .int p2), (4, .int z1), (5, .int x5_11)] → fX5_meetsOne_11 p1 p2 a_between b_villages b_rope b_hears b_needWind b_needSeen z1 kx n x5_11 = some out → W p l e rmX5_meetsOne s m args below meth c H locs 0 0 (MQ below (QI G A out (flat [wX5 G a a_between, wX3 G b b_villages b_woods b_needs b_signs b_temper b_friend b_rope b_hears b_shut b_woodBell b_woodVillage b_needVillage b_needWind b_needSeen b_sign])) args s 0 0 A) (F0 m 11 ls []) := by
  obtain ⟨⟨hx, hb, hml, hown, hts⟩, hr, hlocks, hK, hN, hE, hA⟩ := id C
  intro n
  induction n with
  | zero =>
    intro x5_11 H locs ls hP hD hS hl hf
    exact absurd (show (none : Option (Int32)) = some out from hf) (by intro q9; cases q9)
  | succ n ih =>
    intro x5_11 H locs ls hP hD hS hl hf
    rw [fX5_meetsOne_11] at hf
    refine lv_iload hx hb dX5_meetsOne_11 (lv_at hl 5 rfl) ?_
    refine lv_aload_n hx hb dX5_meetsOne_13 rfl (lv_at hl 1 rfl) ?_
    refine va_get (D := G.1) (ci := 3) (v := .int b_villages) (C := RX3) (T := TX3) (N := 15) hx hb hts iiX5_meetsOne_X3 hown hK hP 2 rfl rfl 0 (by decide) (hts _ mmX5_meetsOne_2) (fun _ h9 => h9) rfl dX5_meetsOne_14 ?_
    refine lv_icmp_ge (tgt := 98) hx hb dX5_meetsOne_17 (by decide) (fun c2 => ?_) (fun c2 => ?_)
    · have hf := (o_i hf).1 c2
      exact HX _ _ _ _ hP hD hS (lv_sub hl [0, 1, 2, 3, 4, 5] rfl) hf
    have hf := (o_i hf).2 c2
    refine lv_aload_n hx hb dX5_meetsOne_20 rfl (lv_at hl 1 rfl) ?_
    refine va_get (D := G.1) (ci := 3) (v := .ref (b 10)) (C := RX3) (T := TX3) (N := 15) hx hb hts iiX5_meetsOne_X3 hown hK hP 2 rfl rfl 13 (by decide) (hts _ mmX5_meetsOne_3) (fun _ h9 => h9) rfl dX5_meetsOne_21 ?_
    refine lv_iload_n hx hb dX5_meetsOne_24 rfl (lv_at hl 2 rfl) ?_
    obtain ⟨z3, hz3, hf⟩ := o_b hf
    refine k_iald hx hb hK hP 12 0 rfl rfl hz3 dX5_meetsOne_25 ?_
    refine lv_aload_n hx hb dX5_meetsOne_26 rfl (lv_at hl 1 rfl) ?_
    refine va_get (D := G.1) (ci := 3) (v := .ref (b 3)) (C := RX3) (T := TX3) (N := 15) hx hb hts iiX5_meetsOne_X3 hown hK hP 2 rfl rfl 6 (by decide) (hts _ mmX5_meetsOne_4) (fun _ h9 => h9) rfl dX5_meetsOne_27 ?_
    refine lv_iload hx hb dX5_meetsOne_30 (lv_at hl 5 rfl) ?_
    obtain ⟨z4, hz4, hf⟩ := o_b hf
    refine k_iald hx hb hK hP 5 0 rfl rfl hz4 dX5_meetsOne_32 ?_
    obtain ⟨g5, hg5, hf⟩ := o_b hf
    refine bNi C hP hD hS (tX6_has l G z3 z4 g5 hg5) gX5_meetsOne_X6_has_n66 (nw13 hN) (hts _ mmX5_meetsOne_5) (hts _ mmX5_meetsOne_6) rfl ⟨rfl, rfl⟩ hdX6_has ⟨Nat.le_of_ble_eq_true rfl, Nat.le_of_ble_eq_true rfl⟩ rfl hl.1 rfl (Nat.le_of_ble_eq_true rfl) ⟨Nat.le_of_ble_eq_true rfl, Nat.le_of_ble_eq_true rfl⟩ [] rfl rfl rfl (setB_same _ _ _ rfl) rfl dX5_meetsOne_33 (fun H locs hP hD hS => ?_)
    refine at_pc (pc' := 36) rfl ?_
    refine lv_istore (lv' := [(6, .int g5), (0, .ref (a 0)), (1, .ref (b 0)), (2, .int p1), (3, .int p2), (4, .int z1), (5, .int x5_11)]) hx hb dX5_meetsOne_36 hl (by decide) rfl (fun ls hl => ?_)
    refine lv_aload_n hx hb dX5_meetsOne_38 rfl (lv_at hl 2 rfl) ?_
    refine va_get (D := G.1) (ci := 3) (v := .ref (b 4)) (C := RX3) (T := TX3) (N := 15) hx hb hts iiX5_meetsOne_X3 hown hK hP 2 rfl rfl 7 (by decide) (hts _ mmX5_meetsOne_7) (fun _ h9 => h9) rfl dX5_meetsOne_39 ?_
    refine lv_iload hx hb dX5_meetsOne_42 (lv_at hl 6 rfl) ?_
    refine lv_iconst (v := 4) hx hb dX5_meetsOne_44 (by decide) ?_
    refine lv_imul hx hb dX5_meetsOne_45 ?_
    refine lv_aload_n hx hb dX5_meetsOne_46 rfl (lv_at hl 2 rfl) ?_
    refine va_get (D := G.1) (ci := 3) (v := .ref (b 9)) (C := RX3) (T := TX3) (N := 15) hx hb hts iiX5_meetsOne_X3 hown hK hP 2 rfl rfl 12 (by decide) (hts _ mmX5_meetsOne_8) (fun _ h9 => h9) rfl dX5_meetsOne_47 ?_
    refine lv_iload_n hx hb dX5_meetsOne_50 rfl (lv_at hl 3 rfl) ?_
    obtain ⟨z6, hz6, hf⟩ := o_b hf
    refine k_iald hx hb hK hP 11 0 rfl rfl hz6 dX5_meetsOne_51 ?_
    refine at_pc (pc' := 52) rfl ?_
    refine lv_iadd hx hb dX5_meetsOne_52 ?_
    obtain ⟨z7, hz7, hf⟩ := o_b hf
    refine k_iald hx hb hK hP 6 0 rfl rfl hz7 dX5_meetsOne_53 ?_
    refine lv_iload hx hb dX5_meetsOne_54 (lv_at hl 5 rfl) ?_
    obtain ⟨g8, hg8, hf⟩ := o_b hf
    refine bNi C hP hD hS (tX6_has l G z7 z1 g8 hg8) gX5_meetsOne_X6_has_n66 (nw13 hN) (hts _ mmX5_meetsOne_5) (hts _ mmX5_meetsOne_6) rfl ⟨rfl, rfl⟩ hdX6_has ⟨Nat.le_of_ble_eq_true rfl, Nat.le_of_ble_eq_true rfl⟩ rfl hl.1 rfl (Nat.le_of_ble_eq_true rfl) ⟨Nat.le_of_ble_eq_true rfl, Nat.le_of_ble_eq_true rfl⟩ [] rfl rfl rfl (setB_same _ _ _ rfl) rfl dX5_meetsOne_56 (fun H locs hP hD hS => ?_)
    refine lv_istore (lv' := [(7, .int g8), (6, .int g5), (0, .ref (a 0)), (1, .ref (b 0)), (2, .int p1), (3, .int p2), (4, .int z1), (5, .int x5_11)]) hx hb dX5_meetsOne_59 hl (by decide) rfl (fun ls hl => ?_)
    refine lv_iload hx hb dX5_meetsOne_61 (lv_at hl 1 rfl) ?_
    refine lv_if_eq (tgt := 92) hx hb dX5_meetsOne_63 (by decide) (fun c9 => ?_) (fun c9 => ?_)
    · have hf := (o_i hf).1 c9
      refine lv_iinc (v := x5_11 + 1) (lv' := [(5, .int (x5_11 + 1)), (7, .int g8), (6, .int g5), (0, .ref (a 0)), (1, .ref (b 0)), (2, .int p1), (3, .int p2), (4, .int z1)]) hx hb dX5_meetsOne_92 hl (k := 7) rfl (congrArg (fun z => x5_11 + z) (by decide)) (by decide) rfl (fun ls hl => ?_)
      refine lv_goto (tgt := 11) hx hb dX5_meetsOne_95 (by decide) ?_
      exact ih _ _ _ _ hP hD hS (lv_sub hl [3, 4, 5, 6, 7, 0] rfl) hf
    have hf := (o_i hf).2 c9
    refine lv_iload hx hb dX5_meetsOne_66 (lv_at hl 0 rfl) ?_
    refine lv_if_eq (tgt := 92) hx hb dX5_meetsOne_68 (by decide) (fun c10 => ?_) (fun c10 => ?_)
    · have hf := (o_i hf).1 c10
      refine lv_iinc (v := x5_11 + 1) (lv' := [(5, .int (x5_11 + 1)), (7, .int g8), (6, .int g5), (0, .ref (a 0)), (1, .ref (b 0)), (2, .int p1), (3, .int p2), (4, .int z1)]) hx hb dX5_meetsOne_92 hl (k := 7) rfl (congrArg (fun z => x5_11 + z) (by decide)) (by decide) rfl (fun ls hl => ?_)
      refine lv_goto (tgt := 11) hx hb dX5_meetsOne_95 (by decide) ?_
      exact ih _ _ _ _ hP hD hS (lv_sub hl [3, 4, 5, 6, 7, 0] rfl) hf
    have hf := (o_i hf).2 c10
    refine lv_aload_n hx hb dX5_meetsOne_71 rfl (lv_at hl 2 rfl) ?_
    refine va_get (D := G.1) (ci := 5) (v := .ref (a 1)) (C := RX5) (T := TX5) (N := 1) hx hb hts iiX5_meetsOne_X5 hown hK hP 0 rfl rfl 0 (by decide) (hts _ mmX5_meetsOne_10) (fun _ h9 => h9) rfl dX5_meetsOne_72 ?_
    refine lv_iload hx hb dX5_meetsOne_75 (lv_at hl 7 rfl) ?_
    refine lv_iload hx hb dX5_meetsOne_77 (lv_at hl 6 rfl) ?_
    obtain ⟨g11, hg11, hf⟩ := o_b hf
    refine bNi C hP hD hS (tX6_pair l G x5_11 z1 g11 hg11) gX5_meetsOne_X6_pair_n33 (nw12 hN) (hts _ mmX5_meetsOne_11) (hts _ mmX5_meetsOne_6) rfl ⟨rfl, rfl⟩ hdX6_pair ⟨Nat.le_of_ble_eq_true rfl, Nat.le_of_ble_eq_true rfl⟩ rfl hl.1 rfl (Nat.le_of_ble_eq_true rfl) ⟨Nat.le_of_ble_eq_true rfl, Nat.le_of_ble_eq_true rfl⟩ [] rfl rfl rfl (setB_same _ _ _ rfl) rfl dX5_meetsOne_79 (fun H locs hP hD hS => ?_)
    obtain ⟨z12, hz12, hf⟩ := o_b hf
    refine k_iald hx hb hK hP 1 0 rfl rfl hz12 dX5_meetsOne_82 ?_
    refine lv_iload_n hx hb dX5_meetsOne_83 rfl (lv_at hl 5 rfl) ?_
    refine lv_iconst (v := (-1)) hx hb dX5_meetsOne_84 (by decide) ?_
    refine lv_ixor hx hb dX5_meetsOne_85 ?_
    refine at_pc (pc' := 86) rfl ?_
    refine lv_iand hx hb dX5_meetsOne_86 ?_
    refine lv_if_ne (tgt := 92) hx hb dX5_meetsOne_87 (by decide) (fun c13 => ?_) (fun c13 => ?_)
    · have hf := (o_i hf).2 c13
      refine lv_iinc (v := x5_11 + 1) (lv' := [(5, .int (x5_11 + 1)), (7, .int g8), (6, .int g5), (0, .ref (a 0)), (1, .ref (b 0)), (2, .int p1), (3, .int p2), (4, .int z1)]) hx hb dX5_meetsOne_92 hl (k := 7) rfl (congrArg (fun z => x5_11 + z) (by decide)) (by decide) rfl (fun ls hl => ?_)
      refine lv_goto (tgt := 11) hx hb dX5_meetsOne_95 (by decide) ?_
      exact ih _ _ _ _ hP hD hS (lv_sub hl [3, 4, 5, 6, 7, 0] rfl) hf
    have hf := (o_i hf).1 c13
    refine lv_iconst (v := 1) hx hb dX5_meetsOne_90 (by decide) ?_
    have e9 := Option.some.inj hf
    subst e9
    exact rt_z C hP hS rfl rfl dX5_meetsOne_91
set_option maxHeartbeats 4000000 in
set_option maxRecDepth 100000 in
theorem tX5_meetsOne (l : Launch) (G : GG) (a : Nat → Nat) (b : Nat → Nat) (a_between : Nat → Int32) (b_villages : Int32) (b_woods : Int32) (b_needs : Int32) (b_signs : Int32) (b_temper : Nat → Int32) (b_friend : Nat → Int32) (b_rope : Nat → Int32) (b_hears : Nat → Int32) (b_shut : Nat → Int32) (b_woodBell : Nat → Int32) (b_woodVillage : Nat → Int32) (b_needVillage : Nat → Int32) (b_needWind : Nat → Int32) (b_needSeen : Nat → Int32) (b_sign : Nat → Int32) (p1 : Int32) (p2 : Int32) (out : Int32) (hf : fX5_meetsOne a_between b_villages b_rope b_hears b_needVillage b_needWind b_needSeen p1 p2 = some out) : cMi l G yX5_meetsOne wsX5_meetsOne rmX5_meetsOne [.ref (a 0), .ref (b 0), .int p1, .int p2] (flat [wX5 G a a_between, wX3 G b b_villages b_woods b_needs b_signs b_temper b_friend b_rope b_hears b_shut b_woodBell b_woodVillage b_needVillage b_needWind b_needSeen b_sign]) out (flat [wX5 G a a_between, wX3 G b b_villages b_woods b_needs b_signs b_temper b_friend b_rope b_hears b_shut b_woodBell b_woodVillage b_needVillage b_needWind b_needSeen b_sign]) := by
  intro sz
  refine met_of (cc := cX5_meetsOne) (nL := 8) (ret := (some .boolean)) (Qc := fun A9 => QI G A9 out (flat [wX5 G a a_between, wX3 G b b_villages b_woods b_needs b_signs b_temper b_friend b_rope b_hears b_shut b_woodBell b_woodVillage b_needVillage b_needWind b_needSeen b_sign])) (by decide) rfl (Nat.le_of_ble_eq_true rfl) ?_
  intro p e s m args below meth c A ls C hP hD hS hl
  obtain ⟨⟨hx, hb, hml, hown, hts⟩, hr, hlocks, hK, hN, hE, hA⟩ := id C
  have hl : lv_has ls 8 [(0, .ref (a 0)), (1, .ref (b 0)), (2, .int p1), (3, .int p2)] := hl
  unfold fX5_meetsOne at hf
  refine lv_aload_n hx hb dX5_meetsOne_0 rfl (lv_at hl 1 rfl) ?_
  refine va_get (D := G.1) (ci := 3) (v := .ref (b 8)) (C := RX3) (T := TX3) (N := 15) hx hb hts iiX5_meetsOne_X3 hown hK hP 2 rfl rfl 11 (by decide) (hts _ mmX5_meetsOne_1) (fun _ h9 => h9) rfl dX5_meetsOne_1 ?_
  refine lv_iload_n hx hb dX5_meetsOne_4 rfl (lv_at hl 2 rfl) ?_
  obtain ⟨z1, hz1, hf⟩ := o_b hf
  refine k_iald hx hb hK hP 10 0 rfl rfl hz1 dX5_meetsOne_5 ?_
  refine lv_istore (lv' := [(4, .int z1), (0, .ref (a 0)), (1, .ref (b 0)), (2, .int p1), (3, .int p2)]) hx hb dX5_meetsOne_6 hl (by decide) rfl (fun ls hl => ?_)
  refine lv_iconst (v := 0) hx hb dX5_meetsOne_8 (by decide) ?_
  refine lv_istore (lv' := [(5, .int 0), (4, .int z1), (0, .ref (a 0)), (1, .ref (b 0)), (2, .int p1), (3, .int p2)]) hx hb dX5_meetsOne_9 hl (by decide) rfl (fun ls hl => ?_)
  refine lX5_meetsOne_11 l G C a b a_between b_villages b_woods b_needs b_signs b_temper b_friend b_rope b_hears b_shut b_woodBell b_woodVillage b_needVillage b_needWind b_needSeen b_sign p1 p2 z1 out _ (fun x5_11_14 H locs ls hP hD hS hl hf => ?_) fu 0 _ _ _ hP hD hS (lv_sub hl [2, 3, 4, 5, 1, 0] rfl) hf
  refine lv_iconst (v := 0) hx hb dX5_meetsOne_98 (by decide) ?_
  have e9 := Option.some.inj hf
  subst e9
  exact rt_z C hP hS rfl rfl dX5_meetsOne_99

/-! RX5 meetsAll(LBlindBells$Valley;I)Z -/
theorem iiX5_meetsAll_X3 : ∀ w ∈ wsX30, w ∈ wsX5_meetsAll := by decide +kernel
theorem mmX5_meetsAll_1 : (Cond.fieldLink RX5 47 "BlindBells$Valley" "needs" "I") ∈ wsX5_meetsAll := by decide +kernel
theorem hdX5_meetsAll : yX5_meetsAll.cls = RX5 ∧ yX5_meetsAll.cls ≠ "java/lang/invoke/MethodHandle" ∧ yX5_meetsAll.cls ≠ "java/lang/invoke/VarHandle" ∧ (parseMethodDescriptor yX5_meetsAll.desc).map (fun d => d.parameters.length) = some 2 := by decide +kernel
abbrev rmX5_meetsAll : Room := { frames := 2, cells := 0, slots := 0, locals := 48 }
set_option maxHeartbeats 4000000 in
set_option maxRecDepth 100000 in
theorem lX5_meetsAll_2 {p : Program} {e : Env} {s : State} {m : MethodId} {args : Array Value} {below : List Frame} {meth : Method} {c : Code} {A : Nat → Prop} (l : Launch) (G : GG) (C : Cx p m c cX5_meetsAll 4 s args wsX5_meetsAll RX5 meth (some .boolean) G A) (a : Nat → Nat) (b : Nat → Nat) (a_between : Nat → Int32) (b_villages : Int32) (b_woods : Int32) (b_needs : Int32) (b_signs : Int32) (b_temper : Nat → Int32) (b_friend : Nat → Int32) (b_rope : Nat → Int32) (b_hears : Nat → Int32) (b_shut : Nat → Int32) (b_woodBell : Nat → Int32) (b_woodVillage : Nat → Int32) (b_needVillage : Nat → Int32) (b_needWind : Nat → Int32) (b_needSeen : Nat → Int32) (b_sign : Nat → Int32) (p1 : Int32) (out : Int32) (kx : Int32 → Option (Int32)) (HX : ∀ (x3_2 : Int32) (H : Heap) (locs : List Loc) (ls : Array Slot), va_P G.1 vwCl (flat [wX5 G a a_between, wX3 G b b_villages b_woods b_needs b_signs b_temper b_friend b_rope b_hears b_shut b_woodBell b_woodVillage b_needVillage b_needWind b_needSeen b_sign]) H → va_D A (flat [wX5 G a a_between, wX3 G b b_villages b_woods b_needs b_signs b_temper b_friend b_rope b_hears b_shut b_woodBell b_woodVillage b_needVillage b_needWind b_needSeen b_sign]) → va_S A s.heap H locs → lv_has ls 4 [(0, .ref (a 0)), (1, .ref (b 0)), (2, .int p1), (3, .int x3_2)] → kx x3_2 = some out → W p l e rmX5_meetsAll s m args below meth c H locs 0 0 (MQ below (QI G A out (flat [wX5 G a a_between, wX3 G b b_villages b_woods b_needs b_signs b_temper b_friend b_rope b_hears b_shut b_woodBell b_woodVillage b_needVillage b_needWind b_needSeen b_sign])) args s 0 0 A) (F0 m 28 ls [])) : ∀ (n : Nat) (x3_2 : Int32) (H : Heap) (locs : List Loc) (ls : Array Slot), va_P G.1 vwCl (flat [wX5 G a a_between, wX3 G b b_villages b_woods b_needs b_signs b_temper b_friend b_rope b_hears b_shut b_woodBell b_woodVillage b_needVillage b_needWind b_needSeen b_sign]) H → va_D A (flat [wX5 G a a_between, wX3 G b b_villages b_woods b_needs b_signs b_temper b_friend b_rope b_hears b_shut b_woodBell b_woodVillage b_needVillage b_needWind b_needSeen b_sign]) → va_S A s.heap H locs → lv_has ls 4 [(0, .ref (a 0)), (1, .ref (b 0)), (2, .int p1), (3, .int x3_2)] → fX5_meetsAll_2 p1 a_between b_villages b_needs b_rope b_hears b_needVillage b_needWind b_needSeen kx n x3_2 = some out → W p l e rmX5_meetsAll s m args below meth c H locs 0 0 (MQ below (QI G A out (flat [wX5 G a a_between, wX3 G b b_villages b_woods b_needs b_signs b_temper b_friend b_rope b_hears b_shut b_woodBell b_woodVillage b_needVillage b_needWind b_needSeen b_sign])) args s 0 0 A) (F0 m 2 ls []) := by
  obtain ⟨⟨hx, hb, hml, hown, hts⟩, hr, hlocks, hK, hN, hE, hA⟩ := id C
  intro n
  induction n with
  | zero =>
    intro x3_2 H locs ls hP hD hS hl hf
    exact absurd (show (none : Option (Int32)) = some out from hf) (by intro q9; cases q9)
  | succ n ih =>
    intro x3_2 H locs ls hP hD hS hl hf
    rw [fX5_meetsAll_2] at hf
    refine lv_iload_n hx hb dX5_meetsAll_2 rfl (lv_at hl 3 rfl) ?_
    refine lv_aload_n hx hb dX5_meetsAll_3 rfl (lv_at hl 1 rfl) ?_
    refine va_get (D := G.1) (ci := 3) (v := .int b_needs) (C := RX3) (T := TX3) (N := 15) hx hb hts iiX5_meetsAll_X3 hown hK hP 2 rfl rfl 2 (by decide) (hts _ mmX5_meetsAll_1) (fun _ h9 => h9) rfl dX5_meetsAll_4 ?_
    refine lv_icmp_ge (tgt := 28) hx hb dX5_meetsAll_7 (by decide) (fun c1 => ?_) (fun c1 => ?_)
    · have hf := (o_i hf).1 c1
      exact HX _ _ _ _ hP hD hS (lv_sub hl [0, 1, 2, 3] rfl) hf
    have hf := (o_i hf).2 c1
    refine lv_aload_n hx hb dX5_meetsAll_10 rfl (lv_at hl 0 rfl) ?_
    refine lv_aload_n hx hb dX5_meetsAll_11 rfl (lv_at hl 1 rfl) ?_
    refine lv_iload_n hx hb dX5_meetsAll_12 rfl (lv_at hl 3 rfl) ?_
    refine lv_iload_n hx hb dX5_meetsAll_13 rfl (lv_at hl 2 rfl) ?_
    obtain ⟨g2, hg2, hf⟩ := o_b hf
    refine bVi C hP hD hS (tX5_meetsOne l G a b a_between b_villages b_woods b_needs b_signs b_temper b_friend b_rope b_hears b_shut b_woodBell b_woodVillage b_needVillage b_needWind b_needSeen b_sign x3_2 p1 g2 hg2) gX5_meetsAll_X5_meetsOne rfl ⟨rfl, rfl⟩ hdX5_meetsOne ⟨Nat.le_of_ble_eq_true rfl, Nat.le_of_ble_eq_true rfl⟩ rfl hl.1 rfl (Nat.le_of_ble_eq_true rfl) ⟨Nat.le_of_ble_eq_true rfl, Nat.le_of_ble_eq_true rfl⟩ [0, 1] rfl rfl rfl (setB_same _ _ _ rfl) rfl (ci := 5) (q0 := 0) rfl rfl rfl dX5_meetsAll_14 (fun H locs hP hD hS => ?_)
    refine lv_if_ne (tgt := 22) hx hb dX5_meetsAll_17 (by decide) (fun c3 => ?_) (fun c3 => ?_)
    · have hf := (o_i hf).2 c3
      refine lv_iinc (v := x3_2 + 1) (lv' := [(3, .int (x3_2 + 1)), (0, .ref (a 0)), (1, .ref (b 0)), (2, .int p1)]) hx hb dX5_meetsAll_22 hl (k := 3) rfl (congrArg (fun z => x3_2 + z) (by decide)) (by decide) rfl (fun ls hl => ?_)
      refine lv_goto (tgt := 2) hx hb dX5_meetsAll_25 (by decide) ?_
      exact ih _ _ _ _ hP hD hS (lv_sub hl [1, 2, 3, 0] rfl) hf
    have hf := (o_i hf).1 c3
    refine lv_iconst (v := 0) hx hb dX5_meetsAll_20 (by decide) ?_
    have e9 := Option.some.inj hf
    subst e9
    exact rt_z C hP hS rfl rfl dX5_meetsAll_21
set_option maxHeartbeats 4000000 in
set_option maxRecDepth 100000 in
theorem tX5_meetsAll (l : Launch) (G : GG) (a : Nat → Nat) (b : Nat → Nat) (a_between : Nat → Int32) (b_villages : Int32) (b_woods : Int32) (b_needs : Int32) (b_signs : Int32) (b_temper : Nat → Int32) (b_friend : Nat → Int32) (b_rope : Nat → Int32) (b_hears : Nat → Int32) (b_shut : Nat → Int32) (b_woodBell : Nat → Int32) (b_woodVillage : Nat → Int32) (b_needVillage : Nat → Int32) (b_needWind : Nat → Int32) (b_needSeen : Nat → Int32) (b_sign : Nat → Int32) (p1 : Int32) (out : Int32) (hf : fX5_meetsAll a_between b_villages b_needs b_rope b_hears b_needVillage b_needWind b_needSeen p1 = some out) : cMi l G yX5_meetsAll wsX5_meetsAll rmX5_meetsAll [.ref (a 0), .ref (b 0), .int p1] (flat [wX5 G a a_between, wX3 G b b_villages b_woods b_needs b_signs b_temper b_friend b_rope b_hears b_shut b_woodBell b_woodVillage b_needVillage b_needWind b_needSeen b_sign]) out (flat [wX5 G a a_between, wX3 G b b_villages b_woods b_needs b_signs b_temper b_friend b_rope b_hears b_shut b_woodBell b_woodVillage b_needVillage b_needWind b_needSeen b_sign]) := by
  intro sz
  refine met_of (cc := cX5_meetsAll) (nL := 4) (ret := (some .boolean)) (Qc := fun A9 => QI G A9 out (flat [wX5 G a a_between, wX3 G b b_villages b_woods b_needs b_signs b_temper b_friend b_rope b_hears b_shut b_woodBell b_woodVillage b_needVillage b_needWind b_needSeen b_sign])) (by decide) rfl (Nat.le_of_ble_eq_true rfl) ?_
  intro p e s m args below meth c A ls C hP hD hS hl
  obtain ⟨⟨hx, hb, hml, hown, hts⟩, hr, hlocks, hK, hN, hE, hA⟩ := id C
  have hl : lv_has ls 4 [(0, .ref (a 0)), (1, .ref (b 0)), (2, .int p1)] := hl
  unfold fX5_meetsAll at hf
  refine lv_iconst (v := 0) hx hb dX5_meetsAll_0 (by decide) ?_
  refine lv_istore_n (lv' := [(3, .int 0), (0, .ref (a 0)), (1, .ref (b 0)), (2, .int p1)]) hx hb dX5_meetsAll_1 rfl hl (by decide) rfl (fun ls hl => ?_)
  refine lX5_meetsAll_2 l G C a b a_between b_villages b_woods b_needs b_signs b_temper b_friend b_rope b_hears b_shut b_woodBell b_woodVillage b_needVillage b_needWind b_needSeen b_sign p1 out _ (fun x3_2_4 H locs ls hP hD hS hl hf => ?_) fu 0 _ _ _ hP hD hS (lv_sub hl [1, 2, 3, 0] rfl) hf
  refine lv_iconst (v := 1) hx hb dX5_meetsAll_28 (by decide) ?_
  have e9 := Option.some.inj hf
  subst e9
  exact rt_z C hP hS rfl rfl dX5_meetsAll_29

/-! RX5 go(LBlindBells$Valley;)I -/
theorem iiX5_go_X5 : ∀ w ∈ wsX50, w ∈ wsX5_go := by decide +kernel
theorem mmX5_go_1 : (Cond.fieldLink RX5 9 "BlindBells$WoodSearch" "between" "[I") ∈ wsX5_go := by decide +kernel
theorem iiX5_go_X3 : ∀ w ∈ wsX30, w ∈ wsX5_go := by decide +kernel
theorem mmX5_go_3 : (Cond.fieldLink RX5 21 "BlindBells$Valley" "woods" "I") ∈ wsX5_go := by decide +kernel
theorem mmX5_go_4 : (Cond.fieldLink RX5 27 "BlindBells$Valley" "woodBell" "[I") ∈ wsX5_go := by decide +kernel
theorem mmX5_go_5 : (Cond.fieldLink RX5 30 "BlindBells$Valley" "woodVillage" "[I") ∈ wsX5_go := by decide +kernel
theorem mmX5_go_6 : (Cond.static yX6_pair) ∈ wsX5_go := by decide +kernel
theorem mmX5_go_7 : (Cond.initialized RX6) ∈ wsX5_go := by decide +kernel
theorem hdX5_go : yX5_go.cls = RX5 ∧ yX5_go.cls ≠ "java/lang/invoke/MethodHandle" ∧ yX5_go.cls ≠ "java/lang/invoke/VarHandle" ∧ (parseMethodDescriptor yX5_go.desc).map (fun d => d.parameters.length) = some 1 := by decide +kernel
abbrev rmX5_go : Room := { frames := 3, cells := 0, slots := 0, locals := 71 }
set_option maxHeartbeats 4000000 in
set_option maxRecDepth 100000 in
theorem lX5_go_10 {p : Program} {e : Env} {s : State} {m : MethodId} {args : Array Value} {below : List Frame} {meth : Method} {c : Code} {A : Nat → Prop} (l : Launch) (G : GG) (C : Cx p m c cX5_go 5 s args wsX5_go RX5 meth (some .int) G A) (a : Nat → Nat) (b : Nat → Nat) (a_between : Nat → Int32) (b_villages : Int32) (b_woods : Int32) (b_needs : Int32) (b_signs : Int32) (b_temper : Nat → Int32) (b_friend : Nat → Int32) (b_rope : Nat → Int32) (b_hears : Nat → Int32) (b_shut : Nat → Int32) (b_woodBell : Nat → Int32) (b_woodVillage : Nat → Int32) (b_needVillage : Nat → Int32) (b_needWind : Nat → Int32) (b_needSeen : Nat → Int32) (b_sign : Nat → Int32)  (out : Int32 × (Nat → Int32)) (kx : Int32 → (Nat → Int32) → Option (Int32 × (Nat → Int32))) (HX : ∀ (x2_10 : Int32) (a_between_10 : Nat → Int32) (H : Heap) (locs : List Loc) (ls : Array Slot), va_P G.1 vwCl (flat [wX5 G a a_between_10, wX3 G b b_villages b_woods b_needs b_signs b_temper b_friend b_rope b_hears b_shut b_woodBell b_woodVillage b_needVillage b_needWind b_needSeen b_sign]) H → va_D A (flat [wX5 G a a_between_10, wX3 G b b_villages b_woods b_needs b_signs b_temper b_friend b_rope b_hears b_shut b_woodBell b_woodVillage b_needVillage b_needWind b_needSeen b_sign]) → va_S A s.heap H locs → lv_has ls 5 [(0, .ref (a 0)), (1, .ref (b 0)), (2, .int x2_10)] → kx x2_10 a_between_10 = some out → W p l e rmX5_go s m args below meth c H locs 0 0 (MQ below (QI G A out.1 (flat [wX5 G a out.2, wX3 G b b_villages b_woods b_needs b_signs b_temper b_friend b_rope b_hears b_shut b_woodBell b_woodVillage b_needVillage b_needWind b_needSeen b_sign])) args s 0 0 A) (F0 m 50 ls [])) : ∀ (n : Nat) (x2_10 : Int32) (a_between_10 : Nat → Int32) (H : Heap) (locs : List Loc) (ls : Array Slot), va_P G.1 vwCl (flat [wX5 G a a_between_10, wX3 G b b_villages b_woods b_needs b_signs b_temper b_friend b_rope b_hears b_shut b_woodBell b_woodVillage b_needVillage b_needWind b_needSeen b_sign]) H → va_D A (flat [wX5 G a a_between_10, wX3 G b b_villages b_woods b_needs b_signs b_temper b_friend b_rope b_hears b_shut b_woodBell b_woodVillage b_needVillage b_needWind b_needSeen b_sign]) → va_S A s.heap H locs → lv_has ls 5 [(0, .ref (a 0)), (1, .ref (b 0)), (2, .int x2_10)] → fX5_go_10 b_woods b_woodBell b_woodVillage kx n x2_10 a_between_10 = some out → W p l e rmX5_go s m args below meth c H locs 0 0 (MQ below (QI G A out.1 (flat [wX5 G a out.2, wX3 G b b_villages b_woods b_needs b_signs b_temper b_friend b_rope b_hears b_shut b_woodBell b_woodVillage b_needVillage b_needWind b_needSeen b_sign])) args s 0 0 A) (F0 m 10 ls []) := by
  obtain ⟨⟨hx, hb, hml, hown, hts⟩, hr, hlocks, hK, hN, hE, hA⟩ := id C
  intro n
  induction n with
  | zero =>
    intro x2_10 a_between_10 H locs ls hP hD hS hl hf
    exact absurd (show (none : Option (Int32 × (Nat → Int32))) = some out from hf) (by intro q9; cases q9)
  | succ n ih =>
    intro x2_10 a_between_10 H locs ls hP hD hS hl hf
    rw [fX5_go_10] at hf
    refine lv_iload_n hx hb dX5_go_10 rfl (lv_at hl 2 rfl) ?_
    refine lv_aload_n hx hb dX5_go_11 rfl (lv_at hl 1 rfl) ?_
    refine va_get (D := G.1) (ci := 3) (v := .int b_woods) (C := RX3) (T := TX3) (N := 15) hx hb hts iiX5_go_X3 hown hK hP 2 rfl rfl 1 (by decide) (hts _ mmX5_go_3) (fun _ h9 => h9) rfl dX5_go_12 ?_
    refine lv_icmp_ge (tgt := 50) hx hb dX5_go_15 (by decide) (fun c2 => ?_) (fun c2 => ?_)
    · have hf := (o_i hf).1 c2
      exact HX _ _ _ _ _ hP hD hS (lv_sub hl [0, 1, 2] rfl) hf
    have hf := (o_i hf).2 c2
    refine lv_aload_n hx hb dX5_go_18 rfl (lv_at hl 0 rfl) ?_
    refine va_get (D := G.1) (ci := 5) (v := .ref (a 1)) (C := RX5) (T := TX5) (N := 1) hx hb hts iiX5_go_X5 hown hK hP 0 rfl rfl 0 (by decide) (hts _ mmX5_go_1) (fun _ h9 => h9) rfl dX5_go_19 ?_
    refine lv_aload_n hx hb dX5_go_22 rfl (lv_at hl 1 rfl) ?_
    refine va_get (D := G.1) (ci := 3) (v := .ref (b 6)) (C := RX3) (T := TX3) (N := 15) hx hb hts iiX5_go_X3 hown hK hP 2 rfl rfl 9 (by decide) (hts _ mmX5_go_4) (fun _ h9 => h9) rfl dX5_go_23 ?_
    refine lv_iload_n hx hb dX5_go_26 rfl (lv_at hl 2 rfl) ?_
    obtain ⟨z3, hz3, hf⟩ := o_b hf
    refine k_iald hx hb hK hP 8 0 rfl rfl hz3 dX5_go_27 ?_
    refine lv_aload_n hx hb dX5_go_28 rfl (lv_at hl 1 rfl) ?_
    refine va_get (D := G.1) (ci := 3) (v := .ref (b 7)) (C := RX3) (T := TX3) (N := 15) hx hb hts iiX5_go_X3 hown hK hP 2 rfl rfl 10 (by decide) (hts _ mmX5_go_5) (fun _ h9 => h9) rfl dX5_go_29 ?_
    refine lv_iload_n hx hb dX5_go_32 rfl (lv_at hl 2 rfl) ?_
    refine at_pc (pc' := 33) rfl ?_
    obtain ⟨z4, hz4, hf⟩ := o_b hf
    refine k_iald hx hb hK hP 9 0 rfl rfl hz4 dX5_go_33 ?_
    obtain ⟨g5, hg5, hf⟩ := o_b hf
    refine bNi C hP hD hS (tX6_pair l G z3 z4 g5 hg5) gX5_go_X6_pair_n33 (nw12 hN) (hts _ mmX5_go_6) (hts _ mmX5_go_7) rfl ⟨rfl, rfl⟩ hdX6_pair ⟨Nat.le_of_ble_eq_true rfl, Nat.le_of_ble_eq_true rfl⟩ rfl hl.1 rfl (Nat.le_of_ble_eq_true rfl) ⟨Nat.le_of_ble_eq_true rfl, Nat.le_of_ble_eq_true rfl⟩ [] rfl rfl rfl (setB_same _ _ _ rfl) rfl dX5_go_34 (fun H locs hP hD hS => ?_)
    refine lv_dup2_11 hx hb dX5_go_37 rfl rfl ?_
    obtain ⟨z6, hz6, hf⟩ := o_b hf
    refine k_iald hx hb hK hP 1 0 rfl rfl hz6 dX5_go_38 ?_
    refine lv_iconst (v := 1) hx hb dX5_go_39 (by decide) ?_
    refine lv_iload_n hx hb dX5_go_40 rfl (lv_at hl 2 rfl) ?_
    refine lv_ishl hx hb dX5_go_41 ?_
    refine lv_ior hx hb dX5_go_42 ?_
    obtain ⟨u7, hu7, hf⟩ := o_b hf
    refine k_iast hx hb hK hP hD hS 1 0 rfl rfl hu7 dX5_go_43 (fun H locs hP hD hS => ?_)
    have hP : va_P G.1 vwCl (flat [wX5 G a u7, wX3 G b b_villages b_woods b_needs b_signs b_temper b_friend b_rope b_hears b_shut b_woodBell b_woodVillage b_needVillage b_needWind b_needSeen b_sign]) H := hP
    have hD : va_D A (flat [wX5 G a u7, wX3 G b b_villages b_woods b_needs b_signs b_temper b_friend b_rope b_hears b_shut b_woodBell b_woodVillage b_needVillage b_needWind b_needSeen b_sign]) := hD
    refine lv_iinc (v := x2_10 + 1) (lv' := [(2, .int (x2_10 + 1)), (0, .ref (a 0)), (1, .ref (b 0))]) hx hb dX5_go_44 hl (k := 2) rfl (congrArg (fun z => x2_10 + z) (by decide)) (by decide) rfl (fun ls hl => ?_)
    refine at_pc (pc' := 47) rfl ?_
    refine lv_goto (tgt := 10) hx hb dX5_go_47 (by decide) ?_
    exact ih _ _ _ _ _ hP hD hS (lv_sub hl [1, 2, 0] rfl) hf
set_option maxHeartbeats 4000000 in
set_option maxRecDepth 100000 in
theorem lX5_go_58 {p : Program} {e : Env} {s : State} {m : MethodId} {args : Array Value} {below : List Frame} {meth : Method} {c : Code} {A : Nat → Prop} (l : Launch) (G : GG) (C : Cx p m c cX5_go 5 s args wsX5_go RX5 meth (some .int) G A) (a : Nat → Nat) (b : Nat → Nat) (a_between : Nat → Int32) (b_villages : Int32) (b_woods : Int32) (b_needs : Int32) (b_signs : Int32) (b_temper : Nat → Int32) (b_friend : Nat → Int32) (b_rope : Nat → Int32) (b_hears : Nat → Int32) (b_shut : Nat → Int32) (b_woodBell : Nat → Int32) (b_woodVillage : Nat → Int32) (b_needVillage : Nat → Int32) (b_needWind : Nat → Int32) (b_needSeen : Nat → Int32) (b_sign : Nat → Int32) (a_between_10_9 : Nat → Int32) (out : Int32 × (Nat → Int32)) (kx : Int32 → Int32 → Int32 → Option (Int32 × (Nat → Int32))) (HX : ∀ (x2_58 : Int32) (x3_58 : Int32) (x4_58 : Int32) (H : Heap) (locs : List Loc) (ls : Array Slot), va_P G.1 vwCl (flat [wX5 G a a_between_10_9, wX3 G b b_villages b_woods b_needs b_signs b_temper b_friend b_rope b_hears b_shut b_woodBell b_woodVillage b_needVillage b_needWind b_needSeen b_sign]) H → va_D A (flat [wX5 G a a_between_10_9, wX3 G b b_villages b_woods b_needs b_signs b_temper b_friend b_rope b_hears b_shut b_woodBell b_woodVillage b_needVillage b_needWind b_needSeen b_sign]) → va_S A s.heap H locs → lv_has ls 5 [(0, .ref (a 0)), (1, .ref (b 0)), (2, .int x2_58), (3, .int x3_58), (4, .int x4_58)] → kx x2_58 x3_58 x4_58 = some out → W p l e rmX5_go s m args below meth c H locs 0 0 (MQ below (QI G A out.1 (flat [wX5 G a out.2, wX3 G b b_villages b_woods b_needs b_signs b_temper b_friend b_rope b_hears b_shut b_woodBell b_woodVillage b_needVillage b_needWind b_needSeen b_sign])) args s 0 0 A) (F0 m 103 ls [])) : ∀ (n : Nat) (x2_58 : Int32) (x3_58 : Int32) (x4_58 : Int32) (H : Heap) (locs : List Loc) (ls : Array Slot), va_P G.1 vwCl (flat [wX5 G a a_between_10_9, wX3 G b b_villages b_woods b_needs b_signs b_temper b_friend b_rope b_hears b_shut b_woodBell b_woodVillage b_needVillage b_needWind b_needSeen b_sign]) H → va_D A (flat [wX5 G a a_between_10_9, wX3 G b b_villages b_woods b_needs b_signs b_temper b_friend b_rope b_hears b_shut b_woodBell b_woodVillage b_needVillage b_needWind b_needSeen b_sign]) → va_S A s.heap H locs → lv_has ls 5 [(0, .ref (a 0)), (1, .ref (b 0)), (2, .int x2_58), (3, .int x3_58), (4, .int x4_58)] → fX5_go_58 b_villages b_woods b_needs b_rope b_hears b_needVillage b_needWind b_needSeen a_between_10_9 kx n x2_58 x3_58 x4_58 = some out → W p l e rmX5_go s m args below meth c H locs 0 0 (MQ below (QI G A out.1 (flat [wX5 G a out.2, wX3 G b b_villages b_woods b_needs b_signs b_temper b_friend b_rope b_hears b_shut b_woodBell b_woodVillage b_needVillage b_needWind b_needSeen b_sign])) args s 0 0 A) (F0 m 58 ls []) := by
  obtain ⟨⟨hx, hb, hml, hown, hts⟩, hr, hlocks, hK, hN, hE, hA⟩ := id C
  intro n
  induction n with
  | zero =>
    intro x2_58 x3_58 x4_58 H locs ls hP hD hS hl hf
    exact absurd (show (none : Option (Int32 × (Nat → Int32))) = some out from hf) (by intro q9; cases q9)
  | succ n ih =>
    intro x2_58 x3_58 x4_58 H locs ls hP hD hS hl hf
    rw [fX5_go_58] at hf
    refine lv_iload hx hb dX5_go_58 (lv_at hl 4 rfl) ?_
    refine lv_iconst (v := 1) hx hb dX5_go_60 (by decide) ?_
    refine lv_aload_n hx hb dX5_go_61 rfl (lv_at hl 1 rfl) ?_
    refine va_get (D := G.1) (ci := 3) (v := .int b_woods) (C := RX3) (T := TX3) (N := 15) hx hb hts iiX5_go_X3 hown hK hP 2 rfl rfl 1 (by decide) (hts _ mmX5_go_3) (fun _ h9 => h9) rfl dX5_go_62 ?_
    refine lv_ishl hx hb dX5_go_65 ?_
    refine lv_icmp_ge (tgt := 103) hx hb dX5_go_66 (by decide) (fun c10 => ?_) (fun c10 => ?_)
    · have hf := (o_i hf).1 c10
      exact HX _ _ _ _ _ _ hP hD hS (lv_sub hl [0, 1, 2, 3, 4] rfl) hf
    have hf := (o_i hf).2 c10
    refine lv_iload hx hb dX5_go_69 (lv_at hl 4 rfl) ?_
    obtain ⟨g11, hg11, hf⟩ := o_b hf
    refine bSi C hP hD hS (tJ6_bitCount_0f7a4 l G x4_58 g11 hg11) gX5_go_J6_bitCount_0f7a4 rfl ⟨rfl, rfl⟩ hdJ6_bitCount_0f7a4 ⟨Nat.le_of_ble_eq_true rfl, Nat.le_of_ble_eq_true rfl⟩ rfl hl.1 rfl (Nat.le_of_ble_eq_true rfl) ⟨Nat.le_of_ble_eq_true rfl, Nat.le_of_ble_eq_true rfl⟩ [] rfl rfl rfl (setB_same _ _ _ rfl) rfl dX5_go_71 (fun H locs hP hD hS => ?_)
    refine lv_iload_n hx hb dX5_go_74 rfl (lv_at hl 3 rfl) ?_
    refine lv_icmp_ge (tgt := 97) hx hb dX5_go_75 (by decide) (fun c12 => ?_) (fun c12 => ?_)
    · have hf := (o_i hf).1 c12
      refine lv_iinc (v := x4_58 + 1) (lv' := [(4, .int (x4_58 + 1)), (0, .ref (a 0)), (1, .ref (b 0)), (2, .int x2_58), (3, .int x3_58)]) hx hb dX5_go_97 hl (k := 4) rfl (congrArg (fun z => x4_58 + z) (by decide)) (by decide) rfl (fun ls hl => ?_)
      refine lv_goto (tgt := 58) hx hb dX5_go_100 (by decide) ?_
      exact ih _ _ _ _ _ _ hP hD hS (lv_sub hl [1, 2, 3, 4, 0] rfl) hf
    have hf := (o_i hf).2 c12
    refine lv_aload_n hx hb dX5_go_78 rfl (lv_at hl 0 rfl) ?_
    refine lv_aload_n hx hb dX5_go_79 rfl (lv_at hl 1 rfl) ?_
    refine lv_iload hx hb dX5_go_80 (lv_at hl 4 rfl) ?_
    obtain ⟨g13, hg13, hf⟩ := o_b hf
    refine bVi C hP hD hS (tX5_meetsAll l G a b a_between_10_9 b_villages b_woods b_needs b_signs b_temper b_friend b_rope b_hears b_shut b_woodBell b_woodVillage b_needVillage b_needWind b_needSeen b_sign x4_58 g13 hg13) gX5_go_X5_meetsAll rfl ⟨rfl, rfl⟩ hdX5_meetsAll ⟨Nat.le_of_ble_eq_true rfl, Nat.le_of_ble_eq_true rfl⟩ rfl hl.1 rfl (Nat.le_of_ble_eq_true rfl) ⟨Nat.le_of_ble_eq_true rfl, Nat.le_of_ble_eq_true rfl⟩ [0, 1] rfl rfl rfl (setB_same _ _ _ rfl) rfl (ci := 5) (q0 := 0) rfl rfl rfl dX5_go_82 (fun H locs hP hD hS => ?_)
    refine lv_if_eq (tgt := 97) hx hb dX5_go_85 (by decide) (fun c14 => ?_) (fun c14 => ?_)
    · have hf := (o_i hf).1 c14
      refine lv_iinc (v := x4_58 + 1) (lv' := [(4, .int (x4_58 + 1)), (0, .ref (a 0)), (1, .ref (b 0)), (2, .int x2_58), (3, .int x3_58)]) hx hb dX5_go_97 hl (k := 4) rfl (congrArg (fun z => x4_58 + z) (by decide)) (by decide) rfl (fun ls hl => ?_)
      refine lv_goto (tgt := 58) hx hb dX5_go_100 (by decide) ?_
      exact ih _ _ _ _ _ _ hP hD hS (lv_sub hl [1, 2, 3, 4, 0] rfl) hf
    have hf := (o_i hf).2 c14
    refine lv_iload hx hb dX5_go_88 (lv_at hl 4 rfl) ?_
    refine lv_istore_n (lv' := [(2, .int x4_58), (0, .ref (a 0)), (1, .ref (b 0)), (3, .int x3_58), (4, .int x4_58)]) hx hb dX5_go_90 rfl hl (by decide) rfl (fun ls hl => ?_)
    refine lv_iload hx hb dX5_go_91 (lv_at hl 4 rfl) ?_
    obtain ⟨g15, hg15, hf⟩ := o_b hf
    refine bSi C hP hD hS (tJ6_bitCount_0f7a4 l G x4_58 g15 hg15) gX5_go_J6_bitCount_0f7a4 rfl ⟨rfl, rfl⟩ hdJ6_bitCount_0f7a4 ⟨Nat.le_of_ble_eq_true rfl, Nat.le_of_ble_eq_true rfl⟩ rfl hl.1 rfl (Nat.le_of_ble_eq_true rfl) ⟨Nat.le_of_ble_eq_true rfl, Nat.le_of_ble_eq_true rfl⟩ [] rfl rfl rfl (setB_same _ _ _ rfl) rfl dX5_go_93 (fun H locs hP hD hS => ?_)
    refine lv_istore_n (lv' := [(3, .int g15), (2, .int x4_58), (0, .ref (a 0)), (1, .ref (b 0)), (4, .int x4_58)]) hx hb dX5_go_96 rfl hl (by decide) rfl (fun ls hl => ?_)
    refine lv_iinc (v := x4_58 + 1) (lv' := [(4, .int (x4_58 + 1)), (3, .int g15), (2, .int x4_58), (0, .ref (a 0)), (1, .ref (b 0))]) hx hb dX5_go_97 hl (k := 4) rfl (congrArg (fun z => x4_58 + z) (by decide)) (by decide) rfl (fun ls hl => ?_)
    refine lv_goto (tgt := 58) hx hb dX5_go_100 (by decide) ?_
    exact ih _ _ _ _ _ _ hP hD hS (lv_sub hl [3, 4, 2, 1, 0] rfl) hf
set_option maxHeartbeats 4000000 in
set_option maxRecDepth 100000 in
theorem tX5_go (l : Launch) (G : GG) (a : Nat → Nat) (b : Nat → Nat) (a_between : Nat → Int32) (b_villages : Int32) (b_woods : Int32) (b_needs : Int32) (b_signs : Int32) (b_temper : Nat → Int32) (b_friend : Nat → Int32) (b_rope : Nat → Int32) (b_hears : Nat → Int32) (b_shut : Nat → Int32) (b_woodBell : Nat → Int32) (b_woodVillage : Nat → Int32) (b_needVillage : Nat → Int32) (b_needWind : Nat → Int32) (b_needSeen : Nat → Int32) (b_sign : Nat → Int32) (out : Int32 × (Nat → Int32)) (hf : fX5_go a_between b_villages b_woods b_needs b_rope b_hears b_woodBell b_woodVillage b_needVillage b_needWind b_needSeen = some out) : cMi l G yX5_go wsX5_go rmX5_go [.ref (a 0), .ref (b 0)] (flat [wX5 G a a_between, wX3 G b b_villages b_woods b_needs b_signs b_temper b_friend b_rope b_hears b_shut b_woodBell b_woodVillage b_needVillage b_needWind b_needSeen b_sign]) out.1 (flat [wX5 G a out.2, wX3 G b b_villages b_woods b_needs b_signs b_temper b_friend b_rope b_hears b_shut b_woodBell b_woodVillage b_needVillage b_needWind b_needSeen b_sign]) := by
  intro sz
  refine met_of (cc := cX5_go) (nL := 5) (ret := (some .int)) (Qc := fun A9 => QI G A9 out.1 (flat [wX5 G a out.2, wX3 G b b_villages b_woods b_needs b_signs b_temper b_friend b_rope b_hears b_shut b_woodBell b_woodVillage b_needVillage b_needWind b_needSeen b_sign])) (by decide) rfl (Nat.le_of_ble_eq_true rfl) ?_
  intro p e s m args below meth c A ls C hP hD hS hl
  obtain ⟨⟨hx, hb, hml, hown, hts⟩, hr, hlocks, hK, hN, hE, hA⟩ := id C
  have hl : lv_has ls 5 [(0, .ref (a 0)), (1, .ref (b 0))] := hl
  unfold fX5_go at hf
  refine lv_aload_n hx hb dX5_go_0 rfl (lv_at hl 0 rfl) ?_
  refine va_get (D := G.1) (ci := 5) (v := .ref (a 1)) (C := RX5) (T := TX5) (N := 1) hx hb hts iiX5_go_X5 hown hK hP 0 rfl rfl 0 (by decide) (hts _ mmX5_go_1) (fun _ h9 => h9) rfl dX5_go_1 ?_
  refine lv_iconst (v := 0) hx hb dX5_go_4 (by decide) ?_
  obtain ⟨g1, hg1, hf⟩ := o_b hf
  refine kSv (ws' := flat [wX5 G a g1, wX3 G b b_villages b_woods b_needs b_signs b_temper b_friend b_rope b_hears b_shut b_woodBell b_woodVillage b_needVillage b_needWind b_needSeen b_sign]) C hP hD hS (tJ7_fill_53178 l G (a 1) 36 a_between 0 g1 hg1) gX5_go_J7_fill_53178 rfl ⟨rfl, rfl⟩ hdJ7_fill_53178 ⟨Nat.le_of_ble_eq_true rfl, Nat.le_of_ble_eq_true rfl⟩ rfl hl.1 rfl (Nat.le_of_ble_eq_true rfl) ⟨Nat.le_of_ble_eq_true rfl, Nat.le_of_ble_eq_true rfl⟩ [1] rfl rfl rfl rfl dX5_go_5 (fun H locs hP hD hS => ?_)
  have hP : va_P G.1 vwCl (flat [wX5 G a g1, wX3 G b b_villages b_woods b_needs b_signs b_temper b_friend b_rope b_hears b_shut b_woodBell b_woodVillage b_needVillage b_needWind b_needSeen b_sign]) H := hP
  have hD : va_D A (flat [wX5 G a g1, wX3 G b b_villages b_woods b_needs b_signs b_temper b_friend b_rope b_hears b_shut b_woodBell b_woodVillage b_needVillage b_needWind b_needSeen b_sign]) := hD
  refine lv_iconst (v := 0) hx hb dX5_go_8 (by decide) ?_
  refine lv_istore_n (lv' := [(2, .int 0), (0, .ref (a 0)), (1, .ref (b 0))]) hx hb dX5_go_9 rfl hl (by decide) rfl (fun ls hl => ?_)
  refine lX5_go_10 l G C a b a_between b_villages b_woods b_needs b_signs b_temper b_friend b_rope b_hears b_shut b_woodBell b_woodVillage b_needVillage b_needWind b_needSeen b_sign out _ (fun x2_10_8 a_between_10_9 H locs ls hP hD hS hl hf => ?_) fu 0 g1 _ _ _ hP hD hS (lv_sub hl [1, 2, 0] rfl) hf
  refine lv_iconst (v := (-1)) hx hb dX5_go_50 (by decide) ?_
  refine lv_istore_n (lv' := [(2, .int ((-1))), (0, .ref (a 0)), (1, .ref (b 0))]) hx hb dX5_go_51 rfl hl (by decide) rfl (fun ls hl => ?_)
  refine lv_bipush (v := 9) hx hb dX5_go_52 (by decide) ?_
  refine lv_istore_n (lv' := [(3, .int 9), (2, .int ((-1))), (0, .ref (a 0)), (1, .ref (b 0))]) hx hb dX5_go_54 rfl hl (by decide) rfl (fun ls hl => ?_)
  refine lv_iconst (v := 0) hx hb dX5_go_55 (by decide) ?_
  refine lv_istore (lv' := [(4, .int 0), (3, .int 9), (2, .int ((-1))), (0, .ref (a 0)), (1, .ref (b 0))]) hx hb dX5_go_56 hl (by decide) rfl (fun ls hl => ?_)
  refine lX5_go_58 l G C a b a_between b_villages b_woods b_needs b_signs b_temper b_friend b_rope b_hears b_shut b_woodBell b_woodVillage b_needVillage b_needWind b_needSeen b_sign a_between_10_9 out _ (fun x2_58_16 x3_58_17 x4_58_18 H locs ls hP hD hS hl hf => ?_) fu ((-1)) 9 0 _ _ _ hP hD hS (lv_sub hl [3, 4, 2, 1, 0] rfl) hf
  refine lv_iload_n hx hb dX5_go_103 rfl (lv_at hl 2 rfl) ?_
  have e9 := Option.some.inj hf
  subst e9
  exact rt_i C hP hS rfl dX5_go_104
