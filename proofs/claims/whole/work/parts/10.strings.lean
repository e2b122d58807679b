/-! String's own methods, at the six constants -/
theorem mmS1 : (Cond.fieldLink RJ0 38 "java/lang/String" "COMPACT_STRINGS" "Z") ∈ wsJ0_coder_7d493 := by decide +kernel
theorem mmS2 : (Cond.fieldLink RJ0 15 "java/lang/String" "coder" "B") ∈ wsJ0_coder_7d493 := by decide +kernel
theorem mmS3 : (Cond.fieldLink RJ0 38 "java/lang/String" "COMPACT_STRINGS" "Z") ∈ wsJ0_isLatin1_aae02 := by decide +kernel
theorem mmS4 : (Cond.fieldLink RJ0 15 "java/lang/String" "coder" "B") ∈ wsJ0_isLatin1_aae02 := by decide +kernel
theorem mmS5 : (Cond.fieldLink RJ0 9 "java/lang/String" "value" "[B") ∈ wsJ0_length_8abf5 := by decide +kernel
theorem mmS6 : (Cond.fieldLink RJ0 9 "java/lang/String" "value" "[B") ∈ wsJ0_charAt_5068e := by decide +kernel
theorem mmS7 : (Cond.fieldLink RJ0 1053 "jdk/internal/util/Preconditions" "SIOOBE_FORMATTER" "Ljava/util/function/BiFunction;") ∈ wsJ0_checkIndex_df160 := by decide +kernel
theorem hdJ0_coder_7d493 : yJ0_coder_7d493.cls = RJ0 ∧ yJ0_coder_7d493.cls ≠ "java/lang/invoke/MethodHandle" ∧ yJ0_coder_7d493.cls ≠ "java/lang/invoke/VarHandle" ∧ (parseMethodDescriptor yJ0_coder_7d493.desc).map (fun d => d.parameters.length) = some 0 := by decide +kernel
theorem hdJ0_isLatin1_aae02 : yJ0_isLatin1_aae02.cls = RJ0 ∧ yJ0_isLatin1_aae02.cls ≠ "java/lang/invoke/MethodHandle" ∧ yJ0_isLatin1_aae02.cls ≠ "java/lang/invoke/VarHandle" ∧ (parseMethodDescriptor yJ0_isLatin1_aae02.desc).map (fun d => d.parameters.length) = some 0 := by decide +kernel
theorem hdJ0_length_8abf5 : yJ0_length_8abf5.cls = RJ0 ∧ yJ0_length_8abf5.cls ≠ "java/lang/invoke/MethodHandle" ∧ yJ0_length_8abf5.cls ≠ "java/lang/invoke/VarHandle" ∧ (parseMethodDescriptor yJ0_length_8abf5.desc).map (fun d => d.parameters.length) = some 0 := by decide +kernel
theorem hdJ0_charAt_5068e : yJ0_charAt_5068e.cls = RJ0 ∧ yJ0_charAt_5068e.cls ≠ "java/lang/invoke/MethodHandle" ∧ yJ0_charAt_5068e.cls ≠ "java/lang/invoke/VarHandle" ∧ (parseMethodDescriptor yJ0_charAt_5068e.desc).map (fun d => d.parameters.length) = some 1 := by decide +kernel
theorem hdJ3_checkIndex_8e157 : yJ3_checkIndex_8e157.cls ≠ "java/lang/invoke/MethodHandle" ∧ yJ3_checkIndex_8e157.cls ≠ "java/lang/invoke/VarHandle" ∧ (parseMethodDescriptor yJ3_checkIndex_8e157.desc).map (fun d => d.parameters.length) = some 3 := by decide +kernel
theorem hdJ0_checkIndex_df160 : yJ0_checkIndex_df160.cls ≠ "java/lang/invoke/MethodHandle" ∧ yJ0_checkIndex_df160.cls ≠ "java/lang/invoke/VarHandle" ∧ (parseMethodDescriptor yJ0_checkIndex_df160.desc).map (fun d => d.parameters.length) = some 2 := by decide +kernel
theorem hdJ1_charAt_3b067 : yJ1_charAt_3b067.cls ≠ "java/lang/invoke/MethodHandle" ∧ yJ1_charAt_3b067.cls ≠ "java/lang/invoke/VarHandle" ∧ (parseMethodDescriptor yJ1_charAt_3b067.desc).map (fun d => d.parameters.length) = some 2 := by decide +kernel
abbrev rmS0 : Room := { frames := 0, cells := 0, slots := 0, locals := 0 }
abbrev rmS1 : Room := { frames := 1, cells := 0, slots := 0, locals := 30 }
abbrev rmS2 : Room := { frames := 2, cells := 0, slots := 0, locals := 60 }
abbrev rmS3 : Room := { frames := 3, cells := 0, slots := 0, locals := 90 }
set_option maxHeartbeats 4000000 in
set_option maxRecDepth 100000 in
theorem tJ0_coder_7d493 (l : Launch) (G : GG) (k : Nat) (hk : k < 6) : cMi l G yJ0_coder_7d493 wsJ0_coder_7d493 rmS0 [.ref (G.2.2.2.1 k)] [] 0 [] := by
  intro sz
  refine met_of (cc := cJ0_coder_7d493) (nL := 1) (ret := some .byte) (Qc := fun A9 => QI G A9 0 []) (by decide) rfl (Nat.le_of_ble_eq_true rfl) ?_
  intro p e s m args below meth c A ls C hP hD hS hl
  obtain ⟨⟨hx, hb, hml, hown, hts⟩, hr, hlocks, hK, hN, hE, hA⟩ := id C
  have hl : lv_has ls 1 [(0, .ref (G.2.2.2.1 k))] := hl
  refine va_gets hx hb hE.2.2.1 hS hown (hts _ mmS1) (fun _ h9 => h9) dJ0_coder_7d493_0 ?_
  refine lv_if_eq (tgt := 13) hx hb dJ0_coder_7d493_3 (by decide) (fun c1 => absurd c1 (by decide)) (fun c1 => ?_)
  refine lv_aload_n hx hb dJ0_coder_7d493_6 rfl (lv_at hl 0 rfl) ?_
  refine vk_getf hx hb (hE.2.2.2.2.1.1 k hk).2.1 hS hown (hts _ mmS2) (fun _ h9 => h9) dJ0_coder_7d493_7 ?_
  refine lv_goto (tgt := 14) hx hb dJ0_coder_7d493_10 (by decide) ?_
  exact rt_n C hP hS rfl rfl dJ0_coder_7d493_14
set_option maxHeartbeats 4000000 in
set_option maxRecDepth 100000 in
theorem tJ0_isLatin1_aae02 (l : Launch) (G : GG) (k : Nat) (hk : k < 6) : cMi l G yJ0_isLatin1_aae02 wsJ0_isLatin1_aae02 rmS0 [.ref (G.2.2.2.1 k)] [] 1 [] := by
  intro sz
  refine met_of (cc := cJ0_isLatin1_aae02) (nL := 1) (ret := some .boolean) (Qc := fun A9 => QI G A9 1 []) (by decide) rfl (Nat.le_of_ble_eq_true rfl) ?_
  intro p e s m args below meth c A ls C hP hD hS hl
  obtain ⟨⟨hx, hb, hml, hown, hts⟩, hr, hlocks, hK, hN, hE, hA⟩ := id C
  have hl : lv_has ls 1 [(0, .ref (G.2.2.2.1 k))] := hl
  refine va_gets hx hb hE.2.2.1 hS hown (hts _ mmS3) (fun _ h9 => h9) dJ0_isLatin1_aae02_0 ?_
  refine lv_if_eq (tgt := 17) hx hb dJ0_isLatin1_aae02_3 (by decide) (fun c1 => absurd c1 (by decide)) (fun c1 => ?_)
  refine lv_aload_n hx hb dJ0_isLatin1_aae02_6 rfl (lv_at hl 0 rfl) ?_
  refine vk_getf hx hb (hE.2.2.2.2.1.1 k hk).2.1 hS hown (hts _ mmS4) (fun _ h9 => h9) dJ0_isLatin1_aae02_7 ?_
  refine lv_if_ne (tgt := 17) hx hb dJ0_isLatin1_aae02_10 (by decide) (fun c1 => absurd rfl c1) (fun c1 => ?_)
  refine lv_iconst (v := 1) hx hb dJ0_isLatin1_aae02_13 (by decide) ?_
  refine lv_goto (tgt := 18) hx hb dJ0_isLatin1_aae02_14 (by decide) ?_
  exact rt_z C hP hS rfl rfl dJ0_isLatin1_aae02_18
set_option maxHeartbeats 4000000 in
set_option maxRecDepth 100000 in
theorem tJ0_length_8abf5 (l : Launch) (G : GG) (k : Nat) (hk : k < 6) (out : Int32) (hf : fJ0_length_8abf5 k = some out) : cMi l G yJ0_length_8abf5 wsJ0_length_8abf5 rmS1 [.ref (G.2.2.2.1 k)] [] out [] := by
  intro sz
  have e9 := Option.some.inj hf
  refine met_of (cc := cJ0_length_8abf5) (nL := 1) (ret := some .int) (Qc := fun A9 => QI G A9 out []) (by decide) rfl (Nat.le_of_ble_eq_true rfl) ?_
  intro p e s m args below meth c A ls C hP hD hS hl
  obtain ⟨⟨hx, hb, hml, hown, hts⟩, hr, hlocks, hK, hN, hE, hA⟩ := id C
  have hl : lv_has ls 1 [(0, .ref (G.2.2.2.1 k))] := hl
  refine lv_aload_n hx hb dJ0_length_8abf5_0 rfl (lv_at hl 0 rfl) ?_
  refine vk_getf hx hb (hE.2.2.2.2.1.1 k hk).2.2.1 hS hown (hts _ mmS5) (fun _ h9 => h9) dJ0_length_8abf5_1 ?_
  refine va_tlen hx hb (hE.2.2.2.2.1.1 k hk).2.2.2 hS (v := Int32.ofNat (sLen.getD k 0)) rfl dJ0_length_8abf5_4 ?_
  refine lv_aload_n hx hb dJ0_length_8abf5_5 rfl (lv_at hl 0 rfl) ?_
  refine kWi C hP hD hS (tJ0_coder_7d493 l G k hk) gJ0_length_8abf5_J0_coder_7d493 rfl ⟨rfl, rfl⟩ hdJ0_coder_7d493 ⟨Nat.le_of_ble_eq_true rfl, Nat.le_of_ble_eq_true rfl⟩ rfl hl.1 rfl (Nat.le_of_ble_eq_true rfl) ⟨Nat.le_of_ble_eq_true rfl, Nat.le_of_ble_eq_true rfl⟩ [] rfl rfl rfl (setM_same _ _ _ rfl) (vk_recv hE.2.2.2.2.1 hk hS) dJ0_length_8abf5_6 (fun H locs hP hD hS => ?_)
  refine lv_ishr hx hb dJ0_length_8abf5_9 ?_
  exact rt_i C hP hS e9 dJ0_length_8abf5_10
set_option maxHeartbeats 4000000 in
set_option maxRecDepth 100000 in
theorem tJ3_checkIndex_8e157 (l : Launch) (G : GG) (i n : Int32) (v : Value) (hv : v.category = 1) (h1 : ¬ i < 0) (h2 : i < n) : cMi l G yJ3_checkIndex_8e157 wsJ3_checkIndex_8e157 rmS0 [.int i, .int n, v] [] i [] := by
  intro sz
  have hlg : (lg_sl [.int i, .int n, v]).length ≤ 3 := by cases v <;> first | exact Nat.le_of_ble_eq_true rfl | cases hv
  refine met_of (cc := cJ3_checkIndex_8e157) (nL := 3) (ret := some .int) (Qc := fun A9 => QI G A9 i []) (by decide) rfl hlg ?_
  intro p e s m args below meth c A ls C hP hD hS hl
  obtain ⟨⟨hx, hb, hml, hown, hts⟩, hr, hlocks, hK, hN, hE, hA⟩ := id C
  have hl : lv_has ls 3 [(0, .int i), (1, .int n)] := lv_sub hl [0, 1] rfl
  refine lv_iload_n hx hb dJ3_checkIndex_8e157_0 rfl (lv_at hl 0 rfl) ?_
  refine lv_if_lt (tgt := 9) hx hb dJ3_checkIndex_8e157_1 (by decide) (fun c1 => absurd c1 h1) (fun c1 => ?_)
  refine lv_iload_n hx hb dJ3_checkIndex_8e157_4 rfl (lv_at hl 0 rfl) ?_
  refine lv_iload_n hx hb dJ3_checkIndex_8e157_5 rfl (lv_at hl 1 rfl) ?_
  refine lv_icmp_lt (tgt := 16) hx hb dJ3_checkIndex_8e157_6 (by decide) (fun c2 => ?_) (fun c2 => absurd h2 c2)
  refine lv_iload_n hx hb dJ3_checkIndex_8e157_16 rfl (lv_at hl 0 rfl) ?_
  exact rt_i C hP hS rfl dJ3_checkIndex_8e157_17
set_option maxHeartbeats 4000000 in
set_option maxRecDepth 100000 in
theorem tJ0_checkIndex_df160 (l : Launch) (G : GG) (i n : Int32) (h1 : ¬ i < 0) (h2 : i < n) : cMv l G yJ0_checkIndex_df160 wsJ0_checkIndex_df160 rmS1 [.int i, .int n] [] [] := by
  intro sz
  refine met_of (cc := cJ0_checkIndex_df160) (nL := 2) (ret := none) (Qc := fun A9 => QV G A9 []) (by decide) rfl (Nat.le_of_ble_eq_true rfl) ?_
  intro p e s m args below meth c A ls C hP hD hS hl
  obtain ⟨⟨hx, hb, hml, hown, hts⟩, hr, hlocks, hK, hN, hE, hA⟩ := id C
  have hl : lv_has ls 2 [(0, .int i), (1, .int n)] := hl
  obtain ⟨v, hv, hZ⟩ : ∃ v : Value, v.category = 1 ∧ va_Z "jdk/internal/util/Preconditions" "SIOOBE_FORMATTER" "Ljava/util/function/BiFunction;" v A s s.heap := by
    rcases hE.2.2.2.2.2 with h | ⟨t, h⟩
    · exact ⟨_, rfl, h⟩
    · exact ⟨_, rfl, h⟩
  refine lv_iload_n hx hb dJ0_checkIndex_df160_0 rfl (lv_at hl 0 rfl) ?_
  refine lv_iload_n hx hb dJ0_checkIndex_df160_1 rfl (lv_at hl 1 rfl) ?_
  refine va_gets hx hb hZ hS hown (hts _ mmS7) (fun _ h9 => h9) dJ0_checkIndex_df160_2 ?_
  refine kSi C hP hD hS (tJ3_checkIndex_8e157 l G i n v hv h1 h2) gJ0_checkIndex_df160_J3_checkIndex_8e157 rfl ⟨rfl, rfl⟩ hdJ3_checkIndex_8e157 ⟨Nat.le_of_ble_eq_true rfl, Nat.le_of_ble_eq_true rfl⟩ rfl hl.1 rfl (Nat.le_of_ble_eq_true rfl) ⟨Nat.le_of_ble_eq_true rfl, Nat.le_of_ble_eq_true rfl⟩ [] rfl rfl rfl (setM_same _ _ _ rfl) dJ0_checkIndex_df160_5 (fun H locs hP hD hS => ?_)
  refine lv_pop hx hb dJ0_checkIndex_df160_8 rfl ?_
  exact rt_v C hP hS dJ0_checkIndex_df160_9
theorem ix_lt {i : Int32} {n : Nat} (hn : n < 2 ^ 31) (h : vp_in i n) : ¬ i < 0 ∧ i < Int32.ofNat n := by
  obtain ⟨j, hj, rfl⟩ := vp_in_of h hn
  exact ⟨nI_pos (Nat.lt_trans hj hn), nI_lt hj hn⟩
theorem sLen_lt (k : Nat) : sLen.getD k 0 < 2 ^ 31 := by
  by_cases h : k < 6
  · rcases (show k = 0 ∨ k = 1 ∨ k = 2 ∨ k = 3 ∨ k = 4 ∨ k = 5 by omega) with rfl | rfl | rfl | rfl | rfl | rfl <;> decide
  · have : sLen.getD k 0 = 0 := by
      unfold List.getD
      rw [List.getElem?_eq_none (by show sLen.length ≤ k; have : sLen.length = 6 := rfl; omega)]
      rfl
    rw [this]; decide
set_option maxHeartbeats 4000000 in
set_option maxRecDepth 100000 in
theorem tJ1_charAt_3b067 (l : Launch) (G : GG) (k : Nat) (hk : k < 6) (i : Int32) (hi : vp_in i (sLen.getD k 0)) : cMi l G yJ1_charAt_3b067 wsJ1_charAt_3b067 rmS2 [.ref (G.2.2.2.2 k), .int i] [] ((((sByt.getD k []).getD i.toNatClampNeg 0) &&& 255).toUInt32 % 65536).toInt32 [] := by
  intro sz
  refine met_of (cc := cJ1_charAt_3b067) (nL := 2) (ret := some .char) (Qc := fun A9 => QI G A9 ((((sByt.getD k []).getD i.toNatClampNeg 0) &&& 255).toUInt32 % 65536).toInt32 []) (by decide) rfl (Nat.le_of_ble_eq_true rfl) ?_
  intro p e s m args below meth c A ls C hP hD hS hl
  obtain ⟨⟨hx, hb, hml, hown, hts⟩, hr, hlocks, hK, hN, hE, hA⟩ := id C
  have hl : lv_has ls 2 [(0, .ref (G.2.2.2.2 k)), (1, .int i)] := hl
  have hii := ix_lt (sLen_lt k) hi
  refine lv_iload_n hx hb dJ1_charAt_3b067_0 rfl (lv_at hl 1 rfl) ?_
  refine lv_aload_n hx hb dJ1_charAt_3b067_1 rfl (lv_at hl 0 rfl) ?_
  refine va_tlen hx hb (hE.2.2.2.2.1.1 k hk).2.2.2 hS (v := Int32.ofNat (sLen.getD k 0)) rfl dJ1_charAt_3b067_2 ?_
  refine kSv C hP hD hS (tJ0_checkIndex_df160 l G i (Int32.ofNat (sLen.getD k 0)) hii.1 hii.2) gJ1_charAt_3b067_J0_checkIndex_df160 rfl ⟨rfl, rfl⟩ hdJ0_checkIndex_df160 ⟨Nat.le_of_ble_eq_true rfl, Nat.le_of_ble_eq_true rfl⟩ rfl hl.1 rfl (Nat.le_of_ble_eq_true rfl) ⟨Nat.le_of_ble_eq_true rfl, Nat.le_of_ble_eq_true rfl⟩ [] rfl rfl rfl (setM_same _ _ _ rfl) dJ1_charAt_3b067_3 (fun H locs hP hD hS => ?_)
  refine lv_aload_n hx hb dJ1_charAt_3b067_6 rfl (lv_at hl 0 rfl) ?_
  refine lv_iload_n hx hb dJ1_charAt_3b067_7 rfl (lv_at hl 1 rfl) ?_
  refine va_tb hx hb (hE.2.2.2.2.1.1 k hk).2.2.2 hS hi (v := .int ((sByt.getD k []).getD i.toNatClampNeg 0)) rfl dJ1_charAt_3b067_8 ?_
  refine lv_sipush (v := 255) hx hb dJ1_charAt_3b067_9 (by decide) ?_
  refine lv_iand hx hb dJ1_charAt_3b067_12 ?_
  refine lv_i2c (v := ((((sByt.getD k []).getD i.toNatClampNeg 0) &&& 255).toUInt32 % 65536).toInt32) hx hb dJ1_charAt_3b067_13 rfl ?_
  exact rt_n C hP hS rfl (pk_nc _) dJ1_charAt_3b067_14
set_option maxHeartbeats 4000000 in
set_option maxRecDepth 100000 in
theorem tJ0_charAt_5068e (l : Launch) (G : GG) (k : Nat) (hk : k < 6) (i : Int32) (out : Int32) (hf : fJ0_charAt_5068e k i = some out) : cMi l G yJ0_charAt_5068e wsJ0_charAt_5068e rmS3 [.ref (G.2.2.2.1 k), .int i] [] out [] := by
  intro sz
  unfold fJ0_charAt_5068e at hf
  obtain ⟨hi, hf⟩ := o_rd hf
  have e9 := Option.some.inj hf
  subst e9
  refine met_of (cc := cJ0_charAt_5068e) (nL := 2) (ret := some .char) (Qc := fun A9 => QI G A9 _ []) (by decide) rfl (Nat.le_of_ble_eq_true rfl) ?_
  intro p e s m args below meth c A ls C hP hD hS hl
  obtain ⟨⟨hx, hb, hml, hown, hts⟩, hr, hlocks, hK, hN, hE, hA⟩ := id C
  have hl : lv_has ls 2 [(0, .ref (G.2.2.2.1 k)), (1, .int i)] := hl
  refine lv_aload_n hx hb dJ0_charAt_5068e_0 rfl (lv_at hl 0 rfl) ?_
  refine kWi C hP hD hS (tJ0_isLatin1_aae02 l G k hk) gJ0_charAt_5068e_J0_isLatin1_aae02 rfl ⟨rfl, rfl⟩ hdJ0_isLatin1_aae02 ⟨Nat.le_of_ble_eq_true rfl, Nat.le_of_ble_eq_true rfl⟩ rfl hl.1 rfl (Nat.le_of_ble_eq_true rfl) ⟨Nat.le_of_ble_eq_true rfl, Nat.le_of_ble_eq_true rfl⟩ [] rfl rfl rfl (setM_same _ _ _ rfl) (vk_recv hE.2.2.2.2.1 hk hS) dJ0_charAt_5068e_1 (fun H locs hP hD hS => ?_)
  refine lv_if_eq (tgt := 16) hx hb dJ0_charAt_5068e_4 (by decide) (fun c1 => absurd c1 (by decide)) (fun c1 => ?_)
  refine lv_aload_n hx hb dJ0_charAt_5068e_7 rfl (lv_at hl 0 rfl) ?_
  refine vk_getf hx hb (hE.2.2.2.2.1.1 k hk).2.2.1 hS hown (hts _ mmS6) (fun _ h9 => h9) dJ0_charAt_5068e_8 ?_
  refine lv_iload_n hx hb dJ0_charAt_5068e_11 rfl (lv_at hl 1 rfl) ?_
  refine kSi C hP hD hS (tJ1_charAt_3b067 l G k hk i hi) gJ0_charAt_5068e_J1_charAt_3b067 rfl ⟨rfl, rfl⟩ hdJ1_charAt_3b067 ⟨Nat.le_of_ble_eq_true rfl, Nat.le_of_ble_eq_true rfl⟩ rfl hl.1 rfl (Nat.le_of_ble_eq_true rfl) ⟨Nat.le_of_ble_eq_true rfl, Nat.le_of_ble_eq_true rfl⟩ [] rfl rfl rfl (setM_same _ _ _ rfl) dJ0_charAt_5068e_12 (fun H locs hP hD hS => ?_)
  exact rt_n C hP hS rfl (pk_nc _) dJ0_charAt_5068e_15
