set_option maxHeartbeats 4000000 in
set_option maxRecDepth 100000 in
theorem law_loop {p : Program} {e : Env} {s : State} {m : MethodId} {below : List Frame} {meth : Method} {c : Code} (l : Launch) (G : GG) {b L : Nat} {xs : Nat → Int32} (hL : L ≤ 2560) (C : Cx p m c cL_law 4 s #[Value.ref b] wsL_law RL meth ret G (fun q : Nat => s.heap.size ≤ q)) (hX : va_X b L xs s s.heap) (hbl : b < s.heap.size) (a va da : Nat → Nat) (ia : Nat) (ta na oa ga wa ma : Nat → Nat) :
    ∀ (n k : Nat), 5 * k ≤ L → L < 5 * k + n → ∀ (H : Heap) (locs : List Loc) (ls : Array Slot), LW G (fun q : Nat => s.heap.size ≤ q) a va da ia ta na oa ga wa ma H → va_S (fun q : Nat => s.heap.size ≤ q) s.heap H locs → lv_has ls 4 [(0, .ref b), (1, .ref (a 0)), (2, .ref (ma 0)), (3, .int (nI (5 * k)))] → W p l e room_1 s m #[Value.ref b] below meth c H locs (54 + 12 * k) (1687 + 121 * k) (lw_Z below #[Value.ref b] s) (F0 m 18 ls []) := by
  obtain ⟨⟨hx, hb, hml, hown, hts⟩, hr, hlocks, hK, hN, hE, hA⟩ := id C
  have hbA : ¬ (fun q : Nat => s.heap.size ≤ q) b := Nat.not_le.mpr hbl
  intro n
  induction n with
  | zero =>
    intro k h1 h2
    exact absurd h2 (by omega)
  | succ n ih =>
    intro k hk hn H locs ls hW hS hl
    refine lv_iload_n hx hb dL_law_18 rfl (lv_at hl 3 rfl) ?_
    refine lv_aload_n hx hb dL_law_19 rfl (lv_at hl 0 rfl) ?_
    refine va_slen hx hb hX hbl hbA hS dL_law_20 ?_
    refine lv_iconst (v := 5) hx hb dL_law_21 (by decide) ?_
    refine lv_isub hx hb dL_law_22 ?_
    have e1 : (nI L).toInt = (L : Int) := nI_toInt (by omega)
    have e2 : (5 : Int32).toInt = 5 := rfl
    have e3 : (Int32.ofNat L - 5 : Int32).toInt = (L : Int) - 5 := by
      show (nI L - 5 : Int32).toInt = _
      rw [fb_subI (by rw [e1, e2]; omega) (by rw [e1, e2]; omega), e1, e2]
    have e4 : (nI (5 * k)).toInt = ((5 * k : Nat) : Int) := nI_toInt (by omega)
    refine lv_icmp_gt (tgt := 1051) hx hb dL_law_23 (by decide) (fun c1 => ?_) (fun c1 => ?_)
    · refine lv_iconst (v := 1) hx hb dL_law_1051 (by decide) ?_
      refine va_forget (fun q hq => hS.2.2 q hq) ?_
      refine W.widen (k := 600000) (n := 7302250) (by omega) (by omega) ?_
      exact lw_ret hx hb hr hlocks dL_law_1052
    · have h5 : 5 * k + 5 ≤ L := by
        rcases Nat.lt_or_ge L (5 * k + 5) with q | q
        · exact absurd ((fa_lt _ _).mpr (by rw [e3, e4]; omega)) c1
        · exact q
      have v0 : vp_in (nI (5 * k)) L := vp_in_nI (by omega) (by omega)
      have v1 : vp_in (nI (5 * k) + 1) L := by rw [show (1 : Int32) = nI 1 from rfl, nI_add]; exact vp_in_nI (by omega) (by omega)
      have v2 : vp_in (nI (5 * k) + 2) L := by rw [show (2 : Int32) = nI 2 from rfl, nI_add]; exact vp_in_nI (by omega) (by omega)
      have v3 : vp_in (nI (5 * k) + 3) L := by rw [show (3 : Int32) = nI 3 from rfl, nI_add]; exact vp_in_nI (by omega) (by omega)
      have v4 : vp_in (nI (5 * k) + 4) L := by rw [show (4 : Int32) = nI 4 from rfl, nI_add]; exact vp_in_nI (by omega) (by omega)
      have hcs : 54 + 12 * k + 12 ≤ 600000 ∧ 1687 + 121 * k + 121 ≤ 7302250 := ⟨by omega, by omega⟩
      have KK : ∀ (H : Heap) (locs : List Loc), LW G (fun q : Nat => s.heap.size ≤ q) a va da ia ta na oa ga wa ma H → va_S (fun q : Nat => s.heap.size ≤ q) s.heap H locs → W p l e room_1 s m #[Value.ref b] below meth c H locs (54 + 12 * k + 12) (1687 + 121 * k + 121) (lw_Z below #[Value.ref b] s) (F0 m 1045 ls []) := by
        intro H locs hW hS
        refine lv_iinc (v := nI (5 * (k + 1))) (lv' := [(3, .int (nI (5 * (k + 1)))), (0, .ref b), (1, .ref (a 0)), (2, .ref (ma 0))]) hx hb dL_law_1045 hl (k := 3) rfl (by show nI (5 * k) + nI 5 = nI (5 * (k + 1)); rw [nI_add]; rfl) (by decide) rfl (fun ls hl => ?_)
        refine lv_goto (tgt := 18) hx hb dL_law_1048 (by decide) ?_
        refine W.widen (k := 54 + 12 * (k + 1)) (n := 1687 + 121 * (k + 1)) (by omega) (by omega) ?_
        exact ih (k + 1) (by omega) (by omega) H locs ls hW hS (lv_sub hl [1, 2, 3, 0] rfl)
      refine lv_aload_n hx hb dL_law_26 rfl (lv_at hl 0 rfl) ?_
      refine lv_iload_n hx hb dL_law_27 rfl (lv_at hl 3 rfl) ?_
      refine va_sld hx hb hX hbl hbA hS v0 dL_law_28 ?_
      refine lv_bipush (v := 31) hx hb dL_law_29 (by decide) ?_
      refine lv_iand hx hb dL_law_31 ?_
      refine lv_topi (fun z ez => ?_)
      by_cases q0 : z = 0
      · refine lv_tableIn (tgt := 168) hx hb dL_law_32 (by rw [q0]; decide) (by rw [q0]; decide) (off := 136) (by rw [q0]; rfl) (by decide) ?_
        exact case_0 l G C hX hbl hbA (nI (5 * k)) v1 v2 v3 v4 hcs a va da ia ta na oa ga wa ma H locs ls hW hS hl KK
      by_cases q1 : z = 1
      · refine lv_tableIn (tgt := 191) hx hb dL_law_32 (by rw [q1]; decide) (by rw [q1]; decide) (off := 159) (by rw [q1]; rfl) (by decide) ?_
        exact case_1 l G C hX hbl hbA (nI (5 * k)) v1 v2 v3 v4 hcs a va da ia ta na oa ga wa ma H locs ls hW hS hl KK
      by_cases q2 : z = 2
      · refine lv_tableIn (tgt := 260) hx hb dL_law_32 (by rw [q2]; decide) (by rw [q2]; decide) (off := 228) (by rw [q2]; rfl) (by decide) ?_
        exact case_2 l G C hX hbl hbA (nI (5 * k)) v1 v2 v3 v4 hcs a va da ia ta na oa ga wa ma H locs ls hW hS hl KK
      by_cases q3 : z = 3
      · refine lv_tableIn (tgt := 293) hx hb dL_law_32 (by rw [q3]; decide) (by rw [q3]; decide) (off := 261) (by rw [q3]; rfl) (by decide) ?_
        exact case_3 l G C hX hbl hbA (nI (5 * k)) v1 v2 v3 v4 hcs a va da ia ta na oa ga wa ma H locs ls hW hS hl KK
      by_cases q4 : z = 4
      · refine lv_tableIn (tgt := 326) hx hb dL_law_32 (by rw [q4]; decide) (by rw [q4]; decide) (off := 294) (by rw [q4]; rfl) (by decide) ?_
        exact case_4 l G C hX hbl hbA (nI (5 * k)) v1 v2 v3 v4 hcs a va da ia ta na oa ga wa ma H locs ls hW hS hl KK
      by_cases q5 : z = 5
      · refine lv_tableIn (tgt := 359) hx hb dL_law_32 (by rw [q5]; decide) (by rw [q5]; decide) (off := 327) (by rw [q5]; rfl) (by decide) ?_
        exact case_5 l G C hX hbl hbA (nI (5 * k)) v1 v2 v3 v4 hcs a va da ia ta na oa ga wa ma H locs ls hW hS hl KK
      by_cases q6 : z = 6
      · refine lv_tableIn (tgt := 392) hx hb dL_law_32 (by rw [q6]; decide) (by rw [q6]; decide) (off := 360) (by rw [q6]; rfl) (by decide) ?_
        exact case_6 l G C hX hbl hbA (nI (5 * k)) v1 v2 v3 v4 hcs a va da ia ta na oa ga wa ma H locs ls hW hS hl KK
      by_cases q7 : z = 7
      · refine lv_tableIn (tgt := 435) hx hb dL_law_32 (by rw [q7]; decide) (by rw [q7]; decide) (off := 403) (by rw [q7]; rfl) (by decide) ?_
        exact case_7 l G C hX hbl hbA (nI (5 * k)) v1 v2 v3 v4 hcs a va da ia ta na oa ga wa ma H locs ls hW hS hl KK
      by_cases q8 : z = 8
      · refine lv_tableIn (tgt := 448) hx hb dL_law_32 (by rw [q8]; decide) (by rw [q8]; decide) (off := 416) (by rw [q8]; rfl) (by decide) ?_
        exact case_8 l G C hX hbl hbA (nI (5 * k)) v1 v2 v3 v4 hcs a va da ia ta na oa ga wa ma H locs ls hW hS hl KK
      by_cases q9 : z = 9
      · refine lv_tableIn (tgt := 481) hx hb dL_law_32 (by rw [q9]; decide) (by rw [q9]; decide) (off := 449) (by rw [q9]; rfl) (by decide) ?_
        exact case_9 l G C hX hbl hbA (nI (5 * k)) v1 v2 v3 v4 hcs a va da ia ta na oa ga wa ma H locs ls hW hS hl KK
      by_cases q10 : z = 10
      · refine lv_tableIn (tgt := 544) hx hb dL_law_32 (by rw [q10]; decide) (by rw [q10]; decide) (off := 512) (by rw [q10]; rfl) (by decide) ?_
        exact case_10 l G C hX hbl hbA (nI (5 * k)) v1 v2 v3 v4 hcs a va da ia ta na oa ga wa ma H locs ls hW hS hl KK
      by_cases q11 : z = 11
      · refine lv_tableIn (tgt := 557) hx hb dL_law_32 (by rw [q11]; decide) (by rw [q11]; decide) (off := 525) (by rw [q11]; rfl) (by decide) ?_
        exact case_11 l G C hX hbl hbA (nI (5 * k)) v1 v2 v3 v4 hcs a va da ia ta na oa ga wa ma H locs ls hW hS hl KK
      by_cases q12 : z = 12
      · refine lv_tableIn (tgt := 570) hx hb dL_law_32 (by rw [q12]; decide) (by rw [q12]; decide) (off := 538) (by rw [q12]; rfl) (by decide) ?_
        exact case_12 l G C hX hbl hbA (nI (5 * k)) v1 v2 v3 v4 hcs a va da ia ta na oa ga wa ma H locs ls hW hS hl KK
      by_cases q13 : z = 13
      · refine lv_tableIn (tgt := 603) hx hb dL_law_32 (by rw [q13]; decide) (by rw [q13]; decide) (off := 571) (by rw [q13]; rfl) (by decide) ?_
        exact case_13 l G C hX hbl hbA (nI (5 * k)) v1 v2 v3 v4 hcs a va da ia ta na oa ga wa ma H locs ls hW hS hl KK
      by_cases q14 : z = 14
      · refine lv_tableIn (tgt := 626) hx hb dL_law_32 (by rw [q14]; decide) (by rw [q14]; decide) (off := 594) (by rw [q14]; rfl) (by decide) ?_
        exact case_14 l G C hX hbl hbA (nI (5 * k)) v1 v2 v3 v4 hcs a va da ia ta na oa ga wa ma H locs ls hW hS hl KK
      by_cases q15 : z = 15
      · refine lv_tableIn (tgt := 659) hx hb dL_law_32 (by rw [q15]; decide) (by rw [q15]; decide) (off := 627) (by rw [q15]; rfl) (by decide) ?_
        exact case_15 l G C hX hbl hbA (nI (5 * k)) v1 v2 v3 v4 hcs a va da ia ta na oa ga wa ma H locs ls hW hS hl KK
      by_cases q16 : z = 16
      · refine lv_tableIn (tgt := 692) hx hb dL_law_32 (by rw [q16]; decide) (by rw [q16]; decide) (off := 660) (by rw [q16]; rfl) (by decide) ?_
        exact case_16 l G C hX hbl hbA (nI (5 * k)) v1 v2 v3 v4 hcs a va da ia ta na oa ga wa ma H locs ls hW hS hl KK
      by_cases q17 : z = 17
      · refine lv_tableIn (tgt := 715) hx hb dL_law_32 (by rw [q17]; decide) (by rw [q17]; decide) (off := 683) (by rw [q17]; rfl) (by decide) ?_
        exact case_17 l G C hX hbl hbA (nI (5 * k)) v1 v2 v3 v4 hcs a va da ia ta na oa ga wa ma H locs ls hW hS hl KK
      by_cases q18 : z = 18
      · refine lv_tableIn (tgt := 738) hx hb dL_law_32 (by rw [q18]; decide) (by rw [q18]; decide) (off := 706) (by rw [q18]; rfl) (by decide) ?_
        exact case_18 l G C hX hbl hbA (nI (5 * k)) v1 v2 v3 v4 hcs a va da ia ta na oa ga wa ma H locs ls hW hS hl KK
      by_cases q19 : z = 19
      · refine lv_tableIn (tgt := 761) hx hb dL_law_32 (by rw [q19]; decide) (by rw [q19]; decide) (off := 729) (by rw [q19]; rfl) (by decide) ?_
        exact case_19 l G C hX hbl hbA (nI (5 * k)) v1 v2 v3 v4 hcs a va da ia ta na oa ga wa ma H locs ls hW hS hl KK
      by_cases q20 : z = 20
      · refine lv_tableIn (tgt := 804) hx hb dL_law_32 (by rw [q20]; decide) (by rw [q20]; decide) (off := 772) (by rw [q20]; rfl) (by decide) ?_
        exact case_20 l G C hX hbl hbA (nI (5 * k)) v1 v2 v3 v4 hcs a va da ia ta na oa ga wa ma H locs ls hW hS hl KK
      by_cases q21 : z = 21
      · refine lv_tableIn (tgt := 817) hx hb dL_law_32 (by rw [q21]; decide) (by rw [q21]; decide) (off := 785) (by rw [q21]; rfl) (by decide) ?_
        exact case_21 l G C hX hbl hbA (nI (5 * k)) v1 v2 v3 v4 hcs a va da ia ta na oa ga wa ma H locs ls hW hS hl KK
      by_cases q22 : z = 22
      · refine lv_tableIn (tgt := 840) hx hb dL_law_32 (by rw [q22]; decide) (by rw [q22]; decide) (off := 808) (by rw [q22]; rfl) (by decide) ?_
        exact case_22 l G C hX hbl hbA (nI (5 * k)) v1 v2 v3 v4 hcs a va da ia ta na oa ga wa ma H locs ls hW hS hl KK
      by_cases q23 : z = 23
      · refine lv_tableIn (tgt := 853) hx hb dL_law_32 (by rw [q23]; decide) (by rw [q23]; decide) (off := 821) (by rw [q23]; rfl) (by decide) ?_
        exact case_23 l G C hX hbl hbA (nI (5 * k)) v1 v2 v3 v4 hcs a va da ia ta na oa ga wa ma H locs ls hW hS hl KK
      by_cases q24 : z = 24
      · refine lv_tableIn (tgt := 896) hx hb dL_law_32 (by rw [q24]; decide) (by rw [q24]; decide) (off := 864) (by rw [q24]; rfl) (by decide) ?_
        exact case_24 l G C hX hbl hbA (nI (5 * k)) v1 v2 v3 v4 hcs a va da ia ta na oa ga wa ma H locs ls hW hS hl KK
      by_cases q25 : z = 25
      · refine lv_tableIn (tgt := 939) hx hb dL_law_32 (by rw [q25]; decide) (by rw [q25]; decide) (off := 907) (by rw [q25]; rfl) (by decide) ?_
        exact case_25 l G C hX hbl hbA (nI (5 * k)) v1 v2 v3 v4 hcs a va da ia ta na oa ga wa ma H locs ls hW hS hl KK
      by_cases q26 : z = 26
      · refine lv_tableIn (tgt := 962) hx hb dL_law_32 (by rw [q26]; decide) (by rw [q26]; decide) (off := 930) (by rw [q26]; rfl) (by decide) ?_
        exact case_26 l G C hX hbl hbA (nI (5 * k)) v1 v2 v3 v4 hcs a va da ia ta na oa ga wa ma H locs ls hW hS hl KK
      by_cases q27 : z = 27
      · refine lv_tableIn (tgt := 985) hx hb dL_law_32 (by rw [q27]; decide) (by rw [q27]; decide) (off := 953) (by rw [q27]; rfl) (by decide) ?_
        exact case_27 l G C hX hbl hbA (nI (5 * k)) v1 v2 v3 v4 hcs a va da ia ta na oa ga wa ma H locs ls hW hS hl KK
      by_cases q28 : z = 28
      · refine lv_tableIn (tgt := 1008) hx hb dL_law_32 (by rw [q28]; decide) (by rw [q28]; decide) (off := 976) (by rw [q28]; rfl) (by decide) ?_
        exact case_28 l G C hX hbl hbA (nI (5 * k)) v1 v2 v3 v4 hcs a va da ia ta na oa ga wa ma H locs ls hW hS hl KK
      by_cases q29 : z = 29
      · refine lv_tableIn (tgt := 1031) hx hb dL_law_32 (by rw [q29]; decide) (by rw [q29]; decide) (off := 999) (by rw [q29]; rfl) (by decide) ?_
        exact case_29 l G C hX hbl hbA (nI (5 * k)) v1 v2 v3 v4 hcs a va da ia ta na oa ga wa ma H locs ls hW hS hl KK
      refine lv_tableOut (tgt := 1045) hx hb dL_law_32 (by have r0 := lv_neT q0 (a := 0) rfl; have r1 := lv_neT q1 (a := 1) rfl; have r2 := lv_neT q2 (a := 2) rfl; have r3 := lv_neT q3 (a := 3) rfl; have r4 := lv_neT q4 (a := 4) rfl; have r5 := lv_neT q5 (a := 5) rfl; have r6 := lv_neT q6 (a := 6) rfl; have r7 := lv_neT q7 (a := 7) rfl; have r8 := lv_neT q8 (a := 8) rfl; have r9 := lv_neT q9 (a := 9) rfl; have r10 := lv_neT q10 (a := 10) rfl; have r11 := lv_neT q11 (a := 11) rfl; have r12 := lv_neT q12 (a := 12) rfl; have r13 := lv_neT q13 (a := 13) rfl; have r14 := lv_neT q14 (a := 14) rfl; have r15 := lv_neT q15 (a := 15) rfl; have r16 := lv_neT q16 (a := 16) rfl; have r17 := lv_neT q17 (a := 17) rfl; have r18 := lv_neT q18 (a := 18) rfl; have r19 := lv_neT q19 (a := 19) rfl; have r20 := lv_neT q20 (a := 20) rfl; have r21 := lv_neT q21 (a := 21) rfl; have r22 := lv_neT q22 (a := 22) rfl; have r23 := lv_neT q23 (a := 23) rfl; have r24 := lv_neT q24 (a := 24) rfl; have r25 := lv_neT q25 (a := 25) rfl; have r26 := lv_neT q26 (a := 26) rfl; have r27 := lv_neT q27 (a := 27) rfl; have r28 := lv_neT q28 (a := 28) rfl; have r29 := lv_neT q29 (a := 29) rfl; omega) (by decide) ?_
      exact W.widen (by omega) (by omega) (KK H locs hW hS)
