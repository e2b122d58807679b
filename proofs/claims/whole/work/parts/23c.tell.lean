theorem bt_nI (j : Nat) {i : Nat} (hi : i < 32) : bt (nI j) i = j.testBit i := by
  unfold bt nI
  have : (Int32.ofNat j).toBitVec = BitVec.ofNat 32 j := rfl
  rw [this, BitVec.getLsbD_ofNat, decide_eq_true hi, Bool.true_and]
theorem bel_nI {j n : Nat} (h : j < 2 ^ n) : bel (nI j) n := by
  intro i hi
  rcases Nat.lt_or_ge i 32 with q | q
  · rw [bt_nI j q]
    exact Nat.testBit_lt_two_pow (Nat.lt_of_lt_of_le h (Nat.pow_le_pow_right (by decide) hi))
  · exact b_big q
theorem shl_n : ∀ n, n ≤ 8 → (1 : Int32) <<< (nI n &&& 31) = nI (2 ^ n) := by decide +kernel
theorem setb {n : Nat} (hn : n ≤ 6) (p : Int32) : (fX3_areBits (nI n) p = some 0 ∧ ∀ bk : Nat → Int32, bk 0 = nI n → fX7_isSet bk p = some 0) ∨ ∃ j, j < 2 ^ n ∧ p = nI j ∧ bel p n ∧ fX3_areBits (nI n) p = some 1 ∧ ∀ bk : Nat → Int32, bk 0 = nI n → fX7_isSet bk p = some 1 := by
  have hp0 : 0 < 2 ^ n := Nat.two_pow_pos n
  have hp1 : 2 ^ n ≤ 2 ^ 6 := Nat.pow_le_pow_right (by decide) hn
  have e1 : nI (2 ^ n) - 1 = nI (2 ^ n - 1) := by
    have := nI_pred (2 ^ n - 1)
    rwa [Nat.sub_add_cancel hp0] at this
  have one : ∀ bk : Nat → Int32, bk 0 = nI n → fX7_isSet bk p = (fX7_in p 0 (nI (2 ^ n - 1))).bind (fun g2 => (zbI g2).bind (fun z3 => some z3)) := by
    intro bk hb
    unfold fX7_isSet
    rw [show (0 : Int32) = nI 0 from rfl, rdI_n (by decide) (by decide), bind_some', hb, shl_n n (by omega), e1]
  unfold fX3_areBits
  rw [shl_n n (by omega)]
  rcases rngx (N := 2 ^ n) hp0 (by omega) p with h | ⟨h3, h4, h5, h6⟩ | ⟨j, hj, rfl, h3, h4, h5, h6⟩
  · refine Or.inl ⟨by rw [if_pos h], fun bk hb => ?_⟩
    rw [one bk hb]; unfold fX7_in; rw [if_pos h]; rfl
  · refine Or.inl ⟨by rw [if_neg h3, if_pos h6], fun bk hb => ?_⟩
    rw [one bk hb]; unfold fX7_in; rw [if_neg h3, if_pos h4]; rfl
  · refine Or.inr ⟨j, hj, rfl, bel_nI hj, by rw [if_neg h3, if_neg h6], fun bk hb => ?_⟩
    rw [one bk hb]; unfold fX7_in; rw [if_neg h3, if_neg h5]; rfl
theorem T_need {vi wo ne sg : Int32} {te fr ro he sh wb wv nv nw ns si bk : Nat → Int32} (hR : RV vi wo ne sg te fr ro he sh wb wv nv nw ns si bk) (p0 p1 p2 : Int32) :
    ∃ r ne' nv' nw' ns' bk', fX3_addNeed vi ne nv nw ns p0 p1 p2 = some (r, ne', nv', nw', ns') ∧ fX7_tellsNeed bk p0 p1 p2 = some (r, bk') ∧ okR r ∧ RV vi wo ne' sg te fr ro he sh wb wv nv' nw' ns' si bk' := by
  obtain ⟨n, w, k, g, hN, rfl, rfl, rfl, rfl, hV, hB⟩ := id hR
  have hn6 : n ≤ 6 := hN.2.1
  have hk12 : k ≤ 12 := hN.2.2.2.1
  have hb0 : bk 0 = nI n := hB.1.1
  have hn0 : 0 < n := Nat.lt_of_lt_of_le (by decide) hN.1
  unfold fX3_addNeed fX7_tellsNeed
  rcases vil (n := n) (by omega) hn0 p0 with ⟨h1, h2⟩ | ⟨v, hv, rfl, h1, h2⟩
  · exact ⟨-2, nI k, nv, nw, ns, bk, by rw [h1]; rfl, by rw [h2 bk hb0]; rfl, Or.inr (Or.inl rfl), hR⟩
  rcases wind p1 with ⟨h5, h6⟩ | ⟨x, hx, rfl, h5, h6⟩
  · exact ⟨-2, nI k, nv, nw, ns, bk, by rw [h1, h5]; rfl, by rw [h2 bk hb0, h6]; rfl, Or.inr (Or.inl rfl), hR⟩
  rcases setb (n := n) hn6 p2 with ⟨h3, h4⟩ | ⟨j, hj, rfl, hbel, h3, h4⟩
  · exact ⟨-2, nI k, nv, nw, ns, bk, by rw [h1, h5, h3]; rfl, by rw [h2 bk hb0, h6, h4 bk hb0]; rfl, Or.inr (Or.inl rfl), hR⟩
  have lv : v < 32 := by omega
  rw [h1, h5, h3, h2 bk hb0, h6, h4 bk hb0, has_eq _ lv]
  simp only [bind_some', if_neg (show ¬ (1 : Int32) = 0 by decide)]
  by_cases c : bt (nI j) v = true
  · refine ⟨-2, nI k, nv, nw, ns, bk, ?_, ?_, Or.inr (Or.inl rfl), hR⟩
    · rw [if_neg (by rw [b01_0, c]; decide)]
    · rw [if_pos ((shr_1 _ lv).mpr c)]
  have c2 : bt (nI j) v = false := by simpa using c
  rw [if_pos (by rw [b01_0]; exact c2), if_neg (fun z => c ((shr_1 _ lv).mp z))]
  rw [show (2 : Int32) = nI 2 from rfl, rdI_n (n := 104) (f := bk) (j := 2) (by decide) (by decide), bind_some', hB.1.2.2.1]
  by_cases hk : k = 12
  · subst hk
    refine ⟨-4, nI 12, nv, nw, ns, bk, rfl, ?_, Or.inr (Or.inr (Or.inr rfl)), hR⟩
    rw [if_pos (show nI 12 = 12 from rfl)]
  · have l1 : nI k < 12 := (nI_lt (b := 12) (by omega) (by decide) : nI k < nI 12)
    have l2 : ¬ nI k = 12 := fun q => hk ((nI_eq (a := k) (b := 12) (by omega) (by decide)).mp q)
    refine ⟨nI k, nI (k + 1), upd nv k (nI v), upd nw k (nI x), upd ns k (nI j), upd (upd (upd (upd bk (62 + k) (nI v)) (74 + k) (nI x)) (86 + k) (nI j)) 2 (nI (k + 1)), ?_, ?_, okR_n (by omega), ?_⟩
    · rw [if_pos l1, wrI_n (by omega) (by decide), bind_some', wrI_n (by omega) (by decide), bind_some', wrI_n (by omega) (by decide), bind_some', nI_1]
    · rw [if_neg l2, bind_some', show (62 : Int32) = nI 62 from rfl, nI_add, wrI_n (by omega) (by decide), bind_some', show (74 : Int32) = nI 74 from rfl, nI_add, wrI_n (by omega) (by decide), bind_some', show (86 : Int32) = nI 86 from rfl, nI_add, wrI_n (by omega) (by decide), bind_some', rdI_n (by decide) (by decide), bind_some', upd_ne (by omega), upd_ne (by omega), upd_ne (by omega), hB.1.2.2.1, nI_1, wrI_n (by decide) (by decide), bind_some']
    · obtain ⟨va, vb, v1, v2, v3, v4, v5, v6, v7, v8, v9, v10⟩ := hV
      refine ⟨n, w, k + 1, g, ⟨hN.1, hN.2.1, hN.2.2.1, by omega, hN.2.2.2.2⟩, rfl, rfl, rfl, rfl, ⟨va, vb, v1, v2, v3, v4, v5, v6, ?_, ?_, ?_, v10⟩, BK_need hN hB (by omega) _ _ _⟩
      · intro i hi
        by_cases c : i = k
        · subst c; exact ⟨v, hv, upd_at⟩
        · rw [upd_ne c]; exact v7 i (by omega)
      · intro i hi
        by_cases c : i = k
        · subst c; exact ⟨x, hx, upd_at⟩
        · rw [upd_ne c]; exact v8 i (by omega)
      · intro i hi
        by_cases c : i = k
        · subst c; rw [upd_at]; exact hbel
        · rw [upd_ne c]; exact v9 i (by omega)
theorem T_undo {vi wo ne sg : Int32} {te fr ro he sh wb wv nv nw ns si bk : Nat → Int32} (hR : RV vi wo ne sg te fr ro he sh wb wv nv nw ns si bk) {rb rn rf : Int32} {q : Nat → Int32} (hc : RC rb rn rf q) :
    ∃ r b2 n2 f2 q2 ne' bk', fX3_dropNeed ne = some (r, ne') ∧ fX6_counted rb rn rf r = some (r, b2, n2, f2) ∧ fX7_undo bk q = some (r, bk', q2) ∧ RC b2 n2 f2 q2 ∧ RV vi wo ne' sg te fr ro he sh wb wv nv nw ns si bk' := by
  obtain ⟨n, w, k, g, hN, rfl, rfl, rfl, rfl, hV, hB⟩ := id hR
  have hk12 : k ≤ 12 := hN.2.2.2.1
  unfold fX3_dropNeed fX7_undo
  rw [show (2 : Int32) = nI 2 from rfl, rdI_n (by decide) (by decide), bind_some', hB.1.2.2.1]
  by_cases hk : k = 0
  · subst hk
    obtain ⟨b2, n2, f2, q2, k1, k2, k3⟩ := told_counted hc (r := -3) (Or.inr (Or.inr (Or.inl rfl)))
    refine ⟨-3, b2, n2, f2, q2, nI 0, bk, by rw [if_neg (by decide)], k1, ?_, k3, hR⟩
    rw [if_pos (show nI 0 = 0 from rfl)]
    have : fX7_refuses q 1 (-3) = fX7_told q (-3) := rfl
    rw [this, k2]; rfl
  · have l1 : 0 < nI k := (nI_lt (a := 0) (by omega) (by omega) : nI 0 < nI k)
    have l2 : ¬ nI k = 0 := nI_ne0 (by omega) (by omega)
    have e1 : nI k - 1 = nI (k - 1) := by
      have := nI_pred (k - 1)
      rwa [Nat.sub_add_cancel (by omega)] at this
    obtain ⟨b2, n2, f2, q2, k1, k2, k3⟩ := told_counted hc (r := nI (k - 1)) (okR_n (by omega))
    have hq : q2 = q := by
      have : fX7_told q (nI (k - 1)) = some (nI (k - 1), q) := by
        unfold fX7_told
        rw [if_pos]
        rcases okR_n (j := k - 1) (by omega) with h | h | h | h
        · exact h
        · exact absurd (nI_pos (n := k - 1) (by omega)) (by rw [h]; decide)
        · exact absurd (nI_pos (n := k - 1) (by omega)) (by rw [h]; decide)
        · exact absurd (nI_pos (n := k - 1) (by omega)) (by rw [h]; decide)
      rw [this] at k2; exact (Prod.mk.inj (Option.some.inj k2)).2.symm
    subst hq
    refine ⟨nI (k - 1), b2, n2, f2, q2, nI (k - 1), upd bk 2 (nI (k - 1)), by rw [if_pos l1, e1], k1, ?_, k3, ?_⟩
    · rw [if_neg l2, bind_some', e1, wrI_n (by decide) (by decide), bind_some', rdI_n (by decide) (by decide), bind_some', upd_at]
    · obtain ⟨va, vb, v1, v2, v3, v4, v5, v6, v7, v8, v9, v10⟩ := hV
      obtain ⟨⟨c0, c1, c2, c3⟩, b2, b3, b4, b5, b6, b7, b8, b9, b10, b11⟩ := hB
      refine ⟨n, w, k - 1, g, ⟨hN.1, hN.2.1, hN.2.2.1, by omega, hN.2.2.2.2⟩, rfl, rfl, rfl, rfl, ⟨va, vb, v1, v2, v3, v4, v5, v6, fun i hi => v7 i (by omega), fun i hi => v8 i (by omega), fun i hi => v9 i (by omega), v10⟩, ⟨⟨?_, ?_, ?_, ?_⟩, ?_, ?_, ?_, ?_, ?_, ?_, ?_, ?_, ?_, ?_⟩⟩
      · rw [upd_ne (by omega)]; exact c0
      · rw [upd_ne (by omega)]; exact c1
      · rw [upd_at]
      · rw [upd_ne (by omega)]; exact c3
      · intro u hu; rw [upd_ne (by omega)]; exact b2 u hu
      · intro u hu; rw [upd_ne (by omega)]; exact b3 u hu
      · intro u hu; rw [upd_ne (by omega)]; exact b4 u hu
      · intro b hb x hx; rw [upd_ne (by omega)]; exact b5 b hb x hx
      · intro u hu; rw [upd_ne (by omega)]; exact b6 u hu
      · intro u hu; rw [upd_ne (by omega)]; exact b7 u hu
      · intro u hu; rw [upd_ne (by omega)]; exact b8 u (by omega)
      · intro u hu; rw [upd_ne (by omega)]; exact b9 u (by omega)
      · intro u hu; rw [upd_ne (by omega)]; exact b10 u (by omega)
      · intro u hu; rw [upd_ne (by omega)]; exact b11 u hu
theorem fill_ok {N : Nat} (hN : N < 40000) (f : Nat → Int32) (v : Int32) : ∃ g, fJ7_fill_53178 N f v = some g ∧ ∀ j, j < N → g j = v := by
  have h := forI (fun n i (s : Nat → Int32) => fJ7_fill_53178_5 v N (fun _ c => some c) n i s) (fun s => some s) N (fun i s => ∀ j, j < i → s j = v)
    (fun n s _ => by
      show fJ7_fill_53178_5 v N (fun _ c => some c) (n + 1) (nI N) s = some s
      rw [fJ7_fill_53178_5, if_pos (show Int32.ofNat N ≤ nI N from nI_le (Nat.le_refl N) (by omega))])
    (fun n i s hi hI => by
      refine ⟨upd s i v, fun j hj => ?_, ?_⟩
      · by_cases c : j = i
        · subst c; exact upd_at
        · rw [upd_ne c]; exact hI j (by omega)
      · show fJ7_fill_53178_5 v N (fun _ c => some c) (n + 1) (nI i) s = _
        rw [fJ7_fill_53178_5, if_neg (show ¬ Int32.ofNat N ≤ nI i from nI_ge hi (by omega)), wrI_n hi (by omega), bind_some', nI_1])
    fu 0 f (Nat.zero_le N) (by show N - 0 < 50000; omega) (fun j hj => absurd hj (Nat.not_lt_zero j))
  obtain ⟨g, h1, h2⟩ := h
  exact ⟨g, h2, h1⟩
theorem settle_no {vi wo ne sg : Int32} {te fr ro he sh : Nat → Int32} {p : Int32} (h : p < 2 ∨ ¬ p ≤ 6) : fX3_settle vi wo ne sg te fr ro he sh p = some (0, vi, wo, ne, sg, te, fr, ro, he, sh) ∧ fX7_in p 2 6 = some 0 := by
  unfold fX3_settle fX7_in
  by_cases c : p < 2
  · exact ⟨by rw [if_pos c], by rw [if_pos c]⟩
  · have h2 : ¬ p ≤ 6 := h.resolve_left c
    exact ⟨by rw [if_neg c, if_neg h2], by rw [if_neg c, if_pos (fa_of_nle h2)]⟩
theorem settle_ok (vi wo ne sg : Int32) (te fr ro he sh : Nat → Int32) {n : Nat} (h1 : 2 ≤ n) (h2 : n ≤ 6) : ∃ te' fr' ro' he' sh', fX3_settle vi wo ne sg te fr ro he sh (nI n) = some (1, nI n, 0, 0, 0, te', fr', ro', he', sh') ∧ (∀ j, j < 6 → te' j = 0) ∧ (∀ j, j < 6 → fr' j = nI j) ∧ (∀ j, j < 6 → ro' j = nI j) ∧ (∀ j, j < 24 → he' j = 0) ∧ ∀ j, j < 6 → sh' j = 0 := by
  obtain ⟨te', a1, a2⟩ := fill_ok (N := 6) (by decide) te 0
  obtain ⟨he', b1, b2⟩ := fill_ok (N := 24) (by decide) he 0
  obtain ⟨sh', c1, c2⟩ := fill_ok (N := 6) (by decide) sh 0
  have h := forI (fun n' i (s : (Nat → Int32) × (Nat → Int32)) => fX3_settle_59 (fun _ f r => some ((1, nI n, 0, 0, 0, te', f, r, he', sh'))) n' i s.1 s.2) (fun s => some ((1, nI n, 0, 0, 0, te', s.1, s.2, he', sh'))) 6 (fun i s => ∀ j, j < i → s.1 j = nI j ∧ s.2 j = nI j)
    (fun m s _ => by
      show fX3_settle_59 _ (m + 1) (nI 6) s.1 s.2 = _
      rw [fX3_settle_59, if_pos (show (6 : Int32) ≤ nI 6 from by decide)])
    (fun m i s hi hI => by
      refine ⟨(upd s.1 i (nI i), upd s.2 i (nI i)), fun j hj => ?_, ?_⟩
      · by_cases c : j = i
        · subst c; exact ⟨upd_at, upd_at⟩
        · show upd s.1 i (nI i) j = nI j ∧ upd s.2 i (nI i) j = nI j
          rw [upd_ne c, upd_ne c]; exact hI j (by omega)
      · show fX3_settle_59 _ (m + 1) (nI i) s.1 s.2 = _
        rw [fX3_settle_59, if_neg (show ¬ (6 : Int32) ≤ nI i from nI_ge (b := 6) hi (by decide)), wrI_n hi (by decide), bind_some', wrI_n hi (by decide), bind_some', nI_1])
    fu 0 (fr, ro) (by decide) (by decide) (fun j hj => absurd hj (Nat.not_lt_zero j))
  obtain ⟨⟨fr', ro'⟩, h3, h4⟩ := h
  refine ⟨te', fr', ro', he', sh', ?_, a2, fun j hj => (h3 j hj).1, fun j hj => (h3 j hj).2, b2, c2⟩
  unfold fX3_settle
  rw [if_neg (show ¬ nI n < 2 from nI_nlt (b := 2) h1 (by omega)), if_pos (show nI n ≤ 6 from nI_le (b := 6) h2 (by decide)), a1, bind_some', b1, bind_some', c1, bind_some']
  exact h4
theorem begins_ok (bk : Nat → Int32) {n : Nat} (h1 : 2 ≤ n) (h2 : n ≤ 6) : ∃ bk', fX7_begins bk (nI n) = some bk' ∧ bk' 0 = nI n ∧ (∀ v, v < n → bk' (10 + v) = nI v ∧ bk' (16 + v) = nI v) ∧ ∀ j, j < 104 → j ≠ 0 → (j < 10 ∨ 22 ≤ j) → bk' j = 0 := by
  have key : ∀ s : Nat → Int32, (∀ j, j < 104 → s j = 0) → ∃ bk', fX7_begins_30 (nI n) (fun _ b => some b) fu 0 (upd s 0 (nI n)) = some bk' ∧ bk' 0 = nI n ∧ (∀ v, v < n → bk' (10 + v) = nI v ∧ bk' (16 + v) = nI v) ∧ ∀ j, j < 104 → j ≠ 0 → (j < 10 ∨ 22 ≤ j) → bk' j = 0 := by
    intro s hs
    have h := forI (fun m i (s : Nat → Int32) => fX7_begins_30 (nI n) (fun _ b => some b) m i s) (fun s => some s) n (fun i s => s 0 = nI n ∧ (∀ v, v < i → s (10 + v) = nI v ∧ s (16 + v) = nI v) ∧ ∀ j, j < 104 → j ≠ 0 → (j < 10 ∨ 22 ≤ j) → s j = 0)
      (fun m s _ => by
        show fX7_begins_30 (nI n) (fun _ b => some b) (m + 1) (nI n) s = _
        rw [fX7_begins_30, if_pos (nI_le (Nat.le_refl n) (by omega))])
      (fun m i s hi hI => by
        obtain ⟨i1, i2, i3⟩ := hI
        refine ⟨upd (upd s (10 + i) (nI i)) (16 + i) (nI i), ⟨?_, ?_, ?_⟩, ?_⟩
        · rw [upd_ne (by omega), upd_ne (by omega)]; exact i1
        · intro v hv
          by_cases c : v = i
          · subst c
            exact ⟨by rw [upd_ne (by omega), upd_at], upd_at⟩
          · rw [upd_ne (by omega), upd_ne (by omega), upd_ne (by omega), upd_ne (by omega)]; exact i2 v (by omega)
        · intro j hj hj0 hz
          rw [upd_ne (by omega), upd_ne (by omega)]; exact i3 j hj hj0 hz
        · show fX7_begins_30 (nI n) (fun _ b => some b) (m + 1) (nI i) s = _
          rw [fX7_begins_30, if_neg (nI_ge hi (by omega)), show (10 : Int32) = nI 10 from rfl, nI_add, wrI_n (by omega) (by decide), bind_some', show (16 : Int32) = nI 16 from rfl, nI_add, wrI_n (by omega) (by decide), bind_some', nI_1])
      fu 0 (upd s 0 (nI n)) (Nat.zero_le n) (by show n - 0 < 50000; omega) ⟨upd_at, fun v hv => absurd hv (Nat.not_lt_zero v), fun j hj hj0 _ => by rw [upd_ne hj0]; exact hs j hj⟩
    obtain ⟨bk', h3, h4⟩ := h
    exact ⟨bk', h4, h3⟩
  have h := forI (fun m i (s : Nat → Int32) => fX7_begins_2 (fun _ b => (wrI 104 b 0 (nI n)).bind (fun u5 => fX7_begins_30 (nI n) (fun _ b => some b) fu 0 u5)) m i s) (fun s => (wrI 104 s 0 (nI n)).bind (fun u5 => fX7_begins_30 (nI n) (fun _ b => some b) fu 0 u5)) 104 (fun i s => ∀ j, j < i → s j = 0)
    (fun m s _ => by
      show fX7_begins_2 _ (m + 1) (nI 104) s = _
      rw [fX7_begins_2, if_pos (show (104 : Int32) ≤ nI 104 from by decide)])
    (fun m i s hi hI => by
      refine ⟨upd s i 0, fun j hj => ?_, ?_⟩
      · by_cases c : j = i
        · subst c; exact upd_at
        · rw [upd_ne c]; exact hI j (by omega)
      · show fX7_begins_2 _ (m + 1) (nI i) s = _
        rw [fX7_begins_2, if_neg (show ¬ (104 : Int32) ≤ nI i from nI_ge (b := 104) hi (by decide)), wrI_n hi (by decide), bind_some', nI_1])
    fu 0 bk (by decide) (by decide) (fun j hj => absurd hj (Nat.not_lt_zero j))
  obtain ⟨s, h3, h4⟩ := h
  obtain ⟨bk', h5, h6⟩ := key s h3
  refine ⟨bk', ?_, h6⟩
  unfold fX7_begins
  refine Eq.trans h4 ?_
  rw [show (0 : Int32) = nI 0 from rfl, wrI_n (by decide) (by decide), bind_some']
  exact h5
/-- a new valley of n villages -/
theorem RV_new {te fr ro he sh bk : Nat → Int32} {n : Nat} (wb wv nv nw ns si : Nat → Int32) (h1 : 2 ≤ n) (h2 : n ≤ 6) (a1 : ∀ j, j < 6 → te j = 0) (a2 : ∀ j, j < 6 → fr j = nI j) (a3 : ∀ j, j < 6 → ro j = nI j) (a4 : ∀ j, j < 24 → he j = 0) (a5 : ∀ j, j < 6 → sh j = 0)
    (b0 : bk 0 = nI n) (b1 : ∀ v, v < n → bk (10 + v) = nI v ∧ bk (16 + v) = nI v) (b2 : ∀ j, j < 104 → j ≠ 0 → (j < 10 ∨ 22 ≤ j) → bk j = 0) : RV (nI n) 0 0 0 te fr ro he sh wb wv nv nw ns si bk := by
  refine ⟨n, 0, 0, 0, ⟨h1, h2, by decide, by decide, by decide⟩, rfl, rfl, rfl, rfl, ⟨?_, ?_, ?_, ?_, ?_, ?_, ?_, ?_, ?_, ?_, ?_, ?_⟩, ⟨⟨b0, b2 1 (by decide) (by decide) (by decide), b2 2 (by decide) (by decide) (by decide), b2 3 (by decide) (by decide) (by decide)⟩, ?_, ?_, ?_, ?_, ?_, ?_, ?_, ?_, ?_, ?_⟩⟩
  · intro v hv; exact ⟨0, by decide, a1 v (by omega)⟩
  · intro v hv; exact ⟨v, hv, a2 v (by omega)⟩
  · intro v hv; exact ⟨v, hv, a3 v (by omega)⟩
  · intro b c hb hc e
    rw [a3 b (by omega), a3 c (by omega)] at e
    exact (nI_eq (by omega) (by omega)).mp e
  · intro b hb x hx; rw [a4 _ (by omega)]; exact bel_0 n
  · intro b hb; rw [a5 b (by omega)]; exact ⟨bel_0 n, fun v _ => b_0 v⟩
  all_goals first
    | (intro i hi; exact absurd hi (Nat.not_lt_zero i))
    | (intro i j hi; exact absurd hi (Nat.not_lt_zero i))
    | skip
  · intro v hv; rw [b2 _ (by omega) (by omega) (by omega), a1 v (by omega)]
  · intro v hv; rw [(b1 v hv).1, a2 v (by omega)]
  · intro v hv; rw [(b1 v hv).2, a3 v (by omega)]
  · intro b hb x hx; rw [b2 _ (by omega) (by omega) (by omega), a4 _ (by omega)]
