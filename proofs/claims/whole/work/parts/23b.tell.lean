theorem T_temper {vi wo ne sg : Int32} {te fr ro he sh wb wv nv nw ns si bk : Nat → Int32} (hR : RV vi wo ne sg te fr ro he sh wb wv nv nw ns si bk) (p0 p1 : Int32) :
    ∃ r te' bk', fX3_setTemper vi te p0 p1 = some (r, te') ∧ fX7_tellsTemper bk p0 p1 = some (r, bk') ∧ okR r ∧ RV vi wo ne sg te' fr ro he sh wb wv nv nw ns si bk' := by
  obtain ⟨n, w, k, g, hN, rfl, rfl, rfl, rfl, hV, hB⟩ := id hR
  have hn6 : n ≤ 6 := hN.2.1
  have hb0 : bk 0 = nI n := hB.1.1
  have hn0 : 0 < n := Nat.lt_of_lt_of_le (by decide) hN.1
  unfold fX3_setTemper fX7_tellsTemper
  rcases vil (n := n) (by omega) hn0 p0 with ⟨h1, h2⟩ | ⟨v, hv, rfl, h1, h2⟩
  · exact ⟨-2, te, bk, by rw [h1]; rfl, by rw [h2 bk hb0]; rfl, Or.inr (Or.inl rfl), hR⟩
  rw [h1, h2 bk hb0]
  simp only [bind_some', if_neg (show ¬ (1 : Int32) = 0 by decide)]
  rcases rngx (N := 6) (by decide) (by decide) p1 with h | ⟨h3, h4, h5, -⟩ | ⟨j, hj, rfl, h3, h4, h5, -⟩
  · refine ⟨-2, te, bk, by rw [if_pos h], ?_, Or.inr (Or.inl rfl), hR⟩
    unfold fX7_in; rw [if_pos h]; rfl
  · refine ⟨-2, te, bk, by rw [if_neg h3, if_neg (show ¬ p1 ≤ 5 from h5)], ?_, Or.inr (Or.inl rfl), hR⟩
    unfold fX7_in; rw [if_neg h3, if_pos (show 5 < p1 from h4)]; rfl
  · obtain ⟨q, hq, eq⟩ := hV.1 v hv
    refine ⟨te v, upd te v (nI j), upd bk (4 + v) (nI j), ?_, ?_, by rw [eq]; exact okR_n (by omega), ?_⟩
    · rw [if_neg h3, if_pos (show nI j ≤ 5 from h4), rdI_n (by omega) (by decide), bind_some', wrI_n (by omega) (by decide), bind_some']
    · unfold fX7_in fX7_becomes
      rw [if_neg h3, if_neg (show ¬ 5 < nI j from h5)]
      simp only [bind_some', if_neg (show ¬ (1 : Int32) = 0 by decide)]
      rw [show (4 : Int32) = nI 4 from rfl, nI_add, rdI_n (by omega) (by decide), bind_some', wrI_n (by omega) (by decide), bind_some', bind_some', hB.2.1 v hv]
    · obtain ⟨va, vb⟩ := hV
      refine ⟨n, w, k, g, hN, rfl, rfl, rfl, rfl, ⟨?_, vb⟩, BK_te hN hB hv _⟩
      intro u hu
      by_cases e : u = v
      · subst e; exact ⟨j, hj, upd_at⟩
      · rw [upd_ne e]; exact va u hu
theorem T_friend {vi wo ne sg : Int32} {te fr ro he sh wb wv nv nw ns si bk : Nat → Int32} (hR : RV vi wo ne sg te fr ro he sh wb wv nv nw ns si bk) (p0 p1 : Int32) :
    ∃ r fr' bk', fX3_setFriend vi fr p0 p1 = some (r, fr') ∧ fX7_tellsFriend bk p0 p1 = some (r, bk') ∧ okR r ∧ RV vi wo ne sg te fr' ro he sh wb wv nv nw ns si bk' := by
  obtain ⟨n, w, k, g, hN, rfl, rfl, rfl, rfl, hV, hB⟩ := id hR
  have hn6 : n ≤ 6 := hN.2.1
  have hb0 : bk 0 = nI n := hB.1.1
  have hn0 : 0 < n := Nat.lt_of_lt_of_le (by decide) hN.1
  unfold fX3_setFriend fX7_tellsFriend
  rcases vil (n := n) (by omega) hn0 p0 with ⟨h1, h2⟩ | ⟨v, hv, rfl, h1, h2⟩
  · exact ⟨-2, fr, bk, by rw [h1]; rfl, by rw [h2 bk hb0]; rfl, Or.inr (Or.inl rfl), hR⟩
  rcases vil (n := n) (by omega) hn0 p1 with ⟨h3, h4⟩ | ⟨j, hj, rfl, h3, h4⟩
  · exact ⟨-2, fr, bk, by rw [h1, h3]; rfl, by rw [h2 bk hb0, h4 bk hb0]; rfl, Or.inr (Or.inl rfl), hR⟩
  rw [h1, h2 bk hb0, h3, h4 bk hb0]
  simp only [bind_some', if_neg (show ¬ (1 : Int32) = 0 by decide)]
  obtain ⟨q, hq, eq⟩ := hV.2.1 v hv
  refine ⟨fr v, upd fr v (nI j), upd bk (10 + v) (nI j), ?_, ?_, by rw [eq]; exact okR_n (by omega), ?_⟩
  · rw [rdI_n (by omega) (by decide), bind_some', wrI_n (by omega) (by decide), bind_some']
  · unfold fX7_becomes
    rw [show (10 : Int32) = nI 10 from rfl, nI_add, rdI_n (by omega) (by decide), bind_some', wrI_n (by omega) (by decide), bind_some', bind_some', hB.2.2.1 v hv]
  · obtain ⟨va, vb, vc⟩ := hV
    refine ⟨n, w, k, g, hN, rfl, rfl, rfl, rfl, ⟨va, ?_, vc⟩, BK_fr hN hB hv _⟩
    intro u hu
    by_cases e : u = v
    · subst e; exact ⟨j, hj, upd_at⟩
    · rw [upd_ne e]; exact vb u hu
theorem T_change {vi wo ne sg : Int32} {te fr ro he sh wb wv nv nw ns si bk : Nat → Int32} (hR : RV vi wo ne sg te fr ro he sh wb wv nv nw ns si bk) (p0 p1 : Int32) {rb rn rf : Int32} {q : Nat → Int32} (hc : RC rb rn rf q) :
    ∃ r b2 n2 f2 q2 ro' bk' , fX3_changeRopes vi ro p0 p1 = some (r, ro') ∧ fX6_counted rb rn rf r = some (r, b2, n2, f2) ∧ fX7_change bk q p0 p1 = some (r, bk', q2) ∧ RC b2 n2 f2 q2 ∧ RV vi wo ne sg te fr ro' he sh wb wv nv nw ns si bk' := by
  obtain ⟨n, w, k, g, hN, rfl, rfl, rfl, rfl, hV, hB⟩ := id hR
  have hn6 : n ≤ 6 := hN.2.1
  have hb0 : bk 0 = nI n := hB.1.1
  have hn0 : 0 < n := Nat.lt_of_lt_of_le (by decide) hN.1
  obtain ⟨b2, n2, f2, q2, k1, k2, k3⟩ := bad_ok hc
  unfold fX3_changeRopes fX7_change fX3_areTwo
  rcases vil (n := n) (by omega) hn0 p0 with ⟨h1, h2⟩ | ⟨v, hv, rfl, h1, h2⟩
  · exact ⟨-2, b2, n2, f2, q2, ro, bk, by rw [h1]; rfl, k1, by rw [h2 bk hb0, k2]; rfl, k3, hR⟩
  rcases vil (n := n) (by omega) hn0 p1 with ⟨h3, h4⟩ | ⟨u, hu, rfl, h3, h4⟩
  · exact ⟨-2, b2, n2, f2, q2, ro, bk, by rw [h1, h3]; rfl, k1, by rw [h2 bk hb0, h4 bk hb0, k2]; rfl, k3, hR⟩
  by_cases e : v = u
  · subst e
    exact ⟨-2, b2, n2, f2, q2, ro, bk, by rw [h1]; simp, k1, by rw [h2 bk hb0, k2]; simp, k3, hR⟩
  have hne : ¬ nI v = nI u := fun q => e ((nI_eq (by omega) (by omega)).mp q)
  obtain ⟨b3, n3, f3, q3, k4, k5, k6⟩ := told_counted hc (r := 1) (Or.inl (by decide))
  have hq3 : q3 = q := by
    have : fX7_told q 1 = some (1, q) := rfl
    rw [this] at k5; exact (Prod.mk.inj (Option.some.inj k5)).2.symm
  subst hq3
  refine ⟨1, b3, n3, f3, q3, upd (upd ro v (ro u)) u (ro v), upd (upd bk (16 + v) (ro u)) (16 + u) (ro v), ?_, k4, ?_, k6, ?_⟩
  · rw [h1, h3]
    simp only [bind_some', hne, if_false, if_neg (show ¬ (1 : Int32) = 0 by decide)]
    rw [rdI_n (by omega) (by decide), bind_some', rdI_n (by omega) (by decide), bind_some', wrI_n (by omega) (by decide), bind_some', wrI_n (by omega) (by decide), bind_some']
  · rw [h2 bk hb0, h4 bk hb0]
    simp only [bind_some', hne, if_false, if_neg (show ¬ (1 : Int32) = 0 by decide)]
    unfold fX7_becomes
    rw [show (16 : Int32) = nI 16 from rfl, nI_add, nI_add, rdI_n (by omega) (by decide), bind_some', rdI_n (by omega) (by decide), bind_some', wrI_n (by omega) (by decide), bind_some', bind_some']
    simp only []
    rw [wrI_n (by omega) (by decide), bind_some', hB.2.2.2.1 v hv, hB.2.2.2.1 u hu]
  · obtain ⟨va, vb, v1, v2, vc⟩ := hV
    refine ⟨n, w, k, g, hN, rfl, rfl, rfl, rfl, ⟨va, vb, ?_, ?_, vc⟩, BK_ro hN (BK_ro hN hB hv _) hu _⟩
    · intro b hb
      by_cases c : b = u
      · subst c; rw [upd_at]; exact v1 v hv
      · rw [upd_ne c]
        by_cases d : b = v
        · subst d; rw [upd_at]; exact v1 u hu
        · rw [upd_ne d]; exact v1 b hb
    · intro b c hb hc2 hbc
      have key : ∀ x, upd (upd ro v (ro u)) u (ro v) x = ro (if x = u then v else if x = v then u else x) := by
        intro x
        by_cases d : x = u
        · subst d; rw [upd_at, if_pos rfl]
        · rw [upd_ne d, if_neg d]
          by_cases f : x = v
          · subst f; rw [upd_at, if_pos rfl]
          · rw [upd_ne f, if_neg f]
      rw [key, key] at hbc
      have lt : ∀ x, x < n → (if x = u then v else if x = v then u else x) < n := by
        intro x hx; split
        · exact hv
        · split
          · exact hu
          · exact hx
      have := v2 _ _ (lt b hb) (lt c hc2) hbc
      clear hbc key lt
      split at this <;> split at this <;> (try split at this) <;> (try split at this) <;> omega
theorem shutAt_upd (wb wv : Nat → Int32) (b v w : Nat) (x y : Int32) : ∀ i, i ≤ w → shutAt (upd wb w x) (upd wv w y) b v i = shutAt wb wv b v i
  | 0, _ => rfl
  | i + 1, h => by
    show (shutAt (upd wb w x) (upd wv w y) b v i || (decide (upd wb w x i = nI b) && decide (upd wv w y i = nI v))) = (shutAt wb wv b v i || (decide (wb i = nI b) && decide (wv i = nI v)))
    rw [shutAt_upd wb wv b v w x y i (by omega), upd_ne (by omega), upd_ne (by omega)]
theorem T_wood {vi wo ne sg : Int32} {te fr ro he sh wb wv nv nw ns si bk : Nat → Int32} (hR : RV vi wo ne sg te fr ro he sh wb wv nv nw ns si bk) (p0 p1 : Int32) :
    ∃ r wo' sh' wb' wv' bk', fX3_addWood vi wo sh wb wv p0 p1 = some (r, wo', sh', wb', wv') ∧ fX7_tellsWood bk p0 p1 = some (r, bk') ∧ okR r ∧ RV vi wo' ne sg te fr ro he sh' wb' wv' nv nw ns si bk' := by
  obtain ⟨n, w, k, g, hN, rfl, rfl, rfl, rfl, hV, hB⟩ := id hR
  have hn6 : n ≤ 6 := hN.2.1
  have hw8 : w ≤ 8 := hN.2.2.1
  have hb0 : bk 0 = nI n := hB.1.1
  have hn0 : 0 < n := Nat.lt_of_lt_of_le (by decide) hN.1
  unfold fX3_addWood fX7_tellsWood fX3_areTwo
  rcases vil (n := n) (by omega) hn0 p0 with ⟨h1, h2⟩ | ⟨b, hb, rfl, h1, h2⟩
  · exact ⟨-2, nI w, sh, wb, wv, bk, by rw [h1]; rfl, by rw [h2 bk hb0]; rfl, Or.inr (Or.inl rfl), hR⟩
  rcases vil (n := n) (by omega) hn0 p1 with ⟨h3, h4⟩ | ⟨v, hv, rfl, h3, h4⟩
  · exact ⟨-2, nI w, sh, wb, wv, bk, by rw [h1, h3]; rfl, by rw [h2 bk hb0, h4 bk hb0]; rfl, Or.inr (Or.inl rfl), hR⟩
  by_cases e : b = v
  · subst e
    exact ⟨-2, nI w, sh, wb, wv, bk, by rw [h1]; simp, by rw [h2 bk hb0]; simp, Or.inr (Or.inl rfl), hR⟩
  have hne : ¬ nI b = nI v := fun q => e ((nI_eq (by omega) (by omega)).mp q)
  rw [h1, h3, h2 bk hb0, h4 bk hb0]
  simp only [bind_some', hne, if_false, if_neg (show ¬ (1 : Int32) = 0 by decide)]
  rw [show (1 : Int32) = nI 1 from rfl, rdI_n (n := 104) (f := bk) (j := 1) (by decide) (by decide), bind_some', hB.1.2.1]
  by_cases hw : w = 8
  · subst hw
    refine ⟨-4, nI 8, sh, wb, wv, bk, rfl, ?_, Or.inr (Or.inr (Or.inr rfl)), hR⟩
    rw [if_pos (show nI 8 = 8 from rfl)]
  · have l1 : nI w < 8 := (nI_lt (b := 8) (by omega) (by decide) : nI w < nI 8)
    have l2 : ¬ nI w = 8 := fun q => hw ((nI_eq (a := w) (b := 8) (by omega) (by decide)).mp q)
    have lv : v < 32 := by omega
    refine ⟨nI w, nI (w + 1), upd sh b (sh b ||| (nI 1 <<< (nI v &&& 31))), upd wb w (nI b), upd wv w (nI v), upd (upd (upd bk (46 + w) (nI b)) (54 + w) (nI v)) 1 (nI (w + 1)), ?_, ?_, okR_n (by omega), ?_⟩
    · rw [if_pos l1, wrI_n (by omega) (by decide), bind_some', wrI_n (by omega) (by decide), bind_some', rdI_n (by omega) (by decide), bind_some', wrI_n (by omega) (by decide), bind_some', nI_add]
    · rw [if_neg l2, bind_some', show (46 : Int32) = nI 46 from rfl, nI_add, wrI_n (by omega) (by decide), bind_some', rdI_n (by decide) (by decide), bind_some', upd_ne (by omega), hB.1.2.1, show (54 : Int32) = nI 54 from rfl, nI_add, wrI_n (by omega) (by decide), bind_some', rdI_n (by decide) (by decide), bind_some', upd_ne (by omega), upd_ne (by omega), hB.1.2.1, nI_add, wrI_n (by decide) (by decide), bind_some', rdI_n (by decide) (by decide), bind_some', upd_at, pk_sub (by omega), Nat.add_sub_cancel]
    · obtain ⟨va, vb, v1, v2, v3, v4, v5, v6, vc⟩ := hV
      refine ⟨n, w + 1, k, g, ⟨hN.1, hN.2.1, by omega, hN.2.2.2⟩, rfl, rfl, rfl, rfl, ⟨va, vb, v1, v2, v3, ?_, ?_, ?_, vc⟩, BK_wood hN hB (by omega) _ _⟩
      · intro b' hb'
        have sa : ∀ v', shutAt (upd wb w (nI b)) (upd wv w (nI v)) b' v' (w + 1) = (shutAt wb wv b' v' w || (decide (b = b') && decide (v = v'))) ∨ ¬ v' < n := by
          intro v'
          by_cases hv' : v' < n
          · left
            show (shutAt (upd wb w (nI b)) (upd wv w (nI v)) b' v' w || (decide (upd wb w (nI b) w = nI b') && decide (upd wv w (nI v) w = nI v'))) = _
            rw [shutAt_upd wb wv b' v' w _ _ w (Nat.le_refl w), upd_at, upd_at]
            have e1 : decide (nI b = nI b') = decide (b = b') := by simp only [nI_eq (a := b) (b := b') (by omega) (by omega)]
            have e2 : decide (nI v = nI v') = decide (v = v') := by simp only [nI_eq (a := v) (b := v') (by omega) (by omega)]
            rw [e1, e2]
          · right; exact hv'
        by_cases c : b' = b
        · subst c
          rw [upd_at]
          refine ⟨bel_or (v4 b' hb').1 (bel_one hv (by omega)), fun v' hv' => ?_⟩
          rcases sa v' with s1 | s1
          · rw [s1, b_or, (v4 b' hb').2 v' hv', show (nI 1 : Int32) = 1 from rfl, bt_one lv, decide_eq_true (rfl : b' = b'), Bool.true_and]
            congr 1
            simp only [decide_eq_decide]; exact eq_comm
          · exact absurd hv' s1
        · rw [upd_ne c]
          refine ⟨(v4 b' hb').1, fun v' hv' => ?_⟩
          rcases sa v' with s1 | s1
          · rw [s1, (v4 b' hb').2 v' hv', decide_eq_false (fun q => c q.symm), Bool.false_and, Bool.or_false]
          · exact absurd hv' s1
      · intro i hi
        by_cases c : i = w
        · subst c; exact ⟨b, hb, upd_at⟩
        · rw [upd_ne c]; exact v5 i (by omega)
      · intro i hi
        by_cases c : i = w
        · subst c; exact ⟨v, hv, upd_at⟩
        · rw [upd_ne c]; exact v6 i (by omega)
