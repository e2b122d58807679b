/-! THE CALLS that ask of the valley run -/
theorem side (p : Int32) : (fX6_isSide p = some 0 ∧ fX7_in p 0 1 = some 0) ∨ ((p = 0 ∨ p = 1) ∧ fX6_isSide p = some 1 ∧ fX7_in p 0 1 = some 1) := by
  rcases rngx (N := 2) (by decide) (by decide) p with h | ⟨h3, h4, h5, -⟩ | ⟨j, hj, rfl, h3, h4, h5, -⟩
  · left
    refine ⟨?_, by unfold fX7_in; rw [if_pos h]⟩
    unfold fX6_isSide
    rw [if_neg (fun e => by subst e; exact absurd h (by decide)), if_neg (fun e => by subst e; exact absurd h (by decide))]
  · left
    refine ⟨?_, by unfold fX7_in; rw [if_neg h3, if_pos (show (1 : Int32) < p from h4)]⟩
    unfold fX6_isSide
    rw [if_neg (fun e => by subst e; exact absurd h4 (by decide)), if_neg (fun e => by subst e; exact absurd h4 (by decide))]
  · right
    rcases (show j = 0 ∨ j = 1 by omega) with rfl | rfl
    · exact ⟨Or.inl rfl, rfl, rfl⟩
    · exact ⟨Or.inr rfl, rfl, rfl⟩
theorem inm {k : Nat} (hk : k < 2 ^ 30) (p : Int32) : (p < 0 ∧ fX7_in p 0 (nI k - 1) = some 0) ∨ (¬ p < 0 ∧ nI k ≤ p ∧ fX7_in p 0 (nI k - 1) = some 0) ∨ ∃ j, j < k ∧ p = nI j ∧ ¬ p < 0 ∧ ¬ nI k ≤ p ∧ fX7_in p 0 (nI k - 1) = some 1 := by
  by_cases k0 : k = 0
  · subst k0
    by_cases h : p < 0
    · exact Or.inl ⟨h, by unfold fX7_in; rw [if_pos h]⟩
    · refine Or.inr (Or.inl ⟨h, ?_, ?_⟩)
      · exact fa_of_nlt h
      · unfold fX7_in
        rw [if_neg h, if_pos]
        have h1 := (fa_le _ _).mp (fa_of_nlt h)
        refine (fa_lt _ _).mpr ?_
        have : (nI 0 - 1).toInt = -1 := by decide
        have hz : (0 : Int32).toInt = 0 := rfl
        omega
  · have e1 : nI k - 1 = nI (k - 1) := by
      have := nI_pred (k - 1)
      rwa [Nat.sub_add_cancel (by omega)] at this
    rw [e1]
    rcases rngx (N := k) (by omega) hk p with h | ⟨h3, h4, h5, h6⟩ | ⟨j, hj, rfl, h3, h4, h5, h6⟩
    · exact Or.inl ⟨h, by unfold fX7_in; rw [if_pos h]⟩
    · exact Or.inr (Or.inl ⟨h3, h6, by unfold fX7_in; rw [if_neg h3, if_pos h4]⟩)
    · exact Or.inr (Or.inr ⟨j, hj, rfl, h3, h6, by unfold fX7_in; rw [if_neg h3, if_neg h5]⟩)
theorem P_rang {vi wo ne sg : Int32} {te fr ro he sh wb wv nv nw ns si bk : Nat → Int32} (hR : RV vi wo ne sg te fr ro he sh wb wv nv nw ns si bk) {rb rn rf : Int32} {q : Nat → Int32} (hc : RC rb rn rf q) (du ru ti la mdu mru : Nat → Int32) (p0 p1 : Int32) :
    ∃ ox om, fX6_rang rb rn rf vi ne te fr ro he sh nv nw ns du ru ti la p0 p1 = some ox ∧ fX7_rang bk q mdu mru p0 p1 = some om ∧ ox.1 = om.1 ∧ RC ox.2.1 ox.2.2.1 ox.2.2.2.1 om.2.1 := by
  obtain ⟨n, w, k, g, hN, rfl, rfl, rfl, rfl, hV, hB⟩ := id hR
  have hk : k ≤ 12 := hN.2.2.2.1
  obtain ⟨b2, n2, f2, q2, k1, k2, k3⟩ := bad_ok hc
  unfold fX6_rang fX7_rang
  rw [rdB2, bind_some', hB.1.2.2.1]
  rcases inm (k := k) (by omega) p0 with ⟨h1, h2⟩ | ⟨h0, h1, h2⟩ | ⟨j, hj, rfl, h0, h1, h2⟩
  · exact ⟨(-2, b2, n2, f2, du, ru, ti, la), (-2, q2, mdu, mru), by rw [if_pos h1, k1]; rfl, by rw [h2, k2]; rfl, rfl, k3⟩
  · exact ⟨(-2, b2, n2, f2, du, ru, ti, la), (-2, q2, mdu, mru), by rw [if_neg h0, if_pos h1, k1]; rfl, by rw [h2, k2]; rfl, rfl, k3⟩
  rw [if_neg h0, if_neg h1, h2]
  rcases side p1 with ⟨s1, s2⟩ | ⟨hp, s1, s2⟩
  · exact ⟨(-2, b2, n2, f2, du, ru, ti, la), (-2, q2, mdu, mru), by rw [s1, k1]; rfl, by rw [s2, k2]; rfl, rfl, k3⟩
  obtain ⟨du', ru', ti', la', g1, g2, g3, g4⟩ := go_ok hN hV hB du ru ti la
  obtain ⟨mdu', mru', m1, m2⟩ := runs_ok hN hV hB mdu mru
  have e := PhR_one g2 m2 j hj
  rw [s1, s2, g1, m1]
  simp only [bind_some', if_neg (show ¬ (1 : Int32) = 0 by decide)]
  rcases hp with rfl | rfl
  · refine ⟨(du' j, rb, rn, rf, du', ru', ti', la'), (mdu' j, q, mdu', mru'), ?_, ?_, e.1, hc⟩
    · rw [if_pos rfl, rdI_n (by omega) (by decide), bind_some']
    · rw [if_pos rfl, rdI_n (by omega) (by decide), bind_some']
  · refine ⟨(ru' j, rb, rn, rf, du', ru', ti', la'), (mru' j, q, mdu', mru'), ?_, ?_, e.2, hc⟩
    · rw [if_neg (by decide), rdI_n (by omega) (by decide), bind_some']
    · rw [if_neg (by decide), rdI_n (by omega) (by decide), bind_some']
theorem P_favours {vi wo ne sg : Int32} {te fr ro he sh wb wv nv nw ns si bk : Nat → Int32} (hR : RV vi wo ne sg te fr ro he sh wb wv nv nw ns si bk) {rb rn rf : Int32} {q : Nat → Int32} (hc : RC rb rn rf q) (du ru ti la mdu mru : Nat → Int32) (p0 p1 : Int32) :
    (∃ ox om, fX6_favours rb rn rf vi ne te fr ro he sh nv nw ns du ru ti la p0 p1 = some ox ∧ fX7_favours bk q mdu mru p0 p1 = some om ∧ ox.1 = om.1 ∧ RC ox.2.1 ox.2.2.1 ox.2.2.2.1 om.2.1) ∧
    (∃ ox om, fX6_last rb rn rf vi ne te fr ro he sh nv nw ns du ru ti la p0 p1 = some ox ∧ fX7_last bk q mdu mru p0 p1 = some om ∧ ox.1 = om.1 ∧ RC ox.2.1 ox.2.2.1 ox.2.2.2.1 om.2.1) := by
  obtain ⟨n, w, k, g, hN, rfl, rfl, rfl, rfl, hV, hB⟩ := id hR
  have hn6 : n ≤ 6 := hN.2.1
  have hk : k ≤ 12 := hN.2.2.2.1
  have hb0 : bk 0 = nI n := hB.1.1
  have hn0 : 0 < n := Nat.lt_of_lt_of_le (by decide) hN.1
  obtain ⟨b2, n2, f2, q2, k1, k2, k3⟩ := bad_ok hc
  have bad : fX3_areTwo (nI n) p0 p1 = some 0 → fX7_isTwo bk p0 p1 = some 0 → (∃ ox om, fX6_favours rb rn rf (nI n) (nI k) te fr ro he sh nv nw ns du ru ti la p0 p1 = some ox ∧ fX7_favours bk q mdu mru p0 p1 = some om ∧ ox.1 = om.1 ∧ RC ox.2.1 ox.2.2.1 ox.2.2.2.1 om.2.1) ∧
    (∃ ox om, fX6_last rb rn rf (nI n) (nI k) te fr ro he sh nv nw ns du ru ti la p0 p1 = some ox ∧ fX7_last bk q mdu mru p0 p1 = some om ∧ ox.1 = om.1 ∧ RC ox.2.1 ox.2.2.1 ox.2.2.2.1 om.2.1) := by
    intro h1 h2
    unfold fX6_favours fX7_favours fX6_last fX7_last
    rw [h1, h2, k1, k2]
    exact ⟨⟨(-2, b2, n2, f2, du, ru, ti, la), (-2, q2, mdu, mru), rfl, rfl, rfl, k3⟩, ⟨(-2, b2, n2, f2, du, ru, ti, la), (-2, q2, mdu, mru), rfl, rfl, rfl, k3⟩⟩
  rcases vil (n := n) (by omega) hn0 p0 with ⟨h1, h2⟩ | ⟨a, ha, rfl, h1, h2⟩
  · exact bad (by unfold fX3_areTwo; rw [h1]; rfl) (by unfold fX7_isTwo; rw [h2 bk hb0]; rfl)
  rcases vil (n := n) (by omega) hn0 p1 with ⟨h3, h4⟩ | ⟨b, hb, rfl, h3, h4⟩
  · exact bad (by unfold fX3_areTwo; rw [h1, h3]; rfl) (by unfold fX7_isTwo; rw [h2 bk hb0, h4 bk hb0]; rfl)
  by_cases e : a = b
  · subst e
    exact bad (by unfold fX3_areTwo; rw [h1]; simp) (by unfold fX7_isTwo; rw [h2 bk hb0]; simp)
  have hne : ¬ nI a = nI b := fun q => e ((nI_eq (by omega) (by omega)).mp q)
  have t1 : fX3_areTwo (nI n) (nI a) (nI b) = some 1 := by unfold fX3_areTwo; rw [h1, h3]; simp [hne]
  have t2 : fX7_isTwo bk (nI a) (nI b) = some 1 := by unfold fX7_isTwo; rw [h2 bk hb0, h4 bk hb0]; simp [hne]
  obtain ⟨du', ru', ti', la', g1, g2, g3, g4⟩ := go_ok hN hV hB du ru ti la
  obtain ⟨mdu', mru', m1, m2⟩ := runs_ok hN hV hB mdu mru
  have eq := PhR_one g2 m2
  unfold fX6_favours fX7_favours fX6_last fX7_last
  rw [t1, t2, g1, m1]
  simp only [bind_some', if_neg (show ¬ (1 : Int32) = 0 by decide)]
  rw [rdB2, bind_some', bind_some', hB.1.2.2.1, rangAhead_ok hN hB mru' (by omega) (Nat.le_refl k), bind_some', lastAhead_ok hN hB mdu' mru' (by omega) (Nat.le_refl k), bind_some', pair_ok, bind_some', bind_some', rdI_n (by omega) (by decide), rdI_n (by omega) (by decide), bind_some', bind_some']
  refine ⟨⟨_, _, rfl, rfl, ?_, hc⟩, ⟨_, _, rfl, rfl, ?_, hc⟩⟩
  · show ti' (6 * a + b) = nI (cntR nv mru' a b k)
    rw [g3 a b ha hb, cntR_cong (fun j hj => (eq j hj).2)]
  · show la' (6 * a + b) = lasR nv mdu' mru' a b k
    rw [g4 a b ha hb, lasR_cong eq]
def helC (nv ru : Nat → Int32) (p : Int32) : Nat → Nat
  | 0 => 0
  | j + 1 => helC nv ru p j + (if (p = -1 ∨ nv j = p) ∧ ¬ ru j = 0 then 1 else 0)
theorem helC_cong {nv ru ru' : Nat → Int32} {p : Int32} : ∀ {i : Nat}, (∀ j, j < i → ru j = ru' j) → helC nv ru p i = helC nv ru' p i
  | 0, _ => rfl
  | i + 1, h => by
    show helC nv ru p i + _ = helC nv ru' p i + _
    rw [helC_cong (fun j hj => h j (by omega)), h i (by omega)]
theorem P_helped {vi wo ne sg : Int32} {te fr ro he sh wb wv nv nw ns si bk : Nat → Int32} (hR : RV vi wo ne sg te fr ro he sh wb wv nv nw ns si bk) {rb rn rf : Int32} {q : Nat → Int32} (hc : RC rb rn rf q) (du ru ti la mdu mru : Nat → Int32) (p0 : Int32) :
    ∃ ox om, fX6_helped rb rn rf vi ne te fr ro he sh nv nw ns du ru ti la p0 = some ox ∧ fX7_helped bk q mdu mru p0 = some om ∧ ox.1 = om.1 ∧ RC ox.2.1 ox.2.2.1 ox.2.2.2.1 om.2.1 := by
  obtain ⟨n, w, k, g, hN, rfl, rfl, rfl, rfl, hV, hB⟩ := id hR
  have hn6 : n ≤ 6 := hN.2.1
  have hk : k ≤ 12 := hN.2.2.2.1
  have hb0 : bk 0 = nI n := hB.1.1
  have hn0 : 0 < n := Nat.lt_of_lt_of_le (by decide) hN.1
  obtain ⟨b2, n2, f2, q2, k1, k2, k3⟩ := bad_ok hc
  obtain ⟨du', ru', ti', la', g1, g2, g3, g4⟩ := go_ok hN hV hB du ru ti la
  obtain ⟨mdu', mru', m1, m2⟩ := runs_ok hN hV hB mdu mru
  have eq := PhR_one g2 m2
  have xh : fX4_needsHelped ru' (nI k) nv p0 = some (nI (helC nv ru' p0 k)) := by
    unfold fX4_needsHelped
    exact forR (fun m j (s : Int32) => fX4_needsHelped_5 p0 ru' (nI k) nv (fun z _ => some z) m s j) k (fun j s => s = nI (helC nv ru' p0 j)) _
      (fun m s hI => by
        show fX4_needsHelped_5 _ _ _ _ _ (m + 1) s (nI k) = _
        rw [fX4_needsHelped_5, if_pos (nI_le (Nat.le_refl k) (by omega)), hI])
      (fun m j s hj hI => Or.inr (by
        refine ⟨_, rfl, ?_⟩
        show fX4_needsHelped_5 _ _ _ _ _ (m + 1) s (nI j) = _
        rw [fX4_needsHelped_5, if_neg (nI_ge hj (by omega)), rdI_n (by omega) (by decide), bind_some', rdI_n (by omega) (by decide), bind_some', nI_1, hI, nI_1]
        show _ = fX4_needsHelped_5 _ _ _ _ _ m (nI (helC nv ru' p0 j + (if (p0 = -1 ∨ nv j = p0) ∧ ¬ ru' j = 0 then 1 else 0))) (nI (j + 1))
        by_cases c : p0 = -1 ∨ nv j = p0
        · have e1 : (if p0 = -1 then some 1 else if nv j = p0 then some 1 else some 0 : Option Int32) = some 1 := by
            rcases c with c | c
            · rw [if_pos c]
            · rw [if_pos c]; split <;> rfl
          rw [e1, bind_some', if_neg (by decide)]
          by_cases d : ru' j = 0
          · rw [if_pos d, if_neg (fun h => h.2 d)]; try rfl
          · rw [if_neg d, if_pos ⟨c, d⟩]
        · have e1 : (if p0 = -1 then some 1 else if nv j = p0 then some 1 else some 0 : Option Int32) = some 0 := by
            rw [if_neg (fun h => c (Or.inl h)), if_neg (fun h => c (Or.inr h))]
          rw [e1, bind_some', if_pos rfl, if_neg (fun h => c h.1)]; try rfl))
      fu 0 0 (Nat.zero_le k) (by show k - 0 < 50000; omega) rfl
  have mh : fX7_helped_29 p0 bk (mdu', mru') (fun x _ => some ((x, q, mdu', mru'))) fu 0 0 = some ((nI (helC nv ru' p0 k), q, mdu', mru')) := by
    rw [helC_cong (fun j hj => (eq j hj).2)]
    exact forR (fun m j (s : Int32) => fX7_helped_29 p0 bk (mdu', mru') (fun x _ => some ((x, q, mdu', mru'))) m s j) k (fun j s => s = nI (helC nv mru' p0 j)) _
      (fun m s hI => by
        show fX7_helped_29 _ _ _ _ (m + 1) s (nI k) = _
        rw [fX7_helped_29, rdB2, bind_some', hB.1.2.2.1, if_pos (nI_le (Nat.le_refl k) (by omega)), hI])
      (fun m j s hj hI => Or.inr (by
        refine ⟨_, rfl, ?_⟩
        show fX7_helped_29 _ _ _ _ (m + 1) s (nI j) = _
        have z0 : s + 0 = s := by rw [hI, show (0 : Int32) = nI 0 from rfl, nI_add, Nat.add_zero]
        rw [fX7_helped_29, rdB2, bind_some', hB.1.2.2.1, if_neg (nI_ge hj (by omega)), rdI_n (by omega) (by decide), bind_some', show (62 : Int32) = nI 62 from rfl, nI_add, rdI_n (by omega) (by decide), bind_some', hB.2.2.2.2.2.2.2.1 j hj, z0, nI_1, hI, nI_1]
        show _ = fX7_helped_29 _ _ _ _ m (nI (helC nv mru' p0 j + (if (p0 = -1 ∨ nv j = p0) ∧ ¬ mru' j = 0 then 1 else 0))) (nI (j + 1))
        by_cases d : mru' j = 0
        · rw [if_pos d, if_neg (fun h => h.2 d)]; try rfl
        · rw [if_neg d]
          by_cases c : p0 = -1
          · rw [if_pos c, if_pos ⟨Or.inl c, d⟩]
          · rw [if_neg c]
            by_cases c2 : nv j = p0
            · rw [if_pos c2, if_pos ⟨Or.inr c2, d⟩]
            · rw [if_neg c2, if_neg (fun h => h.1.elim c c2)]; try rfl))
      fu 0 0 (Nat.zero_le k) (by show k - 0 < 50000; omega) rfl
  have e1 : nI n - 1 = nI (n - 1) := by
    have := nI_pred (n - 1)
    rwa [Nat.sub_add_cancel hn0] at this
  unfold fX6_helped fX7_helped
  rw [rdB0, bind_some', hb0, e1, g1, m1]
  by_cases c : p0 = -1
  · subst c
    have i1 : fX7_in (-1) (-1) (nI (n - 1)) = some 1 := by
      unfold fX7_in
      rw [if_neg (by decide), if_neg]
      intro h
      have h1 := (fa_lt _ _).mp h
      rw [nI_toInt (by omega)] at h1
      have : (-1 : Int32).toInt = -1 := rfl
      omega
    refine ⟨(nI (helC nv ru' (-1) k), rb, rn, rf, du', ru', ti', la'), (nI (helC nv ru' (-1) k), q, mdu', mru'), ?_, ?_, rfl, hc⟩
    · rw [if_pos rfl, bind_some', xh, bind_some']
    · rw [i1, bind_some', if_neg (by decide), bind_some']
      exact mh
  · rw [if_neg c]
    rcases rngx (N := n) hn0 (by omega) p0 with h | ⟨h3, h4, h5, h6⟩ | ⟨j, hj, rfl, h3, h4, h5, h6⟩
    · have i1 : fX7_in p0 (-1) (nI (n - 1)) = some 0 := by
        unfold fX7_in
        rw [if_pos]
        refine (fa_lt _ _).mpr ?_
        have h1 := (fa_lt _ _).mp h
        have hz : (0 : Int32).toInt = 0 := rfl
        have hm : (-1 : Int32).toInt = -1 := rfl
        have hne : p0.toInt ≠ -1 := fun e => c (Int32.toInt_inj.mp (by rw [e, hm]))
        omega
      exact ⟨(-2, b2, n2, f2, du, ru, ti, la), (-2, q2, mdu, mru), by unfold fX3_isVillage; rw [if_pos h, bind_some', if_pos rfl, k1]; rfl, by rw [i1, bind_some', if_pos rfl, k2]; rfl, rfl, k3⟩
    · have i1 : fX7_in p0 (-1) (nI (n - 1)) = some 0 := by
        unfold fX7_in
        by_cases d : p0 < -1
        · rw [if_pos d]
        · rw [if_neg d, if_pos h4]
      exact ⟨(-2, b2, n2, f2, du, ru, ti, la), (-2, q2, mdu, mru), by unfold fX3_isVillage; rw [if_neg h3, if_pos h6, bind_some', if_pos rfl, k1]; rfl, by rw [i1, bind_some', if_pos rfl, k2]; rfl, rfl, k3⟩
    · have i1 : fX7_in (nI j) (-1) (nI (n - 1)) = some 1 := by
        unfold fX7_in
        rw [if_neg, if_neg h5]
        intro h
        have h1 := (fa_lt _ _).mp h
        rw [nI_toInt (by omega)] at h1
        have : (-1 : Int32).toInt = -1 := rfl
        omega
      refine ⟨(nI (helC nv ru' (nI j) k), rb, rn, rf, du', ru', ti', la'), (nI (helC nv ru' (nI j) k), q, mdu', mru'), ?_, ?_, rfl, hc⟩
      · unfold fX3_isVillage
        rw [if_neg h3, if_neg h6, bind_some', if_neg (by decide), bind_some', xh, bind_some']
      · rw [i1, bind_some', if_neg (by decide), bind_some']
        exact mh
