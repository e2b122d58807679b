/-! SIGNS, from which bell -/
theorem signOf_no {g : Nat} {si : Nat → Int32} {p : Int32} (hg : g ≤ 6) (h : ∀ i, i < g → ¬ si i = p) : fX3_signOf (nI g) si p = some (-1) := by
  unfold fX3_signOf
  exact forR (fun m i (_ : Unit) => fX3_signOf_2 p (nI g) si (fun _ => some (-1)) m i) g (fun _ _ => True) _
    (fun m s _ => by
      show fX3_signOf_2 _ _ _ _ (m + 1) (nI g) = _
      rw [fX3_signOf_2, if_pos (nI_le (Nat.le_refl g) (by omega))])
    (fun m i s hi _ => Or.inr ⟨(), trivial, by
      show fX3_signOf_2 _ _ _ _ (m + 1) (nI i) = _
      rw [fX3_signOf_2, if_neg (nI_ge hi (by omega)), rdI_n (by omega) (by decide), bind_some', if_neg (h i hi), nI_1]⟩)
    fu 0 () (Nat.zero_le g) (by show g - 0 < 50000; omega) trivial
theorem signOf_yes {g : Nat} {si : Nat → Int32} {p : Int32} {c : Nat} (hg : g ≤ 6) (hc : c < g) (e : si c = p) (h : ∀ i, i < c → ¬ si i = p) : fX3_signOf (nI g) si p = some (nI c) := by
  unfold fX3_signOf
  exact forR (fun m i (_ : Unit) => fX3_signOf_2 p (nI g) si (fun _ => some (-1)) m i) g (fun i _ => i ≤ c) _
    (fun m s hI => absurd hI (by omega))
    (fun m i s hi hI => by
      by_cases d : i = c
      · subst d
        left
        show fX3_signOf_2 _ _ _ _ (m + 1) (nI i) = _
        rw [fX3_signOf_2, if_neg (nI_ge hi (by omega)), rdI_n (by omega) (by decide), bind_some', if_pos e]
      · right
        refine ⟨(), by omega, ?_⟩
        show fX3_signOf_2 _ _ _ _ (m + 1) (nI i) = _
        rw [fX3_signOf_2, if_neg (nI_ge hi (by omega)), rdI_n (by omega) (by decide), bind_some', if_neg (h i (by omega)), nI_1])
    fu 0 () (Nat.zero_le g) (by show g - 0 < 50000; omega) (Nat.zero_le c)
theorem P_sign {vi wo ne sg : Int32} {te fr ro he sh wb wv nv nw ns si bk : Nat → Int32} (hR : RV vi wo ne sg te fr ro he sh wb wv nv nw ns si bk) {rb rn rf : Int32} {q : Nat → Int32} (hc : RC rb rn rf q) (p0 : Int32) :
    ∃ ox om, fX6_sign rb rn rf sg si p0 = some ox ∧ fX7_sign bk q p0 = some om ∧ ox.1 = om.1 ∧ RC ox.2.1 ox.2.2.1 ox.2.2.2.1 om.2.2 ∧ RV vi wo ne ox.2.2.2.2.1 te fr ro he sh wb wv nv nw ns ox.2.2.2.2.2 om.2.1 := by
  obtain ⟨n, w, k, g, hN, rfl, rfl, rfl, rfl, hV, hB⟩ := id hR
  have hg : g ≤ 6 := hN.2.2.2.2
  obtain ⟨b2, n2, f2, q2, k1, k2, k3⟩ := bad_ok hc
  -- the reference's loop
  have loop : ∀ (kx : Int32 → Int32 → Option (Int32 × (Nat → Int32) × (Nat → Int32))) (s : Bool), fX7_sign_11 p0 bk kx fu (b01 s) 0 = kx (b01 (s && decide (∀ i, i < g → ¬ si i = p0))) (nI g) := by
    intro kx s
    exact forR (fun m i (x : Int32) => fX7_sign_11 p0 bk kx m x i) g (fun i x => x = b01 (s && decide (∀ j, j < i → ¬ si j = p0))) _
      (fun m x hI => by
        show fX7_sign_11 _ _ _ (m + 1) x (nI g) = _
        rw [fX7_sign_11, rdB3, bind_some', hB.1.2.2.2, if_pos (nI_le (Nat.le_refl g) (by omega)), hI])
      (fun m i x hi hI => Or.inr (by
        refine ⟨_, rfl, ?_⟩
        show fX7_sign_11 _ _ _ (m + 1) x (nI i) = _
        have e1 : decide (∀ j, j < i + 1 → ¬ si j = p0) = (decide (∀ j, j < i → ¬ si j = p0) && decide (¬ si i = p0)) := by
          rw [← Bool.decide_and]
          refine decide_eq_decide.mpr ⟨fun h => ⟨fun j hj => h j (by omega), h i (by omega)⟩, fun h j hj => ?_⟩
          by_cases d : j = i
          · subst d; exact h.2
          · exact h.1 j (by omega)
        rw [fX7_sign_11, rdB3, bind_some', hB.1.2.2.2, if_neg (nI_ge hi (by omega)), show (98 : Int32) = nI 98 from rfl, nI_add, rdI_n (by omega) (by decide), bind_some', hB.2.2.2.2.2.2.2.2.2.2 i hi, nI_1, hI, e1]
        by_cases c : si i = p0
        · have d2 : decide (¬ si i = p0) = false := decide_eq_false (fun h => h c)
          rw [if_pos c, d2]
          cases s <;> cases decide (∀ j, j < i → ¬ si j = p0) <;> rfl
        · have d2 : decide (¬ si i = p0) = true := decide_eq_true c
          rw [if_neg c, d2]
          cases s <;> cases decide (∀ j, j < i → ¬ si j = p0) <;> rfl))
      fu 0 (b01 s) (Nat.zero_le g) (by show g - 0 < 50000; omega) (by
        rw [decide_eq_true (fun j hj => absurd hj (Nat.not_lt_zero j)), Bool.and_true])
  have bad : fX3_addSign (nI g) si p0 = some (-2, nI g, si) → (∃ s, fX7_in p0 1 255 = some (b01 s) ∧ (s && decide (∀ i, i < g → ¬ si i = p0)) = false) → ∃ ox om, fX6_sign rb rn rf (nI g) si p0 = some ox ∧ fX7_sign bk q p0 = some om ∧ ox.1 = om.1 ∧ RC ox.2.1 ox.2.2.1 ox.2.2.2.1 om.2.2 ∧ RV (nI n) (nI w) (nI k) ox.2.2.2.2.1 te fr ro he sh wb wv nv nw ns ox.2.2.2.2.2 om.2.1 := by
    rintro h1 ⟨s, h2, h3⟩
    refine ⟨(-2, b2, n2, f2, nI g, si), (-2, bk, q2), ?_, ?_, rfl, k3, hR⟩
    · unfold fX6_sign; rw [h1, bind_some', k1, bind_some']
    · unfold fX7_sign; rw [h2, bind_some', loop, h3, if_pos (show b01 false = 0 from rfl), k2, bind_some']
  rcases rngx (N := 256) (by decide) (by decide) p0 with h | ⟨h3, h4, h5, h6⟩ | ⟨j, hj, rfl, h3, h4, h5, -⟩
  · have c : p0 < 1 := (fa_lt _ _).mpr (by have a := (fa_lt _ _).mp h; have b : (0 : Int32).toInt = 0 := rfl; have d : (1 : Int32).toInt = 1 := rfl; omega)
    exact bad (by unfold fX3_addSign; rw [if_pos c]) ⟨false, by unfold fX7_in; rw [if_pos c]; rfl, Bool.false_and _⟩
  · have c : ¬ p0 < 1 := fun h7 => by have a := (fa_lt _ _).mp h7; have b := (fa_le _ _).mp h6; have d : (1 : Int32).toInt = 1 := rfl; have e : (nI 256).toInt = 256 := rfl; omega
    exact bad (by unfold fX3_addSign; rw [if_neg c, if_pos (show 255 < p0 from h4)]) ⟨false, by unfold fX7_in; rw [if_neg c, if_pos (show 255 < p0 from h4)]; rfl, Bool.false_and _⟩
  · by_cases j0 : j = 0
    · subst j0
      exact bad (by unfold fX3_addSign; rw [if_pos (by decide)]) ⟨false, by unfold fX7_in; rw [if_pos (by decide)]; rfl, Bool.false_and _⟩
    have c : ¬ nI j < 1 := nI_nlt (a := j) (b := 1) (by omega) (by omega)
    have i1 : fX7_in (nI j) 1 255 = some (b01 true) := by unfold fX7_in; rw [if_neg c, if_neg (show ¬ 255 < nI j from h5)]; rfl
    by_cases d : ∀ i, i < g → ¬ si i = nI j
    · have s1 := signOf_no (p := nI j) hg d
      by_cases f : g = 6
      · subst f
        obtain ⟨b3, n3, f3, q3, k4, k5, k6⟩ := told_counted hc (r := -4) (Or.inr (Or.inr (Or.inr rfl)))
        have : fX7_refuses q 2 (-4) = fX7_told q (-4) := rfl
        refine ⟨(-4, b3, n3, f3, nI 6, si), (-4, bk, q3), ?_, ?_, rfl, k6, hR⟩
        · unfold fX6_sign fX3_addSign
          rw [if_neg c, if_neg (show ¬ 255 < nI j from h5), s1, bind_some', if_pos rfl, if_neg (by decide), bind_some', k4, bind_some']
        · unfold fX7_sign
          rw [i1, bind_some', loop, decide_eq_true d, if_neg (by decide), rdB3, bind_some', hB.1.2.2.2, if_pos (by decide), this, k5, bind_some']
      · have l1 : nI g < 6 := (nI_lt (b := 6) (by omega) (by decide) : nI g < nI 6)
        have l2 : ¬ nI g = 6 := fun z => f ((nI_eq (a := g) (b := 6) (by omega) (by decide)).mp z)
        refine ⟨(nI g, rb, rn, rf, nI (g + 1), upd si g (nI j)), (nI g, upd (upd bk (98 + g) (nI j)) 3 (nI (g + 1)), q), ?_, ?_, rfl, hc, ?_⟩
        · unfold fX6_sign fX3_addSign
          rw [if_neg c, if_neg (show ¬ 255 < nI j from h5), s1, bind_some', if_pos rfl, if_pos l1, wrI_n (by omega) (by decide), bind_some', bind_some', ok_same (nI31 (by omega)), bind_some', nI_1]
        · unfold fX7_sign
          have e3 : ∀ u : Nat → Int32, wrI 104 u 3 (nI (g + 1)) = some (upd u 3 (nI (g + 1))) := fun u => wrI_n (n := 104) (j := 3) (by decide) (by decide)
          rw [i1, bind_some', loop, decide_eq_true d, if_neg (by decide), rdB3, bind_some', hB.1.2.2.2, if_neg l2, bind_some', show (98 : Int32) = nI 98 from rfl, nI_add, wrI_n (by omega) (by decide), bind_some', rdB3, bind_some', upd_ne (by omega), hB.1.2.2.2, nI_1, e3, bind_some', rdB3, bind_some', upd_at, nI_pred]
        · obtain ⟨va, vb, v1, v2, v3, v4, v5, v6, v7, v8, v9, v10⟩ := hV
          refine ⟨n, w, k, g + 1, ⟨hN.1, hN.2.1, hN.2.2.1, hN.2.2.2.1, by omega⟩, rfl, rfl, rfl, rfl, ⟨va, vb, v1, v2, v3, v4, v5, v6, v7, v8, v9, ?_⟩, BK_sign hN hB (by omega) _⟩
          intro a b ha hb e
          have e : upd si g (nI j) a = upd si g (nI j) b := e
          by_cases x : a = g
          · subst x
            by_cases y : b = a
            · exact y.symm
            · rw [upd_at, upd_ne y] at e
              exact absurd e.symm (d b (by omega))
          · by_cases y : b = g
            · subst y
              rw [upd_at, upd_ne x] at e
              exact absurd e (d a (by omega))
            · rw [upd_ne x, upd_ne y] at e
              exact v10 a b (by omega) (by omega) e
    · have s1 : ∃ c, fX3_signOf (nI g) si (nI j) = some (nI c) := by
        have ex : ∃ i, i < g ∧ si i = nI j := Classical.byContradiction (fun h => d (fun i hi e => h ⟨i, hi, e⟩))
        obtain ⟨i, hi, e, hf⟩ := fb_first (p := fun i => si i = nI j) ex
        exact ⟨i, signOf_yes hg hi e hf⟩
      obtain ⟨i, s1⟩ := s1
      have ni : ¬ nI i = (-1 : Int32) ∨ True := Or.inr trivial
      have s2 : ¬ nI i = -1 := by
        intro e
        have ex : ∃ i, i < g ∧ si i = nI j := Classical.byContradiction (fun h => d (fun i hi e => h ⟨i, hi, e⟩))
        obtain ⟨i', hi', e', hf'⟩ := fb_first (p := fun i => si i = nI j) ex
        have s3 := signOf_yes (p := nI j) hg hi' e' hf'
        rw [s1] at s3
        have s4 := Option.some.inj s3
        rw [s4] at e
        exact absurd (nI_pos (n := i') (by omega)) (by rw [e]; decide)
      exact bad (by unfold fX3_addSign; rw [if_neg c, if_neg (show ¬ 255 < nI j from h5), s1, bind_some', if_neg s2]) ⟨true, i1, by rw [decide_eq_false d]; rfl⟩
theorem come {n w k g : Nat} {te fr ro he wb wv nv nw ns si bk : Nat → Int32} (hN : RN n w k g) (hB : BK n w k g te fr ro he wb wv nv nw ns si bk) (p0 p1 p2 : Int32) : (fX3_canCome (nI n) p0 p1 p2 = some 0 ∧ fX7_isHeard bk p0 p1 p2 = some 0) ∨ ∃ x, x < 4 ∧ p0 = nI x ∧ bel p1 n ∧ bel p2 n ∧ p1 &&& p2 = 0 ∧ fX3_canCome (nI n) p0 p1 p2 = some 1 ∧ fX7_isHeard bk p0 p1 p2 = some 1 := by
  have hn6 : n ≤ 6 := hN.2.1
  have hb0 := hB.1.1
  unfold fX3_canCome fX7_isHeard
  rcases wind p0 with ⟨h1, h2⟩ | ⟨x, hx, rfl, h1, h2⟩
  · left; rw [h1, h2]; exact ⟨rfl, rfl⟩
  rcases setb (n := n) hn6 p1 with ⟨h3, h4⟩ | ⟨j, hj, rfl, hb1, h3, h4⟩
  · left; rw [h1, h2, h3, h4 bk hb0]; exact ⟨rfl, rfl⟩
  rcases setb (n := n) hn6 p2 with ⟨h5, h6⟩ | ⟨i, hi, rfl, hb2, h5, h6⟩
  · left; rw [h1, h2, h3, h4 bk hb0, h5, h6 bk hb0]; exact ⟨rfl, rfl⟩
  rw [h1, h2, h3, h4 bk hb0, h5, h6 bk hb0]
  simp only [bind_some', if_neg (show ¬ (1 : Int32) = 0 by decide)]
  by_cases c : nI j &&& nI i = 0
  · right; rw [if_pos c]; exact ⟨x, hx, rfl, hb1, hb2, c, rfl, rfl⟩
  · left; rw [if_neg c]; exact ⟨rfl, rfl⟩
/-- the bell b is heard in all of yes and in none of not -/
def fitB (he sh : Nat → Int32) (x : Nat) (yes not : Int32) (b : Nat) : Bool := decide (hearD he sh b x &&& yes = yes) && decide (hearD he sh b x &&& not = 0)
theorem bellsFrom_ok {n : Nat} {he sh : Nat → Int32} {x : Nat} (hn : n ≤ 6) (hx : x < 4) (yes not : Int32) : ∃ z, fX3_bellsFrom (nI n) he sh (nI x) yes not = some z ∧ bel z n ∧ ∀ b, b < n → bt z b = fitB he sh x yes not b := by
  unfold fX3_bellsFrom
  exact setLoop (fun m u s => fX3_bellsFrom_6 (nI x) yes not (nI n) he sh (fun z _ => some z) m s u) (fun s => some s) n (by omega) (fitB he sh x yes not)
    (fun m s => by
      show fX3_bellsFrom_6 _ _ _ _ _ _ _ (m + 1) s (nI n) = _
      rw [fX3_bellsFrom_6, if_pos (nI_le (Nat.le_refl n) (by omega))])
    (fun m u s hu => by
      show fX3_bellsFrom_6 _ _ _ _ _ _ _ (m + 1) s (nI u) = _
      rw [fX3_bellsFrom_6, if_neg (nI_ge hu (by omega)), heardIn_ok (by omega) hx, bind_some', nI_1]
      unfold fitB
      by_cases c : hearD he sh u x &&& yes = yes
      · rw [if_pos c, decide_eq_true c]
        by_cases d : hearD he sh u x &&& not = 0
        · rw [if_pos d, decide_eq_true d]; rfl
        · rw [if_neg d, decide_eq_false d]; rfl
      · rw [if_neg c, decide_eq_false c]; rfl)
theorem and_sub (a b : Int32) : a &&& (b ^^^ (-1)) = 0 ↔ b &&& a = a := by
  constructor
  · intro h
    refine b_ext (fun i hi => ?_)
    have h1 := b_and a (b ^^^ (-1)) i
    rw [h, b_0, bt_not b hi] at h1
    rw [b_and]
    revert h1
    cases bt a i <;> cases bt b i <;> simp
  · intro h
    refine b_ext (fun i hi => ?_)
    have h1 := b_and b a i
    rw [h] at h1
    rw [b_and, bt_not b hi, b_0]
    revert h1
    cases bt a i <;> cases bt b i <;> simp
theorem and_c (a b : Int32) : a &&& b = b &&& a := b_ext (fun i _ => by rw [b_and, b_and, Bool.and_comm])
theorem bells_ok {n w k g : Nat} {te fr ro he sh wb wv nv nw ns si bk : Nat → Int32} (hN : RN n w k g) (hV : VW n w k g te fr ro he sh wb wv nv nw ns si) (hB : BK n w k g te fr ro he wb wv nv nw ns si bk) {x : Nat} (hx : x < 4) (yes not : Int32) : ∃ z, fX7_bells bk (nI x) yes not = some z ∧ bel z n ∧ ∀ b, b < n → bt z b = fitB he sh x yes not b := by
  have hn6 : n ≤ 6 := hN.2.1
  unfold fX7_bells
  exact setLoop (fun m u s => fX7_bells_6 (nI x) yes not bk (fun z _ => some z) m s u) (fun s => some s) n (by omega) (fitB he sh x yes not)
    (fun m s => by
      show fX7_bells_6 _ _ _ _ _ (m + 1) s (nI n) = _
      rw [fX7_bells_6, rdB0, bind_some', hB.1.1, if_pos (nI_le (Nat.le_refl n) (by omega))])
    (fun m u s hu => by
      show fX7_bells_6 _ _ _ _ _ (m + 1) s (nI u) = _
      have z0 : s ||| 0 = s := b_ext (fun q hq => by rw [b_or, b_0, Bool.or_false])
      rw [fX7_bells_6, rdB0, bind_some', hB.1.1, if_neg (nI_ge hu (by omega)), hall_ok hN hV hB hu hx, bind_some', nI_1, z0]
      unfold fitB
      by_cases c : hearD he sh u x &&& yes = yes
      · rw [if_pos ((and_sub _ _).mpr c), decide_eq_true c]
        by_cases d : hearD he sh u x &&& not = 0
        · rw [if_pos (by rw [and_c]; exact d), decide_eq_true d]; rfl
        · rw [if_neg (by rw [and_c]; exact d), decide_eq_false d]; rfl
      · rw [if_neg (fun h => c ((and_sub _ _).mp h)), decide_eq_false c]; rfl)
/-- no sign: no refusal -/
theorem bel_ok {z : Int32} {n : Nat} (h : bel z n) (hn : n ≤ 31) : (-1) ≤ z := by
  have h31 : bt z 31 = false := h 31 hn
  have h4 : z.toBitVec.msb = false := by rw [BitVec.msb_eq_getLsbD_last]; exact h31
  have h5 : 0 ≤ z.toInt := BitVec.toInt_nonneg_of_msb_false h4
  refine (fa_le _ _).mpr ?_
  have hm : (-1 : Int32).toInt = -1 := rfl
  omega
theorem P_came {vi wo ne sg : Int32} {te fr ro he sh wb wv nv nw ns si bk : Nat → Int32} (hR : RV vi wo ne sg te fr ro he sh wb wv nv nw ns si bk) {rb rn rf : Int32} {q : Nat → Int32} (hc : RC rb rn rf q) (p0 p1 p2 : Int32) :
    ∃ ox om, fX6_came rb rn rf vi he sh p0 p1 p2 = some ox ∧ fX7_came bk q p0 p1 p2 = some om ∧ ox.1 = om.1 ∧ RC ox.2.1 ox.2.2.1 ox.2.2.2 om.2 := by
  obtain ⟨n, w, k, g, hN, rfl, rfl, rfl, rfl, hV, hB⟩ := id hR
  have hn6 : n ≤ 6 := hN.2.1
  obtain ⟨b2, n2, f2, q2, k1, k2, k3⟩ := bad_ok hc
  unfold fX6_came fX7_came
  rcases come hN hB p0 p1 p2 with ⟨h1, h2⟩ | ⟨x, hx, rfl, hb1, hb2, h0, h1, h2⟩
  · exact ⟨(-2, b2, n2, f2), (-2, q2), by rw [h1, bind_some', if_pos rfl, bind_some', k1, bind_some'], by rw [h2, bind_some', if_pos rfl, k2, bind_some'], rfl, k3⟩
  obtain ⟨z, a1, a2, a3⟩ := bellsFrom_ok (n := n) (he := he) (sh := sh) hn6 hx p1 p2
  obtain ⟨y, c1, c2, c3⟩ := bells_ok hN hV hB hx p1 p2
  have e : z = y := bel_ext a2 c2 (fun b hb => by rw [a3 b hb, c3 b hb])
  subst e
  refine ⟨(z, rb, rn, rf), (z, q), ?_, ?_, rfl, hc⟩
  · rw [h1, bind_some', if_neg (by decide), a1, bind_some', bind_some', ok_same (bel_ok a2 (by omega)), bind_some']
  · rw [h2, bind_some', if_neg (by decide), c1, bind_some']
