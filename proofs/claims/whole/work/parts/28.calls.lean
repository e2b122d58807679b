/-! CALLS, one by one -/
theorem nI31 {j : Nat} (h : j < 2 ^ 31) : (-1 : Int32) ≤ nI j := by
  rcases okR_n h with a | a | a | a
  · exact a
  · exact absurd (nI_pos h) (by rw [a]; decide)
  · exact absurd (nI_pos h) (by rw [a]; decide)
  · exact absurd (nI_pos h) (by rw [a]; decide)
/-- an answer that is no refusal: nothing is counted -/
theorem ok_same {rb rn rf : Int32} {r : Int32} (h : (-1) ≤ r) : fX6_counted rb rn rf r = some (r, rb, rn, rf) := by
  unfold fX6_counted
  rw [if_neg (fun e => by subst e; exact absurd h (by decide)), if_neg (fun e => by subst e; exact absurd h (by decide)), if_neg (fun e => by subst e; exact absurd h (by decide))]
theorem P_villages {vi wo ne sg : Int32} {te fr ro he sh wb wv nv nw ns si bk : Nat → Int32} (hR : RV vi wo ne sg te fr ro he sh wb wv nv nw ns si bk) {rb rn rf : Int32} {q : Nat → Int32} (hc : RC rb rn rf q) (p0 : Int32) :
    ∃ ox om, fX6_villages rb rn rf vi wo ne sg te fr ro he sh p0 = some ox ∧ fX7_villages bk q p0 = some om ∧ ox.1 = om.1 ∧ RC ox.2.1 ox.2.2.1 ox.2.2.2.1 om.2.2 ∧ RV ox.2.2.2.2.1 ox.2.2.2.2.2.1 ox.2.2.2.2.2.2.1 ox.2.2.2.2.2.2.2.1 ox.2.2.2.2.2.2.2.2.1 ox.2.2.2.2.2.2.2.2.2.1 ox.2.2.2.2.2.2.2.2.2.2.1 ox.2.2.2.2.2.2.2.2.2.2.2.1 ox.2.2.2.2.2.2.2.2.2.2.2.2 wb wv nv nw ns si om.2.1 := by
  obtain ⟨n, w, k, g, hN, rfl, rfl, rfl, rfl, hV, hB⟩ := id hR
  have hn6 : n ≤ 6 := hN.2.1
  obtain ⟨b2, n2, f2, q2, k1, k2, k3⟩ := bad_ok hc
  unfold fX6_villages fX7_villages
  by_cases c : p0 < 2 ∨ ¬ p0 ≤ 6
  · obtain ⟨h1, h2⟩ := settle_no (vi := nI n) (wo := nI w) (ne := nI k) (sg := nI g) (te := te) (fr := fr) (ro := ro) (he := he) (sh := sh) c
    refine ⟨(-2, b2, n2, f2, nI n, nI w, nI k, nI g, te, fr, ro, he, sh), (-2, bk, q2), ?_, ?_, rfl, k3, hR⟩
    · rw [h1, bind_some', if_pos rfl, bind_some', k1, bind_some']
    · rw [h2, bind_some', if_pos rfl, k2, bind_some']
  · obtain ⟨j, hj, rfl⟩ : ∃ j, (2 ≤ j ∧ j ≤ 6) ∧ p0 = nI j := by
      have c1 : ¬ p0 < 2 := fun h => c (Or.inl h)
      have c2 : p0 ≤ 6 := Classical.byContradiction (fun h => c (Or.inr h))
      rcases pk_ix p0 (n := 7) (by decide) with h | h | ⟨j, hj, rfl⟩
      · exact absurd ((fa_lt _ _).mpr (by have h1 := (fa_lt _ _).mp h; have a : (0 : Int32).toInt = 0 := rfl; have b : (2 : Int32).toInt = 2 := rfl; omega)) c1
      · exact absurd c2 (fun h2 => by have h1 := (fa_le _ _).mp h; have h3 := (fa_le _ _).mp h2; have a : (nI 7).toInt = 7 := rfl; have b : (6 : Int32).toInt = 6 := rfl; omega)
      · refine ⟨j, ⟨?_, by omega⟩, rfl⟩
        rcases Nat.lt_or_ge j 2 with h | h
        · exact absurd (nI_lt (b := 2) h (by decide) : nI j < nI 2) c1
        · exact h
    obtain ⟨te', fr', ro', he', sh', s1, s2, s3, s4, s5, s6⟩ := settle_ok (nI n) (nI w) (nI k) (nI g) te fr ro he sh hj.1 hj.2
    obtain ⟨bk', b1, b2', b3, b4⟩ := begins_ok bk hj.1 hj.2
    have i1 : fX7_in (nI j) 2 6 = some 1 := by
      unfold fX7_in
      rw [if_neg (show ¬ nI j < 2 from nI_nlt (b := 2) hj.1 (by omega)), if_neg (show ¬ 6 < nI j from nI_nlt (a := 6) (b := j) hj.2 (by decide))]
    refine ⟨(nI n, rb, rn, rf, nI j, 0, 0, 0, te', fr', ro', he', sh'), (nI n, bk', q), ?_, ?_, rfl, hc, RV_new wb wv nv nw ns si hj.1 hj.2 s2 s3 s4 s5 s6 b2' b3 b4⟩
    · rw [s1, bind_some']
      dsimp only
      rw [if_neg (show ¬ (1 : Int32) = 0 by decide), bind_some', ok_same (nI31 (by omega)), bind_some']
    · rw [i1, bind_some', if_neg (by decide), rdB0, bind_some', b1, bind_some', hB.1.1]
theorem P_hears {vi wo ne sg : Int32} {te fr ro he sh wb wv nv nw ns si bk : Nat → Int32} (hR : RV vi wo ne sg te fr ro he sh wb wv nv nw ns si bk) {rb rn rf : Int32} {q : Nat → Int32} (hc : RC rb rn rf q) (p0 p1 p2 p3 : Int32) :
    ∃ ox om, fX6_hears rb rn rf vi he p0 p1 p2 p3 = some ox ∧ fX7_hears bk q p0 p1 p2 p3 = some om ∧ ox.1 = om.1 ∧ RC ox.2.1 ox.2.2.1 ox.2.2.2.1 om.2.2 ∧ RV vi wo ne sg te fr ro ox.2.2.2.2 sh wb wv nv nw ns si om.2.1 := by
  obtain ⟨r, he', bk', h1, h2, h3, h4⟩ := T_hears hR p0 p1 p2 p3
  obtain ⟨b2, n2, f2, q2, k1, k2, k3⟩ := told_counted hc h3
  unfold fX6_hears fX7_hears
  exact ⟨(r, b2, n2, f2, he'), (r, bk', q2), by rw [h1, bind_some', k1, bind_some'], by rw [h2, bind_some', k2, bind_some'], rfl, k3, h4⟩
theorem P_wood {vi wo ne sg : Int32} {te fr ro he sh wb wv nv nw ns si bk : Nat → Int32} (hR : RV vi wo ne sg te fr ro he sh wb wv nv nw ns si bk) {rb rn rf : Int32} {q : Nat → Int32} (hc : RC rb rn rf q) (p0 p1 : Int32) :
    ∃ ox om, fX6_wood rb rn rf vi wo sh wb wv p0 p1 = some ox ∧ fX7_wood bk q p0 p1 = some om ∧ ox.1 = om.1 ∧ RC ox.2.1 ox.2.2.1 ox.2.2.2.1 om.2.2 ∧ RV vi ox.2.2.2.2.1 ne sg te fr ro he ox.2.2.2.2.2.1 ox.2.2.2.2.2.2.1 ox.2.2.2.2.2.2.2 nv nw ns si om.2.1 := by
  obtain ⟨r, wo', sh', wb', wv', bk', h1, h2, h3, h4⟩ := T_wood hR p0 p1
  obtain ⟨b2, n2, f2, q2, k1, k2, k3⟩ := told_counted hc h3
  unfold fX6_wood fX7_wood
  exact ⟨(r, b2, n2, f2, wo', sh', wb', wv'), (r, bk', q2), by rw [h1, bind_some', k1, bind_some'], by rw [h2, bind_some', k2, bind_some'], rfl, k3, h4⟩
theorem P_temper {vi wo ne sg : Int32} {te fr ro he sh wb wv nv nw ns si bk : Nat → Int32} (hR : RV vi wo ne sg te fr ro he sh wb wv nv nw ns si bk) {rb rn rf : Int32} {q : Nat → Int32} (hc : RC rb rn rf q) (p0 p1 : Int32) :
    ∃ ox om, fX6_temper rb rn rf vi te p0 p1 = some ox ∧ fX7_temper bk q p0 p1 = some om ∧ ox.1 = om.1 ∧ RC ox.2.1 ox.2.2.1 ox.2.2.2.1 om.2.2 ∧ RV vi wo ne sg ox.2.2.2.2 fr ro he sh wb wv nv nw ns si om.2.1 := by
  obtain ⟨r, te', bk', h1, h2, h3, h4⟩ := T_temper hR p0 p1
  obtain ⟨b2, n2, f2, q2, k1, k2, k3⟩ := told_counted hc h3
  unfold fX6_temper fX7_temper
  exact ⟨(r, b2, n2, f2, te'), (r, bk', q2), by rw [h1, bind_some', k1, bind_some'], by rw [h2, bind_some', k2, bind_some'], rfl, k3, h4⟩
theorem P_friendOf {vi wo ne sg : Int32} {te fr ro he sh wb wv nv nw ns si bk : Nat → Int32} (hR : RV vi wo ne sg te fr ro he sh wb wv nv nw ns si bk) {rb rn rf : Int32} {q : Nat → Int32} (hc : RC rb rn rf q) (p0 p1 : Int32) :
    ∃ ox om, fX6_friendOf rb rn rf vi fr p0 p1 = some ox ∧ fX7_friendOf bk q p0 p1 = some om ∧ ox.1 = om.1 ∧ RC ox.2.1 ox.2.2.1 ox.2.2.2.1 om.2.2 ∧ RV vi wo ne sg te ox.2.2.2.2 ro he sh wb wv nv nw ns si om.2.1 := by
  obtain ⟨r, fr', bk', h1, h2, h3, h4⟩ := T_friend hR p0 p1
  obtain ⟨b2, n2, f2, q2, k1, k2, k3⟩ := told_counted hc h3
  unfold fX6_friendOf fX7_friendOf
  exact ⟨(r, b2, n2, f2, fr'), (r, bk', q2), by rw [h1, bind_some', k1, bind_some'], by rw [h2, bind_some', k2, bind_some'], rfl, k3, h4⟩
theorem P_change {vi wo ne sg : Int32} {te fr ro he sh wb wv nv nw ns si bk : Nat → Int32} (hR : RV vi wo ne sg te fr ro he sh wb wv nv nw ns si bk) {rb rn rf : Int32} {q : Nat → Int32} (hc : RC rb rn rf q) (p0 p1 : Int32) :
    ∃ ox om, fX6_change rb rn rf vi ro p0 p1 = some ox ∧ fX7_change bk q p0 p1 = some om ∧ ox.1 = om.1 ∧ RC ox.2.1 ox.2.2.1 ox.2.2.2.1 om.2.2 ∧ RV vi wo ne sg te fr ox.2.2.2.2 he sh wb wv nv nw ns si om.2.1 := by
  obtain ⟨r, b2, n2, f2, q2, ro', bk', h1, h2, h3, h4, h5⟩ := T_change hR p0 p1 hc
  unfold fX6_change
  exact ⟨(r, b2, n2, f2, ro'), (r, bk', q2), by rw [h1, bind_some', h2, bind_some'], h3, rfl, h4, h5⟩
theorem P_need {vi wo ne sg : Int32} {te fr ro he sh wb wv nv nw ns si bk : Nat → Int32} (hR : RV vi wo ne sg te fr ro he sh wb wv nv nw ns si bk) {rb rn rf : Int32} {q : Nat → Int32} (hc : RC rb rn rf q) (p0 p1 p2 : Int32) :
    ∃ ox om, fX6_need rb rn rf vi ne nv nw ns p0 p1 p2 = some ox ∧ fX7_need bk q p0 p1 p2 = some om ∧ ox.1 = om.1 ∧ RC ox.2.1 ox.2.2.1 ox.2.2.2.1 om.2.2 ∧ RV vi wo ox.2.2.2.2.1 sg te fr ro he sh wb wv ox.2.2.2.2.2.1 ox.2.2.2.2.2.2.1 ox.2.2.2.2.2.2.2 si om.2.1 := by
  obtain ⟨r, ne', nv', nw', ns', bk', h1, h2, h3, h4⟩ := T_need hR p0 p1 p2
  obtain ⟨b2, n2, f2, q2, k1, k2, k3⟩ := told_counted hc h3
  unfold fX6_need fX7_need
  exact ⟨(r, b2, n2, f2, ne', nv', nw', ns'), (r, bk', q2), by rw [h1, bind_some', k1, bind_some'], by rw [h2, bind_some', k2, bind_some'], rfl, k3, h4⟩
theorem P_undo {vi wo ne sg : Int32} {te fr ro he sh wb wv nv nw ns si bk : Nat → Int32} (hR : RV vi wo ne sg te fr ro he sh wb wv nv nw ns si bk) {rb rn rf : Int32} {q : Nat → Int32} (hc : RC rb rn rf q) :
    ∃ ox om, fX6_undo rb rn rf ne = some ox ∧ fX7_undo bk q = some om ∧ ox.1 = om.1 ∧ RC ox.2.1 ox.2.2.1 ox.2.2.2.1 om.2.2 ∧ RV vi wo ox.2.2.2.2 sg te fr ro he sh wb wv nv nw ns si om.2.1 := by
  obtain ⟨r, b2, n2, f2, q2, ne', bk', h1, h2, h3, h4, h5⟩ := T_undo hR hc
  unfold fX6_undo
  exact ⟨(r, b2, n2, f2, ne'), (r, bk', q2), by rw [h1, bind_some', h2, bind_some'], h3, rfl, h4, h5⟩
theorem P_rope {vi wo ne sg : Int32} {te fr ro he sh wb wv nv nw ns si bk : Nat → Int32} (hR : RV vi wo ne sg te fr ro he sh wb wv nv nw ns si bk) {rb rn rf : Int32} {q : Nat → Int32} (hc : RC rb rn rf q) (p0 : Int32) :
    ∃ ox om, fX6_rope rb rn rf vi ro p0 = some ox ∧ fX7_rope bk q p0 = some om ∧ ox.1 = om.1 ∧ RC ox.2.1 ox.2.2.1 ox.2.2.2 om.2 := by
  obtain ⟨n, w, k, g, hN, rfl, rfl, rfl, rfl, hV, hB⟩ := id hR
  have hn6 : n ≤ 6 := hN.2.1
  have hn0 : 0 < n := Nat.lt_of_lt_of_le (by decide) hN.1
  obtain ⟨b2, n2, f2, q2, k1, k2, k3⟩ := bad_ok hc
  unfold fX6_rope fX7_rope
  rcases vil (n := n) (by omega) hn0 p0 with ⟨h1, h2⟩ | ⟨b, hb, rfl, h1, h2⟩
  · exact ⟨(-2, b2, n2, f2), (-2, q2), by rw [h1, bind_some', if_pos rfl, bind_some', k1, bind_some'], by rw [h2 bk hB.1.1, k2]; rfl, rfl, k3⟩
  obtain ⟨j, hj, ej⟩ := hV.2.2.1 b hb
  refine ⟨(nI j, rb, rn, rf), (nI j, q), ?_, ?_, rfl, hc⟩
  · rw [h1, bind_some', if_neg (by decide), rdI_n (by omega) (by decide), bind_some', bind_some', ej, ok_same (nI31 (by omega)), bind_some']
  · rw [h2 bk hB.1.1, bind_some', if_neg (by decide), show (16 : Int32) = nI 16 from rfl, nI_add, rdI_n (by omega) (by decide), bind_some', hB.2.2.2.1 b hb, ej]
theorem P_status {rb rn rf : Int32} {q : Nat → Int32} (hc : RC rb rn rf q) (p0 : Int32) :
    ∃ ox om, fX6_status rb rn rf p0 = some ox ∧ fX7_status q p0 = some om ∧ ox.1 = om.1 ∧ RC ox.2 rn rf om.2 := by
  obtain ⟨c0, c1, c2⟩ := id hc
  unfold fX6_status fX7_status
  have bad : fX7_refuses q 0 (-1) = some (-1, upd q 0 (q 0 + 1)) := by
    unfold fX7_refuses
    rw [show (0 : Int32) = nI 0 from rfl, rdI_n (by decide) (by decide), bind_some', wrI_n (by decide) (by decide), bind_some']
  have rcb : RC (rb + 1) rn rf (upd q 0 (q 0 + 1)) := ⟨by rw [upd_at, c0], c1, c2⟩
  rcases rngx (N := 3) (by decide) (by decide) p0 with h | ⟨h3, h4, h5, -⟩ | ⟨j, hj, rfl, h3, h4, h5, -⟩
  · refine ⟨(-1, rb + 1), (-1, upd q 0 (q 0 + 1)), ?_, ?_, rfl, rcb⟩
    · rw [if_neg (fun e => by subst e; exact absurd h (by decide)), if_neg (fun e => by subst e; exact absurd h (by decide)), if_neg (fun e => by subst e; exact absurd h (by decide))]
    · unfold fX7_in; rw [if_pos h, bind_some', if_pos rfl, bad, bind_some']
  · refine ⟨(-1, rb + 1), (-1, upd q 0 (q 0 + 1)), ?_, ?_, rfl, rcb⟩
    · rw [if_neg (fun e => by subst e; exact absurd h4 (by decide)), if_neg (fun e => by subst e; exact absurd h4 (by decide)), if_neg (fun e => by subst e; exact absurd h4 (by decide))]
    · unfold fX7_in; rw [if_neg h3, if_pos (show (2 : Int32) < p0 from h4), bind_some', if_pos rfl, bad, bind_some']
  · have i1 : fX7_in (nI j) 0 2 = some 1 := by unfold fX7_in; rw [if_neg h3, if_neg (show ¬ (2 : Int32) < nI j from h5)]
    rw [i1, bind_some', if_neg (show ¬ (1 : Int32) = 0 by decide), rdI_n (by omega) (by decide), bind_some']
    rcases (show j = 0 ∨ j = 1 ∨ j = 2 by omega) with rfl | rfl | rfl
    · exact ⟨(rb, rb), (q 0, q), rfl, rfl, c0.symm, hc⟩
    · exact ⟨(rn, rb), (q 1, q), rfl, rfl, c1.symm, hc⟩
    · exact ⟨(rf, rb), (q 2, q), rfl, rfl, c2.symm, hc⟩
/-- the text -/
def RT (le : Int32) (tx : Nat → Int32) (ml : Int32) (mt : Nat → Int32) : Prop := ∃ L, L ≤ 250 ∧ le = nI L ∧ ml = nI L ∧ ∀ j, j < L → ∃ c, c < 256 ∧ mt j = nI c ∧ tx j = (nI c).toInt8.toInt32
theorem P_count {vi wo ne sg : Int32} {te fr ro he sh wb wv nv nw ns si bk : Nat → Int32} (hR : RV vi wo ne sg te fr ro he sh wb wv nv nw ns si bk) {rb rn rf : Int32} {q : Nat → Int32} (hc : RC rb rn rf q) {le ml : Int32} {tx mt : Nat → Int32} (hT : RT le tx ml mt) (p0 : Int32) :
    ∃ ox om, fX6_count rb rn rf vi wo ne sg le p0 = some ox ∧ fX7_count bk ml q p0 = some om ∧ ox.1 = om.1 ∧ RC ox.2.1 ox.2.2.1 ox.2.2.2 om.2 := by
  obtain ⟨n, w, k, g, hN, rfl, rfl, rfl, rfl, hV, hB⟩ := id hR
  obtain ⟨L, hL, rfl, rfl, -⟩ := hT
  obtain ⟨h1, h2, h3, h4, h5⟩ := id hN
  obtain ⟨b2, n2, f2, q2, k1, k2, k3⟩ := bad_ok hc
  unfold fX6_count fX7_count fX6_howMany
  rcases rngx (N := 5) (by decide) (by decide) p0 with h | ⟨h3, h4, h5, h6⟩ | ⟨j, hj, rfl, h3, h4, h5, -⟩
  · have ne4 : ∀ z : Int32, 0 ≤ z → ¬ p0 = z := fun z hz e => by subst e; exact absurd h (fun h' => by have a := (fa_lt _ _).mp h'; have b := (fa_le _ _).mp hz; omega)
    refine ⟨(-2, b2, n2, f2), (-2, q2), ?_, ?_, rfl, k3⟩
    · rw [if_neg (ne4 0 (by decide)), if_neg (ne4 1 (by decide)), if_neg (ne4 2 (by decide)), if_neg (ne4 3 (by decide)), if_neg (ne4 4 (by decide)), bind_some', k1, bind_some']
    · unfold fX7_in; rw [if_pos h, bind_some', if_pos rfl, if_neg (ne4 4 (by decide)), k2, bind_some']
  · have ne4 : ∀ z : Int32, z ≤ 4 → ¬ p0 = z := fun z hz e => by subst e; exact absurd hz h5
    refine ⟨(-2, b2, n2, f2), (-2, q2), ?_, ?_, rfl, k3⟩
    · rw [if_neg (ne4 0 (by decide)), if_neg (ne4 1 (by decide)), if_neg (ne4 2 (by decide)), if_neg (ne4 3 (by decide)), if_neg (ne4 4 (by decide)), bind_some', k1, bind_some']
    · unfold fX7_in
      have h7 : (3 : Int32) < p0 := (fa_lt _ _).mpr (by have a := (fa_lt _ _).mp h4; have b : (nI (5 - 1)).toInt = 4 := rfl; have c : (3 : Int32).toInt = 3 := rfl; omega)
      rw [if_neg h3, if_pos h7, bind_some', if_pos rfl, if_neg (ne4 4 (by decide)), k2, bind_some']
  · rcases (show j = 0 ∨ j = 1 ∨ j = 2 ∨ j = 3 ∨ j = 4 by omega) with rfl | rfl | rfl | rfl | rfl
    · refine ⟨(nI n, rb, rn, rf), (nI n, q), ?_, ?_, rfl, hc⟩
      · show (fX6_counted rb rn rf (nI n)).bind _ = _
        rw [ok_same (nI31 (by omega)), bind_some']
      · rw [show fX7_in (nI 0) 0 3 = some 1 by decide, bind_some', if_neg (show ¬ (1 : Int32) = 0 by decide)]
        show (rdI 104 bk 0).bind _ = _
        rw [rdB0, bind_some', hB.1.1]
    · refine ⟨(nI w, rb, rn, rf), (nI w, q), ?_, ?_, rfl, hc⟩
      · show (fX6_counted rb rn rf (nI w)).bind _ = _
        rw [ok_same (nI31 (by omega)), bind_some']
      · rw [show fX7_in (nI 1) 0 3 = some 1 by decide, bind_some', if_neg (show ¬ (1 : Int32) = 0 by decide)]
        show (rdI 104 bk 1).bind _ = _
        rw [rdB1, bind_some', hB.1.2.1]
    · refine ⟨(nI k, rb, rn, rf), (nI k, q), ?_, ?_, rfl, hc⟩
      · show (fX6_counted rb rn rf (nI k)).bind _ = _
        rw [ok_same (nI31 (by omega)), bind_some']
      · rw [show fX7_in (nI 2) 0 3 = some 1 by decide, bind_some', if_neg (show ¬ (1 : Int32) = 0 by decide)]
        show (rdI 104 bk 2).bind _ = _
        rw [rdB2, bind_some', hB.1.2.2.1]
    · refine ⟨(nI g, rb, rn, rf), (nI g, q), ?_, ?_, rfl, hc⟩
      · show (fX6_counted rb rn rf (nI g)).bind _ = _
        rw [ok_same (nI31 (by omega)), bind_some']
      · rw [show fX7_in (nI 3) 0 3 = some 1 by decide, bind_some', if_neg (show ¬ (1 : Int32) = 0 by decide)]
        show (rdI 104 bk 3).bind _ = _
        rw [rdB3, bind_some', hB.1.2.2.2]
    · refine ⟨(nI L, rb, rn, rf), (nI L, q), ?_, ?_, rfl, hc⟩
      · show (fX6_counted rb rn rf (nI L)).bind _ = _
        rw [ok_same (nI31 (by omega)), bind_some']
      · rfl
theorem P_clear {le ml : Int32} {tx mt : Nat → Int32} (hT : RT le tx ml mt) : ∃ ox om, fX6_clear le = some ox ∧ fX7_clear ml = some om ∧ ox.1 = om.1 ∧ RT ox.2 tx om.2 mt := by
  obtain ⟨L, hL, rfl, rfl, -⟩ := hT
  exact ⟨(nI L, 0), (nI L, 0), rfl, rfl, rfl, 0, by decide, rfl, rfl, fun j hj => absurd hj (Nat.not_lt_zero j)⟩
theorem byte_ok (z : Int64) : ∃ c, c < 256 ∧ (z &&& 255).toInt32 = nI c ∧ vp_nar .byte (z.toInt32.toInt8.toInt32) = (nI c).toInt8.toInt32 := by
  refine ⟨z.toBitVec.toNat % 256, Nat.mod_lt _ (by decide), ?_, ?_⟩
  · apply Int32.toBitVec_inj.mp
    apply BitVec.eq_of_toNat_eq
    rw [Int64.toBitVec_toInt32, Int64.toBitVec_and, BitVec.signExtend_eq_setWidth_of_le _ (by decide)]
    show ((z.toBitVec &&& 255#64).setWidth 32).toNat = (BitVec.ofNat 32 (z.toBitVec.toNat % 256)).toNat
    have : z.toBitVec.toNat &&& 255 = z.toBitVec.toNat % 256 := by
      rw [show (255 : Nat) = 2 ^ 8 - 1 from rfl, Nat.and_two_pow_sub_one_eq_mod]
    rw [BitVec.toNat_setWidth, BitVec.toNat_and, show (255#64).toNat = 255 from rfl, this, BitVec.toNat_ofNat]
  · rw [pk_vb]
    congr 1
    apply Int8.toBitVec_inj.mp
    apply BitVec.eq_of_toNat_eq
    rw [Int32.toBitVec_toInt8, Int32.toBitVec_toInt8, Int64.toBitVec_toInt32, BitVec.signExtend_eq_setWidth_of_le _ (by decide), BitVec.signExtend_eq_setWidth_of_le _ (by decide), BitVec.signExtend_eq_setWidth_of_le _ (by decide)]
    show ((z.toBitVec.setWidth 32).setWidth 8).toNat = ((BitVec.ofNat 32 (z.toBitVec.toNat % 256)).setWidth 8).toNat
    rw [BitVec.toNat_setWidth, BitVec.toNat_setWidth, BitVec.toNat_setWidth, BitVec.toNat_ofNat]
    omega
theorem type_loop (v : Int64) (kx : Int32 → Int32 → (Nat → Int32) → Option (Int32 × Int32 × (Nat → Int32))) (kz : Int32 → (Nat → Int32) → Int32 → Option (Int32 × (Nat → Int32) × Int32 × (Nat → Int32))) : ∀ (r L n m : Nat) (tx mt : Nat → Int32), L + r ≤ 250 → r < n → r < m → (∀ j, j < L → ∃ c, c < 256 ∧ mt j = nI c ∧ tx j = (nI c).toInt8.toInt32) →
    ∃ tx' mt', fX2_write_34 v kx n (nI r - 1) (nI L) tx = kx (-1) (nI (L + r)) tx' ∧ fX7_type_40 v kz m (nI r - 1) mt (nI L) = kz (-1) mt' (nI (L + r)) ∧ ∀ j, j < L + r → ∃ c, c < 256 ∧ mt' j = nI c ∧ tx' j = (nI c).toInt8.toInt32
  | 0, L, n + 1, m + 1, tx, mt, _, _, _, h => by
    refine ⟨tx, mt, ?_, ?_, h⟩
    · rw [fX2_write_34]; rfl
    · rw [fX7_type_40]; rfl
  | r + 1, L, n + 1, m + 1, tx, mt, hL, hn, hm, h => by
    have e1 : nI (r + 1) - 1 = nI r := nI_pred r
    have e2 : nI r + (-1) = nI r - 1 := by
      apply Int32.toBitVec_inj.mp
      show (nI r).toBitVec + BitVec.ofInt 32 (-1) = (nI r).toBitVec - 1#32
      rw [BitVec.sub_eq_add_neg]; rfl
    obtain ⟨c, hc, c1, c2⟩ := byte_ok (v >>> ((8 * nI r).toInt64 &&& 63))
    obtain ⟨tx', mt', a1, a2, a3⟩ := type_loop v kx kz r (L + 1) n m (upd tx L ((nI c).toInt8.toInt32)) (upd mt L (nI c)) (by omega) (by omega) (by omega) (fun j hj => by
      by_cases d : j = L
      · subst d; exact ⟨c, hc, upd_at, upd_at⟩
      · rw [upd_ne d, upd_ne d]; exact h j (by omega))
    refine ⟨tx', mt', ?_, ?_, fun j hj => a3 j (by omega)⟩
    · rw [fX2_write_34, e1, if_neg (nI_pos (by omega)), c2, wrI_n (by omega) (by decide), bind_some', e2, nI_1, a1, show L + 1 + r = L + (r + 1) by omega]
    · rw [fX7_type_40, e1, if_neg (nI_pos (by omega)), c1, wrI_n (by omega) (by decide), bind_some', e2, nI_1, a2, show L + 1 + r = L + (r + 1) by omega]
theorem P_type {rb rn rf : Int32} {q : Nat → Int32} (hc : RC rb rn rf q) {le ml : Int32} {tx mt : Nat → Int32} (hT : RT le tx ml mt) (p0 : Int64) (p1 : Int32) :
    ∃ ox om, fX6_type rb rn rf le tx p0 p1 = some ox ∧ fX7_type mt ml q p0 p1 = some om ∧ ox.1 = om.1 ∧ RC ox.2.1 ox.2.2.1 ox.2.2.2.1 om.2.2.2 ∧ RT ox.2.2.2.2.1 ox.2.2.2.2.2 om.2.2.1 om.2.1 := by
  obtain ⟨L, hL, rfl, rfl, hB⟩ := id hT
  obtain ⟨b2, n2, f2, q2, k1, k2, k3⟩ := bad_ok hc
  unfold fX6_type fX7_type fX2_write
  rcases rngx (N := 9) (by decide) (by decide) p1 with h | ⟨h3, h4, h5, h6⟩ | ⟨j, hj, rfl, h3, h4, h5, -⟩
  · have c : p1 < 1 := (fa_lt _ _).mpr (by have a := (fa_lt _ _).mp h; have b : (0 : Int32).toInt = 0 := rfl; have d : (1 : Int32).toInt = 1 := rfl; omega)
    refine ⟨(-2, b2, n2, f2, nI L, tx), (-2, mt, nI L, q2), ?_, ?_, rfl, k3, hT⟩
    · rw [if_pos c, bind_some', k1, bind_some']
    · unfold fX7_in; rw [if_pos c, bind_some', if_pos rfl, k2, bind_some']
  · have c : ¬ p1 < 1 := fun h7 => by have a := (fa_lt _ _).mp h7; have b := (fa_le _ _).mp h6; have d : (1 : Int32).toInt = 1 := rfl; have e : (nI 9).toInt = 9 := rfl; omega
    refine ⟨(-2, b2, n2, f2, nI L, tx), (-2, mt, nI L, q2), ?_, ?_, rfl, k3, hT⟩
    · rw [if_neg c, if_neg (show ¬ p1 ≤ 8 from h5), bind_some', k1, bind_some']
    · unfold fX7_in; rw [if_neg c, if_pos (show 8 < p1 from h4), bind_some', if_pos rfl, k2, bind_some']
  · by_cases j0 : j = 0
    · subst j0
      refine ⟨(-2, b2, n2, f2, nI L, tx), (-2, mt, nI L, q2), ?_, ?_, rfl, k3, hT⟩
      · rw [if_pos (by decide), bind_some', k1, bind_some']
      · unfold fX7_in; rw [if_pos (by decide), bind_some', if_pos rfl, k2, bind_some']
    have c : ¬ nI j < 1 := nI_nlt (a := j) (b := 1) (by omega) (by omega)
    have i1 : fX7_in (nI j) 1 8 = some 1 := by unfold fX7_in; rw [if_neg c, if_neg (show ¬ 8 < nI j from h5)]
    rw [i1, if_neg c, if_pos (show nI j ≤ 8 from h4), bind_some', if_neg (show ¬ (1 : Int32) = 0 by decide), nI_add]
    by_cases f : L + j ≤ 250
    · obtain ⟨tx', mt', a1, a2, a3⟩ := type_loop p0 (fun _ a b => some ((a, a, b))) (fun _ a b => some ((b, a, b, q))) j L fu fu tx mt f (by show j < 50000; omega) (by show j < 50000; omega) hB
      have l1 : nI (L + j) ≤ 250 := (nI_le (b := 250) f (by decide) : nI (L + j) ≤ nI 250)
      refine ⟨(nI (L + j), rb, rn, rf, nI (L + j), tx'), (nI (L + j), mt', nI (L + j), q), ?_, ?_, rfl, hc, L + j, f, rfl, rfl, a3⟩
      · rw [if_pos l1, a1, bind_some', ok_same (nI31 (by omega)), bind_some']
      · rw [if_pos l1, a2]
    · have l1 : ¬ nI (L + j) ≤ 250 := nI_ge (a := 250) (b := L + j) (by omega) (by omega)
      obtain ⟨b3, n3, f3, q3, k4, k5, k6⟩ := told_counted hc (r := -4) (Or.inr (Or.inr (Or.inr rfl)))
      refine ⟨(-4, b3, n3, f3, nI L, tx), (-4, mt, nI L, q3), ?_, ?_, rfl, k6, hT⟩
      · rw [if_neg l1, bind_some', k4, bind_some']
      · have : fX7_refuses q 2 (-4) = fX7_told q (-4) := rfl
        rw [if_neg l1, this, k5, bind_some']
