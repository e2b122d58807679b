/-! WHAT IS HEARD -/
def hearD (he sh : Nat → Int32) (b x : Nat) : Int32 := he (4 * b + x) &&& (sh b ^^^ (-1))
def anyD (he sh : Nat → Int32) (b : Nat) : Nat → Int32
  | 0 => 0
  | x + 1 => anyD he sh b x ||| hearD he sh b x
/-- the woods of the set wm ahead of i shut the bell b out of v -/
def shutM (wb wv : Nat → Int32) (wm : Int32) (b v : Nat) : Nat → Bool
  | 0 => false
  | i + 1 => shutM wb wv wm b v i || (bt wm i && decide (wb i = nI b) && decide (wv i = nI v))
theorem shutM_255 (wb wv : Nat → Int32) (b v : Nat) : ∀ i, i ≤ 8 → shutM wb wv 255 b v i = shutAt wb wv b v i
  | 0, _ => rfl
  | i + 1, h => by
    show (shutM wb wv 255 b v i || (bt 255 i && decide (wb i = nI b) && decide (wv i = nI v))) = (shutAt wb wv b v i || (decide (wb i = nI b) && decide (wv i = nI v)))
    rw [shutM_255 wb wv b v i (by omega), b_255, decide_eq_true (by omega), Bool.true_and]
theorem heardIn_ok {he sh : Nat → Int32} {b x : Nat} (hb : b < 6) (hx : x < 4) : fX3_heardIn he sh (nI b) (nI x) = some (hearD he sh b x) := by
  unfold fX3_heardIn
  have ea : nI b * 4 + nI x = nI (4 * b + x) := by rw [show (4 : Int32) = nI 4 from rfl, pk_mul, nI_add, Nat.mul_comm]
  rw [ea, rdI_n (by omega) (by decide), bind_some', rdI_n (by omega) (by decide), bind_some']
  rfl
theorem hearD_bt {he sh : Nat → Int32} {b x v : Nat} (hv : v < 32) : bt (hearD he sh b x) v = (bt (he (4 * b + x)) v && !bt (sh b) v) := by
  unfold hearD
  rw [b_and, bt_not _ hv]
theorem any_ok {he sh : Nat → Int32} {b : Nat} (hb : b < 6) : fX3_heardInAnyWind he sh (nI b) = some (anyD he sh b 4) := by
  unfold fX3_heardInAnyWind
  exact forR (fun n i (s : Int32) => fX3_heardInAnyWind_4 (nI b) he sh (fun x _ => some x) n s i) 4 (fun i s => s = anyD he sh b i) (some (anyD he sh b 4))
    (fun n s hI => by
      show fX3_heardInAnyWind_4 _ _ _ _ (n + 1) s (nI 4) = _
      rw [fX3_heardInAnyWind_4, if_pos (show (4 : Int32) ≤ nI 4 from by decide), hI])
    (fun n i s hi hI => Or.inr (by
      refine ⟨anyD he sh b (i + 1), rfl, ?_⟩
      show fX3_heardInAnyWind_4 _ _ _ _ (n + 1) s (nI i) = _
      rw [fX3_heardInAnyWind_4, if_neg (show ¬ (4 : Int32) ≤ nI i from nI_ge (b := 4) hi (by decide)), heardIn_ok hb hi, bind_some', hI, nI_1]
      rfl))
    fu 0 0 (by decide) (by decide) rfl
theorem bel_hear {n w k g : Nat} {te fr ro he sh wb wv nv nw ns si : Nat → Int32} (hV : VW n w k g te fr ro he sh wb wv nv nw ns si) {b x : Nat} (hb : b < n) (hx : x < 4) : bel (hearD he sh b x) n := bel_and (hV.2.2.2.2.1 b hb x hx)
theorem sounds_ok {n w k g : Nat} {te fr ro he sh wb wv nv nw ns si bk : Nat → Int32} (hN : RN n w k g) (hV : VW n w k g te fr ro he sh wb wv nv nw ns si) (hB : BK n w k g te fr ro he wb wv nv nw ns si bk) {b x : Nat} (hb : b < n) (hx : x < 4) (wm : Int32) :
    ∃ z, fX7_sounds bk (nI b) (nI x) wm = some z ∧ bel z n ∧ ∀ v, v < n → bt z v = (bt (he (4 * b + x)) v && !shutM wb wv wm b v w) := by
  have hn6 : n ≤ 6 := hN.2.1
  have hw8 : w ≤ 8 := hN.2.2.1
  unfold fX7_sounds
  have eb : 22 + 4 * nI b + nI x = nI (22 + (4 * b + x)) := by rw [show (4 : Int32) = nI 4 from rfl, show (22 : Int32) = nI 22 from rfl, pk_mul, nI_add, nI_add, Nat.add_assoc]
  rw [eb, rdI_n (by omega) (by decide), bind_some', hB.2.2.2.2.1 b hb x hx]
  have h := forI (fun m i (s : Int32) => fX7_sounds_18 (nI b) wm bk (fun x _ => some x) m s i) (fun s => some s) w (fun i s => bel s n ∧ ∀ v, v < n → bt s v = (bt (he (4 * b + x)) v && !shutM wb wv wm b v i))
    (fun m s _ => by
      show fX7_sounds_18 _ _ _ _ (m + 1) s (nI w) = _
      rw [fX7_sounds_18, show (1 : Int32) = nI 1 from rfl, rdI_n (by decide) (by decide), bind_some', hB.1.2.1, if_pos (nI_le (Nat.le_refl w) (by omega))])
    (fun m i s hi hI => by
      obtain ⟨i1, i2⟩ := hI
      obtain ⟨j, hj, ej⟩ := hV.2.2.2.2.2.2.2.1 i hi
      have li : i < 32 := by omega
      have e0 : fX7_sounds_18 (nI b) wm bk (fun x _ => some x) (m + 1) s (nI i) = if (wm >>> (nI i &&& 31)) &&& 1 = 1 then (if wb i = nI b then fX7_sounds_18 (nI b) wm bk (fun x _ => some x) m (s &&& ((1 <<< (wv i &&& 31)) ^^^ (-1))) (nI (i + 1)) else fX7_sounds_18 (nI b) wm bk (fun x _ => some x) m (s &&& (-1)) (nI (i + 1))) else fX7_sounds_18 (nI b) wm bk (fun x _ => some x) m (s &&& (-1)) (nI (i + 1)) := by
        rw [fX7_sounds_18, show (1 : Int32) = nI 1 from rfl, rdI_n (by decide) (by decide), bind_some', hB.1.2.1, if_neg (nI_ge hi (by omega)), show (46 : Int32) = nI 46 from rfl, nI_add, rdI_n (by omega) (by decide), bind_some', hB.2.2.2.2.2.1 i hi, show (54 : Int32) = nI 54 from rfl, nI_add, rdI_n (by omega) (by decide), bind_some', hB.2.2.2.2.2.2.1 i hi, nI_add]
      have m1 : s &&& (-1) = s := b_ext (fun q hq => by rw [b_and, b_m1 q hq, Bool.and_true])
      by_cases c : bt wm i = true ∧ wb i = nI b
      · refine ⟨s &&& ((1 <<< (wv i &&& 31)) ^^^ (-1)), ⟨bel_and i1, fun v hv => ?_⟩, ?_⟩
        · have lv : v < 32 := by omega
          rw [b_and, i2 v hv, bt_not _ lv, ej, bt_one (by omega)]
          show _ = (bt (he (4 * b + x)) v && !(shutM wb wv wm b v i || (bt wm i && decide (wb i = nI b) && decide (wv i = nI v))))
          rw [c.1, decide_eq_true c.2, ej, show decide (nI j = nI v) = decide (v = j) from by simp only [nI_eq (a := j) (b := v) (by omega) (by omega)]; exact decide_eq_decide.mpr eq_comm]
          cases bt (he (4 * b + x)) v <;> cases shutM wb wv wm b v i <;> cases decide (v = j) <;> rfl
        · show fX7_sounds_18 _ _ _ _ (m + 1) s (nI i) = _
          rw [e0, if_pos ((shr_1 _ li).mpr c.1), if_pos c.2]
      · refine ⟨s, ⟨i1, fun v hv => ?_⟩, ?_⟩
        · show _ = (bt (he (4 * b + x)) v && !(shutM wb wv wm b v i || (bt wm i && decide (wb i = nI b) && decide (wv i = nI v))))
          rw [i2 v hv]
          have : (bt wm i && decide (wb i = nI b) && decide (wv i = nI v)) = false := by
            by_cases d : bt wm i = true
            · have : ¬ wb i = nI b := fun q => c ⟨d, q⟩
              rw [decide_eq_false this, Bool.and_false, Bool.false_and]
            · have : bt wm i = false := by simpa using d
              rw [this, Bool.false_and, Bool.false_and]
          rw [this, Bool.or_false]
        · show fX7_sounds_18 _ _ _ _ (m + 1) s (nI i) = _
          rw [e0, m1]
          by_cases d : bt wm i = true
          · have : ¬ wb i = nI b := fun q => c ⟨d, q⟩
            rw [if_pos ((shr_1 _ li).mpr d), if_neg this]
          · rw [if_neg (fun z => d ((shr_1 _ li).mp z))])
    fu 0 (he (4 * b + x)) (Nat.zero_le w) (by show w - 0 < 50000; omega) ⟨hV.2.2.2.2.1 b hb x hx, fun v _ => by show _ = (_ && !false); rw [Bool.not_false, Bool.and_true]⟩
  obtain ⟨z, h1, h2⟩ := h
  exact ⟨z, h2, h1⟩
theorem hall_ok {n w k g : Nat} {te fr ro he sh wb wv nv nw ns si bk : Nat → Int32} (hN : RN n w k g) (hV : VW n w k g te fr ro he sh wb wv nv nw ns si) (hB : BK n w k g te fr ro he wb wv nv nw ns si bk) {b x : Nat} (hb : b < n) (hx : x < 4) :
    fX7_hall bk (nI b) (nI x) = some (hearD he sh b x) := by
  have hn6 : n ≤ 6 := hN.2.1
  have hw8 : w ≤ 8 := hN.2.2.1
  obtain ⟨z, h1, h2, h3⟩ := sounds_ok hN hV hB hb hx 255
  unfold fX7_hall
  rw [h1, bind_some']
  congr 1
  refine bel_ext h2 (bel_hear hV hb hx) (fun v hv => ?_)
  rw [h3 v hv, hearD_bt (by omega), shutM_255 _ _ _ _ w hw8, (hV.2.2.2.2.2.1 b hb).2 v hv]
theorem P_heard {vi wo ne sg : Int32} {te fr ro he sh wb wv nv nw ns si bk : Nat → Int32} (hR : RV vi wo ne sg te fr ro he sh wb wv nv nw ns si bk) {rb rn rf : Int32} {q : Nat → Int32} (hc : RC rb rn rf q) (p0 p1 : Int32) :
    ∃ ox om, fX6_heard rb rn rf vi he sh p0 p1 = some ox ∧ fX7_heard bk q p0 p1 = some om ∧ ox.1 = om.1 ∧ RC ox.2.1 ox.2.2.1 ox.2.2.2 om.2 := by
  obtain ⟨n, w, k, g, hN, rfl, rfl, rfl, rfl, hV, hB⟩ := id hR
  have hn6 : n ≤ 6 := hN.2.1
  have hb0 : bk 0 = nI n := hB.1.1
  have hn0 : 0 < n := Nat.lt_of_lt_of_le (by decide) hN.1
  obtain ⟨b2, n2, f2, q2, k1, k2, k3⟩ := bad_ok hc
  unfold fX6_heard fX7_heard
  rcases vil (n := n) (by omega) hn0 p0 with ⟨h1, h2⟩ | ⟨b, hb, rfl, h1, h2⟩
  · exact ⟨(-2, b2, n2, f2), (-2, q2), by rw [h1]; simp [k1], by rw [h2 bk hb0, k2]; rfl, rfl, k3⟩
  rcases wind p1 with ⟨h5, h6⟩ | ⟨x, hx, rfl, h5, h6⟩
  · exact ⟨(-2, b2, n2, f2), (-2, q2), by rw [h1, h5]; simp [k1], by rw [h2 bk hb0, h6, k2]; rfl, rfl, k3⟩
  have hz : okR (hearD he sh b x) := by
    left
    have hbl := bel_hear (b := b) (x := x) hV hb hx
    have h31 : bt (hearD he sh b x) 31 = false := hbl 31 (by omega)
    have : ¬ hearD he sh b x < 0 := by
      intro hh
      have h1 := (fa_lt _ _).mp hh
      have hz : (0 : Int32).toInt = 0 := rfl
      unfold bt at h31
      have h4 : (hearD he sh b x).toBitVec.msb = false := by
        rw [BitVec.msb_eq_getLsbD_last]; exact h31
      have h5 : 0 ≤ (hearD he sh b x).toInt := BitVec.toInt_nonneg_of_msb_false h4
      omega
    refine (fa_le _ _).mpr ?_
    have h6 := mt (fa_lt _ _).mpr this
    have hz : (0 : Int32).toInt = 0 := rfl
    have hm : (-1 : Int32).toInt = -1 := rfl
    omega
  obtain ⟨b3, n3, f3, q3, k4, k5, k6⟩ := told_counted hc hz
  have hq3 : q3 = q := by
    have : fX7_told q (hearD he sh b x) = some (hearD he sh b x, q) := by
      unfold fX7_told
      rw [if_pos]
      have hbl := bel_hear (b := b) (x := x) hV hb hx
      have h31 : bt (hearD he sh b x) 31 = false := hbl 31 (by omega)
      rcases hz with h | h | h | h
      · exact h
      · rw [h] at h31; exact absurd h31 (by decide +kernel)
      · rw [h] at h31; exact absurd h31 (by decide +kernel)
      · rw [h] at h31; exact absurd h31 (by decide +kernel)
    rw [this] at k5; exact (Prod.mk.inj (Option.some.inj k5)).2.symm
  subst hq3
  refine ⟨(hearD he sh b x, b3, n3, f3), (hearD he sh b x, q3), ?_, ?_, rfl, k6⟩
  · rw [h1, h5, heardIn_ok (by omega) hx]
    simp [k4]
  · rw [h2 bk hb0, h6, hall_ok hN hV hB hb hx]
    simp
