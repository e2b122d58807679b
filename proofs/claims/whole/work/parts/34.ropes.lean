/-! ROPES: rows of digits -/
def dgN (n many row k : Nat) : Nat := row / n ^ (many - 1 - k) % n
theorem dgN_lt {n many row k : Nat} (hn : 0 < n) : dgN n many row k < n := Nat.mod_lt _ hn
theorem digit_ok {n : Nat} {bk : Nat → Int32} (hb0 : bk 0 = nI n) (h1 : 2 ≤ n) (h2 : n ≤ 6) {row many k : Nat} (hr : row < 2 ^ 30) (hk : k < many) (hm : many ≤ 6) : fX7_digit bk (nI row) (nI many) (nI k) = some (nI (dgN n many row k)) := by
  have loop : ∀ (kx : Int32 → Int32 → Option Int32) (d m v : Nat), d < m → v < 2 ^ 30 → d ≤ 6 → fX7_digit_8 (nI k) bk kx m (nI v) (nI (k + d)) = kx (nI (v / n ^ d)) (nI k) := by
    intro kx d
    induction d with
    | zero =>
      intro m v hm hv _
      obtain ⟨m', rfl⟩ : ∃ m', m = m' + 1 := ⟨m - 1, by omega⟩
      rw [fX7_digit_8, Nat.add_zero, if_pos (nI_le (Nat.le_refl k) (by omega)), Nat.pow_zero, Nat.div_one]
    | succ d ih =>
      intro m v hm hv hd
      obtain ⟨m', rfl⟩ : ∃ m', m = m' + 1 := ⟨m - 1, by omega⟩
      have dv : dvI (nI v) (nI n) = some (nI (v / n)) := by
        unfold dvI
        rw [if_neg (nI_ne0 (by omega) (by omega)), pk_div (by omega) (by omega) (by omega)]
      have hvn : v / n < 2 ^ 30 := Nat.lt_of_le_of_lt (Nat.div_le_self v n) hv
      rw [fX7_digit_8, if_neg (nI_ge (by omega) (by omega)), rdB0, bind_some', hb0, dv, bind_some', show nI (k + (d + 1)) + (-1) = nI (k + d) from pk_m1 (k + d), ih m' (v / n) (by omega) hvn (by omega), Nat.div_div_eq_div_mul, Nat.pow_succ, Nat.mul_comm n]
  unfold fX7_digit
  have e1 : nI many - 1 = nI (k + (many - 1 - k)) := by
    have := nI_pred (many - 1)
    rw [Nat.sub_add_cancel (by omega)] at this
    rw [this]; congr 1; omega
  rw [e1, loop _ (many - 1 - k) fu row (by show many - 1 - k < 50000; omega) hr (by omega), rdB0, bind_some', hb0]
  unfold rmI
  have l : row / n ^ (many - 1 - k) ≤ row := Nat.div_le_self _ _
  rw [if_neg (nI_ne0 (by omega) (by omega)), pk_rem (by omega) (by omega) (by omega), bind_some']
  rfl
theorem pow_le6 {n d : Nat} (h2 : n ≤ 6) (hd : d ≤ 6) : n ^ d ≤ 46656 := by
  have a : n ^ d ≤ 6 ^ d := Nat.pow_le_pow_left h2 d
  have b : (6 : Nat) ^ d ≤ 6 ^ 6 := Nat.pow_le_pow_right (by decide) hd
  have c : (6 : Nat) ^ 6 = 46656 := by decide
  omega
theorem rows_ok {n : Nat} {bk : Nat → Int32} (hb0 : bk 0 = nI n) {d : Nat} (hd : d ≤ 6) : fX7_rows bk (nI d) = some (nI (n ^ d)) := by
  unfold fX7_rows
  exact forR (fun m i (s : Int32) => fX7_rows_4 (nI d) bk (fun z _ => some z) m s i) d (fun i s => s = nI (n ^ i)) _
    (fun m s hI => by
      show fX7_rows_4 _ _ _ (m + 1) s (nI d) = _
      rw [fX7_rows_4, if_pos (nI_le (Nat.le_refl d) (by omega)), hI])
    (fun m i s hi hI => Or.inr ⟨_, rfl, by
      show fX7_rows_4 _ _ _ (m + 1) s (nI i) = _
      rw [fX7_rows_4, if_neg (nI_ge hi (by omega)), rdB0, bind_some', hb0, hI, pk_mul, nI_1, Nat.pow_succ]⟩)
    fu 0 1 (Nat.zero_le d) (by show d - 0 < 50000; omega) rfl
/-- all digits differ -/
def unlB (n many row : Nat) : Nat → Bool := allB (fun k => !anyB (fun j => decide (dgN n many row j = dgN n many row k)) k)
theorem areUnlike_ok {n : Nat} {bk : Nat → Int32} (hb0 : bk 0 = nI n) (h1 : 2 ≤ n) (h2 : n ≤ 6) {row many : Nat} (hr : row < 2 ^ 30) (hm : many ≤ 6) : fX7_areUnlike bk (nI row) (nI many) = some (b01 (unlB n many row many)) := by
  unfold fX7_areUnlike
  exact forR (fun m i (s : Int32 × Int32) => fX7_areUnlike_8 (nI row) (nI many) bk (fun _ z _ => (zbI z).bind (fun z9 => some z9)) m s.1 s.2 i) many
    (fun k s => (∀ d, d < n → bt s.1 d = anyB (fun j => decide (dgN n many row j = d)) k) ∧ s.2 = b01 (unlB n many row k)) _
    (fun m s hI => by
      show fX7_areUnlike_8 _ _ _ _ (m + 1) s.1 s.2 (nI many) = _
      rw [fX7_areUnlike_8, if_pos (nI_le (Nat.le_refl many) (by omega)), hI.2, zbI_b, bind_some'])
    (fun m k s hk hI => Or.inr (by
      have ld : dgN n many row k < n := dgN_lt (by omega)
      refine ⟨(s.1 ||| ((1 : Int32) <<< (nI (dgN n many row k) &&& 31)), b01 (unlB n many row (k + 1))), ⟨fun d hd => ?_, rfl⟩, ?_⟩
      · show bt (s.1 ||| _) d = (anyB (fun j => decide (dgN n many row j = d)) k || decide (dgN n many row k = d))
        rw [b_or, hI.1 d hd, bt_one (by omega)]
        congr 1
        exact decide_eq_decide.mpr eq_comm
      · show fX7_areUnlike_8 _ _ _ _ (m + 1) s.1 s.2 (nI k) = _
        rw [fX7_areUnlike_8, if_neg (nI_ge hk (by omega)), digit_ok hb0 h1 h2 hr hk hm, bind_some', hI.2, nI_1]
        have tst : (s.1 &&& ((1 : Int32) <<< (nI (dgN n many row k) &&& 31)) = 0) ↔ bt s.1 (dgN n many row k) = false := by
          constructor
          · intro h
            have := b_and s.1 ((1 : Int32) <<< (nI (dgN n many row k) &&& 31)) (dgN n many row k)
            rw [h, b_0, bt_one (by omega), decide_eq_true rfl, Bool.and_true] at this
            exact this.symm
          · intro h
            refine b_ext (fun i hi => ?_)
            rw [b_and, bt_one (by omega), b_0]
            by_cases e : i = dgN n many row k
            · rw [e, h, Bool.false_and]
            · rw [decide_eq_false e, Bool.and_false]
        have e2 : (if b01 (unlB n many row k) = 0 then some 0 else (if (s.1 &&& ((1 : Int32) <<< (nI (dgN n many row k) &&& 31))) = 0 then some 1 else some 0) : Option Int32) = some (b01 (unlB n many row (k + 1))) := by
          have e3 : unlB n many row (k + 1) = (unlB n many row k && !anyB (fun j => decide (dgN n many row j = dgN n many row k)) k) := rfl
          rw [e3]
          cases unlB n many row k
          · rfl
          · rw [if_neg (by decide)]
            have := hI.1 _ ld
            cases c : anyB (fun j => decide (dgN n many row j = dgN n many row k)) k
            · rw [c] at this; rw [if_pos (tst.mpr this)]; rfl
            · rw [c] at this; rw [if_neg (fun z => by rw [tst.mp z] at this; cases this)]; rfl
        rw [e2, bind_some']))
    fu 0 (0, 1) (Nat.zero_le many) (by show many - 0 < 50000; omega) ⟨fun d _ => b_0 d, rfl⟩
theorem places_ok {n w k g : Nat} {te fr ro he sh wb wv nv nw ns si bk : Nat → Int32} (hN : RN n w k g) (hV : VW n w k g te fr ro he sh wb wv nv nw ns si) (hB : BK n w k g te fr ro he wb wv nv nw ns si bk) (aw : Nat → Int32) : ∃ aw', fX7_places bk aw = some aw' ∧ ∀ b, b < n → aw' b = anyD he sh b 4 := by
  have hn6 : n ≤ 6 := hN.2.1
  unfold fX7_places
  have inner : ∀ (kx : Int32 → (Nat → Int32) → Option (Nat → Int32)) (b : Nat) (s : Nat → Int32), b < n → s b = 0 → ∃ s', fX7_places_21 bk (nI b) kx fu 0 s = kx 4 s' ∧ s' b = anyD he sh b 4 ∧ ∀ j, j ≠ b → s' j = s j := by
    intro kx b s hb hs
    have h := forI (fun m i (s' : Nat → Int32) => fX7_places_21 bk (nI b) kx m i s') (fun s' => kx 4 s') 4 (fun i s' => s' b = anyD he sh b i ∧ ∀ j, j ≠ b → s' j = s j)
      (fun m s' _ => by
        show fX7_places_21 _ _ _ (m + 1) (nI 4) s' = _
        rw [fX7_places_21, if_pos (show (4 : Int32) ≤ nI 4 from by decide)]; rfl)
      (fun m i s' hi hI => by
        refine ⟨upd s' b (anyD he sh b (i + 1)), ⟨upd_at, fun j hj => by rw [upd_ne hj]; exact hI.2 j hj⟩, ?_⟩
        show fX7_places_21 _ _ _ (m + 1) (nI i) s' = _
        rw [fX7_places_21, if_neg (show ¬ (4 : Int32) ≤ nI i from nI_ge (b := 4) hi (by decide)), rdI_n (by omega) (by decide), bind_some', hall_ok hN hV hB hb hi, bind_some', wrI_n (by omega) (by decide), bind_some', hI.1, nI_1]; rfl)
      fu 0 s (by decide) (by decide) ⟨hs, fun _ _ => rfl⟩
    obtain ⟨s', h1, h2⟩ := h
    exact ⟨s', h2, h1⟩
  have h := forI (fun m i (s : Nat → Int32) => fX7_places_2 bk (fun _ a => some a) m i s) (fun s => some s) n (fun i s => ∀ b, b < i → s b = anyD he sh b 4)
    (fun m s _ => by
      show fX7_places_2 _ _ (m + 1) (nI n) s = _
      rw [fX7_places_2, rdB0, bind_some', hB.1.1, if_pos (nI_le (Nat.le_refl n) (by omega))])
    (fun m i s hi hI => by
      obtain ⟨s', e1, e2, e3⟩ := inner (fun _ a => fX7_places_2 bk (fun _ a => some a) m (nI (i + 1)) a) i (upd s i 0) hi upd_at
      refine ⟨s', fun b hb => ?_, ?_⟩
      · by_cases c : b = i
        · subst c; exact e2
        · rw [e3 b c, upd_ne c]; exact hI b (by omega)
      · show fX7_places_2 _ _ (m + 1) (nI i) s = _
        rw [fX7_places_2, rdB0, bind_some', hB.1.1, if_neg (nI_ge hi (by omega)), wrI_n (by omega) (by decide), bind_some', nI_1]
        exact e1)
    fu 0 aw (Nat.zero_le n) (by show n - 0 < 50000; omega) (fun b hb => absurd hb (Nat.not_lt_zero b))
  obtain ⟨s, h1, h2⟩ := h
  exact ⟨s, h2, h1⟩
/-- need k is met by the bells ahead of m, rung by the digits -/
def metD (he sh nv nw ns : Nat → Int32) (dg : Nat → Nat) (m : Nat) (i : Nat) : Bool := anyB (fun b => bt (ns i) (dg b) && bt (hearD he sh b (nw i).toNatClampNeg) (nv i).toNatClampNeg) m
def dueC (he sh nv nw ns : Nat → Int32) (dg : Nat → Nat) (m : Nat) : Nat → Nat
  | 0 => 0
  | i + 1 => dueC he sh nv nw ns dg m i + (if metD he sh nv nw ns dg m i = true then 1 else 0)
theorem dueC_le (he sh nv nw ns : Nat → Int32) (dg : Nat → Nat) (m : Nat) : ∀ i, dueC he sh nv nw ns dg m i ≤ i
  | 0 => Nat.le_refl 0
  | i + 1 => by
    have := dueC_le he sh nv nw ns dg m i
    show dueC he sh nv nw ns dg m i + _ ≤ i + 1
    split <;> omega
theorem dues_ok {n w k g : Nat} {te fr ro he sh wb wv nv nw ns si bk : Nat → Int32} (hN : RN n w k g) (hV : VW n w k g te fr ro he sh wb wv nv nw ns si) (hB : BK n w k g te fr ro he wb wv nv nw ns si bk) {row : Nat} (hr : row < 2 ^ 30) : fX7_dues bk (nI row) = some (nI (dueC he sh nv nw ns (dgN n n row) n k)) := by
  have hn6 : n ≤ 6 := hN.2.1
  have hk : k ≤ 12 := hN.2.2.2.1
  have inner : ∀ (kx : Int32 → Int32 → Option Int32) (i : Nat), i < k → fX7_dues_20 (nI row) bk (nI i) kx fu 0 0 = kx (b01 (metD he sh nv nw ns (dgN n n row) n i)) (nI n) := by
    intro kx i hi
    obtain ⟨v, hv, ev⟩ := hV.2.2.2.2.2.2.2.2.1 i hi
    obtain ⟨x, hx, ex⟩ := hV.2.2.2.2.2.2.2.2.2.1 i hi
    exact forR (fun m b (s : Int32) => fX7_dues_20 (nI row) bk (nI i) kx m s b) n (fun b s => s = b01 (metD he sh nv nw ns (dgN n n row) b i)) _
      (fun m s hI => by
        show fX7_dues_20 _ _ _ _ (m + 1) s (nI n) = _
        rw [fX7_dues_20, rdB0, bind_some', hB.1.1, if_pos (nI_le (Nat.le_refl n) (by omega)), hI])
      (fun m b s hb hI => Or.inr (by
        refine ⟨_, rfl, ?_⟩
        show fX7_dues_20 _ _ _ _ (m + 1) s (nI b) = _
        have ld : dgN n n row b < n := dgN_lt (by omega)
        have e3 : metD he sh nv nw ns (dgN n n row) (b + 1) i = (metD he sh nv nw ns (dgN n n row) b i || (bt (ns i) (dgN n n row b) && bt (hearD he sh b x) v)) := by
          unfold metD
          rw [ex, ev, nI_clamp (by omega), nI_clamp (by omega)]
          rfl
        rw [fX7_dues_20, rdB0, bind_some', hB.1.1, if_neg (nI_ge hb (by omega)), show (86 + nI i) = nI (86 + i) from by rw [show (86 : Int32) = nI 86 from rfl, nI_add], rdI_n (by omega) (by decide), bind_some', hB.2.2.2.2.2.2.2.2.2.1 i hi, bind_some', digit_ok hB.1.1 hN.1 hn6 hr hb hn6, bind_some', show (74 + nI i) = nI (74 + i) from by rw [show (74 : Int32) = nI 74 from rfl, nI_add], rdI_n (by omega) (by decide), bind_some', hB.2.2.2.2.2.2.2.2.1 i hi, ex, hall_ok hN hV hB hb hx, bind_some', show (62 + nI i) = nI (62 + i) from by rw [show (62 : Int32) = nI 62 from rfl, nI_add], rdI_n (by omega) (by decide), bind_some', hB.2.2.2.2.2.2.2.1 i hi, ev, nI_1, hI, shrb _ (by omega), shrb _ (by omega), e3]
        cases metD he sh nv nw ns (dgN n n row) b i <;> cases bt (ns i) (dgN n n row b) <;> cases bt (hearD he sh b x) v <;> rfl))
      fu 0 0 (Nat.zero_le n) (by show n - 0 < 50000; omega) rfl
  unfold fX7_dues
  exact forR (fun m i (s : Int32) => fX7_dues_4 (nI row) bk (fun z _ => some z) m s i) k (fun i s => s = nI (dueC he sh nv nw ns (dgN n n row) n i)) _
    (fun m s hI => by
      show fX7_dues_4 _ _ _ (m + 1) s (nI k) = _
      rw [fX7_dues_4, rdB2, bind_some', hB.1.2.2.1, if_pos (nI_le (Nat.le_refl k) (by omega)), hI])
    (fun m i s hi hI => Or.inr (by
      refine ⟨_, rfl, ?_⟩
      show fX7_dues_4 _ _ _ (m + 1) s (nI i) = _
      rw [fX7_dues_4, rdB2, bind_some', hB.1.2.2.1, if_neg (nI_ge hi (by omega)), inner _ i hi, nI_1, hI, nI_1]
      show _ = fX7_dues_4 _ _ _ m (nI (dueC he sh nv nw ns (dgN n n row) n i + (if metD he sh nv nw ns (dgN n n row) n i = true then 1 else 0))) (nI (i + 1))
      cases metD he sh nv nw ns (dgN n n row) n i
      · rw [if_pos (show b01 false = 0 from rfl), if_neg (by decide), show (0 : Int32) = nI 0 from rfl, nI_add]
      · rw [if_neg (show ¬ b01 true = 0 by decide), if_pos rfl]))
    fu 0 0 (Nat.zero_le k) (by show k - 0 < 50000; omega) rfl
/-- most, moved by one: 0 for none -/
def mI (M : Nat) : Int32 := nI M - 1
theorem mI_succ (M : Nat) : mI (M + 1) = nI M := nI_pred M
theorem mI_toInt {M : Nat} (h : M < 2 ^ 30) : (mI M).toInt = (M : Int) - 1 := by
  cases M with
  | zero => decide
  | succ M => rw [mI_succ, nI_toInt (by omega)]; omega
theorem mI_le {a b : Nat} (ha : a < 2 ^ 30) (hb : b < 2 ^ 30) : mI a ≤ mI b ↔ a ≤ b := by
  rw [fa_le, mI_toInt ha, mI_toInt hb]; omega
theorem mI_none {a : Nat} (ha : a < 2 ^ 30) : mI a = -1 ↔ a = 0 := by
  rw [show (-1 : Int32) = mI 0 from by decide, fa_eq, mI_toInt ha, mI_toInt (by decide)]; omega
/-- the row may be -/
def okRow (n : Nat) (he sh : Nat → Int32) (row : Nat) : Bool := unlB n n row n && allB (fun b => !bt (anyD he sh b 4) (dgN n n row b)) n
def valR (n k : Nat) (he sh nv nw ns : Nat → Int32) (row : Nat) : Nat := if okRow n he sh row = true then dueC he sh nv nw ns (dgN n n row) n k + 1 else 0
def ropT (val : Nat → Nat) : Nat → Nat × Nat → Nat × Nat := fun row s => if val row ≤ s.1 then s else (val row, row)
theorem ropesM_ok {n w k g : Nat} {te fr ro he sh wb wv nv nw ns si bk : Nat → Int32} (hN : RN n w k g) (hV : VW n w k g te fr ro he sh wb wv nv nw ns si) (hB : BK n w k g te fr ro he wb wv nv nw ns si bk) {aw : Nat → Int32} (haw : ∀ b, b < n → aw b = anyD he sh b 4) (kx : Int32 → Int32 → Int32 → Option (Int32 × (Nat → Int32) × (Nat → Int32))) :
    fX7_ropes_35 bk aw kx fu (-1) 0 0 = kx (mI (itS (ropT (valR n k he sh nv nw ns)) (n ^ n) (0, 0)).1) (nI (itS (ropT (valR n k he sh nv nw ns)) (n ^ n) (0, 0)).2) (nI (n ^ n)) := by
  have hn6 : n ≤ 6 := hN.2.1
  have hk : k ≤ 12 := hN.2.2.2.1
  have hp := pow_le6 (n := n) (d := n) hn6 hn6
  have vle : ∀ row, valR n k he sh nv nw ns row ≤ 13 := by
    intro row
    unfold valR
    split
    · have := dueC_le he sh nv nw ns (dgN n n row) n k; omega
    · omega
  have may : ∀ (K : Int32 → Int32 → Option (Int32 × (Nat → Int32) × (Nat → Int32))) (R0 R1 : Option (Int32 × (Nat → Int32) × (Nat → Int32))) (row : Nat), row < 2 ^ 30 → (∀ z, K 0 z = R0) → (∀ z, K 1 z = R1) → ∀ c : Bool, fX7_ropes_67 bk aw (nI row) K fu (b01 c) 0 = if (c && allB (fun b => !bt (anyD he sh b 4) (dgN n n row b)) n) = true then R1 else R0 := by
    intro K R0 R1 row hr k0 k1 c
    have zero : ∀ (m : Nat) (y : Int32), fX7_ropes_67 bk aw (nI row) K (m + 1) 0 y = R0 := by
      intro m y
      rw [fX7_ropes_67, rdB0, bind_some']
      split
      · exact k0 _
      · rw [if_pos rfl]; exact k0 _
    cases c
    · rw [Bool.false_and, if_neg (by decide)]
      exact zero 49999 0
    · rw [Bool.true_and]
      have step : ∀ (m b : Nat), b < n → fX7_ropes_67 bk aw (nI row) K (m + 1) 1 (nI b) = fX7_ropes_67 bk aw (nI row) K m (b01 (!bt (anyD he sh b 4) (dgN n n row b))) (nI (b + 1)) := by
        intro m b hb
        have ld : dgN n n row b < n := dgN_lt (by omega)
        rw [fX7_ropes_67, rdB0, bind_some', hB.1.1, if_neg (nI_ge hb (by omega)), if_neg (by decide), rdI_n (by omega) (by decide), bind_some', bind_some', digit_ok hB.1.1 hN.1 hn6 hr hb hn6, bind_some', haw b hb, shrb _ (by omega), nI_1]
        cases bt (anyD he sh b 4) (dgN n n row b) <;> rfl
      cases d : allB (fun b => !bt (anyD he sh b 4) (dgN n n row b)) n
      · rw [if_neg (by decide)]
        obtain ⟨i0, hi0, hp0⟩ := allB_no d
        have go : ∀ (e i m : Nat), i + e = i0 → e + 1 < m → fX7_ropes_67 bk aw (nI row) K m 1 (nI i) = R0 := by
          intro e
          induction e with
          | zero =>
            intro i m hi hm
            obtain ⟨m', rfl⟩ : ∃ m', m = m' + 2 := ⟨m - 2, by omega⟩
            have : i = i0 := by omega
            subst this
            rw [step (m' + 1) i hi0, hp0]
            exact zero m' _
          | succ e ih =>
            intro i m hi hm
            obtain ⟨m', rfl⟩ : ∃ m', m = m' + 2 := ⟨m - 2, by omega⟩
            rw [step (m' + 1) i (by omega)]
            cases f : (!bt (anyD he sh i 4) (dgN n n row i))
            · exact zero m' _
            · exact ih (i + 1) (m' + 1) (by omega) (by omega)
        exact go i0 0 fu (by omega) (by show i0 + 1 < 50000; omega)
      · rw [if_pos rfl]
        have hall := (allB_iff _ n).mp d
        exact forR (fun m i (_ : Unit) => fX7_ropes_67 bk aw (nI row) K m 1 i) n (fun _ _ => True) _
          (fun m s _ => by
            show fX7_ropes_67 _ _ _ _ (m + 1) 1 (nI n) = _
            rw [fX7_ropes_67, rdB0, bind_some', hB.1.1, if_pos (nI_le (Nat.le_refl n) (by omega))]; exact k1 _)
          (fun m i s hi _ => Or.inr ⟨(), trivial, by
            show fX7_ropes_67 _ _ _ _ (m + 1) 1 (nI i) = _
            rw [step m i hi, hall i hi]; rfl⟩)
          fu 0 () (Nat.zero_le n) (by show n - 0 < 50000; omega) trivial
  exact foldLI (fun m i (s : Nat × Nat) => fX7_ropes_35 bk aw kx m (mI s.1) (nI s.2) i) (fun s => kx (mI s.1) (nI s.2) (nI (n ^ n))) (n ^ n) (ropT (valR n k he sh nv nw ns)) (fun s => s.1 ≤ 13) (by omega)
    (fun m s => by
      show fX7_ropes_35 _ _ _ (m + 1) (mI s.1) (nI s.2) (nI (n ^ n)) = _
      rw [fX7_ropes_35, rdB0, bind_some', hB.1.1, rows_ok hB.1.1 hn6, bind_some', if_pos (nI_le (Nat.le_refl _) (by omega))])
    (fun m row s hrow hJ => by
      show fX7_ropes_35 _ _ _ (m + 1) (mI s.1) (nI s.2) (nI row) = fX7_ropes_35 _ _ _ m (mI (ropT _ row s).1) (nI (ropT _ row s).2) (nI (row + 1))
      have hv := vle row
      have fin : ∀ V : Nat, V ≤ 13 → (some (mI V)).bind (fun f20 => (if f20 ≤ mI s.1 then some (nI s.2) else some (nI row) : Option Int32).bind (fun f23 => (if f20 ≤ mI s.1 then (fX7_ropes_35 bk aw kx m (mI s.1) f23 (nI (row + 1))) else (fX7_ropes_35 bk aw kx m f20 f23 (nI (row + 1)))))) = if V ≤ s.1 then fX7_ropes_35 bk aw kx m (mI s.1) (nI s.2) (nI (row + 1)) else fX7_ropes_35 bk aw kx m (mI V) (nI row) (nI (row + 1)) := by
        intro V hV13
        rw [bind_some']
        by_cases c : V ≤ s.1
        · rw [if_pos ((mI_le (by omega) (by omega)).mpr c), bind_some', if_pos ((mI_le (by omega) (by omega)).mpr c), if_pos c]
        · rw [if_neg (fun z => c ((mI_le (by omega) (by omega)).mp z)), bind_some', if_neg (fun z => c ((mI_le (by omega) (by omega)).mp z)), if_neg c]
      rw [fX7_ropes_35, rdB0, bind_some', hB.1.1, rows_ok hB.1.1 hn6, bind_some', if_neg (nI_ge hrow (by omega)), bind_some', areUnlike_ok hB.1.1 hN.1 hn6 (by omega) hn6, bind_some', nI_1]
      rw [may (fun x5 _ => (if x5 = 0 then some (-1) else (fX7_dues bk (nI row)).bind (fun g21 => some g21) : Option Int32).bind (fun f20 => (if f20 ≤ mI s.1 then some (nI s.2) else some (nI row) : Option Int32).bind (fun f23 => (if f20 ≤ mI s.1 then (fX7_ropes_35 bk aw kx m (mI s.1) f23 (nI (row + 1))) else (fX7_ropes_35 bk aw kx m f20 f23 (nI (row + 1)))))))
        (if 0 ≤ s.1 then fX7_ropes_35 bk aw kx m (mI s.1) (nI s.2) (nI (row + 1)) else fX7_ropes_35 bk aw kx m (mI 0) (nI row) (nI (row + 1)))
        (if dueC he sh nv nw ns (dgN n n row) n k + 1 ≤ s.1 then fX7_ropes_35 bk aw kx m (mI s.1) (nI s.2) (nI (row + 1)) else fX7_ropes_35 bk aw kx m (mI (dueC he sh nv nw ns (dgN n n row) n k + 1)) (nI row) (nI (row + 1))) row (by omega)
        (fun z => by rw [if_pos rfl]; exact fin 0 (by omega))
        (fun z => by
          have := dueC_le he sh nv nw ns (dgN n n row) n k
          rw [if_neg (by decide), dues_ok hN hV hB (by omega), bind_some', ← mI_succ]; exact fin _ (by omega))]
      by_cases c : okRow n he sh row = true
      · have hvr : valR n k he sh nv nw ns row = dueC he sh nv nw ns (dgN n n row) n k + 1 := if_pos c
        have c' : (unlB n n row n && allB (fun b => !bt (anyD he sh b 4) (dgN n n row b)) n) = true := c
        rw [if_pos c']
        unfold ropT
        rw [hvr]
        split <;> rfl
      · have hvr : valR n k he sh nv nw ns row = 0 := if_neg c
        have c' : ¬ (unlB n n row n && allB (fun b => !bt (anyD he sh b 4) (dgN n n row b)) n) = true := c
        rw [if_neg c']
        unfold ropT
        rw [hvr, if_pos (Nat.zero_le _), if_pos (Nat.zero_le _)])
    (fun row s _ hs => by
      unfold ropT
      split
      · exact hs
      · exact vle row)
    (0, 0) (by decide)
