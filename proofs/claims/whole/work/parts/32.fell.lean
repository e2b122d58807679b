/-! WOODS to be felled -/
def anyB (p : Nat → Bool) : Nat → Bool
  | 0 => false
  | n + 1 => anyB p n || p n
def allB (p : Nat → Bool) : Nat → Bool
  | 0 => true
  | n + 1 => allB p n && p n
theorem anyB_iff (p : Nat → Bool) : ∀ n, anyB p n = true ↔ ∃ i, i < n ∧ p i = true
  | 0 => ⟨fun h => (by cases h), fun ⟨i, hi, _⟩ => absurd hi (Nat.not_lt_zero i)⟩
  | n + 1 => by
    show (anyB p n || p n) = true ↔ _
    rw [Bool.or_eq_true, anyB_iff p n]
    constructor
    · rintro (⟨i, hi, h⟩ | h)
      · exact ⟨i, by omega, h⟩
      · exact ⟨n, by omega, h⟩
    · rintro ⟨i, hi, h⟩
      by_cases c : i = n
      · subst c; exact Or.inr h
      · exact Or.inl ⟨i, by omega, h⟩
theorem allB_iff (p : Nat → Bool) : ∀ n, allB p n = true ↔ ∀ i, i < n → p i = true
  | 0 => ⟨fun _ i hi => absurd hi (Nat.not_lt_zero i), fun _ => rfl⟩
  | n + 1 => by
    show (allB p n && p n) = true ↔ _
    rw [Bool.and_eq_true, allB_iff p n]
    constructor
    · rintro ⟨h1, h2⟩ i hi
      by_cases c : i = n
      · subst c; exact h2
      · exact h1 i (by omega)
    · intro h
      exact ⟨fun i hi => h i (by omega), h n (by omega)⟩
theorem anyB_no {p : Nat → Bool} {n : Nat} (h : anyB p n = false) : ∀ i, i < n → p i = false := fun i hi => by
  cases c : p i
  · rfl
  · exact absurd ((anyB_iff p n).mpr ⟨i, hi, c⟩) (by rw [h]; decide)
theorem allB_no {p : Nat → Bool} {n : Nat} (h : allB p n = false) : ∃ i, i < n ∧ p i = false := Classical.byContradiction (fun hn => by
  have : allB p n = true := (allB_iff p n).mpr (fun i hi => by
    cases c : p i
    · exact absurd ⟨i, hi, c⟩ hn
    · rfl)
  rw [h] at this; cases this)
/-- the bells between: bit i of bw (6b + v) says that wood i shuts b out of v -/
theorem between_ok {n w k g : Nat} {te fr ro he sh wb wv nv nw ns si : Nat → Int32} (hN : RN n w k g) (hV : VW n w k g te fr ro he sh wb wv nv nw ns si) {g1 : Nat → Int32} (h0 : ∀ j, j < 36 → g1 j = 0) (kx : Int32 → (Nat → Int32) → Option (Int32 × (Nat → Int32))) :
    ∃ bw, fX5_go_10 (nI w) wb wv kx fu 0 g1 = kx (nI w) bw ∧ ∀ b v, b < n → v < n → bel (bw (6 * b + v)) w ∧ ∀ i, i < w → bt (bw (6 * b + v)) i = (decide (wb i = nI b) && decide (wv i = nI v)) := by
  have hn6 : n ≤ 6 := hN.2.1
  have hw8 : w ≤ 8 := hN.2.2.1
  have h := forI (fun m i (s : Nat → Int32) => fX5_go_10 (nI w) wb wv kx m i s) (fun s => kx (nI w) s) w (fun i s => ∀ b v, b < n → v < n → bel (s (6 * b + v)) i ∧ ∀ j, j < i → bt (s (6 * b + v)) j = (decide (wb j = nI b) && decide (wv j = nI v)))
    (fun m s _ => by
      show fX5_go_10 _ _ _ _ (m + 1) (nI w) s = _
      rw [fX5_go_10, if_pos (nI_le (Nat.le_refl w) (by omega))])
    (fun m i s hi hI => by
      obtain ⟨bb, hbb, eb⟩ := hV.2.2.2.2.2.2.1 i hi
      obtain ⟨vv, hvv, ev⟩ := hV.2.2.2.2.2.2.2.1 i hi
      refine ⟨upd s (6 * bb + vv) (s (6 * bb + vv) ||| ((1 : Int32) <<< (nI i &&& 31))), fun b v hb hv => ?_, ?_⟩
      · have e1 : decide (wb i = nI b) = decide (bb = b) := by rw [eb]; simp only [nI_eq (a := bb) (b := b) (by omega) (by omega)]
        have e2 : decide (wv i = nI v) = decide (vv = v) := by rw [ev]; simp only [nI_eq (a := vv) (b := v) (by omega) (by omega)]
        obtain ⟨i1, i2⟩ := hI b v hb hv
        by_cases c : bb = b ∧ vv = v
        · obtain ⟨rfl, rfl⟩ := c
          rw [upd_at]
          refine ⟨bel_or (bel_mono i1 (by omega)) (bel_one (by omega) (by omega)), fun j hj => ?_⟩
          rw [b_or, bt_one (by omega)]
          by_cases d : j = i
          · subst d; rw [e1, e2]; simp
          · rw [i2 j (by omega), decide_eq_false d, Bool.or_false]
        · rw [upd_ne (by omega)]
          refine ⟨bel_mono i1 (by omega), fun j hj => ?_⟩
          by_cases d : j = i
          · subst d
            rw [i1 j (Nat.le_refl j), e1, e2]
            by_cases f : bb = b
            · have : ¬ vv = v := fun z => c ⟨f, z⟩
              rw [decide_eq_false this, Bool.and_false]
            · rw [decide_eq_false f, Bool.false_and]
          · exact i2 j (by omega)
      · show fX5_go_10 _ _ _ _ (m + 1) (nI i) s = _
        rw [fX5_go_10, if_neg (nI_ge hi (by omega)), rdI_n (by omega) (by decide), bind_some', rdI_n (by omega) (by decide), bind_some', eb, ev, pair_ok, bind_some', rdI_n (by omega) (by decide), bind_some', wrI_n (by omega) (by decide), bind_some', nI_1])
    fu 0 g1 (Nat.zero_le w) (by show w - 0 < 50000; omega) (fun b v hb hv => by rw [h0 _ (by omega)]; exact ⟨bel_0 0, fun j hj => absurd hj (Nat.not_lt_zero j)⟩)
  obtain ⟨bw, h1, h2⟩ := h
  exact ⟨bw, h2, h1⟩
theorem shutM_iff (wb wv : Nat → Int32) (wm : Int32) (b v : Nat) : ∀ w, shutM wb wv wm b v w = true ↔ ∃ i, i < w ∧ bt wm i = true ∧ wb i = nI b ∧ wv i = nI v
  | 0 => ⟨fun h => (by cases h), fun ⟨i, hi, _⟩ => absurd hi (Nat.not_lt_zero i)⟩
  | w + 1 => by
    show (shutM wb wv wm b v w || (bt wm w && decide (wb w = nI b) && decide (wv w = nI v))) = true ↔ _
    rw [Bool.or_eq_true, shutM_iff wb wv wm b v w, Bool.and_eq_true, Bool.and_eq_true, decide_eq_true_iff, decide_eq_true_iff]
    constructor
    · rintro (⟨i, hi, h⟩ | ⟨⟨h1, h2⟩, h3⟩)
      · exact ⟨i, by omega, h⟩
      · exact ⟨w, by omega, h1, h2, h3⟩
    · rintro ⟨i, hi, h1, h2, h3⟩
      by_cases c : i = w
      · subst c; exact Or.inr ⟨⟨h1, h2⟩, h3⟩
      · exact Or.inl ⟨i, by omega, h1, h2, h3⟩
/-- who could be due for need i when the woods of F are felled -/
def metB (n w : Nat) (ro he wb wv nv nw ns : Nat → Int32) (wm : Int32) (i : Nat) : Bool := anyB (fun b => bt (ns i) (ro b).toNatClampNeg && hearM he wb wv wm w b (nw i).toNatClampNeg (nv i).toNatClampNeg) n
def metA (n w k : Nat) (ro he wb wv nv nw ns : Nat → Int32) (wm : Int32) : Bool := allB (metB n w ro he wb wv nv nw ns wm) k
/-- the woods that stay -/
def stay (w : Nat) (F : Int32) : Int32 := ((1 : Int32) <<< (nI w &&& 31)) - 1 &&& (F ^^^ (-1))
theorem stay_bt {w : Nat} (hw : w ≤ 8) (F : Int32) {i : Nat} (hi : i < w) : bt (stay w F) i = !bt F i := by
  unfold stay
  rw [b_and, bt_not _ (by omega)]
  have : ∀ w, w ≤ 8 → ∀ i, i < w → bt (((1 : Int32) <<< (nI w &&& 31)) - 1) i = true := by decide +kernel
  rw [this w hw i hi, Bool.true_and]
theorem meetsOne_ok {n w k g : Nat} {te fr ro he sh wb wv nv nw ns si : Nat → Int32} (hN : RN n w k g) (hV : VW n w k g te fr ro he sh wb wv nv nw ns si) {bw : Nat → Int32} (hb : ∀ b v, b < n → v < n → bel (bw (6 * b + v)) w ∧ ∀ i, i < w → bt (bw (6 * b + v)) i = (decide (wb i = nI b) && decide (wv i = nI v))) (F : Int32) {i : Nat} (hi : i < k) :
    fX5_meetsOne bw (nI n) ro he nv nw ns (nI i) F = some (b01 (metB n w ro he wb wv nv nw ns (stay w F) i)) := by
  have hn6 : n ≤ 6 := hN.2.1
  have hw8 : w ≤ 8 := hN.2.2.1
  have hk : k ≤ 12 := hN.2.2.2.1
  obtain ⟨v, hv, ev⟩ := hV.2.2.2.2.2.2.2.2.1 i hi
  obtain ⟨x, hx, ex⟩ := hV.2.2.2.2.2.2.2.2.2.1 i hi
  have cell : ∀ b, b < n → (bw (6 * b + v) &&& (F ^^^ (-1)) = 0 ↔ shutM wb wv (stay w F) b v w = false) := by
    intro b hb2
    obtain ⟨h1, h2⟩ := hb b v hb2 hv
    rw [bel_zero (bel_and h1)]
    constructor
    · intro h
      cases c : shutM wb wv (stay w F) b v w
      · rfl
      · obtain ⟨j, hj, f1, f2, f3⟩ := (shutM_iff _ _ _ _ _ w).mp c
        have := h j hj
        rw [b_and, h2 j hj, decide_eq_true f2, decide_eq_true f3, bt_not _ (by omega)] at this
        rw [stay_bt hw8 F hj] at f1
        rw [f1] at this; cases this
    · intro h j hj
      rw [b_and, h2 j hj, bt_not _ (by omega)]
      by_cases c : wb j = nI b ∧ wv j = nI v
      · have : ¬ bt (stay w F) j = true := fun z => by
          rw [(shutM_iff wb wv (stay w F) b v w).mpr ⟨j, hj, z, c.1, c.2⟩] at h; cases h
        rw [stay_bt hw8 F hj] at this
        have h3 : (!bt F j) = false := by simpa using this
        rw [h3, Bool.and_false]
      · by_cases d : wb j = nI b
        · have : ¬ wv j = nI v := fun z => c ⟨d, z⟩
          rw [decide_eq_false this, Bool.and_false, Bool.false_and]
        · rw [decide_eq_false d, Bool.false_and, Bool.false_and]
  let P : Nat → Bool := fun b => bt (ns i) (ro b).toNatClampNeg && hearM he wb wv (stay w F) w b (nw i).toNatClampNeg (nv i).toNatClampNeg
  have step : ∀ (m b : Nat), b < n → fX5_meetsOne_11 (nI i) F bw (nI n) ro he nw ns (nI v) (fun _ => some 0) (m + 1) (nI b) = if P b = true then some 1 else fX5_meetsOne_11 (nI i) F bw (nI n) ro he nw ns (nI v) (fun _ => some 0) m (nI (b + 1)) := by
    intro m b hb2
    obtain ⟨r, hr, er⟩ := hV.2.2.1 b hb2
    have ea : nI b * 4 + nI x = nI (4 * b + x) := by rw [show (4 : Int32) = nI 4 from rfl, pk_mul, nI_add, Nat.mul_comm]
    have eP : P b = (bt (ns i) r && (bt (he (4 * b + x)) v && !shutM wb wv (stay w F) b v w)) := by
      show (bt (ns i) (ro b).toNatClampNeg && hearM he wb wv (stay w F) w b (nw i).toNatClampNeg (nv i).toNatClampNeg) = _
      rw [er, ex, ev, nI_clamp (by omega), nI_clamp (by omega), nI_clamp (by omega)]; rfl
    rw [fX5_meetsOne_11, if_neg (nI_ge hb2 (by omega)), rdI_n (f := ns) (by omega) (by decide), bind_some', rdI_n (f := ro) (by omega) (by decide), bind_some', er, has_eq _ (by omega), bind_some', rdI_n (f := nw) (by omega) (by decide), bind_some', ex, ea, rdI_n (f := he) (by omega) (by decide), bind_some', has_eq _ (by omega), bind_some', pair_ok, bind_some', rdI_n (f := bw) (by omega) (by decide), bind_some', nI_1, eP]
    cases bt (ns i) r
    · rfl
    · cases bt (he (4 * b + x)) v
      · rfl
      · rw [if_neg (by decide), if_neg (by decide)]
        cases c : shutM wb wv (stay w F) b v w
        · rw [if_pos ((cell b hb2).mpr c)]; rfl
        · rw [if_neg (fun z => by rw [(cell b hb2).mp z] at c; cases c)]; rfl
  unfold fX5_meetsOne
  rw [rdI_n (by omega) (by decide), bind_some', ev]
  cases c : metB n w ro he wb wv nv nw ns (stay w F) i
  · have hno := anyB_no (p := P) (n := n) c
    exact forR (fun m b (_ : Unit) => fX5_meetsOne_11 (nI i) F bw (nI n) ro he nw ns (nI v) (fun _ => some 0) m b) n (fun _ _ => True) _
      (fun m s _ => by
        show fX5_meetsOne_11 _ _ _ _ _ _ _ _ _ _ (m + 1) (nI n) = _
        rw [fX5_meetsOne_11, if_pos (nI_le (Nat.le_refl n) (by omega))]; rfl)
      (fun m b s hb2 _ => Or.inr ⟨(), trivial, by
        show fX5_meetsOne_11 _ _ _ _ _ _ _ _ _ _ (m + 1) (nI b) = _
        rw [step m b hb2, hno b hb2, if_neg (by decide)]⟩)
      fu 0 () (Nat.zero_le n) (by show n - 0 < 50000; omega) trivial
  · obtain ⟨b0, hb0, hp⟩ := (anyB_iff P n).mp c
    exact forR (fun m b (_ : Unit) => fX5_meetsOne_11 (nI i) F bw (nI n) ro he nw ns (nI v) (fun _ => some 0) m b) n (fun b _ => b ≤ b0) _
      (fun m s hI => absurd hI (by omega))
      (fun m b s hb2 hI => by
        by_cases d : P b = true
        · left
          show fX5_meetsOne_11 _ _ _ _ _ _ _ _ _ _ (m + 1) (nI b) = _
          rw [step m b hb2, if_pos d]; rfl
        · right
          refine ⟨(), ?_, ?_⟩
          · have : b ≠ b0 := fun z => d (z ▸ hp)
            omega
          · show fX5_meetsOne_11 _ _ _ _ _ _ _ _ _ _ (m + 1) (nI b) = _
            rw [step m b hb2, if_neg d])
      fu 0 () (Nat.zero_le n) (by show n - 0 < 50000; omega) (Nat.zero_le b0)
theorem meetsAll_ok {n w k g : Nat} {te fr ro he sh wb wv nv nw ns si : Nat → Int32} (hN : RN n w k g) (hV : VW n w k g te fr ro he sh wb wv nv nw ns si) {bw : Nat → Int32} (hb : ∀ b v, b < n → v < n → bel (bw (6 * b + v)) w ∧ ∀ i, i < w → bt (bw (6 * b + v)) i = (decide (wb i = nI b) && decide (wv i = nI v))) (F : Int32) :
    fX5_meetsAll bw (nI n) (nI k) ro he nv nw ns F = some (b01 (metA n w k ro he wb wv nv nw ns (stay w F))) := by
  have hk : k ≤ 12 := hN.2.2.2.1
  have step : ∀ (m i : Nat), i < k → fX5_meetsAll_2 F bw (nI n) (nI k) ro he nv nw ns (fun _ => some 1) (m + 1) (nI i) = if metB n w ro he wb wv nv nw ns (stay w F) i = true then fX5_meetsAll_2 F bw (nI n) (nI k) ro he nv nw ns (fun _ => some 1) m (nI (i + 1)) else some 0 := by
    intro m i hi
    rw [fX5_meetsAll_2, if_neg (nI_ge hi (by omega)), meetsOne_ok hN hV hb F hi, bind_some', nI_1]
    cases metB n w ro he wb wv nv nw ns (stay w F) i <;> rfl
  unfold fX5_meetsAll
  cases c : metA n w k ro he wb wv nv nw ns (stay w F)
  · obtain ⟨i0, hi0, hp⟩ := allB_no (p := metB n w ro he wb wv nv nw ns (stay w F)) (n := k) c
    exact forR (fun m i (_ : Unit) => fX5_meetsAll_2 F bw (nI n) (nI k) ro he nv nw ns (fun _ => some 1) m i) k (fun i _ => i ≤ i0) _
      (fun m s hI => absurd hI (by omega))
      (fun m i s hi hI => by
        by_cases d : metB n w ro he wb wv nv nw ns (stay w F) i = true
        · right
          refine ⟨(), ?_, ?_⟩
          · have : i ≠ i0 := fun z => by rw [z, hp] at d; cases d
            omega
          · show fX5_meetsAll_2 _ _ _ _ _ _ _ _ _ _ (m + 1) (nI i) = _
            rw [step m i hi, if_pos d]
        · left
          show fX5_meetsAll_2 _ _ _ _ _ _ _ _ _ _ (m + 1) (nI i) = _
          rw [step m i hi, if_neg d]; rfl)
      fu 0 () (Nat.zero_le k) (by show k - 0 < 50000; omega) (Nat.zero_le i0)
  · have hall := (allB_iff (metB n w ro he wb wv nv nw ns (stay w F)) k).mp c
    exact forR (fun m i (_ : Unit) => fX5_meetsAll_2 F bw (nI n) (nI k) ro he nv nw ns (fun _ => some 1) m i) k (fun _ _ => True) _
      (fun m s _ => by
        show fX5_meetsAll_2 _ _ _ _ _ _ _ _ _ _ (m + 1) (nI k) = _
        rw [fX5_meetsAll_2, if_pos (nI_le (Nat.le_refl k) (by omega))]; rfl)
      (fun m i s hi _ => Or.inr ⟨(), trivial, by
        show fX5_meetsAll_2 _ _ _ _ _ _ _ _ _ _ (m + 1) (nI i) = _
        rw [step m i hi, if_pos (hall i hi)]⟩)
      fu 0 () (Nat.zero_le k) (by show k - 0 < 50000; omega) trivial
theorem rchM_iff (ro he wb wv : Nat → Int32) (wm : Int32) (w x v u : Nat) : ∀ n, rchM ro he wb wv wm w x v u n = true ↔ ∃ b, b < n ∧ ro b = nI u ∧ hearM he wb wv wm w b x v = true
  | 0 => ⟨fun h => (by cases h), fun ⟨i, hi, _⟩ => absurd hi (Nat.not_lt_zero i)⟩
  | n + 1 => by
    show (rchM ro he wb wv wm w x v u n || (decide (ro n = nI u) && hearM he wb wv wm w n x v)) = true ↔ _
    rw [Bool.or_eq_true, rchM_iff ro he wb wv wm w x v u n, Bool.and_eq_true, decide_eq_true_iff]
    constructor
    · rintro (⟨i, hi, h⟩ | ⟨h1, h2⟩)
      · exact ⟨i, by omega, h⟩
      · exact ⟨n, by omega, h1, h2⟩
    · rintro ⟨i, hi, h1, h2⟩
      by_cases c : i = n
      · subst c; exact Or.inr ⟨h1, h2⟩
      · exact Or.inl ⟨i, by omega, h1, h2⟩
theorem dueM_zero {n w k g : Nat} {te fr ro he sh wb wv nv nw ns si bk : Nat → Int32} (hN : RN n w k g) (hV : VW n w k g te fr ro he sh wb wv nv nw ns si) (hB : BK n w k g te fr ro he wb wv nv nw ns si bk) {i : Nat} (hi : i < k) (wm : Int32) :
    ∃ z, fX7_dueFor bk (nI i) wm = some z ∧ (z = 0 ↔ metB n w ro he wb wv nv nw ns wm i = false) := by
  have hn6 : n ≤ 6 := hN.2.1
  obtain ⟨v, hv, ev⟩ := hV.2.2.2.2.2.2.2.2.1 i hi
  obtain ⟨x, hx, ex⟩ := hV.2.2.2.2.2.2.2.2.2.1 i hi
  obtain ⟨z, h1, h2, h3⟩ := dueFor_ok hN hV hB hi ev hv ex hx wm
  refine ⟨z, h1, ?_⟩
  rw [bel_zero h2]
  constructor
  · intro h
    cases c : metB n w ro he wb wv nv nw ns wm i
    · rfl
    · obtain ⟨b, hb, hp⟩ := (anyB_iff _ n).mp c
      obtain ⟨r, hr, er⟩ := hV.2.2.1 b hb
      rw [er, ex, ev, nI_clamp (by omega), nI_clamp (by omega), nI_clamp (by omega), Bool.and_eq_true] at hp
      have := h r hr
      rw [h3 r hr, hp.1, (rchM_iff ro he wb wv wm w x v r n).mpr ⟨b, hb, er, hp.2⟩] at this
      cases this
  · intro h u hu
    rw [h3 u hu]
    cases c : bt (ns i) u
    · rfl
    · cases d : rchM ro he wb wv wm w x v u n
      · rfl
      · obtain ⟨b, hb, e1, e2⟩ := (rchM_iff ro he wb wv wm w x v u n).mp d
        have := anyB_no h b hb
        rw [e1, ex, ev, nI_clamp (by omega), nI_clamp (by omega), nI_clamp (by omega), c, e2] at this
        cases this
def fellT (A : Int32 → Bool) : Nat → Int32 × Nat → Int32 × Nat := fun s x => if onesN (nI s) 8 < x.2 ∧ A (nI s) = true then (nI s, onesN (nI s) 8) else x
theorem P_fell {vi wo ne sg : Int32} {te fr ro he sh wb wv nv nw ns si bk : Nat → Int32} (hR : RV vi wo ne sg te fr ro he sh wb wv nv nw ns si bk) (btw : Nat → Int32) :
    ∃ ox r, fX6_fell vi wo ne ro he wb wv nv nw ns btw = some ox ∧ fX7_fell bk = some r ∧ ox.1 = r := by
  obtain ⟨n, w, k, g, hN, rfl, rfl, rfl, rfl, hV, hB⟩ := id hR
  have hn6 : n ≤ 6 := hN.2.1
  have hw8 : w ≤ 8 := hN.2.2.1
  have hk : k ≤ 12 := hN.2.2.2.1
  have p1 : 0 < 2 ^ w := Nat.two_pow_pos w
  have p2 : 2 ^ w ≤ 2 ^ 8 := Nat.pow_le_pow_right (by decide) hw8
  obtain ⟨g1, f1, f2⟩ := fill_ok (N := 36) (by decide) btw 0
  obtain ⟨bw, hbw, hcell⟩ := between_ok hN hV f2 (fun _ a => fX5_go_58 (nI n) (nI w) (nI k) ro he nv nw ns a (fun x _ _ => some ((x, a))) fu (-1) 9 0)
  let A : Int32 → Bool := fun F => metA n w k ro he wb wv nv nw ns (stay w F)
  let J : Int32 × Nat → Prop := fun x => (x.1 = -1 ∧ x.2 = 9) ∨ ∃ j, j < 256 ∧ x.1 = nI j ∧ x.2 = onesN (nI j) 8
  have hJ : ∀ i (x : Int32 × Nat), i < 2 ^ w → J x → J (fellT A i x) := by
    intro i x hi hx
    unfold fellT
    split
    · exact Or.inr ⟨i, by omega, rfl, rfl⟩
    · exact hx
  have xl : fX5_go_58 (nI n) (nI w) (nI k) ro he nv nw ns bw (fun x _ _ => some ((x, bw))) fu (-1) 9 0 = some ((itS (fellT A) (2 ^ w) (-1, 9)).1, bw) :=
    foldLI (fun m i (s : Int32 × Nat) => fX5_go_58 (nI n) (nI w) (nI k) ro he nv nw ns bw (fun x _ _ => some ((x, bw))) m s.1 (nI s.2) i) (fun s => some (s.1, bw)) (2 ^ w) (fellT A) J (by omega)
      (fun m s => by
        show fX5_go_58 _ _ _ _ _ _ _ _ _ _ (m + 1) s.1 (nI s.2) (nI (2 ^ w)) = _
        rw [fX5_go_58, shl_n w hw8, if_pos (nI_le (Nat.le_refl _) (by omega))])
      (fun m i s hi hj => by
        show fX5_go_58 _ _ _ _ _ _ _ _ _ _ (m + 1) s.1 (nI s.2) (nI i) = fX5_go_58 _ _ _ _ _ _ _ _ _ _ m (fellT A i s).1 (nI (fellT A i s).2) (nI (i + 1))
        have bi : bel (nI i) 8 := bel_nI (by omega)
        have o1 : onesN (nI i) 12 = onesN (nI i) 8 := onesN_bel bi 12 (by decide)
        have o2 := onesN_le (nI i) 8
        have s2 : s.2 ≤ 9 := by
          rcases hj with h | ⟨j, _, _, h⟩
          · omega
          · have := onesN_le (nI j) 8; omega
        rw [fX5_go_58, shl_n w hw8, if_neg (nI_ge hi (by omega)), bitCount_ok (bel_mono bi (by decide)), bind_some', o1, meetsAll_ok hN hV hcell, bind_some', bind_some', nI_1]
        by_cases c : onesN (nI i) 8 < s.2
        · rw [if_neg (nI_ge c (by omega))]
          cases d : A (nI i)
          · have eA : fellT A i s = s := if_neg (fun h => by rw [d] at h; cases h.2)
            have d' : metA n w k ro he wb wv nv nw ns (stay w (nI i)) = false := d
            rw [eA, d', if_pos (show b01 false = 0 from rfl)]
          · have eA : fellT A i s = (nI i, onesN (nI i) 8) := if_pos ⟨c, d⟩
            have d' : metA n w k ro he wb wv nv nw ns (stay w (nI i)) = true := d
            rw [eA, d', if_neg (show ¬ b01 true = 0 by decide)]
        · have eA : fellT A i s = s := if_neg (fun h => c h.1)
          rw [eA, if_pos (nI_le (by omega) (by omega))])
      hJ (-1, 9) (Or.inl ⟨rfl, rfl⟩)
  -- the reference's needs
  have inner : ∀ (F : Int32) (kx : Int32 → Int32 → Option Int32) (R0 R1 : Option Int32), (∀ z, kx 0 z = R0) → (∀ z, kx 1 z = R1) → ∀ c : Bool, fX7_fell_46 bk (nI w) F kx fu (b01 c) 0 = if (c && A F) = true then R1 else R0 := by
    intro F kx R0 R1 k0 k1 c
    cases c
    · unfold fu
      rw [fX7_fell_46, rdB2, bind_some']
      split
      · exact k0 _
      · rw [if_pos (show b01 false = 0 from rfl)]; exact k0 _
    · have step : ∀ (m i : Nat), i < k → fX7_fell_46 bk (nI w) F kx (m + 1) 1 (nI i) = fX7_fell_46 bk (nI w) F kx m (b01 (metB n w ro he wb wv nv nw ns (stay w F) i)) (nI (i + 1)) := by
        intro m i hi
        obtain ⟨z, z1, z2⟩ := dueM_zero hN hV hB hi (stay w F)
        have z1' : fX7_dueFor bk (nI i) ((((1 : Int32) <<< (nI w &&& 31)) - 1) &&& (F ^^^ (-1))) = some z := z1
        rw [fX7_fell_46, rdB2, bind_some', hB.1.2.2.1, if_neg (nI_ge hi (by omega)), if_neg (by decide), z1', bind_some', nI_1]
        cases d : metB n w ro he wb wv nv nw ns (stay w F) i
        · rw [if_pos (z2.mpr d)]; rfl
        · rw [if_neg (fun h => by rw [z2.mp h] at d; cases d)]; rfl
      have zero : ∀ (m : Nat) (y : Int32), fX7_fell_46 bk (nI w) F kx (m + 1) 0 y = R0 := by
        intro m y
        rw [fX7_fell_46, rdB2, bind_some']
        split
        · exact k0 _
        · rw [if_pos rfl]; exact k0 _
      show fX7_fell_46 bk (nI w) F kx fu 1 0 = if A F = true then R1 else R0
      cases d : A F
      · rw [if_neg (by decide)]
        obtain ⟨i0, hi0, hp⟩ := allB_no (p := metB n w ro he wb wv nv nw ns (stay w F)) (n := k) d
        have go : ∀ (e i m : Nat), i + e = i0 → e + 1 < m → (∀ j, i ≤ j → j < i0 → metB n w ro he wb wv nv nw ns (stay w F) j = true ∨ True) → fX7_fell_46 bk (nI w) F kx m 1 (nI i) = R0 := by
          intro e
          induction e with
          | zero =>
            intro i m hi hm _
            obtain ⟨m', rfl⟩ : ∃ m', m = m' + 2 := ⟨m - 2, by omega⟩
            have : i = i0 := by omega
            subst this
            rw [step (m' + 1) i hi0, hp]
            exact zero m' _
          | succ e ih =>
            intro i m hi hm hh
            obtain ⟨m', rfl⟩ : ∃ m', m = m' + 2 := ⟨m - 2, by omega⟩
            rw [step (m' + 1) i (by omega)]
            cases f : metB n w ro he wb wv nv nw ns (stay w F) i
            · exact zero m' _
            · exact ih (i + 1) (m' + 1) (by omega) (by omega) (fun _ _ _ => Or.inr trivial)
        exact go i0 0 fu (by omega) (by show i0 + 1 < 50000; omega) (fun _ _ _ => Or.inr trivial)
      · rw [if_pos rfl]
        have hall := (allB_iff (metB n w ro he wb wv nv nw ns (stay w F)) k).mp d
        exact forR (fun m i (_ : Unit) => fX7_fell_46 bk (nI w) F kx m 1 i) k (fun _ _ => True) _
          (fun m s _ => by
            show fX7_fell_46 _ _ _ _ (m + 1) 1 (nI k) = _
            rw [fX7_fell_46, rdB2, bind_some', hB.1.2.2.1, if_pos (nI_le (Nat.le_refl k) (by omega))]; exact k1 _)
          (fun m i s hi _ => Or.inr ⟨(), trivial, by
            show fX7_fell_46 _ _ _ _ (m + 1) 1 (nI i) = _
            rw [step m i hi, hall i hi]; rfl⟩)
          fu 0 () (Nat.zero_le k) (by show k - 0 < 50000; omega) trivial
  have e1 : nI (2 ^ w) - 1 = nI (2 ^ w - 1) := by
    have := nI_pred (2 ^ w - 1)
    rwa [Nat.sub_add_cancel p1] at this
  have ml : fX7_fell_15 bk (nI w) (fun x _ => some x) fu (-1) 0 = some (itS (fellT A) (2 ^ w) (-1, 9)).1 :=
    foldLI (fun m i (s : Int32 × Nat) => fX7_fell_15 bk (nI w) (fun x _ => some x) m s.1 i) (fun s => some s.1) (2 ^ w) (fellT A) J (by omega)
      (fun m s => by
        show fX7_fell_15 _ _ _ (m + 1) s.1 (nI (2 ^ w)) = _
        rw [fX7_fell_15, shl_n w hw8, e1, if_pos (nI_lt (by omega) (by omega))])
      (fun m i s hi hj => by
        show fX7_fell_15 _ _ _ (m + 1) s.1 (nI i) = fX7_fell_15 _ _ _ m (fellT A i s).1 (nI (i + 1))
        have o2 := onesN_le (nI i) 8
        have fl : (if s.1 = -1 then some 1 else (fX7_ones (nI i)).bind (fun g5 => (fX7_ones s.1).bind (fun g6 => (if g6 ≤ g5 then some 0 else some 1))) : Option Int32) = some (b01 (decide (onesN (nI i) 8 < s.2))) := by
          rcases hj with ⟨h1, h2⟩ | ⟨j, hj, h1, h2⟩
          · rw [if_pos h1, h2, decide_eq_true (by omega)]; rfl
          · have o3 := onesN_le (nI j) 8
            have hne : ¬ s.1 = -1 := fun z => by
              rw [h1] at z
              exact absurd (nI_pos (n := j) (by omega)) (by rw [z]; decide)
            rw [if_neg hne, ones_ok, bind_some', ones_ok, bind_some', h1, h2]
            by_cases c : onesN (nI i) 8 < onesN (nI j) 8
            · rw [if_neg (nI_ge c (by omega)), decide_eq_true c]; rfl
            · rw [if_pos (nI_le (by omega) (by omega)), decide_eq_false c]; rfl
        have nl : ¬ nI (2 ^ w - 1) < nI i := nI_nlt (by omega) (by omega)
        rw [fX7_fell_15, shl_n w hw8, e1, if_neg nl, fl, bind_some', nI_1]
        rw [inner (nI i) (fun x4 _ => if x4 = 0 then fX7_fell_15 bk (nI w) (fun x _ => some x) m s.1 (nI (i + 1)) else fX7_fell_15 bk (nI w) (fun x _ => some x) m (nI i) (nI (i + 1))) (fX7_fell_15 bk (nI w) (fun x _ => some x) m s.1 (nI (i + 1))) (fX7_fell_15 bk (nI w) (fun x _ => some x) m (nI i) (nI (i + 1))) (fun _ => if_pos rfl) (fun _ => if_neg (by decide))]
        by_cases c : onesN (nI i) 8 < s.2
        · cases d : A (nI i)
          · have eA : fellT A i s = s := if_neg (fun h => by rw [d] at h; cases h.2)
            rw [eA, Bool.and_false, if_neg (by decide)]
          · have eA : fellT A i s = (nI i, onesN (nI i) 8) := if_pos ⟨c, d⟩
            rw [eA, decide_eq_true c, Bool.true_and, if_pos rfl]
        · have eA : fellT A i s = s := if_neg (fun h => c h.1)
          rw [eA, decide_eq_false c, Bool.false_and, if_neg (by decide)])
      hJ (-1, 9) (Or.inl ⟨rfl, rfl⟩)
  refine ⟨((itS (fellT A) (2 ^ w) (-1, 9)).1, bw), (itS (fellT A) (2 ^ w) (-1, 9)).1, ?_, ?_, rfl⟩
  · unfold fX6_fell fX5_go
    rw [f1, bind_some']
    rw [show fX5_go_10 (nI w) wb wv (fun _ a => fX5_go_58 (nI n) (nI w) (nI k) ro he nv nw ns a (fun x _ _ => some ((x, a))) fu (-1) 9 0) fu 0 g1 = _ from hbw, xl, bind_some']
  · unfold fX7_fell
    rw [rdB1, bind_some', hB.1.2.1]
    exact ml
