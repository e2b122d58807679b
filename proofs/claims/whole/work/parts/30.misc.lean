/-! a loop that folds -/
def itS {σ : Type} (st : Nat → σ → σ) : Nat → σ → σ
  | 0, s => s
  | i + 1, s => st i (itS st i s)
theorem foldL {σ α : Type} (F : Nat → Int32 → σ → Option α) (kx : σ → Option α) (N : Nat) (st : Nat → σ → σ) (hN : N < 50000)
    (hexit : ∀ m s, F (m + 1) (nI N) s = kx s) (hstep : ∀ m i s, i < N → F (m + 1) (nI i) s = F m (nI (i + 1)) (st i s)) (s : σ) : F fu (nI 0) s = kx (itS st N s) :=
  forR F N (fun i s' => s' = itS st i s) (kx (itS st N s)) (fun m s' hI => by rw [hexit, hI]) (fun m i s' hi hI => Or.inr ⟨st i s', by rw [hI]; rfl, hstep m i s' hi⟩) fu 0 s (Nat.zero_le N) (by show N - 0 < 50000; omega) rfl
theorem foldLI {σ α : Type} (F : Nat → Int32 → σ → Option α) (kx : σ → Option α) (N : Nat) (st : Nat → σ → σ) (J : σ → Prop) (hN : N < 50000)
    (hexit : ∀ m s, F (m + 1) (nI N) s = kx s) (hstep : ∀ m i s, i < N → J s → F (m + 1) (nI i) s = F m (nI (i + 1)) (st i s)) (hJ : ∀ i s, i < N → J s → J (st i s)) (s : σ) (h0 : J s) : F fu (nI 0) s = kx (itS st N s) :=
  forR F N (fun i s' => s' = itS st i s ∧ J s') (kx (itS st N s)) (fun m s' hI => by rw [hexit, hI.1]) (fun m i s' hi hI => Or.inr ⟨st i s', ⟨by rw [hI.1]; rfl, hJ i s' hi hI.2⟩, hstep m i s' hi hI.2⟩) fu 0 s (Nat.zero_le N) (by show N - 0 < 50000; omega) ⟨rfl, h0⟩
theorem ones_ok (x : Int32) : fX7_ones x = some (nI (onesN x 8)) := by
  unfold fX7_ones
  exact forR (fun m i (s : Int32) => fX7_ones_4 x (fun z _ => some z) m s i) 8 (fun i s => s = nI (onesN x i)) _
    (fun m s hI => by
      show fX7_ones_4 _ _ (m + 1) s (nI 8) = _
      rw [fX7_ones_4, if_pos (show (8 : Int32) ≤ nI 8 from by decide), hI])
    (fun m i s hi hI => Or.inr (by
      refine ⟨_, rfl, ?_⟩
      show fX7_ones_4 _ _ (m + 1) s (nI i) = _
      rw [fX7_ones_4, if_neg (show ¬ (8 : Int32) ≤ nI i from nI_ge (b := 8) hi (by decide)), shrb _ (by omega), nI_1, hI]
      show _ = fX7_ones_4 _ _ m (nI (onesN x i + (if bt x i = true then 1 else 0))) (nI (i + 1))
      cases bt x i
      · rw [if_neg (by decide), show b01 false = nI 0 from rfl, nI_add]
      · rw [if_pos rfl, show b01 true = nI 1 from rfl, nI_add]))
    fu 0 0 (by decide) (by decide) rfl
/-- parts -/
theorem onesN_split {x y z : Int32} : ∀ (n : Nat), (∀ i, i < n → (bt x i = true ↔ (bt y i = true ∨ bt z i = true)) ∧ ¬ (bt y i = true ∧ bt z i = true)) → onesN x n = onesN y n + onesN z n
  | 0, _ => rfl
  | n + 1, h => by
    have ih := onesN_split n (fun i hi => h i (by omega))
    obtain ⟨h1, h2⟩ := h n (by omega)
    show onesN x n + _ = (onesN y n + _) + (onesN z n + _)
    rw [ih]
    by_cases a : bt y n = true
    · have b : ¬ bt z n = true := fun b => h2 ⟨a, b⟩
      rw [if_pos (h1.mpr (Or.inl a)), if_pos a, if_neg b]; omega
    · by_cases b : bt z n = true
      · rw [if_pos (h1.mpr (Or.inr b)), if_neg a, if_pos b]; omega
      · rw [if_neg (fun c => (h1.mp c).elim a b), if_neg a, if_neg b]; omega
def askS (known : Int32) (Lf : Nat → Nat) : Nat → Int32 × Nat → Int32 × Nat := fun v s => if bt known v = false ∧ s.2 < Lf v then (nI v, Lf v) else s
theorem P_ask {vi wo ne sg : Int32} {te fr ro he sh wb wv nv nw ns si bk : Nat → Int32} (hR : RV vi wo ne sg te fr ro he sh wb wv nv nw ns si bk) {rb rn rf : Int32} {q : Nat → Int32} (hc : RC rb rn rf q) (p0 p1 p2 : Int32) :
    ∃ ox om, fX6_ask rb rn rf vi he sh p0 p1 p2 = some ox ∧ fX7_ask bk q p0 p1 p2 = some om ∧ ox.1 = om.1 ∧ RC ox.2.1 ox.2.2.1 ox.2.2.2 om.2 := by
  obtain ⟨n, w, k, g, hN, rfl, rfl, rfl, rfl, hV, hB⟩ := id hR
  have hn6 : n ≤ 6 := hN.2.1
  obtain ⟨b2, n2, f2, q2, k1, k2, k3⟩ := bad_ok hc
  unfold fX6_ask fX7_ask
  rcases come hN hB p0 p1 p2 with ⟨h1, h2⟩ | ⟨x, hx, rfl, hb1, hb2, h0, h1, h2⟩
  · exact ⟨(-2, b2, n2, f2), (-2, q2), by rw [h1, bind_some', if_pos rfl, k1, bind_some'], by rw [h2, bind_some', if_pos rfl, k2, bind_some'], rfl, k3⟩
  obtain ⟨B, a1, a2, a3⟩ := bellsFrom_ok (n := n) (he := he) (sh := sh) hn6 hx p1 p2
  have at_ : ∀ v, v < n → ∃ T, fX3_bellsHeardAt (nI n) he sh (nI v) (nI x) = some T ∧ bel T n ∧ ∀ b, b < n → bt T b = bt (hearD he sh b x) v := by
    intro v hv
    obtain ⟨T, t1, t2, t3⟩ := bellsFrom_ok (n := n) (he := he) (sh := sh) hn6 hx ((1 : Int32) <<< (nI v &&& 31)) 0
    refine ⟨T, by unfold fX3_bellsHeardAt; rw [t1, bind_some'], t2, fun b hb => ?_⟩
    rw [t3 b hb]
    unfold fitB
    have e2 : hearD he sh b x &&& 0 = 0 := b_ext (fun i hi => by rw [b_and, b_0, Bool.and_false])
    rw [decide_eq_true e2, Bool.and_true]
    cases c : bt (hearD he sh b x) v
    · refine decide_eq_false (fun e => ?_)
      have e3 := b_and (hearD he sh b x) ((1 : Int32) <<< (nI v &&& 31)) v
      rw [e, c, bt_one (by omega)] at e3
      simp at e3
    · refine decide_eq_true (b_ext (fun i hi => ?_))
      rw [b_and, bt_one (by omega)]
      by_cases d : i = v
      · subst d; rw [c]; simp
      · rw [decide_eq_false d, Bool.and_false]
  -- the two parts of the reference
  have parts : ∀ v, v < n → ∀ T, bel T n → (∀ b, b < n → bt T b = bt (hearD he sh b x) v) → ∃ Y Z, fX7_bells bk (nI x) (p1 ||| ((1 : Int32) <<< (nI v &&& 31))) p2 = some Y ∧ fX7_bells bk (nI x) p1 (p2 ||| ((1 : Int32) <<< (nI v &&& 31))) = some Z ∧ onesN Y 8 = onesN (B &&& T) 12 ∧ onesN Z 8 + onesN (B &&& T) 12 = onesN B 12 := by
    intro v hv T hT1 hT2
    obtain ⟨Y, y1, y2, y3⟩ := bells_ok hN hV hB hx (p1 ||| ((1 : Int32) <<< (nI v &&& 31))) p2
    obtain ⟨Z, z1, z2, z3⟩ := bells_ok hN hV hB hx p1 (p2 ||| ((1 : Int32) <<< (nI v &&& 31)))
    have lv : v < 32 := by omega
    have fy : ∀ b, b < n → bt Y b = (bt B b && bt T b) := by
      intro b hb
      rw [y3 b hb, a3 b hb, hT2 b hb]
      unfold fitB
      have key : (hearD he sh b x &&& (p1 ||| ((1 : Int32) <<< (nI v &&& 31))) = (p1 ||| ((1 : Int32) <<< (nI v &&& 31)))) ↔ (hearD he sh b x &&& p1 = p1 ∧ bt (hearD he sh b x) v = true) := by
        constructor
        · intro e
          have e1 : ∀ i, i < 32 → (bt (hearD he sh b x) i && (bt p1 i || decide (i = v))) = (bt p1 i || decide (i = v)) := fun i hi => by
            have := b_and (hearD he sh b x) (p1 ||| ((1 : Int32) <<< (nI v &&& 31))) i
            rw [e, b_or, bt_one lv] at this
            exact this.symm
          refine ⟨b_ext (fun i hi => ?_), ?_⟩
          · have := e1 i hi
            rw [b_and]
            revert this
            cases bt (hearD he sh b x) i <;> cases bt p1 i <;> cases decide (i = v) <;> simp
          · have := e1 v lv
            rw [decide_eq_true rfl, Bool.or_true, Bool.and_true] at this
            exact this
        · rintro ⟨e, f⟩
          refine b_ext (fun i hi => ?_)
          rw [b_and, b_or, bt_one lv]
          have e1 := b_and (hearD he sh b x) p1 i
          rw [e] at e1
          by_cases d : i = v
          · subst d; rw [f]; simp
          · rw [decide_eq_false d, Bool.or_false]; exact e1.symm
      by_cases c1 : hearD he sh b x &&& p1 = p1
      · by_cases c2 : bt (hearD he sh b x) v = true
        · rw [decide_eq_true (key.mpr ⟨c1, c2⟩), decide_eq_true c1, c2, Bool.and_true]
        · have c3 : bt (hearD he sh b x) v = false := by simpa using c2
          rw [decide_eq_false (fun e => c2 (key.mp e).2), c3, Bool.and_false, Bool.false_and]
      · rw [decide_eq_false (fun e => c1 (key.mp e).1), decide_eq_false c1, Bool.false_and, Bool.false_and]
    have fz : ∀ b, b < n → bt Z b = (bt B b && !bt T b) := by
      intro b hb
      rw [z3 b hb, a3 b hb, hT2 b hb]
      unfold fitB
      have key : (hearD he sh b x &&& (p2 ||| ((1 : Int32) <<< (nI v &&& 31))) = 0) ↔ (hearD he sh b x &&& p2 = 0 ∧ bt (hearD he sh b x) v = false) := by
        constructor
        · intro e
          have e1 : ∀ i, i < 32 → (bt (hearD he sh b x) i && (bt p2 i || decide (i = v))) = false := fun i hi => by
            have := b_and (hearD he sh b x) (p2 ||| ((1 : Int32) <<< (nI v &&& 31))) i
            rw [e, b_or, bt_one lv, b_0] at this
            exact this.symm
          refine ⟨b_ext (fun i hi => ?_), ?_⟩
          · have := e1 i hi
            rw [b_and, b_0]
            revert this
            cases bt (hearD he sh b x) i <;> cases bt p2 i <;> cases decide (i = v) <;> simp
          · have := e1 v lv
            rw [decide_eq_true rfl, Bool.or_true, Bool.and_true] at this
            exact this
        · rintro ⟨e, f⟩
          refine b_ext (fun i hi => ?_)
          rw [b_and, b_or, bt_one lv, b_0]
          have e1 := b_and (hearD he sh b x) p2 i
          rw [e, b_0] at e1
          by_cases d : i = v
          · subst d; rw [f]; simp
          · rw [decide_eq_false d, Bool.or_false]; exact e1.symm
      by_cases c1 : hearD he sh b x &&& p2 = 0
      · cases c2 : bt (hearD he sh b x) v
        · rw [decide_eq_true (key.mpr ⟨c1, c2⟩), decide_eq_true c1]; simp
        · rw [decide_eq_false (fun e => absurd ((key.mp e).2) (by rw [c2]; decide))]; simp
      · rw [decide_eq_false (fun e => c1 (key.mp e).1), decide_eq_false c1, Bool.and_false, Bool.false_and]
    have by1 : bel (B &&& T) n := bel_and a2
    have ey : Y = B &&& T := bel_ext y2 by1 (fun b hb => by rw [fy b hb, b_and])
    refine ⟨Y, Z, y1, z1, ?_, ?_⟩
    · rw [ey, onesN_bel by1 8 (by omega), onesN_bel by1 12 (by omega)]
    · rw [onesN_bel z2 8 (by omega), onesN_bel by1 12 (by omega), onesN_bel a2 12 (by omega)]
      rw [onesN_split (x := B) (y := Z) (z := B &&& T) n (fun i hi => ?_)]
      rw [fz i hi, b_and]
      cases bt B i <;> cases bt T i <;> simp
  -- how evenly v parts
  let Lf : Nat → Nat := fun v => min (onesN (B &&& ((fX3_bellsHeardAt (nI n) he sh (nI v) (nI x)).getD 0)) 12) (onesN B 12 - onesN (B &&& ((fX3_bellsHeardAt (nI n) he sh (nI v) (nI x)).getD 0)) 12)
  have lfT : ∀ v, v < n → ∀ T, fX3_bellsHeardAt (nI n) he sh (nI v) (nI x) = some T → bel T n → Lf v = min (onesN (B &&& T) 12) (onesN B 12 - onesN (B &&& T) 12) ∧ onesN (B &&& T) 12 ≤ onesN B 12 := by
    intro v hv T t1 t2
    refine ⟨?_, ?_⟩
    · show min (onesN (B &&& ((fX3_bellsHeardAt (nI n) he sh (nI v) (nI x)).getD 0)) 12) _ = _
      rw [t1]; rfl
    · rw [onesN_split (x := B) (y := B &&& (T ^^^ (-1))) (z := B &&& T) 12 (fun i hi => by
        rw [b_and, b_and, bt_not T (by omega)]
        cases bt B i <;> cases bt T i <;> simp)]
      omega
  have lfJ : ∀ i (s : Int32 × Nat), i < n → s.2 ≤ 12 → (askS (p1 ||| p2) Lf i s).2 ≤ 12 := by
    intro v s hv hs
    obtain ⟨T, t1, t2, t3⟩ := at_ v hv
    obtain ⟨lT, hle⟩ := lfT v hv T t1 t2
    have l1 := onesN_le B 12
    unfold askS
    split
    · show Lf v ≤ 12
      rw [lT]; omega
    · exact hs
  have hxl : fX3_partsMostEvenly (nI n) he sh (nI x) B (p1 ||| p2) = some (itS (askS (p1 ||| p2) Lf) n (-1, 0)).1 := by
    unfold fX3_partsMostEvenly
    exact foldLI (fun m i (s : Int32 × Nat) => fX3_partsMostEvenly_9 (nI x) B (p1 ||| p2) (nI n) he sh (fun a _ _ => some a) m s.1 (nI s.2) i) (fun s => some s.1) n (askS (p1 ||| p2) Lf) (fun s => s.2 ≤ 12) (by omega)
      (fun m s => by
        show fX3_partsMostEvenly_9 _ _ _ _ _ _ _ (m + 1) s.1 (nI s.2) (nI n) = _
        rw [fX3_partsMostEvenly_9, if_pos (nI_le (Nat.le_refl n) (by omega))])
      (fun m v s hv hJ => by
        show fX3_partsMostEvenly_9 _ _ _ _ _ _ _ (m + 1) s.1 (nI s.2) (nI v) = fX3_partsMostEvenly_9 _ _ _ _ _ _ _ m (askS (p1 ||| p2) Lf v s).1 (nI (askS (p1 ||| p2) Lf v s).2) (nI (v + 1))
        obtain ⟨T, t1, t2, t3⟩ := at_ v hv
        obtain ⟨lT, hle⟩ := lfT v hv T t1 t2
        have l1 := onesN_le B 12
        rw [fX3_partsMostEvenly_9, if_neg (nI_ge hv (by omega)), has_eq _ (by omega), bind_some', t1, bind_some', bitCount_ok (bel_mono (bel_and a2) (by omega)), bind_some', bitCount_ok (bel_mono a2 (by omega)), bind_some', pk_sub hle, nI_1]
        have em : (if nI (onesN B 12 - onesN (B &&& T) 12) < nI (onesN (B &&& T) 12) then nI (onesN B 12 - onesN (B &&& T) 12) else nI (onesN (B &&& T) 12)) = nI (Lf v) := by
          rw [lT]
          by_cases c : onesN B 12 - onesN (B &&& T) 12 < onesN (B &&& T) 12
          · rw [if_pos (nI_lt c (by omega)), Nat.min_eq_right (by omega)]
          · rw [if_neg (nI_nlt (by omega) (by omega)), Nat.min_eq_left (by omega)]
        have lL : Lf v ≤ 12 := by rw [lT]; omega
        rw [em]
        cases c : bt (p1 ||| p2) v
        · rw [if_pos (show b01 false = 0 from rfl)]
          by_cases d : s.2 < Lf v
          · have eA : askS (p1 ||| p2) Lf v s = (nI v, Lf v) := if_pos ⟨c, d⟩
            rw [eA, if_neg (nI_ge d (by omega))]
          · have eA : askS (p1 ||| p2) Lf v s = s := if_neg (fun h => d h.2)
            rw [eA, if_pos (nI_le (by omega) (by omega))]
        · have eA : askS (p1 ||| p2) Lf v s = s := if_neg (fun h => by rw [c] at h; cases h.1)
          rw [eA, if_neg (show ¬ b01 true = 0 by decide)])
      lfJ (-1, 0) (Nat.zero_le 12)
  have hml : fX7_ask_24 (nI x) p1 p2 bk (fun _ a _ => some ((a, q))) fu 0 (-1) 0 = some ((itS (askS (p1 ||| p2) Lf) n (-1, 0)).1, q) :=
    foldLI (fun m i (s : Int32 × Nat) => fX7_ask_24 (nI x) p1 p2 bk (fun _ a _ => some ((a, q))) m (nI s.2) s.1 i) (fun s => some (s.1, q)) n (askS (p1 ||| p2) Lf) (fun s => s.2 ≤ 12) (by omega)
      (fun m s => by
        show fX7_ask_24 _ _ _ _ _ (m + 1) (nI s.2) s.1 (nI n) = _
        rw [fX7_ask_24, rdB0, bind_some', hB.1.1, if_pos (nI_le (Nat.le_refl n) (by omega))])
      (fun m v s hv hJ => by
        show fX7_ask_24 _ _ _ _ _ (m + 1) (nI s.2) s.1 (nI v) = fX7_ask_24 _ _ _ _ _ m (nI (askS (p1 ||| p2) Lf v s).2) (askS (p1 ||| p2) Lf v s).1 (nI (v + 1))
        obtain ⟨T, t1, t2, t3⟩ := at_ v hv
        obtain ⟨lT, hle⟩ := lfT v hv T t1 t2
        obtain ⟨Y, Z, y1, z1, y2, z2⟩ := parts v hv T t2 t3
        have l1 := onesN_le B 12
        have lL : Lf v ≤ 12 := by rw [lT]; omega
        rw [fX7_ask_24, rdB0, bind_some', hB.1.1, if_neg (nI_ge hv (by omega)), y1, bind_some', ones_ok, bind_some', z1, bind_some', ones_ok, bind_some', nI_1]
        have em : (if nI (onesN Z 8) ≤ nI (onesN Y 8) then some (nI (onesN Z 8)) else some (nI (onesN Y 8)) : Option Int32) = some (nI (Lf v)) := by
          rw [lT, y2, show onesN Z 8 = onesN B 12 - onesN (B &&& T) 12 by omega]
          by_cases c : onesN B 12 - onesN (B &&& T) 12 ≤ onesN (B &&& T) 12
          · rw [if_pos (nI_le c (by omega)), Nat.min_eq_right (by omega)]
          · rw [if_neg (nI_ge (by omega) (by omega)), Nat.min_eq_left (by omega)]
        rw [em, bind_some']
        cases c : bt (p1 ||| p2) v
        · rw [if_pos ((shr_0 _ (by omega)).mpr c)]
          by_cases d : s.2 < Lf v
          · have eA : askS (p1 ||| p2) Lf v s = (nI v, Lf v) := if_pos ⟨c, d⟩
            rw [eA, if_neg (nI_ge d (by omega)), bind_some', if_neg (by decide), bind_some', if_neg (by decide)]
          · have eA : askS (p1 ||| p2) Lf v s = s := if_neg (fun h => d h.2)
            rw [eA, if_pos (nI_le (by omega) (by omega)), bind_some', if_pos rfl, bind_some', if_pos rfl]
        · have eA : askS (p1 ||| p2) Lf v s = s := if_neg (fun h => by rw [c] at h; cases h.1)
          rw [eA, if_neg (fun h => by rw [(shr_0 _ (by omega)).mp h] at c; cases c), bind_some', if_pos rfl, bind_some', if_pos rfl])
      lfJ (-1, 0) (Nat.zero_le 12)
  refine ⟨((itS (askS (p1 ||| p2) Lf) n (-1, 0)).1, rb, rn, rf), ((itS (askS (p1 ||| p2) Lf) n (-1, 0)).1, q), ?_, ?_, rfl, hc⟩
  · rw [h1, bind_some', if_neg (by decide), a1, bind_some', hxl, bind_some']
  · rw [h2, bind_some', if_neg (by decide)]
    exact hml
