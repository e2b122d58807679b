/-! THE VALLEY RUN -/
/-- a loop that gathers a set -/
theorem setLoop {α : Type} (F : Nat → Int32 → Int32 → Option α) (kx : Int32 → Option α) (n : Nat) (hn : n ≤ 32) (p : Nat → Bool)
    (hexit : ∀ m s, F (m + 1) (nI n) s = kx s)
    (hstep : ∀ m u s, u < n → F (m + 1) (nI u) s = F m (nI (u + 1)) (if p u then s ||| ((1 : Int32) <<< (nI u &&& 31)) else s)) :
    ∃ z, F fu (nI 0) 0 = kx z ∧ bel z n ∧ ∀ u, u < n → bt z u = p u := by
  have h := forI F kx n (fun u s => bel s n ∧ ∀ t, t < n → bt s t = (decide (t < u) && p t)) (fun m s _ => hexit m s)
    (fun m u s hu hI => by
      obtain ⟨i1, i2⟩ := hI
      refine ⟨_, ?_, hstep m u s hu⟩
      cases c : p u
      · rw [if_neg (by decide)]
        refine ⟨i1, fun t ht => ?_⟩
        rw [i2 t ht]
        by_cases e : t = u
        · subst e; rw [c]; simp
        · rw [show decide (t < u + 1) = decide (t < u) from decide_eq_decide.mpr (by omega)]
      · rw [if_pos rfl]
        refine ⟨bel_or i1 (bel_one hu hn), fun t ht => ?_⟩
        rw [b_or, i2 t ht, bt_one (by omega)]
        by_cases e : t = u
        · subst e; rw [c]; simp
        · rw [show decide (t < u + 1) = decide (t < u) from decide_eq_decide.mpr (by omega), decide_eq_false e, Bool.or_false])
    fu 0 0 (Nat.zero_le n) (by show n - 0 < 50000; omega) ⟨bel_0 n, fun t _ => by rw [b_0]; simp⟩
  obtain ⟨z, ⟨h1, h2⟩, h3⟩ := h
  exact ⟨z, h3, h1, fun u hu => by rw [h2 u hu, decide_eq_true hu, Bool.true_and]⟩
def cntR (nv ru : Nat → Int32) (b o : Nat) : Nat → Nat
  | 0 => 0
  | j + 1 => cntR nv ru b o j + (if nv j = nI o ∧ bt (ru j) b = true then 1 else 0)
def lasR (nv du ru : Nat → Int32) (b o : Nat) : Nat → Int32
  | 0 => -1
  | j + 1 => if nv j = nI o ∧ bt (du j) b = true then b01 (bt (ru j) b) else lasR nv du ru b o j
theorem cntR_le (nv ru : Nat → Int32) (b o : Nat) : ∀ i, cntR nv ru b o i ≤ i
  | 0 => Nat.le_refl 0
  | i + 1 => by
    have := cntR_le nv ru b o i
    show cntR nv ru b o i + _ ≤ i + 1
    split <;> omega
theorem cntR_cong {nv ru ru' : Nat → Int32} {b o : Nat} : ∀ {i : Nat}, (∀ j, j < i → ru j = ru' j) → cntR nv ru b o i = cntR nv ru' b o i
  | 0, _ => rfl
  | i + 1, h => by
    show cntR nv ru b o i + _ = cntR nv ru' b o i + _
    rw [cntR_cong (fun j hj => h j (by omega)), h i (by omega)]
theorem lasR_cong {nv du du' ru ru' : Nat → Int32} {b o : Nat} : ∀ {i : Nat}, (∀ j, j < i → du j = du' j ∧ ru j = ru' j) → lasR nv du ru b o i = lasR nv du' ru' b o i
  | 0, _ => rfl
  | i + 1, h => by
    show (if nv i = nI o ∧ bt (du i) b = true then b01 (bt (ru i) b) else lasR nv du ru b o i) = (if nv i = nI o ∧ bt (du' i) b = true then b01 (bt (ru' i) b) else lasR nv du' ru' b o i)
    rw [lasR_cong (fun j hj => h j (by omega)), (h i (by omega)).1, (h i (by omega)).2]
def ringB (te fr nv du ru : Nat → Int32) (o v i : Nat) : Bool :=
  if te v = 1 then !decide (lasR nv du ru o v i = 0)
  else if te v = 2 then !decide (lasR nv du ru o v i = 0) && !(decide (0 < i) && decide (nv (i - 1) = nI v) && decide (ru (i - 1) = 0))
  else if te v = 3 then decide (fr v = nI o) || !decide (lasR nv du ru o v i = 0)
  else if te v = 4 then decide (cntR nv ru v o i < cntR nv ru o v i)
  else true
theorem ringB_cong {te fr nv du du' ru ru' : Nat → Int32} {o v i : Nat} (h : ∀ j, j < i → du j = du' j ∧ ru j = ru' j) : ringB te fr nv du ru o v i = ringB te fr nv du' ru' o v i := by
  unfold ringB
  rw [lasR_cong h, cntR_cong (fun j hj => (h j hj).2), cntR_cong (b := o) (o := v) (fun j hj => (h j hj).2)]
  by_cases hi : 0 < i
  · rw [(h (i - 1) (by omega)).2]
  · rw [decide_eq_false hi]; rfl
/-- due and rung are those of the first i needs -/
def PhR (n : Nat) (te fr nv dz : Nat → Int32) (i : Nat) (du ru : Nat → Int32) : Prop := ∀ j, j < i → du j = dz j ∧ bel (ru j) n ∧ ∀ v, v < n → bt (ru j) v = (bt (dz j) v && ringB te fr nv du ru (nv j).toNatClampNeg v j)
theorem PhR_one {n : Nat} {te fr nv dz : Nat → Int32} {i : Nat} {du ru du' ru' : Nat → Int32} (h : PhR n te fr nv dz i du ru) (h' : PhR n te fr nv dz i du' ru') : ∀ j, j < i → du j = du' j ∧ ru j = ru' j := by
  intro j
  induction j using Nat.strongRecOn with
  | ind j ih =>
    intro hj
    obtain ⟨a1, a2, a3⟩ := h j hj
    obtain ⟨b1, b2, b3⟩ := h' j hj
    refine ⟨by rw [a1, b1], bel_ext a2 b2 (fun v hv => ?_)⟩
    rw [a3 v hv, b3 v hv, ringB_cong (fun t ht => ih t ht (by omega))]
theorem PhR_cong {n : Nat} {te fr nv dz : Nat → Int32} {i : Nat} {du ru du' ru' : Nat → Int32} (h : PhR n te fr nv dz i du ru) (e : ∀ j, j < i → du' j = du j ∧ ru' j = ru j) : PhR n te fr nv dz i du' ru' := by
  intro j hj
  obtain ⟨a1, a2, a3⟩ := h j hj
  refine ⟨by rw [(e j hj).1, a1], by rw [(e j hj).2]; exact a2, fun v hv => ?_⟩
  rw [(e j hj).2, a3 v hv, ringB_cong (fun t ht => ⟨((e t (by omega)).1).symm, ((e t (by omega)).2).symm⟩)]
/-- one need more -/
theorem PhR_succ {n : Nat} {te fr nv dz : Nat → Int32} {i : Nat} {du ru : Nat → Int32} (h : PhR n te fr nv dz i du ru) {z : Int32} (hz : bel z n) (hv : ∀ v, v < n → bt z v = (bt (dz i) v && ringB te fr nv (upd du i (dz i)) ru (nv i).toNatClampNeg v i)) : PhR n te fr nv dz (i + 1) (upd du i (dz i)) (upd ru i z) := by
  have e : ∀ j, j < i → upd du i (dz i) j = du j ∧ upd ru i z j = ru j := fun j hj => ⟨upd_ne (by omega), upd_ne (by omega)⟩
  intro j hj
  by_cases c : j = i
  · subst c
    rw [upd_at, upd_at]
    refine ⟨rfl, hz, fun v hv' => ?_⟩
    rw [hv v hv', ringB_cong (fun t ht => ⟨rfl, ((e t ht).2).symm⟩)]
  · exact PhR_cong (h := fun j (hj : j < i) => h j hj) e j (by omega)
theorem shrb (x : Int32) {j : Nat} (hj : j < 32) : (x >>> (nI j &&& 31)) &&& 1 = b01 (bt x j) := by
  cases c : bt x j
  · exact (shr_0 x hj).mpr c
  · exact (shr_1 x hj).mpr c
theorem rangAhead_ok {n w k g : Nat} {te fr ro he wb wv nv nw ns si bk : Nat → Int32} (hN : RN n w k g) (hB : BK n w k g te fr ro he wb wv nv nw ns si bk) (ru : Nat → Int32) {b o i : Nat} (hb : b < 32) (hi : i ≤ k) :
    fX7_rangAhead bk ru (nI b) (nI o) (nI i) = some (nI (cntR nv ru b o i)) := by
  have hk : k ≤ 12 := hN.2.2.2.1
  unfold fX7_rangAhead
  exact forR (fun m j (s : Int32) => fX7_rangAhead_6 (nI b) (nI o) (nI i) bk ru (fun z _ => some z) m s j) i (fun j s => s = nI (cntR nv ru b o j)) _
    (fun m s hI => by
      show fX7_rangAhead_6 _ _ _ _ _ _ (m + 1) s (nI i) = _
      rw [fX7_rangAhead_6, if_pos (nI_le (Nat.le_refl i) (by omega)), hI])
    (fun m j s hj hI => Or.inr (by
      refine ⟨_, rfl, ?_⟩
      show fX7_rangAhead_6 _ _ _ _ _ _ (m + 1) s (nI j) = _
      rw [fX7_rangAhead_6, if_neg (nI_ge hj (by omega)), show (62 : Int32) = nI 62 from rfl, nI_add, rdI_n (by omega) (by decide), bind_some', hB.2.2.2.2.2.2.2.1 j (by omega), rdI_n (by omega) (by decide), bind_some', shrb _ hb, nI_1, hI]
      show _ = fX7_rangAhead_6 _ _ _ _ _ _ m (nI (cntR nv ru b o j + (if nv j = nI o ∧ bt (ru j) b = true then 1 else 0))) (nI (j + 1))
      by_cases c : nv j = nI o
      · rw [if_pos c]
        cases d : bt (ru j) b
        · rw [if_neg (by rintro ⟨_, h⟩; cases h)]; rw [show nI (cntR nv ru b o j) + b01 false = nI (cntR nv ru b o j + 0) from by rw [show b01 false = nI 0 from rfl, nI_add]]
        · rw [if_pos ⟨c, rfl⟩, show b01 true = nI 1 from rfl, nI_add]
      · rw [if_neg c, if_neg (fun h => c h.1), show (0 : Int32) = nI 0 from rfl, nI_add]))
    fu 0 0 (Nat.zero_le i) (by show i - 0 < 50000; omega) rfl
theorem lastAhead_ok {n w k g : Nat} {te fr ro he wb wv nv nw ns si bk : Nat → Int32} (hN : RN n w k g) (hB : BK n w k g te fr ro he wb wv nv nw ns si bk) (du ru : Nat → Int32) {b o i : Nat} (hb : b < 32) (hi : i ≤ k) :
    fX7_lastAhead bk du ru (nI b) (nI o) (nI i) = some (lasR nv du ru b o i) := by
  have hk : k ≤ 12 := hN.2.2.2.1
  unfold fX7_lastAhead
  exact forR (fun m j (s : Int32) => fX7_lastAhead_6 (nI b) (nI o) (nI i) bk du ru (fun z _ => some z) m s j) i (fun j s => s = lasR nv du ru b o j) _
    (fun m s hI => by
      show fX7_lastAhead_6 _ _ _ _ _ _ _ (m + 1) s (nI i) = _
      rw [fX7_lastAhead_6, if_pos (nI_le (Nat.le_refl i) (by omega)), hI])
    (fun m j s hj hI => Or.inr (by
      refine ⟨_, rfl, ?_⟩
      show fX7_lastAhead_6 _ _ _ _ _ _ _ (m + 1) s (nI j) = _
      rw [fX7_lastAhead_6, if_neg (nI_ge hj (by omega)), show (62 : Int32) = nI 62 from rfl, nI_add, rdI_n (by omega) (by decide), bind_some', hB.2.2.2.2.2.2.2.1 j (by omega), rdI_n (by omega) (by decide), bind_some', rdI_n (by omega) (by decide), bind_some', shrb _ hb, shrb _ hb, nI_1, hI]
      show _ = fX7_lastAhead_6 _ _ _ _ _ _ _ m (if nv j = nI o ∧ bt (du j) b = true then b01 (bt (ru j) b) else lasR nv du ru b o j) (nI (j + 1))
      by_cases c : nv j = nI o
      · rw [if_pos c]
        cases d : bt (du j) b
        · rw [if_neg (by decide), if_neg (by rintro ⟨_, h⟩; cases h)]
        · rw [if_pos (by decide), if_pos ⟨c, rfl⟩]
      · rw [if_neg c, if_neg (fun h => c h.1)]))
    fu 0 (-1) (Nat.zero_le i) (by show i - 0 < 50000; omega) rfl
theorem pair_ok {a b : Nat} : fX6_pair (nI a) (nI b) = some (nI (6 * a + b)) := by
  unfold fX6_pair
  rw [show (6 : Int32) = nI 6 from rfl, pk_mul, nI_add, Nat.mul_comm]
/-- the class's rings and the reference's: ringB -/
theorem Xrings_ok {n : Nat} {te fr nv du ru ti la : Nat → Int32} {o v i : Nat} (hn : n ≤ 6) (hv : v < n) (ho : o < n) (hi : i < 12) (ev : nv i = nI o) (hti : ∀ a b, a < n → b < n → ti (6 * a + b) = nI (cntR nv ru a b i)) (hla : ∀ a b, a < n → b < n → la (6 * a + b) = lasR nv du ru a b i) :
    fX4_rings ru ti la te fr nv (nI v) (nI i) = some (b01 (ringB te fr nv du ru o v i)) := by
  have wr : fX4_wasRefused la (nI v) (nI o) = some (b01 (decide (lasR nv du ru o v i = 0))) := by
    unfold fX4_wasRefused
    rw [pair_ok, bind_some', rdI_n (by omega) (by decide), bind_some', hla o v ho hv]
    by_cases c : lasR nv du ru o v i = 0
    · rw [if_pos c, decide_eq_true c]; rfl
    · rw [if_neg c, decide_eq_false c]; rfl
  have wj : fX4_wasJustLetDown ru nv (nI v) (nI i) = some (b01 (decide (0 < i) && decide (nv (i - 1) = nI v) && decide (ru (i - 1) = 0))) := by
    unfold fX4_wasJustLetDown
    by_cases c : 0 < i
    · have e1 : nI i - 1 = nI (i - 1) := by
        have := nI_pred (i - 1)
        rwa [Nat.sub_add_cancel c] at this
      rw [if_neg (nI_nle c (by omega)), e1, rdI_n (by omega) (by decide), bind_some', rdI_n (by omega) (by decide), bind_some', decide_eq_true c, Bool.true_and]
      by_cases d : nv (i - 1) = nI v
      · rw [if_pos d, decide_eq_true d, Bool.true_and]
        by_cases f : ru (i - 1) = 0
        · rw [if_pos f, decide_eq_true f]; rfl
        · rw [if_neg f, decide_eq_false f]; rfl
      · rw [if_neg d, decide_eq_false d, Bool.false_and]; rfl
    · have : i = 0 := by omega
      subst this; rfl
  unfold fX4_rings ringB
  rw [rdI_n (by omega) (by decide), bind_some', rdI_n (by omega) (by decide), bind_some', ev, wr, wj]
  simp only [bind_some']
  by_cases c1 : te v = 1
  · rw [if_pos c1, if_pos c1]
    cases decide (lasR nv du ru o v i = 0) <;> rfl
  rw [if_neg c1, if_neg c1]
  by_cases c2 : te v = 2
  · rw [if_pos c2, if_pos c2]
    cases decide (lasR nv du ru o v i = 0) <;> cases (decide (0 < i) && decide (nv (i - 1) = nI v) && decide (ru (i - 1) = 0)) <;> rfl
  rw [if_neg c2, if_neg c2]
  by_cases c3 : te v = 3
  · rw [if_pos c3, if_pos c3, rdI_n (by omega) (by decide), bind_some']
    by_cases c : fr v = nI o
    · rw [if_pos c, decide_eq_true c]; rfl
    · rw [if_neg c, decide_eq_false c]
      cases decide (lasR nv du ru o v i = 0) <;> rfl
  rw [if_neg c3, if_neg c3]
  by_cases c4 : te v = 4
  · have l1 := cntR_le nv ru v o i
    have l2 := cntR_le nv ru o v i
    rw [if_pos c4, if_pos c4, pair_ok, bind_some', rdI_n (by omega) (by decide), bind_some', pair_ok, bind_some', rdI_n (by omega) (by decide), bind_some', hti v o hv ho, hti o v ho hv]
    by_cases c : cntR nv ru v o i < cntR nv ru o v i
    · rw [if_neg (nI_ge c (by omega)), decide_eq_true c]; rfl
    · rw [if_pos (nI_le (by omega) (by omega)), decide_eq_false c]; rfl
  rw [if_neg c4, if_neg c4]; rfl
theorem Mrings_ok {n w k g : Nat} {te fr ro he wb wv nv nw ns si bk du ru : Nat → Int32} (hN : RN n w k g) (hB : BK n w k g te fr ro he wb wv nv nw ns si bk) {o v i : Nat} (hv : v < n) (ho : o < n) (hi : i < k) (ev : nv i = nI o) :
    fX7_rings bk du ru (nI v) (nI i) = some (b01 (ringB te fr nv du ru o v i)) := by
  have hn6 : n ≤ 6 := hN.2.1
  have hk : k ≤ 12 := hN.2.2.2.1
  have sl : (if nI i ≤ 0 then some 0 else (if nI i ≤ 0 then some 0 else some (nI i - 1) : Option (Int32)).bind (fun f20 => (rdI 104 bk (62 + f20)).bind (fun z21 => (if z21 = nI v then (if nI i ≤ 0 then some 0 else some (nI i - 1) : Option (Int32)).bind (fun f24 => (rdI 12 ru f24).bind (fun z25 => (if z25 = 0 then some 1 else some 0))) else some 0))) : Option (Int32)) = some (b01 (decide (0 < i) && decide (nv (i - 1) = nI v) && decide (ru (i - 1) = 0))) := by
    by_cases c : 0 < i
    · have e1 : nI i - 1 = nI (i - 1) := by
        have := nI_pred (i - 1)
        rwa [Nat.sub_add_cancel c] at this
      rw [if_neg (nI_nle c (by omega)), if_neg (nI_nle c (by omega)), bind_some', e1, show (62 : Int32) = nI 62 from rfl, nI_add, rdI_n (by omega) (by decide), bind_some', hB.2.2.2.2.2.2.2.1 (i - 1) (by omega), bind_some', rdI_n (by omega) (by decide), bind_some', decide_eq_true c, Bool.true_and]
      by_cases d : nv (i - 1) = nI v
      · rw [if_pos d, decide_eq_true d, Bool.true_and]
        by_cases f : ru (i - 1) = 0
        · rw [if_pos f, decide_eq_true f]; rfl
        · rw [if_neg f, decide_eq_false f]; rfl
      · rw [if_neg d, decide_eq_false d, Bool.false_and]; rfl
    · have : i = 0 := by omega
      subst this; rfl
  have pd : (if lasR nv du ru o v i = 0 then some 0 else some 1 : Option Int32) = some (b01 (!decide (lasR nv du ru o v i = 0))) := by
    by_cases c : lasR nv du ru o v i = 0
    · rw [if_pos c, decide_eq_true c]; rfl
    · rw [if_neg c, decide_eq_false c]; rfl
  unfold fX7_rings ringB
  rw [show (62 : Int32) = nI 62 from rfl, nI_add, rdI_n (by omega) (by decide), bind_some', hB.2.2.2.2.2.2.2.1 i hi, ev, show (4 + nI v) = nI (4 + v) from by rw [show (4 : Int32) = nI 4 from rfl, nI_add], rdI_n (by omega) (by decide), bind_some', hB.2.1 v hv, lastAhead_ok hN hB du ru (by omega) (by omega), bind_some', pd, bind_some', show (nI 62 : Int32) = 62 from rfl, sl, bind_some']
  by_cases c2 : te v = 2
  · have c1 : ¬ te v = 1 := by rw [c2]; decide
    rw [if_pos c2, if_neg c1, if_pos c2]
    cases decide (lasR nv du ru o v i = 0) <;> cases (decide (0 < i) && decide (nv (i - 1) = nI v) && decide (ru (i - 1) = 0)) <;> rfl
  by_cases c4 : te v = 4
  · have c1 : ¬ te v = 1 := by rw [c4]; decide
    have c3 : ¬ te v = 3 := by rw [c4]; decide
    have l1 := cntR_le nv ru v o i
    have l2 := cntR_le nv ru o v i
    rw [if_neg c2, if_pos c4, if_neg c1, if_neg c2, if_neg c3, if_pos c4, rangAhead_ok hN hB ru (by omega) (by omega), bind_some', rangAhead_ok hN hB ru (by omega) (by omega), bind_some']
    by_cases c : cntR nv ru v o i < cntR nv ru o v i
    · rw [if_neg (nI_ge c (by omega)), decide_eq_true c]; rfl
    · rw [if_pos (nI_le (by omega) (by omega)), decide_eq_false c]; rfl
  by_cases c1 : te v = 1
  · rw [if_neg c2, if_neg c4, if_pos c1, if_pos c1, zbI_b, bind_some']
  by_cases c3 : te v = 3
  · rw [if_neg c2, if_neg c4, if_neg c1, if_pos c3, if_neg c1, if_neg c2, if_pos c3, show (10 + nI v) = nI (10 + v) from by rw [show (10 : Int32) = nI 10 from rfl, nI_add], rdI_n (by omega) (by decide), bind_some', hB.2.2.1 v hv]
    by_cases c : fr v = nI o
    · rw [if_pos c, decide_eq_true c]
      cases decide (lasR nv du ru o v i = 0) <;> rfl
    · rw [if_neg c, decide_eq_false c]
      cases decide (lasR nv du ru o v i = 0) <;> rfl
  rw [if_neg c2, if_neg c4, if_neg c1, if_neg c3, if_neg c1, if_neg c2, if_neg c3, if_neg c4]; rfl
