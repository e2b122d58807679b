/-! THE RELATION of the class's valley and the reference's book -/
/-- the reference's book bk holds the valley -/
def BK (n w k g : Nat) (te fr ro he wb wv nv nw ns si bk : Nat → Int32) : Prop :=
  (bk 0 = nI n ∧ bk 1 = nI w ∧ bk 2 = nI k ∧ bk 3 = nI g) ∧ (∀ v, v < n → bk (4 + v) = te v) ∧ (∀ v, v < n → bk (10 + v) = fr v) ∧ (∀ v, v < n → bk (16 + v) = ro v) ∧ (∀ b, b < n → ∀ x, x < 4 → bk (22 + (4 * b + x)) = he (4 * b + x)) ∧
  (∀ i, i < w → bk (46 + i) = wb i) ∧ (∀ i, i < w → bk (54 + i) = wv i) ∧ (∀ i, i < k → bk (62 + i) = nv i) ∧ (∀ i, i < k → bk (74 + i) = nw i) ∧ (∀ i, i < k → bk (86 + i) = ns i) ∧ (∀ i, i < g → bk (98 + i) = si i)
/-- the woods ahead of i shut the bell b out of v -/
def shutAt (wb wv : Nat → Int32) (b v : Nat) : Nat → Bool
  | 0 => false
  | i + 1 => shutAt wb wv b v i || (decide (wb i = nI b) && decide (wv i = nI v))
/-- the valley is well formed -/
def VW (n w k g : Nat) (te fr ro he sh wb wv nv nw ns si : Nat → Int32) : Prop :=
  (∀ v, v < n → ∃ j, j < 6 ∧ te v = nI j) ∧ (∀ v, v < n → ∃ j, j < n ∧ fr v = nI j) ∧ (∀ b, b < n → ∃ j, j < n ∧ ro b = nI j) ∧ (∀ b c, b < n → c < n → ro b = ro c → b = c) ∧ (∀ b, b < n → ∀ x, x < 4 → bel (he (4 * b + x)) n) ∧ (∀ b, b < n → bel (sh b) n ∧ ∀ v, v < n → bt (sh b) v = shutAt wb wv b v w) ∧
  (∀ i, i < w → ∃ j, j < n ∧ wb i = nI j) ∧ (∀ i, i < w → ∃ j, j < n ∧ wv i = nI j) ∧ (∀ i, i < k → ∃ j, j < n ∧ nv i = nI j) ∧ (∀ i, i < k → ∃ j, j < 4 ∧ nw i = nI j) ∧ (∀ i, i < k → bel (ns i) n) ∧
  (∀ i j, i < g → j < g → si i = si j → i = j)
def RN (n w k g : Nat) : Prop := 2 ≤ n ∧ n ≤ 6 ∧ w ≤ 8 ∧ k ≤ 12 ∧ g ≤ 6
def RV (vi wo ne sg : Int32) (te fr ro he sh wb wv nv nw ns si bk : Nat → Int32) : Prop :=
  ∃ n w k g : Nat, RN n w k g ∧ vi = nI n ∧ wo = nI w ∧ ne = nI k ∧ sg = nI g ∧ VW n w k g te fr ro he sh wb wv nv nw ns si ∧ BK n w k g te fr ro he wb wv nv nw ns si bk
/-- what was refused -/
def RC (rb rn rf : Int32) (q : Nat → Int32) : Prop := q 0 = rb ∧ q 1 = rn ∧ q 2 = rf
/-- an answer that counts as one of the three reasons, or none -/
def okR (r : Int32) : Prop := (-1) ≤ r ∨ r = -2 ∨ r = -3 ∨ r = -4
theorem okR_n {j : Nat} (h : j < 2 ^ 31) : okR (nI j) := Or.inl (by
  have h0 := nI_pos' h
  have : (-1 : Int32) ≤ 0 := by decide
  exact (fa_le _ _).mpr (by have h1 := (fa_le _ _).mp h0; have h2 := (fa_le _ _).mp this; omega))
theorem told_counted {rb rn rf : Int32} {q : Nat → Int32} (hc : RC rb rn rf q) {r : Int32} (hr : okR r) :
    ∃ b2 n2 f2 q2, fX6_counted rb rn rf r = some (r, b2, n2, f2) ∧ fX7_told q r = some (r, q2) ∧ RC b2 n2 f2 q2 := by
  obtain ⟨h0, h1, h2⟩ := hc
  rcases hr with h | rfl | rfl | rfl
  · refine ⟨rb, rn, rf, q, ?_, ?_, h0, h1, h2⟩
    · unfold fX6_counted
      rw [if_neg (fun e => by subst e; exact absurd h (by decide)), if_neg (fun e => by subst e; exact absurd h (by decide)), if_neg (fun e => by subst e; exact absurd h (by decide))]
    · unfold fX7_told
      rw [if_pos h]
  · refine ⟨rb + 1, rn, rf, upd q 0 (q 0 + 1), rfl, ?_, ?_, h1, h2⟩
    · unfold fX7_told
      rw [if_neg (by decide)]
      have e : (-2 - (-2) : Int32) = nI 0 := by decide
      rw [e, rdI_n (by decide) (by decide), bind_some', wrI_n (by decide) (by decide), bind_some']
    · rw [upd_at, h0]
  · refine ⟨rb, rn + 1, rf, upd q 1 (q 1 + 1), rfl, ?_, h0, ?_, h2⟩
    · unfold fX7_told
      rw [if_neg (by decide)]
      have e : (-2 - (-3) : Int32) = nI 1 := by decide
      rw [e, rdI_n (by decide) (by decide), bind_some', wrI_n (by decide) (by decide), bind_some']
    · rw [upd_at, h1]
  · refine ⟨rb, rn, rf + 1, upd q 2 (q 2 + 1), rfl, ?_, h0, h1, ?_⟩
    · unfold fX7_told
      rw [if_neg (by decide)]
      have e : (-2 - (-4) : Int32) = nI 2 := by decide
      rw [e, rdI_n (by decide) (by decide), bind_some', wrI_n (by decide) (by decide), bind_some']
    · rw [upd_at, h2]
theorem bad_ok {rb rn rf : Int32} {q : Nat → Int32} (hc : RC rb rn rf q) : ∃ b2 n2 f2 q2, fX6_counted rb rn rf (-2) = some (-2, b2, n2, f2) ∧ fX7_bad q = some (-2, q2) ∧ RC b2 n2 f2 q2 := by
  obtain ⟨b2, n2, f2, q2, h1, h2, h3⟩ := told_counted hc (r := -2) (Or.inr (Or.inl rfl))
  refine ⟨b2, n2, f2, q2, h1, ?_, h3⟩
  rw [← h2]
  rfl
theorem rngx {N : Nat} (h0 : 0 < N) (hN : N < 2 ^ 30) (p : Int32) : p < 0 ∨ (¬ p < 0 ∧ nI (N - 1) < p ∧ ¬ p ≤ nI (N - 1) ∧ nI N ≤ p) ∨ ∃ j, j < N ∧ p = nI j ∧ ¬ nI j < 0 ∧ nI j ≤ nI (N - 1) ∧ ¬ nI (N - 1) < nI j ∧ ¬ nI N ≤ nI j := by
  rcases pk_ix p (n := N) (by omega) with h | h | ⟨j, hj, rfl⟩
  · exact Or.inl h
  · have h2 := (fa_le _ _).mp h
    rw [nI_toInt (n := N) (by omega)] at h2
    have z : (0 : Int32).toInt = 0 := rfl
    refine Or.inr (Or.inl ⟨fun q => ?_, (fa_lt _ _).mpr (by rw [nI_toInt (n := N - 1) (by omega)]; omega), fun q => ?_, h⟩)
    · have h1 := (fa_lt _ _).mp q; omega
    · have h1 := (fa_le _ _).mp q; rw [nI_toInt (n := N - 1) (by omega)] at h1; omega
  · exact Or.inr (Or.inr ⟨j, hj, rfl, nI_pos (by omega), nI_le (by omega) (by omega), nI_nlt (by omega) (by omega), nI_ge hj (by omega)⟩)
/-- a village, or none -/
theorem vil {n : Nat} (hn : n < 2 ^ 30) (h0 : 0 < n) (p : Int32) : (fX3_isVillage (nI n) p = some 0 ∧ ∀ bk : Nat → Int32, bk 0 = nI n → fX7_isOne bk p = some 0) ∨ ∃ j, j < n ∧ p = nI j ∧ fX3_isVillage (nI n) p = some 1 ∧ ∀ bk : Nat → Int32, bk 0 = nI n → fX7_isOne bk p = some 1 := by
  have e1 : nI n - 1 = nI (n - 1) := by
    have := nI_pred (n - 1)
    rwa [Nat.sub_add_cancel h0] at this
  have one : ∀ bk : Nat → Int32, bk 0 = nI n → fX7_isOne bk p = (fX7_in p 0 (nI (n - 1))).bind (fun g2 => (zbI g2).bind (fun z3 => some z3)) := by
    intro bk hb
    unfold fX7_isOne
    rw [show (0 : Int32) = nI 0 from rfl, rdI_n (by decide) (by decide), bind_some', hb, e1]
  rcases pk_ix p (n := n) (by omega) with h | h | ⟨j, hj, rfl⟩
  · refine Or.inl ⟨by unfold fX3_isVillage; rw [if_pos h], fun bk hb => ?_⟩
    rw [one bk hb]; unfold fX7_in; rw [if_pos h]; rfl
  · have hp : ¬ p < 0 := fun q => by
      have h1 := (fa_lt _ _).mp q
      have h2 := (fa_le _ _).mp h
      have h3 := nI_toInt (n := n) (by omega)
      have : (0 : Int32).toInt = 0 := rfl
      omega
    refine Or.inl ⟨by unfold fX3_isVillage; rw [if_neg hp, if_pos h], fun bk hb => ?_⟩
    have h4 : nI (n - 1) < p := (fa_lt _ _).mpr (by
      have h2 := (fa_le _ _).mp h
      rw [nI_toInt (n := n) (by omega)] at h2
      rw [nI_toInt (n := n - 1) (by omega)]
      omega)
    rw [one bk hb]; unfold fX7_in; rw [if_neg hp, if_pos h4]; rfl
  · have hp : ¬ nI j < 0 := nI_pos (by omega)
    have h5 : ¬ nI n ≤ nI j := nI_ge hj (by omega)
    have h4 : ¬ nI (n - 1) < nI j := nI_nlt (by omega) (by omega)
    refine Or.inr ⟨j, hj, rfl, by unfold fX3_isVillage; rw [if_neg hp, if_neg h5], fun bk hb => ?_⟩
    rw [one bk hb]; unfold fX7_in; rw [if_neg hp, if_neg h4]; rfl
theorem wind (p : Int32) : (fX6_isWind p = some 0 ∧ fX7_in p 0 3 = some 0) ∨ ∃ j, j < 4 ∧ p = nI j ∧ fX6_isWind p = some 1 ∧ fX7_in p 0 3 = some 1 := by
  rcases pk_ix p (n := 4) (by decide) with h | h | ⟨j, hj, rfl⟩
  · refine Or.inl ⟨by unfold fX6_isWind; rw [if_pos h], by unfold fX7_in; rw [if_pos h]⟩
  · have h2 := (fa_le _ _).mp h
    have h3 : (nI 4).toInt = 4 := rfl
    have hp : ¬ p < 0 := fun q => by
      have h1 := (fa_lt _ _).mp q
      have : (0 : Int32).toInt = 0 := rfl
      omega
    have h4 : (3 : Int32) < p := (fa_lt _ _).mpr (by have : (3 : Int32).toInt = 3 := rfl; omega)
    refine Or.inl ⟨by unfold fX6_isWind; rw [if_neg hp]; exact if_pos h, by unfold fX7_in; rw [if_neg hp, if_pos h4]⟩
  · refine Or.inr ⟨j, hj, rfl, ?_⟩
    rcases (show j = 0 ∨ j = 1 ∨ j = 2 ∨ j = 3 by omega) with rfl | rfl | rfl | rfl <;> decide
theorem two {n : Nat} (hn : n < 2 ^ 30) (h0 : 0 < n) (p q : Int32) : fX3_areTwo (nI n) p q = some 0 ∨ ∃ i j, i < n ∧ j < n ∧ i ≠ j ∧ p = nI i ∧ q = nI j ∧ fX3_areTwo (nI n) p q = some 1 := by
  unfold fX3_areTwo
  rcases vil hn h0 p with ⟨h1, -⟩ | ⟨i, hi, rfl, h1, -⟩
  · left; rw [h1]; rfl
  rcases vil hn h0 q with ⟨h2, -⟩ | ⟨j, hj, rfl, h2, -⟩
  · left; rw [h1, h2]; rfl
  by_cases e : i = j
  · left; subst e; rw [h1]; simp
  · right
    refine ⟨i, j, hi, hj, e, rfl, rfl, ?_⟩
    rw [h1, h2]
    have : ¬ nI i = nI j := fun q => e ((nI_eq (by omega) (by omega)).mp q)
    simp [this]
