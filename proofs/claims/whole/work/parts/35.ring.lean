/-! RING -/
theorem forQ {σ α : Type} (F : Nat → Int32 → σ → Option α) (N : Nat) (I : Nat → σ → Prop) (Q : Option α → Prop)
    (hexit : ∀ n s, I N s → Q (F (n + 1) (nI N) s))
    (hstep : ∀ n i s, i < N → I i s → Q (F (n + 1) (nI i) s) ∨ ∃ s', I (i + 1) s' ∧ F (n + 1) (nI i) s = F n (nI (i + 1)) s') :
    ∀ (n i : Nat) (s : σ), i ≤ N → N - i < n → I i s → Q (F n (nI i) s) := by
  intro n
  induction n with
  | zero => intro i s _ h; exact absurd h (Nat.not_lt_zero _)
  | succ n ih =>
    intro i s hi hn hI
    rcases Nat.lt_or_ge i N with h | h
    · rcases hstep n i s h hI with e | ⟨s', h1, e⟩
      · exact e
      · rw [e]
        exact ih (i + 1) s' h (by omega) h1
    · have : i = N := by omega
      subst this
      exact hexit n s hI
theorem allB_pre {p : Nat → Bool} {k m : Nat} (h : k ≤ m) (hp : allB p k = false) : allB p m = false := by
  cases c : allB p m
  · rfl
  · obtain ⟨i, hi, hf⟩ := allB_no hp
    rw [(allB_iff p m).mp c i (by omega)] at hf
    cases hf
def favB (n : Nat) (ro he sh : Nat → Int32) (u v : Nat) : Bool := anyB (fun b => decide (ro b = nI u) && bt (anyD he sh b 4) v) n
def stepB (n many : Nat) (ro he sh : Nat → Int32) (row k : Nat) : Bool := decide (dgN n many row 0 ≤ dgN n many row k) && favB n ro he sh (dgN n many row k) (dgN n many row ((k + 1) % many))
def RG (n many : Nat) (ro he sh : Nat → Int32) (row : Nat) : Bool := unlB n many row many && allB (stepB n many ro he sh row) many
theorem favoured_ok {n w k g : Nat} {te fr ro he sh wb wv nv nw ns si bk : Nat → Int32} (hN : RN n w k g) (hB : BK n w k g te fr ro he wb wv nv nw ns si bk) {aw : Nat → Int32} (haw : ∀ b, b < n → aw b = anyD he sh b 4) {u v : Nat} (hu : u < n) (hv : v < n) :
    fX7_favoured bk aw (nI u) (nI v) = some (b01 (favB n ro he sh u v)) := by
  have hn6 : n ≤ 6 := hN.2.1
  unfold fX7_favoured
  exact forR (fun m b (s : Int32) => fX7_favoured_5 (nI u) (nI v) bk aw (fun x _ => (zbI x).bind (fun z => some z)) m s b) n (fun b s => s = b01 (anyB (fun b => decide (ro b = nI u) && bt (anyD he sh b 4) v) b)) _
    (fun m s hI => by
      show fX7_favoured_5 _ _ _ _ _ (m + 1) s (nI n) = _
      rw [fX7_favoured_5, rdB0, bind_some', hB.1.1, if_pos (nI_le (Nat.le_refl n) (by omega)), hI, zbI_b, bind_some']
      rfl)
    (fun m b s hb hI => Or.inr (by
      refine ⟨_, rfl, ?_⟩
      show fX7_favoured_5 _ _ _ _ _ (m + 1) s (nI b) = fX7_favoured_5 _ _ _ _ _ m (b01 (anyB (fun b => decide (ro b = nI u) && bt (anyD he sh b 4) v) b || (decide (ro b = nI u) && bt (anyD he sh b 4) v))) (nI (b + 1))
      rw [fX7_favoured_5, rdB0, bind_some', hB.1.1, if_neg (nI_ge hb (by omega)), show (16 + nI b) = nI (16 + b) from by rw [show (16 : Int32) = nI 16 from rfl, nI_add], rdI_n (by omega) (by decide), bind_some', hB.2.2.2.1 b hb, rdI_n (by omega) (by decide), bind_some', haw b hb, shrb _ (by omega), nI_1, hI]
      by_cases c : ro b = nI u
      · rw [if_pos c, decide_eq_true c, Bool.true_and]
        cases anyB (fun b => decide (ro b = nI u) && bt (anyD he sh b 4) v) b <;> cases bt (anyD he sh b 4) v <;> rfl
      · rw [if_neg c, decide_eq_false c, Bool.false_and, Bool.or_false]
        cases anyB (fun b => decide (ro b = nI u) && bt (anyD he sh b 4) v) b <;> rfl))
    fu 0 0 (Nat.zero_le n) (by show n - 0 < 50000; omega) rfl
theorem isRing_ok {n w k g : Nat} {te fr ro he sh wb wv nv nw ns si bk : Nat → Int32} (hN : RN n w k g) (hB : BK n w k g te fr ro he wb wv nv nw ns si bk) {aw : Nat → Int32} (haw : ∀ b, b < n → aw b = anyD he sh b 4) {row many : Nat} (hr : row < 2 ^ 30) (h1 : 2 ≤ many) (hm : many ≤ 6) :
    fX7_isRing bk aw (nI row) (nI many) = some (b01 (RG n many ro he sh row)) := by
  have hn6 : n ≤ 6 := hN.2.1
  have hn2 : 2 ≤ n := hN.1
  have dl : ∀ k, dgN n many row k < n := fun k => dgN_lt (by omega)
  unfold fX7_isRing
  rw [areUnlike_ok hB.1.1 hN.1 hn6 hr hm, bind_some']
  exact forR (fun m i (s : Int32) => fX7_isRing_10 (nI row) (nI many) bk aw (fun x _ => (zbI x).bind (fun z => some z)) m s i) many (fun i s => s = b01 (unlB n many row many && allB (stepB n many ro he sh row) i)) _
    (fun m s hI => by
      show fX7_isRing_10 _ _ _ _ _ (m + 1) s (nI many) = _
      rw [fX7_isRing_10, if_pos (nI_le (Nat.le_refl many) (by omega)), hI, zbI_b, bind_some']
      rfl)
    (fun m i s hi hI => by
      cases c : unlB n many row many && allB (stepB n many ro he sh row) i
      · left
        rw [c] at hI
        have e0 : RG n many ro he sh row = false := by
          unfold RG
          cases d : unlB n many row many
          · rfl
          · rw [d, Bool.true_and] at c
            rw [Bool.true_and]; exact allB_pre (by omega) c
        show fX7_isRing_10 _ _ _ _ _ (m + 1) s (nI i) = _
        rw [fX7_isRing_10, if_neg (nI_ge hi (by omega)), hI, if_pos (show b01 false = 0 from rfl), e0]
        rfl
      · right
        rw [c] at hI
        refine ⟨_, rfl, ?_⟩
        have e1 : (unlB n many row many && allB (stepB n many ro he sh row) (i + 1)) = (decide (dgN n many row 0 ≤ dgN n many row i) && favB n ro he sh (dgN n many row i) (dgN n many row ((i + 1) % many))) := by
          show (unlB n many row many && (allB (stepB n many ro he sh row) i && stepB n many ro he sh row i)) = _
          rw [← Bool.and_assoc, c, Bool.true_and]; rfl
        have rm : rmI (nI (i + 1)) (nI many) = some (nI ((i + 1) % many)) := by
          unfold rmI
          rw [if_neg (nI_ne0 (by omega) (by omega)), pk_rem (by omega) (by omega) (by omega)]
        have lm : (i + 1) % many < many := Nat.mod_lt _ (by omega)
        show fX7_isRing_10 _ _ _ _ _ (m + 1) s (nI i) = fX7_isRing_10 _ _ _ _ _ m (b01 (unlB n many row many && allB (stepB n many ro he sh row) (i + 1))) (nI (i + 1))
        rw [fX7_isRing_10, if_neg (nI_ge hi (by omega)), hI, if_neg (show ¬ b01 true = 0 by decide), digit_ok hB.1.1 hN.1 hn6 hr hi hm, bind_some', show fX7_digit bk (nI row) (nI many) 0 = some (nI (dgN n many row 0)) from digit_ok (k := 0) hB.1.1 hN.1 hn6 hr (by omega) hm, bind_some', nI_1, e1]
        by_cases d : dgN n many row 0 ≤ dgN n many row i
        · have l0 := dl 0
          have li := dl i
          rw [if_neg (nI_nlt d (by omega)), rm, bind_some', digit_ok hB.1.1 hN.1 hn6 hr lm hm, bind_some', favoured_ok hN hB haw (dl i) (dl _), bind_some', decide_eq_true d, Bool.true_and]
          cases favB n ro he sh (dgN n many row i) (dgN n many row ((i + 1) % many)) <;> rfl
        · have l0 := dl 0
          have li := dl i
          rw [if_pos (nI_lt (by omega) (by omega)), decide_eq_false d, Bool.false_and]
          rfl)
    fu 0 (b01 (unlB n many row many)) (Nat.zero_le many) (by show many - 0 < 50000; omega) (by show _ = b01 (_ && true); rw [Bool.and_true])
/-- the class's rows of favours -/
theorem favs_ok {n w k g : Nat} {te fr ro he sh wb wv nv nw ns si : Nat → Int32} (hN : RN n w k g) (hV : VW n w k g te fr ro he sh wb wv nv nw ns si) (fa : Nat → Int32) (kx : Int32 → (Nat → Int32) → Option (Int32 × (Nat → Int32) × (Nat → Int32) × Int32)) :
    ∃ fa', fX0_go_10 (nI n) ro he sh kx fu 0 fa = kx (nI n) fa' ∧ ∀ u v, u < n → bt (fa' u) v = favB n ro he sh u v := by
  have hn6 : n ≤ 6 := hN.2.1
  have h := forI (fun m b (s : Nat → Int32) => fX0_go_10 (nI n) ro he sh kx m b s) (fun s => kx (nI n) s) n (fun b s => ∀ c, c < b → ∀ u, ro c = nI u → u < n → s u = anyD he sh c 4)
    (fun m s _ => by
      show fX0_go_10 _ _ _ _ _ (m + 1) (nI n) s = _
      rw [fX0_go_10, if_pos (nI_le (Nat.le_refl n) (by omega))])
    (fun m b s hb hI => by
      obtain ⟨j, hj, ej⟩ := hV.2.2.1 b hb
      refine ⟨upd s j (anyD he sh b 4), fun c hc u hu hun => ?_, ?_⟩
      · by_cases e : c = b
        · subst e
          rw [ej] at hu
          have : j = u := (nI_eq (by omega) (by omega)).mp hu
          subst this
          exact upd_at
        · have : u ≠ j := fun z => by
            subst z
            exact e (hV.2.2.2.1 c b (by omega) hb (by rw [hu, ej]))
          rw [upd_ne this]
          exact hI c (by omega) u hu hun
      · show fX0_go_10 _ _ _ _ _ (m + 1) (nI b) s = _
        rw [fX0_go_10, if_neg (nI_ge hb (by omega)), rdI_n (by omega) (by decide), bind_some', any_ok (by omega), bind_some', ej, wrI_n (by omega) (by decide), bind_some', nI_1])
    fu 0 fa (Nat.zero_le n) (by show n - 0 < 50000; omega) (fun c hc => absurd hc (Nat.not_lt_zero c))
  obtain ⟨s, h1, h2⟩ := h
  refine ⟨s, h2, fun u v hu => ?_⟩
  have cl : ∀ b, b < n → (ro b).toNatClampNeg < n ∧ ro b = nI (ro b).toNatClampNeg := by
    intro b hb
    obtain ⟨j, hj, ej⟩ := hV.2.2.1 b hb
    rw [ej, nI_clamp (by omega)]; exact ⟨hj, rfl⟩
  obtain ⟨b, hb, eb⟩ := fb_onto (n := n) (f := fun b => (ro b).toNatClampNeg) (fun i hi => (cl i hi).1) (fun i j hij hj e => by
    have e' : (ro i).toNatClampNeg = (ro j).toNatClampNeg := e
    have := hV.2.2.2.1 i j (by omega) hj (by rw [(cl i (by omega)).2, (cl j hj).2, e'])
    omega) hu
  have er : ro b = nI u := by
    have := (cl b hb).2
    have eb' : (ro b).toNatClampNeg = u := eb
    rw [eb'] at this; exact this
  rw [h1 b hb u er hu]
  unfold favB
  cases c : bt (anyD he sh b 4) v
  · cases d : anyB (fun b => decide (ro b = nI u) && bt (anyD he sh b 4) v) n
    · rfl
    · obtain ⟨b', hb', hp⟩ := (anyB_iff _ n).mp d
      rw [Bool.and_eq_true] at hp
      have : b' = b := hV.2.2.2.1 b' b hb' hb (by rw [of_decide_eq_true hp.1, er])
      subst this
      rw [c] at hp
      cases hp.2
  · exact ((anyB_iff _ n).mpr ⟨b, hb, by rw [decide_eq_true er, c]; rfl⟩).symm
/-- what the search answers over the rows of [lo, hi) -/
def Qc (R : Nat → Bool) (n size lo hi depth : Nat) (pa : Nat → Int32) (o : Option (Int32 × (Nat → Int32))) : Prop :=
  (∃ r, lo ≤ r ∧ r < hi ∧ R r = true ∧ (∀ x, lo ≤ x → x < r → R x = false) ∧ ∃ pa', o = some (1, pa') ∧ ∀ j, j < size → pa' j = nI (dgN n size r j)) ∨ ((∀ x, lo ≤ x → x < hi → R x = false) ∧ ∃ pa', o = some (0, pa') ∧ ∀ j, j < depth → pa' j = pa j)
/-- a path begun -/
def PP (n b p : Nat) (ro he sh : Nat → Int32) (us : Int32) (pa : Nat → Int32) : Prop :=
  (∀ v, v < n → bt us v = anyB (fun j => decide (dgN n b p j = v)) b) ∧ (∀ j, j < b → pa j = nI (dgN n b p j)) ∧ unlB n b p b = true ∧ (∀ j, j < b → dgN n b p 0 ≤ dgN n b p j) ∧ ∀ j, j + 1 < b → favB n ro he sh (dgN n b p j) (dgN n b p (j + 1)) = true
theorem closes_ok {n size : Nat} {ro he sh fa : Nat → Int32} (hn6 : n ≤ 6) (hsz : size ≤ n) (hfa : ∀ u v, u < n → bt (fa u) v = favB n ro he sh u v) :
    ∀ (d D b p : Nat) (pa : Nat → Int32) (us : Int32), b + d = size → 0 < b → d < D → PP n b p ro he sh us pa →
      Qc (RG n size ro he sh) n size (p * n ^ d) ((p + 1) * n ^ d) b pa (fX0_closes D pa fa (nI n) (nI size) (nI b) us) := by
  intro d
  induction d with
  | zero =>
    intro D b p pa us hbd hb0 hD hP
    obtain ⟨D, rfl⟩ : ∃ D', D = D' + 1 := ⟨D - 1, by omega⟩
    have hb : b = size := by omega
    subst hb
    obtain ⟨g1, g2, g3, g4, g5⟩ := hP
    have dl : ∀ k, dgN n b p k < n := fun k => dgN_lt (by omega)
    have l0 := dl 0
    have l1 := dl (b - 1)
    have eb : nI b - 1 = nI (b - 1) := by
      have := nI_pred (b - 1)
      rwa [Nat.sub_add_cancel hb0] at this
    have eR : RG n b ro he sh p = favB n ro he sh (dgN n b p (b - 1)) (dgN n b p 0) := by
      unfold RG
      rw [g3, Bool.true_and]
      cases c : favB n ro he sh (dgN n b p (b - 1)) (dgN n b p 0)
      · cases e : allB (stepB n b ro he sh p) b
        · rfl
        · have := (allB_iff _ b).mp e (b - 1) (by omega)
          unfold stepB at this
          rw [show (b - 1 + 1) % b = 0 by rw [Nat.sub_add_cancel hb0, Nat.mod_self], c, Bool.and_false] at this
          cases this
      · refine (allB_iff _ b).mpr (fun j hj => ?_)
        unfold stepB
        rw [decide_eq_true (g4 j hj), Bool.true_and]
        by_cases e : j = b - 1
        · rw [e, show (b - 1 + 1) % b = 0 by rw [Nat.sub_add_cancel hb0, Nat.mod_self], c]
        · rw [Nat.mod_eq_of_lt (by omega)]; exact g5 j (by omega)
    have eF : fX0_closes (D + 1) pa fa (nI n) (nI b) (nI b) us = some (b01 (RG n b ro he sh p), pa) := by
      rw [fX0_closes, eb, rdI_n (by omega) (by decide), bind_some', g2 (b - 1) (by omega), rdI_n (by omega) (by decide), bind_some', if_pos (nI_le (Nat.le_refl b) (by omega)), show rdI 6 pa 0 = some (pa 0) from rdI_n (n := 6) (j := 0) (by decide) (by decide), bind_some', g2 0 hb0, has_eq _ (by omega), bind_some', zbI_b, bind_some', hfa _ _ (dl _), eR]
    rw [eF, Nat.pow_zero, Nat.mul_one, Nat.mul_one]
    cases c : RG n b ro he sh p
    · right
      refine ⟨fun x h1 h2 => ?_, pa, rfl, fun _ _ => rfl⟩
      rw [show x = p by omega]; exact c
    · left
      exact ⟨p, Nat.le_refl p, by omega, c, fun x h1 h2 => by omega, pa, rfl, g2⟩
  | succ d ih =>
    intro D b p pa us hbd hb0 hD hP
    obtain ⟨D, rfl⟩ : ∃ D', D = D' + 1 := ⟨D - 1, by omega⟩
    obtain ⟨g1, g2, g3, g4, g5⟩ := hP
    have hb : b < size := by omega
    have dl : ∀ k, dgN n b p k < n := fun k => dgN_lt (by omega)
    have l0 := dl 0
    have l1 := dl (b - 1)
    have eb : nI b - 1 = nI (b - 1) := by
      have := nI_pred (b - 1)
      rwa [Nat.sub_add_cancel hb0] at this
    have h6 : nI b < 6 := nI_lt (a := b) (b := 6) (by omega) (by omega)
    rw [fX0_closes, eb, rdI_n (by omega) (by decide), bind_some', g2 (b - 1) (by omega), rdI_n (by omega) (by decide), bind_some', if_neg (nI_ge hb (by omega)), if_pos h6, show rdI 6 pa 0 = some (pa 0) from rdI_n (n := 6) (j := 0) (by decide) (by decide), bind_some', g2 0 hb0, nI_1]
    have hnd : size = (b + 1) + d := by omega
    have hi : (p + 1) * n ^ (d + 1) = (p * n + n) * n ^ d := by
      rw [Nat.pow_succ, Nat.mul_comm (n ^ d), ← Nat.mul_assoc, Nat.add_mul, Nat.one_mul]
    have lo : p * n ^ (d + 1) = (p * n) * n ^ d := by
      rw [Nat.pow_succ, Nat.mul_comm (n ^ d), ← Nat.mul_assoc]
    rw [lo, hi]
    have dgl : ∀ v x, (p * n + v) * n ^ d ≤ x → x < (p * n + (v + 1)) * n ^ d → ∀ j, j < b + 1 → dgN n size x j = dgN n (b + 1) (p * n + v) j := by
      intro v x hx1 hx2 j hj
      have hx3 : x - (p * n + v) * n ^ d < n ^ d := by
        rw [← Nat.add_assoc, Nat.succ_mul] at hx2; omega
      have := dg_pre (n := n) (b := b + 1) (d := d) (p := p * n + v) (x := x - (p * n + v) * n ^ d) (k := j) hx3 hj
      rw [← hnd, Nat.add_sub_cancel' hx1] at this
      exact this
    have mono : ∀ v, (p * n + v) * n ^ d ≤ (p * n + (v + 1)) * n ^ d := fun v => Nat.mul_le_mul_right _ (by omega)
    have lo2 : ∀ v, p * n * n ^ d ≤ (p * n + v) * n ^ d := fun v => Nat.mul_le_mul_right _ (by omega)
    have hi2 : ∀ v, v < n → (p * n + (v + 1)) * n ^ d ≤ (p * n + n) * n ^ d := fun v hv => Nat.mul_le_mul_right _ (by omega)
    -- no row begins so
    have low : ∀ v, v < dgN n b p 0 + 1 → v < n → ∀ x, (p * n + v) * n ^ d ≤ x → x < (p * n + (v + 1)) * n ^ d → RG n size ro he sh x = false := by
      intro v hv hvn x hx1 hx2
      have db : dgN n size x b = v := by rw [dgl v x hx1 hx2 b (by omega), dg_last hvn]
      have d0 : dgN n size x 0 = dgN n b p 0 := by rw [dgl v x hx1 hx2 0 (by omega), dg_up hvn hb0]
      cases c : RG n size ro he sh x
      · rfl
      · unfold RG at c
        rw [Bool.and_eq_true] at c
        have c2 := (allB_iff _ size).mp c.2 b hb
        unfold stepB at c2
        rw [Bool.and_eq_true] at c2
        have c3 := of_decide_eq_true c2.1
        have c1 := (allB_iff _ size).mp c.1 b hb
        have c4 : anyB (fun j => decide (dgN n size x j = dgN n size x b)) b = true := (anyB_iff _ b).mpr ⟨0, hb0, decide_eq_true (by omega)⟩
        rw [c4] at c1
        cases c1
    have cutv : ∀ x, p * n * n ^ d ≤ x → ∀ v, x < (p * n + v) * n ^ d → ∃ u, u < v ∧ (p * n + u) * n ^ d ≤ x ∧ x < (p * n + (u + 1)) * n ^ d := by
      intro x hx v
      induction v with
      | zero => intro h; rw [Nat.add_zero] at h; omega
      | succ v ihv =>
        intro h
        by_cases c : (p * n + v) * n ^ d ≤ x
        · exact ⟨v, by omega, c, h⟩
        · obtain ⟨u, h1, h2, h3⟩ := ihv (by omega)
          exact ⟨u, by omega, h2, h3⟩
    refine forQ (fun m v (t : Nat → Int32) => fX0_closes_48 (nI size) (nI b) us fa (nI n) (fX0_closes D) (fa (dgN n b p (b - 1))) (fun _ y => some ((0, y))) m v t) n
      (fun v t => dgN n b p 0 < v ∧ (∀ x, p * n * n ^ d ≤ x → x < (p * n + v) * n ^ d → RG n size ro he sh x = false) ∧ ∀ j, j < b → t j = pa j)
      (Qc (RG n size ro he sh) n size (p * n * n ^ d) ((p * n + n) * n ^ d) b pa)
      (fun m t hI => by
        show Qc _ _ _ _ _ _ _ (fX0_closes_48 _ _ _ _ _ _ _ _ (m + 1) (nI n) t)
        rw [fX0_closes_48, if_pos (nI_le (Nat.le_refl n) (by omega))]
        exact Or.inr ⟨hI.2.1, t, rfl, hI.2.2⟩)
      (fun m v t hv hI => by
        obtain ⟨i0, i1, i2⟩ := hI
        have ext : (∀ x, (p * n + v) * n ^ d ≤ x → x < (p * n + (v + 1)) * n ^ d → RG n size ro he sh x = false) → ∀ x, p * n * n ^ d ≤ x → x < (p * n + (v + 1)) * n ^ d → RG n size ro he sh x = false := by
          intro hno x h1 h2
          by_cases c : (p * n + v) * n ^ d ≤ x
          · exact hno x c h2
          · exact i1 x h1 (by omega)
        show Qc _ _ _ _ _ _ _ (fX0_closes_48 _ _ _ _ _ _ _ _ (m + 1) (nI v) t) ∨ ∃ s', _ ∧ fX0_closes_48 _ _ _ _ _ _ _ _ (m + 1) (nI v) t = _
        rw [fX0_closes_48, if_neg (nI_ge hv (by omega)), has_eq _ (by omega), bind_some', hfa _ _ (dl _), nI_1]
        cases c : favB n ro he sh (dgN n b p (b - 1)) v
        · rw [if_pos (show b01 false = 0 from rfl)]
          refine Or.inr ⟨t, ⟨by omega, ext (fun x hx1 hx2 => ?_), i2⟩, rfl⟩
          have db : dgN n size x b = v := by rw [dgl v x hx1 hx2 b (by omega), dg_last hv]
          have d1 : dgN n size x (b - 1) = dgN n b p (b - 1) := by rw [dgl v x hx1 hx2 (b - 1) (by omega), dg_up hv (by omega)]
          cases e : RG n size ro he sh x
          · rfl
          · unfold RG at e
            rw [Bool.and_eq_true] at e
            have c2 := (allB_iff _ size).mp e.2 (b - 1) (by omega)
            unfold stepB at c2
            rw [show (b - 1 + 1) % size = b by rw [Nat.sub_add_cancel hb0, Nat.mod_eq_of_lt hb], db, d1, c, Bool.and_false] at c2
            cases c2
        · rw [if_neg (show ¬ b01 true = 0 by decide), has_eq _ (by omega), bind_some']
          cases cu : bt us v
          · rw [if_pos (show b01 false = 0 from rfl), wrI_n (by omega) (by decide), bind_some', nI_1]
            have dgk : ∀ j, j < b → dgN n (b + 1) (p * n + v) j = dgN n b p j := fun j hj => dg_up hv hj
            have lw : ¬ v < dgN n b p 0 + 1 := by omega
            · have hP' : PP n (b + 1) (p * n + v) ro he sh (us ||| ((1 : Int32) <<< (nI v &&& 31))) (upd t b (nI v)) := by
                refine ⟨fun u hu => ?_, fun j hj => ?_, ?_, fun j hj => ?_, fun j hj => ?_⟩
                · show _ = (anyB (fun j => decide (dgN n (b + 1) (p * n + v) j = u)) b || decide (dgN n (b + 1) (p * n + v) b = u))
                  rw [b_or, g1 u hu, bt_one (by omega), dg_last hv, anyB_cong (p := fun j => decide (dgN n (b + 1) (p * n + v) j = u)) (q := fun j => decide (dgN n b p j = u)) (fun j hj => by rw [dgk j hj])]
                  congr 1
                  exact decide_eq_decide.mpr eq_comm
                · by_cases e : j = b
                  · subst e; rw [upd_at, dg_last hv]
                  · rw [upd_ne e, i2 j (by omega), g2 j (by omega), dgk j (by omega)]
                · show (allB _ b && !anyB _ b) = true
                  rw [allB_cong (q := fun k => !anyB (fun j => decide (dgN n b p j = dgN n b p k)) k) (fun k hk => by
                    rw [dgk k hk]
                    congr 1
                    exact anyB_cong (fun j hj => by rw [dgk j (by omega)]))]
                  have : allB (fun k => !anyB (fun j => decide (dgN n b p j = dgN n b p k)) k) b = true := g3
                  rw [this, Bool.true_and, dg_last hv, anyB_cong (q := fun j => decide (dgN n b p j = v)) (fun j hj => by rw [dgk j hj]), ← g1 v hv, cu]
                  rfl
                · rw [dgk 0 hb0]
                  by_cases e : j = b
                  · subst e; rw [dg_last hv]; omega
                  · rw [dgk j (by omega)]; exact g4 j (by omega)
                · by_cases e : j + 1 = b
                  · rw [e, dg_last hv, dgk j (by omega), show j = b - 1 by omega]; exact c
                  · rw [dgk j (by omega), dgk (j + 1) (by omega)]; exact g5 j (by omega)
              have q := ih D (b + 1) (p * n + v) (upd t b (nI v)) (us ||| ((1 : Int32) <<< (nI v &&& 31))) (by omega) (by omega) (by omega) hP'
              rcases q with ⟨r, r1, r2, r3, r4, pa', r5, r6⟩ | ⟨r1, pa', r2, r3⟩
              · left
                rw [r5, bind_some', if_neg (show ¬ (1 : Int32) = 0 by decide)]
                refine Or.inl ⟨r, Nat.le_trans (lo2 v) r1, Nat.lt_of_lt_of_le r2 (hi2 v hv), r3, fun x h1 h2 => ?_, pa', rfl, r6⟩
                by_cases e : (p * n + v) * n ^ d ≤ x
                · exact r4 x e h2
                · exact i1 x h1 (by omega)
              · right
                rw [r2, bind_some', if_pos rfl]
                exact ⟨pa', ⟨by omega, ext r1, fun j hj => by rw [r3 j (by omega), upd_ne (by omega), i2 j hj]⟩, rfl⟩
          · rw [if_neg (show ¬ b01 true = 0 by decide)]
            refine Or.inr ⟨t, ⟨by omega, ext (fun x hx1 hx2 => ?_), i2⟩, rfl⟩
            cases e : RG n size ro he sh x
            · rfl
            · unfold RG at e
              rw [Bool.and_eq_true] at e
              have c1 := (allB_iff _ size).mp e.1 b hb
              have h2 : anyB (fun j => decide (dgN n size x j = dgN n size x b)) b = true := by
                rw [dgl v x hx1 hx2 b (by omega), dg_last hv, anyB_cong (q := fun j => decide (dgN n b p j = v)) (fun j hj => by rw [dgl v x hx1 hx2 j (by omega), dg_up hv hj]), ← g1 v hv, cu]
              rw [h2] at c1
              cases c1)
      fu (dgN n b p 0 + 1) pa (by omega) (by show n - _ < 50000; omega) ⟨by omega, fun x h1 h2 => ?_, fun _ _ => rfl⟩
    obtain ⟨u, h3, h4, h5⟩ := cutv x h1 _ h2
    exact low u h3 (by omega) x h4 h5
/-- all paths of one size -/
theorem sizes_ok {n size : Nat} {ro he sh fa : Nat → Int32} (hn6 : n ≤ 6) (h2 : 2 ≤ size) (hsz : size ≤ n) (hfa : ∀ u v, u < n → bt (fa u) v = favB n ro he sh u v) (kx : Int32 → (Nat → Int32) → Option (Int32 × (Nat → Int32) × (Nat → Int32) × Int32)) (pa : Nat → Int32) :
    (∃ r, r < n ^ size ∧ RG n size ro he sh r = true ∧ (∀ x, x < r → RG n size ro he sh x = false) ∧ ∃ pa', fX0_go_52 (nI n) fa (nI size) kx fu 0 pa = some (nI size, pa', fa, nI n) ∧ ∀ j, j < size → pa' j = nI (dgN n size r j)) ∨ ((∀ x, x < n ^ size → RG n size ro he sh x = false) ∧ ∃ pa', fX0_go_52 (nI n) fa (nI size) kx fu 0 pa = kx (nI n) pa') := by
  have es : n * n ^ (size - 1) = n ^ size := by
    rw [Nat.mul_comm, ← Nat.pow_succ, Nat.succ_eq_add_one, Nat.sub_add_cancel (by omega)]
  exact forQ (fun m v (t : Nat → Int32) => fX0_go_52 (nI n) fa (nI size) kx m v t) n (fun v _ => ∀ x, x < v * n ^ (size - 1) → RG n size ro he sh x = false)
    (fun o => (∃ r, r < n ^ size ∧ RG n size ro he sh r = true ∧ (∀ x, x < r → RG n size ro he sh x = false) ∧ ∃ pa', o = some (nI size, pa', fa, nI n) ∧ ∀ j, j < size → pa' j = nI (dgN n size r j)) ∨ ((∀ x, x < n ^ size → RG n size ro he sh x = false) ∧ ∃ pa', o = kx (nI n) pa'))
    (fun m t hI => by
      show _ ∨ (_ ∧ ∃ pa', fX0_go_52 _ _ _ _ (m + 1) (nI n) t = _)
      rw [fX0_go_52, if_pos (nI_le (Nat.le_refl n) (by omega))]
      exact Or.inr ⟨by rw [← es]; exact hI, t, rfl⟩)
    (fun m v t hv hI => by
      have hP : PP n 1 v ro he sh ((1 : Int32) <<< (nI v &&& 31)) (upd t 0 (nI v)) := by
        have d0 : dgN n 1 v 0 = v := by
          unfold dgN
          rw [show 1 - 1 - 0 = 0 by omega, Nat.pow_zero, Nat.div_one, Nat.mod_eq_of_lt hv]
        refine ⟨fun u hu => ?_, fun j hj => ?_, rfl, fun j hj => ?_, fun j hj => by omega⟩
        · show _ = (false || decide (dgN n 1 v 0 = u))
          rw [bt_one (by omega), d0, Bool.false_or]
          exact decide_eq_decide.mpr eq_comm
        · rw [show j = 0 by omega, upd_at, d0]
        · rw [show j = 0 by omega]; exact Nat.le_refl _
      have q := closes_ok hn6 hsz hfa (size - 1) 8 1 v (upd t 0 (nI v)) ((1 : Int32) <<< (nI v &&& 31)) (by omega) (by omega) (by omega) hP
      have ew : wrI 6 t 0 (nI v) = some (upd t 0 (nI v)) := wrI_n (n := 6) (j := 0) (by decide) (by decide)
      show (_ ∨ (_ ∧ ∃ pa', fX0_go_52 _ _ _ _ (m + 1) (nI v) t = _)) ∨ ∃ s', _ ∧ fX0_go_52 _ _ _ _ (m + 1) (nI v) t = _
      rw [fX0_go_52, if_neg (nI_ge hv (by omega)), ew, bind_some', nI_1]
      rcases q with ⟨r, r1, r2, r3, r4, pa', r5, r6⟩ | ⟨r1, pa', r2, r3⟩
      · left; left
        have r5' : fX0_closes 8 (upd t 0 (nI v)) fa (nI n) (nI size) 1 ((1 : Int32) <<< (nI v &&& 31)) = some (1, pa') := r5
        rw [r5', bind_some', if_neg (show ¬ (1 : Int32) = 0 by decide)]
        refine ⟨r, Nat.lt_of_lt_of_le r2 (by rw [← es]; exact Nat.mul_le_mul_right _ (by omega)), r3, fun x hx => ?_, pa', rfl, r6⟩
        by_cases e : v * n ^ (size - 1) ≤ x
        · exact r4 x e hx
        · exact hI x (by omega)
      · right
        have r2' : fX0_closes 8 (upd t 0 (nI v)) fa (nI n) (nI size) 1 ((1 : Int32) <<< (nI v &&& 31)) = some (0, pa') := r2
        rw [r2', bind_some', if_pos rfl]
        refine ⟨pa', fun x hx => ?_, rfl⟩
        by_cases e : v * n ^ (size - 1) ≤ x
        · exact r1 x e hx
        · exact hI x (by omega))
    fu 0 pa (Nat.zero_le n) (by show n - 0 < 50000; omega) (fun x hx => by rw [Nat.zero_mul] at hx; omega)
/-- what the reference answers of the row -/
def ringA (n many row : Nat) (p0 : Int32) (q aw : Nat → Int32) : Option (Int32 × (Nat → Int32) × (Nat → Int32)) := if p0 = -1 then some (nI many, q, aw) else if nI many ≤ p0 then some (-5, q, aw) else some (nI (dgN n many row p0.toNatClampNeg), q, aw)
theorem ring31_ok {n w k g : Nat} {te fr ro he sh wb wv nv nw ns si bk : Nat → Int32} (hN : RN n w k g) (hB : BK n w k g te fr ro he wb wv nv nw ns si bk) {aw : Nat → Int32} (haw : ∀ b, b < n → aw b = anyD he sh b 4) (q : Nat → Int32) {many : Nat} (h1 : 2 ≤ many) (hm : many ≤ n) {p0 : Int32} (hp : -1 ≤ p0) (kx : Int32 → Option (Int32 × (Nat → Int32) × (Nat → Int32))) :
    (∀ r, r < n ^ many → RG n many ro he sh r = true → (∀ x, x < r → RG n many ro he sh x = false) → fX7_ring_31 p0 bk q aw (nI many) kx fu 0 = ringA n many r p0 q aw) ∧ ((∀ x, x < n ^ many → RG n many ro he sh x = false) → fX7_ring_31 p0 bk q aw (nI many) kx fu 0 = kx (nI (n ^ many))) := by
  have hn6 : n ≤ 6 := hN.2.1
  have hpw := pow_le6 (n := n) (d := many) hn6 (by omega)
  have st : ∀ m row, row < n ^ many → RG n many ro he sh row = false → fX7_ring_31 p0 bk q aw (nI many) kx (m + 1) (nI row) = fX7_ring_31 p0 bk q aw (nI many) kx m (nI (row + 1)) := by
    intro m row hr hf
    rw [fX7_ring_31, rows_ok hB.1.1 (by omega), bind_some', if_neg (nI_ge hr (by omega)), isRing_ok hN hB haw (by omega) h1 (by omega), bind_some', hf, if_pos (show b01 false = 0 from rfl), nI_1]
  constructor
  · intro r hr hR hno
    exact forR (fun m i (_ : Unit) => fX7_ring_31 p0 bk q aw (nI many) kx m i) r (fun _ _ => True) _
      (fun m _ _ => by
        show fX7_ring_31 _ _ _ _ _ _ (m + 1) (nI r) = _
        rw [fX7_ring_31, rows_ok hB.1.1 (by omega), bind_some', if_neg (nI_ge hr (by omega)), isRing_ok hN hB haw (by omega) h1 (by omega), bind_some', hR, if_neg (show ¬ b01 true = 0 by decide)]
        unfold ringA
        by_cases c : p0 = -1
        · rw [if_pos c, if_pos c]
        · rw [if_neg c, if_neg c]
          by_cases d : nI many ≤ p0
          · rw [if_pos d, if_pos d]
          · rw [if_neg d, if_neg d]
            have h0 : ¬ p0 < 0 := by
              rw [fa_lt]
              have h2 := (fa_le _ _).mp hp
              have h3 : p0.toInt ≠ (-1 : Int32).toInt := fun e => c ((fa_eq _ _).mpr e)
              have e1 : (-1 : Int32).toInt = -1 := rfl
              have e0 : (0 : Int32).toInt = 0 := rfl
              omega
            rcases pk_ix p0 (n := many) (by omega) with h | h | ⟨j, hj, rfl⟩
            · exact absurd h h0
            · exact absurd h d
            · rw [digit_ok hB.1.1 hN.1 hn6 (by omega) hj (by omega), bind_some', nI_clamp (by omega)])
      (fun m i _ hi _ => Or.inr ⟨(), trivial, st m i (by omega) (hno i hi)⟩)
      fu 0 () (Nat.zero_le r) (by show r - 0 < 50000; omega) trivial
  · intro hno
    exact forR (fun m i (_ : Unit) => fX7_ring_31 p0 bk q aw (nI many) kx m i) (n ^ many) (fun _ _ => True) _
      (fun m _ _ => by
        show fX7_ring_31 _ _ _ _ _ _ (m + 1) (nI (n ^ many)) = _
        rw [fX7_ring_31, rows_ok hB.1.1 (by omega), bind_some', if_pos (nI_le (Nat.le_refl _) (by omega))])
      (fun m i _ hi _ => Or.inr ⟨(), trivial, st m i hi (hno i hi)⟩)
      fu 0 () (Nat.zero_le _) (by show n ^ many - 0 < 50000; omega) trivial
theorem P_ring {vi wo ne sg : Int32} {te fr ro he sh wb wv nv nw ns si bk : Nat → Int32} (hR : RV vi wo ne sg te fr ro he sh wb wv nv nw ns si bk) {rb rn rf : Int32} {q : Nat → Int32} (hc : RC rb rn rf q) (pa fa aw : Nat → Int32) (gv : Int32) (p0 : Int32) :
    ∃ ox om, fX6_ring rb vi ro he sh pa fa gv p0 = some ox ∧ fX7_ring bk q aw p0 = some om ∧ ox.1 = om.1 ∧ RC ox.2.1 rn rf om.2.1 := by
  obtain ⟨n, w, k, g, hN, rfl, rfl, rfl, rfl, hV, hB⟩ := id hR
  have hn6 : n ≤ 6 := hN.2.1
  have hn2 : 2 ≤ n := hN.1
  have hb0 : bk 0 = nI n := hB.1.1
  obtain ⟨aw', a1, a2⟩ := places_ok hN hV hB aw
  unfold fX6_ring fX7_ring
  by_cases hp : -1 ≤ p0
  · rw [if_pos hp, if_pos hp, a1, bind_some']
    unfold fX0_go
    obtain ⟨fa', f1, f2⟩ := favs_ok hN hV fa (fun _ y => (fX0_go_42 (nI n) y (fun _ z => some ((0, z, y, nI n))) fu 2 pa))
    rw [f1]
    have main : ∀ (e many : Nat) (pa : Nat → Int32) (m m' : Nat), many + e = n + 1 → 2 ≤ many → e < m → e < m' →
        (∃ sz r pa', 2 ≤ sz ∧ sz ≤ n ∧ fX0_go_42 (nI n) fa' (fun _ z => some ((0, z, fa', nI n))) m (nI many) pa = some (nI sz, pa', fa', nI n) ∧ (∀ j, j < sz → pa' j = nI (dgN n sz r j)) ∧ fX7_ring_19 p0 bk q aw' (fun _ => (if p0 = -1 then some ((0, q, aw')) else some ((-5, q, aw')))) m' (nI many) = ringA n sz r p0 q aw') ∨
        (∃ pa', fX0_go_42 (nI n) fa' (fun _ z => some ((0, z, fa', nI n))) m (nI many) pa = some (0, pa', fa', nI n) ∧ fX7_ring_19 p0 bk q aw' (fun _ => (if p0 = -1 then some ((0, q, aw')) else some ((-5, q, aw')))) m' (nI many) = (if p0 = -1 then some ((0, q, aw')) else some ((-5, q, aw')))) := by
      intro e
      induction e with
      | zero =>
        intro many pa m m' he h2 hm hm'
        obtain ⟨m, rfl⟩ : ∃ z, m = z + 1 := ⟨m - 1, by omega⟩
        obtain ⟨m', rfl⟩ : ∃ z, m' = z + 1 := ⟨m' - 1, by omega⟩
        right
        have l : nI n < nI many := nI_lt (by omega) (by omega)
        exact ⟨pa, by rw [fX0_go_42, if_pos l], by rw [fX7_ring_19, rdB0, bind_some', hb0, if_pos l]⟩
      | succ e ih =>
        intro many pa m m' he h2 hm hm'
        obtain ⟨m, rfl⟩ : ∃ z, m = z + 1 := ⟨m - 1, by omega⟩
        obtain ⟨m', rfl⟩ : ∃ z, m' = z + 1 := ⟨m' - 1, by omega⟩
        have l : ¬ nI n < nI many := nI_nlt (by omega) (by omega)
        have r31 := ring31_ok hN hB a2 q h2 (show many ≤ n by omega) hp (fun _ => fX7_ring_19 p0 bk q aw' (fun _ => (if p0 = -1 then some ((0, q, aw')) else some ((-5, q, aw')))) m' (nI (many + 1)))
        rw [fX0_go_42, if_neg l, fX7_ring_19, rdB0, bind_some', hb0, if_neg l, nI_1]
        rcases sizes_ok hn6 h2 (show many ≤ n by omega) f2 (fun _ y => fX0_go_42 (nI n) fa' (fun _ z => some ((0, z, fa', nI n))) m (nI (many + 1)) y) pa with ⟨r, r1, r2, r3, pa', r4, r5⟩ | ⟨r1, pa', r2⟩
        · left
          exact ⟨many, r, pa', h2, by omega, r4, r5, r31.1 r r1 r2 r3⟩
        · rw [r2, r31.2 r1]
          exact ih (many + 1) pa' m m' (by omega) (by omega) (by omega) (by omega)
    rcases main (n - 1) 2 pa fu fu (by omega) (by omega) (by show n - 1 < 50000; omega) (by show n - 1 < 50000; omega) with ⟨sz, r, pa', s2, sn, x1, x2, x3⟩ | ⟨pa', x1, x2⟩
    · have x1' : fX0_go_42 (nI n) fa' (fun _ z => some ((0, z, fa', nI n))) fu 2 pa = some (nI sz, pa', fa', nI n) := x1
      have x3' : fX7_ring_19 p0 bk q aw' (fun _ => (if p0 = -1 then some ((0, q, aw')) else some ((-5, q, aw')))) fu 2 = ringA n sz r p0 q aw' := x3
      rw [x1', x3', bind_some']
      unfold ringA
      by_cases c : p0 = -1
      · rw [if_pos c, if_pos c]
        exact ⟨_, _, rfl, rfl, rfl, hc⟩
      · rw [if_neg c, if_neg c]
        by_cases d : nI sz ≤ p0
        · rw [if_pos d, if_pos d]
          exact ⟨_, _, rfl, rfl, rfl, hc⟩
        · rw [if_neg d, if_neg d]
          have h0 : ¬ p0 < 0 := by
            rw [fa_lt]
            have h2 := (fa_le _ _).mp hp
            have h3 : p0.toInt ≠ (-1 : Int32).toInt := fun e => c ((fa_eq _ _).mpr e)
            have e1 : (-1 : Int32).toInt = -1 := rfl
            have e0 : (0 : Int32).toInt = 0 := rfl
            omega
          rcases pk_ix p0 (n := sz) (by omega) with h | h | ⟨j, hj, rfl⟩
          · exact absurd h h0
          · exact absurd h d
          · rw [rdI_n (by omega) (by decide), bind_some', nI_clamp (by omega)]
            exact ⟨_, _, rfl, rfl, x2 j hj, hc⟩
    · have x1' : fX0_go_42 (nI n) fa' (fun _ z => some ((0, z, fa', nI n))) fu 2 pa = some (0, pa', fa', nI n) := x1
      have x2' : fX7_ring_19 p0 bk q aw' (fun _ => (if p0 = -1 then some ((0, q, aw')) else some ((-5, q, aw')))) fu 2 = (if p0 = -1 then some ((0, q, aw')) else some ((-5, q, aw'))) := x2
      rw [x1', x2', bind_some']
      by_cases c : p0 = -1
      · rw [if_pos c, if_pos c]
        exact ⟨_, _, rfl, rfl, rfl, hc⟩
      · rw [if_neg c, if_neg c]
        have h0 : (0 : Int32) ≤ p0 := by
          rw [fa_le]
          have h2 := (fa_le _ _).mp hp
          have h3 : p0.toInt ≠ (-1 : Int32).toInt := fun e => c ((fa_eq _ _).mpr e)
          have e1 : (-1 : Int32).toInt = -1 := rfl
          have e0 : (0 : Int32).toInt = 0 := rfl
          omega
        rw [if_pos h0]
        exact ⟨_, _, rfl, rfl, rfl, hc⟩
  · rw [if_neg hp, if_neg hp]
    obtain ⟨h0, hr1, hr2⟩ := hc
    refine ⟨(-10, rb + 1, pa, fa, gv), (-10, upd q 0 (q 0 + 1), aw), rfl, ?_, rfl, show upd q 0 (q 0 + 1) 0 = _ by rw [upd_at, h0], show upd q 0 (q 0 + 1) 1 = _ by rw [upd_ne (by decide)]; exact hr1, show upd q 0 (q 0 + 1) 2 = _ by rw [upd_ne (by decide)]; exact hr2⟩
    unfold fX7_refuses
    rw [show rdI 3 q 0 = some (q 0) from rdI_n (n := 3) (j := 0) (by decide) (by decide), bind_some', show wrI 3 q 0 (q 0 + 1) = some (upd q 0 (q 0 + 1)) from wrI_n (n := 3) (j := 0) (by decide) (by decide), bind_some', bind_some']
