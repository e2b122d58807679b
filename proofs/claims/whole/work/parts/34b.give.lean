/-! ROPES: the class's search -/
def itF {σ : Type} (T : Nat → σ → σ) (lo : Nat) : Nat → σ → σ
  | 0, s => s
  | c + 1, s => T (lo + c) (itF T lo c s)
theorem itF_add {σ : Type} (T : Nat → σ → σ) (lo a : Nat) : ∀ (b : Nat) (s : σ), itF T lo (a + b) s = itF T (lo + a) b (itF T lo a s)
  | 0, s => rfl
  | b + 1, s => by
    show T (lo + (a + b)) (itF T lo (a + b) s) = T (lo + a + b) (itF T (lo + a) b (itF T lo a s))
    rw [itF_add T lo a b s, Nat.add_assoc]
theorem itF_0 {σ : Type} (T : Nat → σ → σ) : ∀ (n : Nat) (s : σ), itF T 0 n s = itS T n s
  | 0, s => rfl
  | n + 1, s => by
    show T (0 + n) (itF T 0 n s) = T n (itS T n s)
    rw [itF_0 T n s, Nat.zero_add]
theorem itF_id {σ : Type} (T : Nat → σ → σ) (lo : Nat) (s : σ) : ∀ (n : Nat), (∀ x, x < n → T (lo + x) s = s) → itF T lo n s = s
  | 0, _ => rfl
  | n + 1, h => by
    show T (lo + n) (itF T lo n s) = s
    rw [itF_id T lo s n (fun x hx => h x (by omega)), h n (by omega)]
/-- the digits of a prefix -/
theorem dg_pre {n b d p x k : Nat} (hx : x < n ^ d) (hk : k < b) : dgN n (b + d) (p * n ^ d + x) k = dgN n b p k := by
  unfold dgN
  have e : b + d - 1 - k = d + (b - 1 - k) := by omega
  have h0 : 0 < n ^ d := Nat.lt_of_le_of_lt (Nat.zero_le x) hx
  rw [e, Nat.pow_add, ← Nat.div_div_eq_div_mul, Nat.mul_comm p, Nat.mul_add_div h0, Nat.div_eq_of_lt hx, Nat.add_zero]
theorem dg_last {n b p v : Nat} (hv : v < n) : dgN n (b + 1) (p * n + v) b = v := by
  unfold dgN
  rw [show b + 1 - 1 - b = 0 by omega, Nat.pow_zero, Nat.div_one, Nat.mul_comm, Nat.mul_add_mod, Nat.mod_eq_of_lt hv]
theorem dg_up {n b p v k : Nat} (hv : v < n) (hk : k < b) : dgN n (b + 1) (p * n + v) k = dgN n b p k := by
  have := dg_pre (n := n) (b := b) (d := 1) (p := p) (x := v) (k := k) (by rw [Nat.pow_one]; exact hv) hk
  rwa [Nat.pow_one] at this
theorem anyB_cong {p q : Nat → Bool} : ∀ {n : Nat}, (∀ i, i < n → p i = q i) → anyB p n = anyB q n
  | 0, _ => rfl
  | n + 1, h => by
    show (anyB p n || p n) = (anyB q n || q n)
    rw [anyB_cong (fun i hi => h i (by omega)), h n (by omega)]
theorem allB_cong {p q : Nat → Bool} : ∀ {n : Nat}, (∀ i, i < n → p i = q i) → allB p n = allB q n
  | 0, _ => rfl
  | n + 1, h => by
    show (allB p n && p n) = (allB q n && q n)
    rw [allB_cong (fun i hi => h i (by omega)), h n (by omega)]
theorem metD_cong {he sh nv nw ns : Nat → Int32} {dg dg2 : Nat → Nat} {m : Nat} (h : ∀ b, b < m → dg b = dg2 b) (i : Nat) : metD he sh nv nw ns dg m i = metD he sh nv nw ns dg2 m i := by
  unfold metD
  exact anyB_cong (fun b hb => by rw [h b hb])
def meetB (he sh nv nw ns : Nat → Int32) (b v i : Nat) : Bool := bt (ns i) v && bt (hearD he sh b (nw i).toNatClampNeg) (nv i).toNatClampNeg
theorem needsMet_ok {n w k g : Nat} {te fr ro he sh wb wv nv nw ns si : Nat → Int32} (hN : RN n w k g) (hV : VW n w k g te fr ro he sh wb wv nv nw ns si) {b v : Nat} (hb : b < n) (hv : v < n) :
    ∃ z, fX1_needsMet (nI k) he sh nv nw ns (nI b) (nI v) = some z ∧ bel z k ∧ ∀ i, i < k → bt z i = meetB he sh nv nw ns b v i := by
  have hn6 : n ≤ 6 := hN.2.1
  have hk : k ≤ 12 := hN.2.2.2.1
  unfold fX1_needsMet
  exact setLoop (fun m u s => fX1_needsMet_5 (nI b) (nI v) (nI k) he sh nv nw ns (fun x _ => some x) m s u) (fun s => some s) k (by omega) (meetB he sh nv nw ns b v)
    (fun m s => by
      show fX1_needsMet_5 _ _ _ _ _ _ _ _ _ (m + 1) s (nI k) = _
      rw [fX1_needsMet_5, if_pos (nI_le (Nat.le_refl k) (by omega))])
    (fun m i s hi => by
      obtain ⟨o, ho, eo⟩ := hV.2.2.2.2.2.2.2.2.1 i hi
      obtain ⟨x, hx, ex⟩ := hV.2.2.2.2.2.2.2.2.2.1 i hi
      have e : meetB he sh nv nw ns b v i = (bt (ns i) v && bt (hearD he sh b x) o) := by
        unfold meetB
        rw [ex, eo, nI_clamp (by omega), nI_clamp (by omega)]
      show fX1_needsMet_5 _ _ _ _ _ _ _ _ _ (m + 1) s (nI i) = _
      rw [fX1_needsMet_5, if_neg (nI_ge hi (by omega)), rdI_n (by omega) (by decide), bind_some', ex, heardIn_ok (by omega) hx, bind_some', rdI_n (by omega) (by decide), bind_some', eo, has_eq _ (by omega), bind_some', rdI_n (by omega) (by decide), bind_some', has_eq _ (by omega), bind_some', nI_1, e]
      cases bt (ns i) v <;> cases bt (hearD he sh b x) o <;> rfl)
/-- the class's table of what is met -/
def MT (n k : Nat) (he sh nv nw ns : Nat → Int32) (me : Nat → Int32) (b v : Nat) : Prop :=
  (bt (anyD he sh b 4) v = true ∧ me (6 * b + v) = -1) ∨ (bt (anyD he sh b 4) v = false ∧ ¬ me (6 * b + v) = -1 ∧ bel (me (6 * b + v)) k ∧ ∀ i, i < k → bt (me (6 * b + v)) i = meetB he sh nv nw ns b v i)
theorem bel_m1 {x : Int32} {k : Nat} (hk : k ≤ 12) (h : bel x k) : ¬ x = -1 := fun e => by
  have := h 31 (by omega)
  rw [e, b_m1 31 (by decide)] at this
  cases this
theorem meets_ok {n w k g : Nat} {te fr ro he sh wb wv nv nw ns si : Nat → Int32} (hN : RN n w k g) (hV : VW n w k g te fr ro he sh wb wv nv nw ns si) (me : Nat → Int32) (kx : Int32 → (Nat → Int32) → Option ((Nat → Int32) × Int32 × (Nat → Int32) × (Nat → Int32) × Int32)) :
    ∃ me', fX1_go_15 (nI n) (nI k) he sh nv nw ns kx fu 0 me = kx (nI n) me' ∧ ∀ b v, b < n → v < n → MT n k he sh nv nw ns me' b v := by
  have hn6 : n ≤ 6 := hN.2.1
  have hk : k ≤ 12 := hN.2.2.2.1
  have inner : ∀ (kx : Int32 → (Nat → Int32) → Option ((Nat → Int32) × Int32 × (Nat → Int32) × (Nat → Int32) × Int32)) (b : Nat) (s : Nat → Int32), b < n → ∃ s', fX1_go_32 (nI n) (nI k) he sh nv nw ns (nI b) (anyD he sh b 4) kx fu 0 s = kx (nI n) s' ∧ (∀ v, v < n → MT n k he sh nv nw ns s' b v) ∧ ∀ j, (j < 6 * b ∨ 6 * b + n ≤ j) → s' j = s j := by
    intro kx b s hb
    have h := forI (fun m v (s' : Nat → Int32) => fX1_go_32 (nI n) (nI k) he sh nv nw ns (nI b) (anyD he sh b 4) kx m v s') (fun s' => kx (nI n) s') n (fun v s' => (∀ u, u < v → MT n k he sh nv nw ns s' b u) ∧ ∀ j, (j < 6 * b ∨ 6 * b + n ≤ j) → s' j = s j)
      (fun m s' _ => by
        show fX1_go_32 _ _ _ _ _ _ _ _ _ _ (m + 1) (nI n) s' = _
        rw [fX1_go_32, if_pos (nI_le (Nat.le_refl n) (by omega))])
      (fun m v s' hv hI => by
        obtain ⟨z, z1, z2, z3⟩ := needsMet_ok hN hV hb hv
        have keep : ∀ y u, u < v → MT n k he sh nv nw ns (upd s' (6 * b + v) y) b u := by
          intro y u hu
          have := hI.1 u hu
          unfold MT at this ⊢
          rw [upd_ne (by omega)]; exact this
        cases c : bt (anyD he sh b 4) v
        · refine ⟨upd s' (6 * b + v) z, ⟨fun u hu => ?_, fun j hj => by rw [upd_ne (by omega)]; exact hI.2 j hj⟩, ?_⟩
          · by_cases e : u = v
            · subst e
              right
              rw [upd_at]
              exact ⟨c, bel_m1 hk z2, z2, z3⟩
            · exact keep _ u (by omega)
          · show fX1_go_32 _ _ _ _ _ _ _ _ _ _ (m + 1) (nI v) s' = _
            rw [fX1_go_32, if_neg (nI_ge hv (by omega)), pair_ok, bind_some', has_eq _ (by omega), bind_some', c, if_pos (show b01 false = 0 from rfl), z1, bind_some', wrI_n (by omega) (by decide), bind_some', nI_1]
        · refine ⟨upd s' (6 * b + v) (-1), ⟨fun u hu => ?_, fun j hj => by rw [upd_ne (by omega)]; exact hI.2 j hj⟩, ?_⟩
          · by_cases e : u = v
            · subst e
              left
              rw [upd_at]
              exact ⟨c, rfl⟩
            · exact keep _ u (by omega)
          · show fX1_go_32 _ _ _ _ _ _ _ _ _ _ (m + 1) (nI v) s' = _
            rw [fX1_go_32, if_neg (nI_ge hv (by omega)), pair_ok, bind_some', has_eq _ (by omega), bind_some', c, if_neg (by decide), wrI_n (by omega) (by decide), bind_some', nI_1])
      fu 0 s (Nat.zero_le n) (by show n - 0 < 50000; omega) ⟨fun u hu => absurd hu (Nat.not_lt_zero u), fun _ _ => rfl⟩
    obtain ⟨s', h1, h2⟩ := h
    exact ⟨s', h2, h1⟩
  have h := forI (fun m b (s : Nat → Int32) => fX1_go_15 (nI n) (nI k) he sh nv nw ns kx m b s) (fun s => kx (nI n) s) n (fun b s => ∀ c v, c < b → v < n → MT n k he sh nv nw ns s c v)
    (fun m s _ => by
      show fX1_go_15 _ _ _ _ _ _ _ _ (m + 1) (nI n) s = _
      rw [fX1_go_15, if_pos (nI_le (Nat.le_refl n) (by omega))])
    (fun m b s hb hI => by
      obtain ⟨s', e1, e2, e3⟩ := inner (fun _ a => fX1_go_15 (nI n) (nI k) he sh nv nw ns kx m (nI (b + 1)) a) b s hb
      refine ⟨s', fun c v hc hv => ?_, ?_⟩
      · by_cases e : c = b
        · subst e; exact e2 v hv
        · have := hI c v (by omega) hv
          unfold MT at this ⊢
          rw [e3 (6 * c + v) (by omega)]; exact this
      · show fX1_go_15 _ _ _ _ _ _ _ _ (m + 1) (nI b) s = _
        rw [fX1_go_15, if_neg (nI_ge hb (by omega)), any_ok (by omega), bind_some', nI_1]
        exact e1)
    fu 0 me (Nat.zero_le n) (by show n - 0 < 50000; omega) (fun c v hc _ => absurd hc (Nat.not_lt_zero c))
  obtain ⟨s, h1, h2⟩ := h
  exact ⟨s, h2, h1⟩
theorem onesN_due {he sh nv nw ns : Nat → Int32} {dg : Nat → Nat} {m : Nat} {x : Int32} : ∀ k, (∀ i, i < k → bt x i = metD he sh nv nw ns dg m i) → onesN x k = dueC he sh nv nw ns dg m k
  | 0, _ => rfl
  | k + 1, h => by
    show onesN x k + _ = dueC he sh nv nw ns dg m k + _
    rw [onesN_due k (fun i hi => h i (by omega)), h k (by omega)]
def BR (n : Nat) (be : Nat → Int32) (s : Nat × Nat) : Prop := 0 < s.1 → ∀ j, j < n → be j = nI (dgN n n s.2 j)
/-- a way begun: its bells ahead of b are given -/
def GP (n k b p : Nat) (he sh nv nw ns : Nat → Int32) (ta mt : Int32) (gi : Nat → Int32) : Prop :=
  (∀ v, v < n → bt ta v = anyB (fun j => decide (dgN n b p j = v)) b) ∧ bel mt k ∧ (∀ i, i < k → bt mt i = metD he sh nv nw ns (dgN n b p) b i) ∧ (∀ j, j < b → gi j = nI (dgN n b p j)) ∧ unlB n b p b = true ∧ allB (fun j => !bt (anyD he sh j 4) (dgN n b p j)) b = true
theorem give_ok {n w k g : Nat} {he sh nv nw ns : Nat → Int32} (hN : RN n w k g) {me : Nat → Int32} (hM : ∀ b v, b < n → v < n → MT n k he sh nv nw ns me b v) :
    ∀ (d D b p : Nat) (be gi : Nat → Int32) (ta mt : Int32) (s : Nat × Nat), b + d = n → d < D → GP n k b p he sh nv nw ns ta mt gi → BR n be s → s.1 ≤ 13 →
      ∃ be' gi', fX1_give D be (mI s.1) gi me (nI n) (nI b) ta mt = some (be', mI (itF (ropT (valR n k he sh nv nw ns)) (p * n ^ d) (n ^ d) s).1, gi') ∧ BR n be' (itF (ropT (valR n k he sh nv nw ns)) (p * n ^ d) (n ^ d) s) ∧ (itF (ropT (valR n k he sh nv nw ns)) (p * n ^ d) (n ^ d) s).1 ≤ 13 ∧ ∀ j, j < b → gi' j = gi j := by
  have hn6 : n ≤ 6 := hN.2.1
  have hk : k ≤ 12 := hN.2.2.2.1
  intro d
  induction d with
  | zero =>
    intro D b p be gi ta mt s hbd hD hG hBR hs
    obtain ⟨D, rfl⟩ : ∃ D', D = D' + 1 := ⟨D - 1, by omega⟩
    have hb : b = n := by omega
    subst hb
    obtain ⟨g1, g2, g3, g4, g5, g6⟩ := hG
    have ok : okRow b he sh p = true := by unfold okRow; rw [g5, g6]; rfl
    have ev : valR b k he sh nv nw ns p = dueC he sh nv nw ns (dgN b b p) b k + 1 := if_pos ok
    have ec : onesN mt 12 = dueC he sh nv nw ns (dgN b b p) b k := by
      rw [onesN_bel g2 12 hk]; exact onesN_due k g3
    have dl := dueC_le he sh nv nw ns (dgN b b p) b k
    have eI : itF (ropT (valR b k he sh nv nw ns)) (p * b ^ 0) (b ^ 0) s = if valR b k he sh nv nw ns p ≤ s.1 then s else (valR b k he sh nv nw ns p, p) := by
      rw [Nat.pow_zero, Nat.mul_one]; rfl
    rw [eI, ev, fX1_give, if_pos (nI_le (Nat.le_refl b) (by omega)), bitCount_ok (bel_mono g2 hk), bind_some', ec]
    unfold fX1_keepIfMore
    rw [← mI_succ (dueC he sh nv nw ns (dgN b b p) b k)]
    by_cases c : dueC he sh nv nw ns (dgN b b p) b k + 1 ≤ s.1
    · rw [if_pos ((mI_le (by omega) (by omega)).mpr c), if_pos c, bind_some']
      exact ⟨be, gi, rfl, hBR, hs, fun _ _ => rfl⟩
    · rw [if_neg (fun z => c ((mI_le (by omega) (by omega)).mp z)), if_neg c, bind_some']
      refine ⟨_, gi, rfl, fun _ j hj => ?_, by show _ + 1 ≤ 13; omega, fun _ _ => rfl⟩
      show cpI 6 gi be j = nI (dgN b b p j)
      rw [← g4 j hj]
      show (if 0 ≤ j ∧ j < 0 + 6 then gi (0 + (j - 0)) else be j) = gi j
      rw [if_pos (by omega), Nat.zero_add, Nat.sub_zero]
  | succ d ih =>
    intro D b p be gi ta mt s hbd hD hG hBR hs
    obtain ⟨D, rfl⟩ : ∃ D', D = D' + 1 := ⟨D - 1, by omega⟩
    have hb : b < n := by omega
    obtain ⟨g1, g2, g3, g4, g5, g6⟩ := hG
    have hnd : n = (b + 1) + d := by omega
    have h6 : nI b < 6 := nI_lt (a := b) (b := 6) (by omega) (by omega)
    rw [fX1_give, if_neg (nI_ge hb (by omega)), if_pos h6]
    have sub : ∀ v x, x < n ^ d → p * n ^ (d + 1) + v * n ^ d + x = (p * n + v) * n ^ d + x := by
      intro v x _
      rw [Nat.pow_succ, Nat.add_mul, Nat.mul_assoc, Nat.mul_comm n]
    have h := forI (fun m v (t : (Nat → Int32) × Int32 × (Nat → Int32)) => fX1_give_26 (nI b) ta mt me (nI n) (fX1_give D) (fun _ x y z => some ((x, y, z))) m v t.1 t.2.1 t.2.2) (fun t => some ((t.1, t.2.1, t.2.2))) n
      (fun v t => t.2.1 = mI (itF (ropT (valR n k he sh nv nw ns)) (p * n ^ (d + 1)) (v * n ^ d) s).1 ∧ BR n t.1 (itF (ropT (valR n k he sh nv nw ns)) (p * n ^ (d + 1)) (v * n ^ d) s) ∧ (itF (ropT (valR n k he sh nv nw ns)) (p * n ^ (d + 1)) (v * n ^ d) s).1 ≤ 13 ∧ ∀ j, j < b → t.2.2 j = gi j)
      (fun m t _ => by
        show fX1_give_26 _ _ _ _ _ _ _ (m + 1) (nI n) t.1 t.2.1 t.2.2 = _
        rw [fX1_give_26, if_pos (nI_le (Nat.le_refl n) (by omega))])
      (fun m v t hv hI => by
        obtain ⟨i1, i2, i3, i4⟩ := hI
        have dgl : ∀ x, x < n ^ d → ∀ j, j < b + 1 → dgN n n ((p * n + v) * n ^ d + x) j = dgN n (b + 1) (p * n + v) j := by
          intro x hx j hj
          have := dg_pre (n := n) (b := b + 1) (d := d) (p := p * n + v) (x := x) (k := j) hx hj
          rwa [← hnd] at this
        have esp : itF (ropT (valR n k he sh nv nw ns)) (p * n ^ (d + 1)) ((v + 1) * n ^ d) s = itF (ropT (valR n k he sh nv nw ns)) ((p * n + v) * n ^ d) (n ^ d) (itF (ropT (valR n k he sh nv nw ns)) (p * n ^ (d + 1)) (v * n ^ d) s) := by
          rw [Nat.succ_mul, itF_add, Nat.pow_succ, Nat.add_mul, Nat.mul_assoc, Nat.mul_comm n]
        rw [esp]
        generalize hs' : itF (ropT (valR n k he sh nv nw ns)) (p * n ^ (d + 1)) (v * n ^ d) s = s' at i1 i2 i3 ⊢
        have none : (∀ x, x < n ^ d → okRow n he sh ((p * n + v) * n ^ d + x) = false) → itF (ropT (valR n k he sh nv nw ns)) ((p * n + v) * n ^ d) (n ^ d) s' = s' := by
          intro hno
          refine itF_id _ _ _ _ (fun x hx => ?_)
          have e0 : valR n k he sh nv nw ns ((p * n + v) * n ^ d + x) = 0 := if_neg (by rw [hno x hx]; decide)
          unfold ropT
          rw [e0, if_pos (Nat.zero_le _)]
        rcases hM b v hb hv with ⟨m1, m2⟩ | ⟨m1, m2, m3, m4⟩
        · rw [none (fun x hx => by
            unfold okRow
            have : allB (fun b => !bt (anyD he sh b 4) (dgN n n ((p * n + v) * n ^ d + x) b)) n = false := by
              cases c : allB (fun b => !bt (anyD he sh b 4) (dgN n n ((p * n + v) * n ^ d + x) b)) n
              · rfl
              · have := (allB_iff _ n).mp c b hb
                rw [dgl x hx b (by omega), dg_last hv, m1] at this
                cases this
            rw [this, Bool.and_false])]
          refine ⟨t, ⟨i1, i2, i3, i4⟩, ?_⟩
          show fX1_give_26 _ _ _ _ _ _ _ (m + 1) (nI v) t.1 t.2.1 t.2.2 = _
          rw [fX1_give_26, if_neg (nI_ge hv (by omega)), pair_ok, bind_some', rdI_n (by omega) (by decide), bind_some', m2, if_pos rfl, nI_1]
        · cases c : bt ta v
          · have hG' : GP n k (b + 1) (p * n + v) he sh nv nw ns (ta ||| ((1 : Int32) <<< (nI v &&& 31))) (mt ||| me (6 * b + v)) (upd t.2.2 b (nI v)) := by
              have dgk : ∀ j, j < b → dgN n (b + 1) (p * n + v) j = dgN n b p j := fun j hj => dg_up hv hj
              refine ⟨fun u hu => ?_, bel_or g2 m3, fun i hi => ?_, fun j hj => ?_, ?_, ?_⟩
              · show _ = (anyB (fun j => decide (dgN n (b + 1) (p * n + v) j = u)) b || decide (dgN n (b + 1) (p * n + v) b = u))
                rw [b_or, g1 u hu, bt_one (by omega), dg_last hv, anyB_cong (p := fun j => decide (dgN n (b + 1) (p * n + v) j = u)) (q := fun j => decide (dgN n b p j = u)) (fun j hj => by rw [dgk j hj])]
                congr 1
                exact decide_eq_decide.mpr eq_comm
              · rw [b_or, g3 i hi, m4 i hi]
                have e1 : metD he sh nv nw ns (dgN n (b + 1) (p * n + v)) (b + 1) i = (metD he sh nv nw ns (dgN n (b + 1) (p * n + v)) b i || meetB he sh nv nw ns b (dgN n (b + 1) (p * n + v) b) i) := rfl
                rw [e1, metD_cong dgk, dg_last hv]
              · by_cases e : j = b
                · subst e; rw [upd_at, dg_last hv]
                · rw [upd_ne e, i4 j (by omega), g4 j (by omega), dgk j (by omega)]
              · show (allB _ b && !anyB _ b) = true
                rw [allB_cong (q := fun k => !anyB (fun j => decide (dgN n b p j = dgN n b p k)) k) (fun k hk => by
                  rw [dgk k hk]
                  congr 1
                  exact anyB_cong (fun j hj => by rw [dgk j (by omega)]))]
                have : allB (fun k => !anyB (fun j => decide (dgN n b p j = dgN n b p k)) k) b = true := g5
                rw [this, Bool.true_and, dg_last hv, anyB_cong (q := fun j => decide (dgN n b p j = v)) (fun j hj => by rw [dgk j hj]), ← g1 v hv, c]
                rfl
              · show (allB _ b && !bt _ _) = true
                rw [allB_cong (q := fun j => !bt (anyD he sh j 4) (dgN n b p j)) (fun j hj => by rw [dgk j hj]), g6, dg_last hv, m1]
                rfl
            obtain ⟨be', gi', q1, q2, q3, q4⟩ := ih D (b + 1) (p * n + v) t.1 (upd t.2.2 b (nI v)) (ta ||| ((1 : Int32) <<< (nI v &&& 31))) (mt ||| me (6 * b + v)) s' (by omega) (by omega) hG' i2 i3
            refine ⟨(be', mI (itF (ropT (valR n k he sh nv nw ns)) ((p * n + v) * n ^ d) (n ^ d) s').1, gi'), ⟨rfl, q2, q3, fun j hj => ?_⟩, ?_⟩
            · show gi' j = gi j
              rw [q4 j (by omega), upd_ne (by omega), i4 j hj]
            · show fX1_give_26 _ _ _ _ _ _ _ (m + 1) (nI v) t.1 t.2.1 t.2.2 = _
              rw [fX1_give_26, if_neg (nI_ge hv (by omega)), pair_ok, bind_some', rdI_n (by omega) (by decide), bind_some', if_neg m2, has_eq _ (by omega), bind_some', c, if_pos (show b01 false = 0 from rfl), wrI_n (by omega) (by decide), bind_some', nI_1, i1, q1, bind_some', nI_1]
          · rw [none (fun x hx => by
              unfold okRow
              have : unlB n n ((p * n + v) * n ^ d + x) n = false := by
                cases c2 : unlB n n ((p * n + v) * n ^ d + x) n
                · rfl
                · have h1 := (allB_iff _ n).mp c2 b hb
                  have h2 : anyB (fun j => decide (dgN n n ((p * n + v) * n ^ d + x) j = dgN n n ((p * n + v) * n ^ d + x) b)) b = true := by
                    rw [dgl x hx b (by omega), dg_last hv, anyB_cong (q := fun j => decide (dgN n b p j = v)) (fun j hj => by rw [dgl x hx j (by omega), dg_up hv hj]), ← g1 v hv, c]
                  rw [h2] at h1
                  cases h1
              rw [this, Bool.false_and])]
            refine ⟨t, ⟨i1, i2, i3, i4⟩, ?_⟩
            show fX1_give_26 _ _ _ _ _ _ _ (m + 1) (nI v) t.1 t.2.1 t.2.2 = _
            rw [fX1_give_26, if_neg (nI_ge hv (by omega)), pair_ok, bind_some', rdI_n (by omega) (by decide), bind_some', if_neg m2, has_eq _ (by omega), bind_some', c, if_neg (by decide), nI_1])
      fu 0 (be, mI s.1, gi) (Nat.zero_le n) (by show n - 0 < 50000; omega) ⟨by rw [Nat.zero_mul]; rfl, by rw [Nat.zero_mul]; exact hBR, by rw [Nat.zero_mul]; exact hs, fun _ _ => rfl⟩
    obtain ⟨t, ⟨j1, j2, j3, j4⟩, h2⟩ := h
    rw [Nat.mul_comm n, ← Nat.pow_succ] at j1 j2 j3
    refine ⟨t.1, t.2.2, ?_, j2, j3, j4⟩
    rw [← j1]
    exact h2
theorem P_ropes {vi wo ne sg : Int32} {te fr ro he sh wb wv nv nw ns si bk : Nat → Int32} (hR : RV vi wo ne sg te fr ro he sh wb wv nv nw ns si bk) {rb rn rf : Int32} {q : Nat → Int32} (hc : RC rb rn rf q) (be gi me aw : Nat → Int32) (mo ov : Int32) (p0 : Int32) :
    ∃ ox om, fX6_ropes rb vi ne he sh nv nw ns be mo gi me ov p0 = some ox ∧ fX7_ropes bk q aw p0 = some om ∧ ox.1 = om.1 ∧ RC ox.2.1 rn rf om.2.1 := by
  obtain ⟨n, w, k, g, hN, rfl, rfl, rfl, rfl, hV, hB⟩ := id hR
  have hn6 : n ≤ 6 := hN.2.1
  have hb0 : bk 0 = nI n := hB.1.1
  have hn0 : 0 < n := Nat.lt_of_lt_of_le (by decide) hN.1
  have hp := pow_le6 (n := n) (d := n) hn6 hn6
  obtain ⟨aw', a1, a2⟩ := places_ok hN hV hB aw
  obtain ⟨me', m1, m2⟩ := meets_ok hN hV me (fun _ a => (fX1_give 8 be (-1) gi a (nI n) 0 0 0).bind (fun g14 => some ((g14.1, g14.2.1, g14.2.2, a, nI n))))
  obtain ⟨be', gi', g1, g2, g3, -⟩ := give_ok hN m2 n 8 0 0 be gi 0 0 (0, 0) (by omega) (by omega) ⟨fun v _ => b_0 v, bel_0 k, fun i _ => b_0 i, fun j hj => absurd hj (Nat.not_lt_zero j), rfl, rfl⟩ (fun h => absurd h (Nat.lt_irrefl 0)) (by decide)
  rw [Nat.zero_mul, itF_0] at g1 g2 g3
  generalize hs : itS (ropT (valR n k he sh nv nw ns)) (n ^ n) (0, 0) = s at g1 g2 g3
  have xg : fX1_go be gi me (nI n) (nI k) he sh nv nw ns = some (be', mI s.1, gi', me', nI n) := by
    unfold fX1_go
    rw [m1]
    show (fX1_give 8 be (mI 0) gi me' (nI n) (nI 0) 0 0).bind _ = _
    rw [g1, bind_some']
  have sF : s.2 < 2 ^ 30 := by
    have : ∀ m, m ≤ n ^ n → (itS (ropT (valR n k he sh nv nw ns)) m (0, 0)).2 < 2 ^ 30 := by
      intro m
      induction m with
      | zero => intro _; exact Nat.two_pow_pos 30
      | succ m ih =>
        intro hm
        show (ropT _ m (itS _ m (0, 0))).2 < _
        unfold ropT
        split
        · exact ih (by omega)
        · show m < _; omega
    rw [← hs]; exact this _ (Nat.le_refl _)
  have ml : ∀ p0, (∀ K, fX7_ropes_35 bk aw' K fu (-1) 0 0 = K (mI s.1) (nI s.2) (nI (n ^ n))) → fX7_in p0 (-1) (nI n - 1) = some 1 → fX7_ropes bk q aw p0 = (if p0 = -1 then some (mI s.1, q, aw') else if mI s.1 = -1 then some (mI s.1, q, aw') else (fX7_digit bk (nI s.2) (nI n) p0).bind (fun g31 => some (g31, q, aw'))) := by
    intro p0 hm hi
    unfold fX7_ropes
    rw [rdB0, bind_some', hb0, hi, bind_some', if_neg (by decide), a1, bind_some', hm]
    simp only [rdB0, bind_some', hb0]
  have hm : ∀ K, fX7_ropes_35 bk aw' K fu (-1) 0 0 = K (mI s.1) (nI s.2) (nI (n ^ n)) := by
    intro K
    rw [ropesM_ok hN hV hB a2 K, hs]
  have en : nI n - 1 = nI (n - 1) := by
    have := nI_pred (n - 1)
    rwa [Nat.sub_add_cancel hn0] at this
  by_cases hp0 : p0 = -1
  · subst hp0
    refine ⟨(mI s.1, rb, be', mI s.1, gi', me', nI n), (mI s.1, q, aw'), ?_, ?_, rfl, hc⟩
    · unfold fX6_ropes
      rw [if_pos rfl, xg, bind_some', if_pos rfl]
    · rw [ml (-1) hm (by
        unfold fX7_in
        rw [if_neg (by decide), if_neg (by rw [en, fa_lt, nI_toInt (by omega)]; show ¬ _ < (-1 : Int); omega)]), if_pos rfl]
  · rcases vil (n := n) (by omega) hn0 p0 with ⟨h1, h2⟩ | ⟨v, hv, rfl, h1, h2⟩
    · obtain ⟨h0, hr1, hr2⟩ := hc
      refine ⟨(-10, rb + 1, be, mo, gi, me, ov), (-10, upd q 0 (q 0 + 1), aw), ?_, ?_, rfl, ?_⟩
      · unfold fX6_ropes
        rw [if_neg hp0, h1, bind_some', if_pos rfl]
        rfl
      · have hin : fX7_in p0 (-1) (nI n - 1) = some 0 := by
          have h3 := h2 bk hb0
          unfold fX7_isOne at h3
          rw [rdB0, bind_some', hb0] at h3
          unfold fX7_in at h3 ⊢
          by_cases c : p0 < -1
          · rw [if_pos c]
          · rw [if_neg c]
            have c0 : ¬ p0 < 0 := by
              rw [fa_lt] at c ⊢
              have : p0.toInt ≠ (-1 : Int32).toInt := fun e => hp0 ((fa_eq _ _).mpr e)
              have e1 : (-1 : Int32).toInt = -1 := rfl
              have e0 : (0 : Int32).toInt = 0 := rfl
              omega
            rw [if_neg c0] at h3
            by_cases d : nI n - 1 < p0
            · rw [if_pos d]
            · rw [if_neg d] at h3; cases h3
        unfold fX7_ropes
        rw [rdB0, bind_some', hb0, hin, bind_some', if_pos rfl]
        unfold fX7_refuses
        rw [show rdI 3 q 0 = some (q 0) from rdI_n (n := 3) (j := 0) (by decide) (by decide), bind_some', show wrI 3 q 0 (q 0 + 1) = some (upd q 0 (q 0 + 1)) from wrI_n (n := 3) (j := 0) (by decide) (by decide), bind_some', bind_some']
      · exact ⟨show upd q 0 (q 0 + 1) 0 = _ by rw [upd_at, h0], show upd q 0 (q 0 + 1) 1 = _ by rw [upd_ne (by decide)]; exact hr1, show upd q 0 (q 0 + 1) 2 = _ by rw [upd_ne (by decide)]; exact hr2⟩
    · have hin : fX7_in (nI v) (-1) (nI n - 1) = some 1 := by
        unfold fX7_in
        rw [if_neg (by rw [fa_lt, nI_toInt (by omega)]; show ¬ _ < (-1 : Int); omega), en, if_neg (nI_nlt (by omega) (by omega))]
      by_cases c : s.1 = 0
      · have c1 : mI s.1 = -1 := (mI_none (by omega)).mpr c
        refine ⟨(mI s.1, rb, be', mI s.1, gi', me', nI n), (mI s.1, q, aw'), ?_, ?_, rfl, hc⟩
        · unfold fX6_ropes
          rw [if_neg hp0, h1, bind_some', if_neg (by decide), xg, bind_some', if_neg hp0, if_pos c1]
        · rw [ml (nI v) hm hin, if_neg hp0, if_pos c1]
      · have c1 : ¬ mI s.1 = -1 := fun z => c ((mI_none (by omega)).mp z)
        refine ⟨(nI (dgN n n s.2 v), rb, be', mI s.1, gi', me', nI n), (nI (dgN n n s.2 v), q, aw'), ?_, ?_, rfl, hc⟩
        · unfold fX6_ropes
          rw [if_neg hp0, h1, bind_some', if_neg (by decide), xg, bind_some', if_neg hp0, if_neg c1, rdI_n (by omega) (by decide), bind_some']
          show some (be' v, rb, be', mI s.1, gi', me', nI n) = _
          rw [g2 (by omega) v hv]
        · rw [ml (nI v) hm hin, if_neg hp0, if_neg c1, digit_ok hb0 hN.1 hn6 sF hv hn6, bind_some']
