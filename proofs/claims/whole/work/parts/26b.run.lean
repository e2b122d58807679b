def dzF (n : Nat) (ro he sh nv nw ns : Nat → Int32) (i : Nat) : Int32 := (fX3_dueFor (nI n) ro he sh nv nw ns (nI i)).getD 0
theorem dz_ok {n w k g : Nat} {te fr ro he sh wb wv nv nw ns si bk : Nat → Int32} (hN : RN n w k g) (hV : VW n w k g te fr ro he sh wb wv nv nw ns si) (hB : BK n w k g te fr ro he wb wv nv nw ns si bk) {i : Nat} (hi : i < k) :
    fX3_dueFor (nI n) ro he sh nv nw ns (nI i) = some (dzF n ro he sh nv nw ns i) ∧ fX7_dueFor bk (nI i) 255 = some (dzF n ro he sh nv nw ns i) ∧ bel (dzF n ro he sh nv nw ns i) n := by
  obtain ⟨z, h1, h2, h3⟩ := due_both hN hV hB hi
  have e : dzF n ro he sh nv nw ns i = z := by unfold dzF; rw [h1]; rfl
  rw [e]; exact ⟨h1, h2, h3⟩
theorem whoRings_ok {n : Nat} {te fr nv du ru ti la : Nat → Int32} {o i : Nat} {z : Int32} (hn : n ≤ 6) (ho : o < n) (hi : i < 12) (ev : nv i = nI o) (hz : du i = z) (hti : ∀ a b, a < n → b < n → ti (6 * a + b) = nI (cntR nv ru a b i)) (hla : ∀ a b, a < n → b < n → la (6 * a + b) = lasR nv du ru a b i) :
    ∃ r, fX4_whoRings du ru ti la (nI n) te fr nv (nI i) = some r ∧ bel r n ∧ ∀ v, v < n → bt r v = (bt z v && ringB te fr nv du ru o v i) := by
  unfold fX4_whoRings
  exact setLoop (fun m u s => fX4_whoRings_5 (nI i) du ru ti la (nI n) te fr nv (fun x _ => some x) m s u) (fun s => some s) n (by omega) (fun v => bt z v && ringB te fr nv du ru o v i)
    (fun m s => by
      show fX4_whoRings_5 _ _ _ _ _ _ _ _ _ _ (m + 1) s (nI n) = _
      rw [fX4_whoRings_5, if_pos (nI_le (Nat.le_refl n) (by omega))])
    (fun m u s hu => by
      show fX4_whoRings_5 _ _ _ _ _ _ _ _ _ _ (m + 1) s (nI u) = _
      rw [fX4_whoRings_5, if_neg (nI_ge hu (by omega)), rdI_n (by omega) (by decide), bind_some', hz, has_eq _ (by omega), bind_some', Xrings_ok hn hu ho hi ev hti hla, bind_some', nI_1]
      cases bt z u <;> cases ringB te fr nv du ru o u i <;> rfl)
theorem remember_ok {n : Nat} {nv du ru ti la : Nat → Int32} {o i : Nat} (hn : n ≤ 6) (ho : o < n) (hi : i < 12) (ev : nv i = nI o) (hti : ∀ a b, a < n → b < n → ti (6 * a + b) = nI (cntR nv ru a b i)) (hla : ∀ a b, a < n → b < n → la (6 * a + b) = lasR nv du ru a b i) (hsub : ∀ v, v < n → bt (ru i) v = true → bt (du i) v = true) (hne : ∀ v, v < n → o ≠ v → True) :
    ∃ ti' la', fX4_remember du ru ti la (nI n) nv (nI i) = some (ti', la') ∧ (∀ a b, a < n → b < n → ti' (6 * a + b) = nI (cntR nv ru a b (i + 1))) ∧ (∀ a b, a < n → b < n → la' (6 * a + b) = lasR nv du ru a b (i + 1)) := by
  unfold fX4_remember
  rw [rdI_n (by omega) (by decide), bind_some', ev]
  have st1 : ∀ a b, a < n → b < n → cntR nv ru a b (i + 1) = if b = o ∧ bt (ru i) a = true then cntR nv ru a b i + 1 else cntR nv ru a b i := by
    intro a b ha hb
    show cntR nv ru a b i + (if nv i = nI b ∧ bt (ru i) a = true then 1 else 0) = _
    have e : (nv i = nI b ∧ bt (ru i) a = true) ↔ (b = o ∧ bt (ru i) a = true) := by
      rw [ev, nI_eq (a := o) (b := b) (by omega) (by omega)]
      exact and_congr_left (fun _ => eq_comm)
    simp only [e]
    split <;> rfl
  have st2 : ∀ a b, a < n → b < n → lasR nv du ru a b (i + 1) = if b = o ∧ bt (du i) a = true then b01 (bt (ru i) a) else lasR nv du ru a b i := by
    intro a b ha hb
    show (if nv i = nI b ∧ bt (du i) a = true then b01 (bt (ru i) a) else lasR nv du ru a b i) = _
    have e : (nv i = nI b ∧ bt (du i) a = true) ↔ (b = o ∧ bt (du i) a = true) := by
      rw [ev, nI_eq (a := o) (b := b) (by omega) (by omega)]
      exact and_congr_left (fun _ => eq_comm)
    simp only [e]
  have h := forI (fun m v (s : (Nat → Int32) × (Nat → Int32)) => fX4_remember_10 (nI i) du ru (nI n) (nI o) (fun _ x y => some ((x, y))) m v s.1 s.2) (fun s => some ((s.1, s.2))) n
    (fun v s => ∀ a b, a < n → b < n → s.1 (6 * a + b) = nI (cntR nv ru a b (if a < v then i + 1 else i)) ∧ s.2 (6 * a + b) = lasR nv du ru a b (if a < v then i + 1 else i))
    (fun m s _ => by
      show fX4_remember_10 _ _ _ _ _ _ (m + 1) (nI n) s.1 s.2 = _
      rw [fX4_remember_10, if_pos (nI_le (Nat.le_refl n) (by omega))])
    (fun m v s hv hI => by
      have hvv := hI v o hv ho
      rw [if_neg (Nat.lt_irrefl v)] at hvv
      have e0 : fX4_remember_10 (nI i) du ru (nI n) (nI o) (fun _ x y => some ((x, y))) (m + 1) (nI v) s.1 s.2 = if b01 (bt (du i) v) = 0 then fX4_remember_10 (nI i) du ru (nI n) (nI o) (fun _ x y => some ((x, y))) m (nI (v + 1)) s.1 s.2 else fX4_remember_10 (nI i) du ru (nI n) (nI o) (fun _ x y => some ((x, y))) m (nI (v + 1)) (upd s.1 (6 * v + o) (s.1 (6 * v + o) + b01 (bt (ru i) v))) (upd s.2 (6 * v + o) (b01 (bt (ru i) v))) := by
        have e1 : (if b01 (bt (ru i) v) = 0 then some 0 else some 1 : Option Int32) = some (b01 (bt (ru i) v)) := by cases bt (ru i) v <;> rfl
        rw [fX4_remember_10, if_neg (nI_ge hv (by omega)), rdI_n (by omega) (by decide), bind_some', has_eq _ (by omega), bind_some', rdI_n (by omega) (by decide), bind_some', has_eq _ (by omega), bind_some', e1, bind_some', pair_ok, bind_some', rdI_n (by omega) (by decide), bind_some', wrI_n (by omega) (by decide), bind_some', bind_some', wrI_n (by omega) (by decide), bind_some', nI_1]
      by_cases c : bt (du i) v = true
      · refine ⟨(upd s.1 (6 * v + o) (s.1 (6 * v + o) + b01 (bt (ru i) v)), upd s.2 (6 * v + o) (b01 (bt (ru i) v))), fun a b ha hb => ?_, ?_⟩
        · show upd s.1 _ _ (6 * a + b) = _ ∧ upd s.2 _ _ (6 * a + b) = _
          by_cases e : a = v
          · subst e
            rw [if_pos (by omega), st1 a b ha hb, st2 a b ha hb]
            by_cases f : b = o
            · subst f
              rw [upd_at, upd_at, hvv.1]
              refine ⟨?_, by rw [if_pos ⟨rfl, c⟩]⟩
              cases d : bt (ru i) a
              · rw [if_neg (by rintro ⟨_, h⟩; cases h), show b01 false = nI 0 from rfl, nI_add, Nat.add_zero]
              · rw [if_pos ⟨rfl, rfl⟩, show b01 true = nI 1 from rfl, nI_add]
            · rw [upd_ne (by omega), upd_ne (by omega), if_neg (fun h => f h.1), if_neg (fun h => f h.1)]
              have := hI a b ha hb
              rwa [if_neg (Nat.lt_irrefl a)] at this
          · rw [upd_ne (by omega), upd_ne (by omega)]
            have := hI a b ha hb
            have e2 : (a < v + 1) ↔ (a < v) := by omega
            simp only [e2]; exact this
        · show fX4_remember_10 _ _ _ _ _ _ (m + 1) (nI v) s.1 s.2 = _
          rw [e0, c, if_neg (by decide)]
      · have c2 : bt (du i) v = false := by simpa using c
        refine ⟨s, fun a b ha hb => ?_, ?_⟩
        · by_cases e : a = v
          · subst e
            rw [if_pos (by omega), st1 a b ha hb, st2 a b ha hb, c2]
            have d : bt (ru i) a = false := by
              cases d : bt (ru i) a
              · rfl
              · exact absurd (hsub a ha d) (by rw [c2]; decide)
            rw [d, if_neg (by rintro ⟨_, h⟩; cases h), if_neg (by rintro ⟨_, h⟩; cases h)]
            have := hI a b ha hb
            rwa [if_neg (Nat.lt_irrefl a)] at this
          · have := hI a b ha hb
            have e2 : (a < v + 1) ↔ (a < v) := by omega
            simp only [e2]; exact this
        · show fX4_remember_10 _ _ _ _ _ _ (m + 1) (nI v) s.1 s.2 = _
          rw [e0, c2, if_pos (by decide)])
    fu 0 (ti, la) (Nat.zero_le n) (by show n - 0 < 50000; omega) (fun a b ha hb => by rw [if_neg (Nat.not_lt_zero a)]; exact ⟨hti a b ha hb, hla a b ha hb⟩)
  obtain ⟨⟨ti', la'⟩, h1, h2⟩ := h
  exact ⟨ti', la', h2, fun a b ha hb => by have := (h1 a b ha hb).1; rwa [if_pos ha] at this, fun a b ha hb => by have := (h1 a b ha hb).2; rwa [if_pos ha] at this⟩
theorem go_ok {n w k g : Nat} {te fr ro he sh wb wv nv nw ns si bk : Nat → Int32} (hN : RN n w k g) (hV : VW n w k g te fr ro he sh wb wv nv nw ns si) (hB : BK n w k g te fr ro he wb wv nv nw ns si bk) (du0 ru0 ti0 la0 : Nat → Int32) :
    ∃ du ru ti la, fX4_go du0 ru0 ti0 la0 (nI n) (nI k) te fr ro he sh nv nw ns = some (du, ru, ti, la) ∧ PhR n te fr nv (dzF n ro he sh nv nw ns) k du ru ∧ (∀ a b, a < n → b < n → ti (6 * a + b) = nI (cntR nv ru a b k)) ∧ (∀ a b, a < n → b < n → la (6 * a + b) = lasR nv du ru a b k) := by
  have hn6 : n ≤ 6 := hN.2.1
  have hk : k ≤ 12 := hN.2.2.2.1
  obtain ⟨ti1, t1, t2⟩ := fill_ok (N := 36) (by decide) ti0 0
  obtain ⟨la1, l1, l2⟩ := fill_ok (N := 36) (by decide) la0 (-1)
  unfold fX4_go
  rw [t1, bind_some', l1, bind_some']
  have h := forI (fun m i (s : (Nat → Int32) × (Nat → Int32) × (Nat → Int32) × (Nat → Int32)) => fX4_go_18 (nI n) (nI k) te fr ro he sh nv nw ns (fun _ a b c d => some ((a, b, c, d))) m i s.1 s.2.1 s.2.2.1 s.2.2.2) (fun s => some ((s.1, s.2.1, s.2.2.1, s.2.2.2))) k
    (fun i s => PhR n te fr nv (dzF n ro he sh nv nw ns) i s.1 s.2.1 ∧ (∀ a b, a < n → b < n → s.2.2.1 (6 * a + b) = nI (cntR nv s.2.1 a b i)) ∧ (∀ a b, a < n → b < n → s.2.2.2 (6 * a + b) = lasR nv s.1 s.2.1 a b i))
    (fun m s _ => by
      show fX4_go_18 _ _ _ _ _ _ _ _ _ _ _ (m + 1) (nI k) s.1 s.2.1 s.2.2.1 s.2.2.2 = _
      rw [fX4_go_18, if_pos (nI_le (Nat.le_refl k) (by omega))])
    (fun m i s hi hI => by
      obtain ⟨i1, i2, i3⟩ := hI
      obtain ⟨d1, d2, d3⟩ := dz_ok hN hV hB hi
      obtain ⟨o, ho, ev⟩ := hV.2.2.2.2.2.2.2.2.1 i hi
      have q1 : ∀ j, j < i → upd s.1 i (dzF n ro he sh nv nw ns i) j = s.1 j := fun j hj => upd_ne (by omega)
      obtain ⟨r, r1, r2, r3⟩ := whoRings_ok (te := te) (fr := fr) (nv := nv) (du := upd s.1 i (dzF n ro he sh nv nw ns i)) (ru := s.2.1) (ti := s.2.2.1) (la := s.2.2.2) (z := dzF n ro he sh nv nw ns i) hn6 ho (by omega) ev upd_at i2
        (fun a b ha hb => by rw [i3 a b ha hb]; exact lasR_cong (fun j hj => ⟨(q1 j hj).symm, rfl⟩))
      have q2 : ∀ j, j < i → upd s.2.1 i r j = s.2.1 j := fun j hj => upd_ne (by omega)
      obtain ⟨ti', la', m1, m2, m3⟩ := remember_ok (nv := nv) (du := upd s.1 i (dzF n ro he sh nv nw ns i)) (ru := upd s.2.1 i r) (ti := s.2.2.1) (la := s.2.2.2) (o := o) (i := i) hn6 ho (by omega) ev
        (fun a b ha hb => by rw [i2 a b ha hb, cntR_cong (fun j hj => (q2 j hj).symm)])
        (fun a b ha hb => by rw [i3 a b ha hb]; exact lasR_cong (fun j hj => ⟨(q1 j hj).symm, (q2 j hj).symm⟩))
        (fun v hv hb => by
          rw [upd_at] at hb ⊢
          rw [r3 v hv] at hb
          exact (Bool.and_eq_true_iff.mp hb).1)
        (fun _ _ _ => trivial)
      refine ⟨(upd s.1 i (dzF n ro he sh nv nw ns i), upd s.2.1 i r, ti', la'), ⟨PhR_succ i1 r2 (fun v hv => ?_), m2, m3⟩, ?_⟩
      · rw [r3 v hv, ev, nI_clamp (by omega)]
      · show fX4_go_18 _ _ _ _ _ _ _ _ _ _ _ (m + 1) (nI i) s.1 s.2.1 s.2.2.1 s.2.2.2 = _
        rw [fX4_go_18, if_neg (nI_ge hi (by omega)), d1, bind_some', wrI_n (by omega) (by decide), bind_some', r1, bind_some', wrI_n (by omega) (by decide), bind_some', m1, bind_some', nI_1])
    fu 0 (du0, ru0, ti1, la1) (Nat.zero_le k) (by show k - 0 < 50000; omega) ⟨fun j hj => absurd hj (Nat.not_lt_zero j), fun a b ha hb => t2 _ (by omega), fun a b ha hb => l2 _ (by omega)⟩
  obtain ⟨⟨du, ru, ti, la⟩, h1, h2⟩ := h
  exact ⟨du, ru, ti, la, h2, h1⟩
theorem runs_ok {n w k g : Nat} {te fr ro he sh wb wv nv nw ns si bk : Nat → Int32} (hN : RN n w k g) (hV : VW n w k g te fr ro he sh wb wv nv nw ns si) (hB : BK n w k g te fr ro he wb wv nv nw ns si bk) (du0 ru0 : Nat → Int32) :
    ∃ du ru, fX7_runs bk du0 ru0 = some (du, ru) ∧ PhR n te fr nv (dzF n ro he sh nv nw ns) k du ru := by
  have hn6 : n ≤ 6 := hN.2.1
  have hk : k ≤ 12 := hN.2.2.2.1
  unfold fX7_runs
  have h := forI (fun m i (s : (Nat → Int32) × (Nat → Int32)) => fX7_runs_2 bk (fun _ a b => some ((a, b))) m i s.1 s.2) (fun s => some ((s.1, s.2))) k
    (fun i s => PhR n te fr nv (dzF n ro he sh nv nw ns) i s.1 s.2)
    (fun m s _ => by
      show fX7_runs_2 _ _ (m + 1) (nI k) s.1 s.2 = _
      rw [fX7_runs_2, rdB2, bind_some', hB.1.2.2.1, if_pos (nI_le (Nat.le_refl k) (by omega))])
    (fun m i s hi hI => by
      obtain ⟨d1, d2, d3⟩ := dz_ok hN hV hB hi
      obtain ⟨o, ho, ev⟩ := hV.2.2.2.2.2.2.2.2.1 i hi
      obtain ⟨r, r1, r2, r3⟩ := setLoop (fun m' u x => fX7_runs_30 bk (nI i) s.2 (upd s.1 i (dzF n ro he sh nv nw ns i)) (fun x2 _ => (wrI 12 s.2 (nI i) x2).bind (fun u13 => (fX7_runs_2 bk (fun _ a b => some ((a, b))) m (nI (i + 1)) (upd s.1 i (dzF n ro he sh nv nw ns i)) u13))) m' x u) (fun x => fX7_runs_2 bk (fun _ a b => some ((a, b))) m (nI (i + 1)) (upd s.1 i (dzF n ro he sh nv nw ns i)) (upd s.2 i x)) n (by omega) (fun v => bt (dzF n ro he sh nv nw ns i) v && ringB te fr nv (upd s.1 i (dzF n ro he sh nv nw ns i)) s.2 o v i)
        (fun m' x => by
          show fX7_runs_30 _ _ _ _ _ (m' + 1) x (nI n) = _
          rw [fX7_runs_30, rdB0, bind_some', hB.1.1, if_pos (nI_le (Nat.le_refl n) (by omega)), wrI_n (by omega) (by decide), bind_some'])
        (fun m' u x hu => by
          show fX7_runs_30 _ _ _ _ _ (m' + 1) x (nI u) = _
          have z0 : x ||| 0 = x := b_ext (fun q hq => by rw [b_or, b_0, Bool.or_false])
          rw [fX7_runs_30, rdB0, bind_some', hB.1.1, if_neg (nI_ge hu (by omega)), rdI_n (by omega) (by decide), bind_some', upd_at, Mrings_ok hN hB hu ho hi ev, bind_some', nI_1, z0, shrb _ (by omega)]
          cases bt (dzF n ro he sh nv nw ns i) u <;> cases ringB te fr nv (upd s.1 i (dzF n ro he sh nv nw ns i)) s.2 o u i <;> rfl)
      refine ⟨(upd s.1 i (dzF n ro he sh nv nw ns i), upd s.2 i r), PhR_succ hI r2 (fun v hv => ?_), ?_⟩
      · rw [r3 v hv, ev, nI_clamp (by omega)]
      · show fX7_runs_2 _ _ (m + 1) (nI i) s.1 s.2 = _
        rw [fX7_runs_2, rdB2, bind_some', hB.1.2.2.1, if_neg (nI_ge hi (by omega)), d2, bind_some', wrI_n (by omega) (by decide), bind_some', nI_1]
        exact r1)
    fu 0 (du0, ru0) (Nat.zero_le k) (by show k - 0 < 50000; omega) (fun j hj => absurd hj (Nat.not_lt_zero j))
  obtain ⟨⟨du, ru⟩, h1, h2⟩ := h
  exact ⟨du, ru, h2, h1⟩
