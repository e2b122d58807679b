/-! WHO IS DUE -/
def hearM (he wb wv : Nat → Int32) (wm : Int32) (w b x v : Nat) : Bool := bt (he (4 * b + x)) v && !shutM wb wv wm b v w
/-- some bell ahead of b that u rings is heard in v -/
def rchM (ro he wb wv : Nat → Int32) (wm : Int32) (w x v u : Nat) : Nat → Bool
  | 0 => false
  | b + 1 => rchM ro he wb wv wm w x v u b || (decide (ro b = nI u) && hearM he wb wv wm w b x v)
theorem hearM_255 {n w k g : Nat} {te fr ro he sh wb wv nv nw ns si : Nat → Int32} (hN : RN n w k g) (hV : VW n w k g te fr ro he sh wb wv nv nw ns si) {b x v : Nat} (hb : b < n) (hv : v < n) : hearM he wb wv 255 w b x v = bt (hearD he sh b x) v := by
  have hn6 : n ≤ 6 := hN.2.1
  unfold hearM
  rw [hearD_bt (by omega), shutM_255 _ _ _ _ w hN.2.2.1, (hV.2.2.2.2.2.1 b hb).2 v hv]
theorem reaches_ok {n w k g : Nat} {te fr ro he sh wb wv nv nw ns si bk : Nat → Int32} (hN : RN n w k g) (hV : VW n w k g te fr ro he sh wb wv nv nw ns si) (hB : BK n w k g te fr ro he wb wv nv nw ns si bk) {u v x : Nat} (hv : v < n) (hx : x < 4) (wm : Int32) :
    fX7_reaches bk (nI u) (nI v) (nI x) wm = some (b01 (rchM ro he wb wv wm w x v u n)) := by
  have hn6 : n ≤ 6 := hN.2.1
  unfold fX7_reaches
  exact forR (fun m i (s : Int32) => fX7_reaches_6 (nI u) (nI v) (nI x) wm bk (fun z _ => (zbI z).bind (fun z10 => some z10)) m s i) n (fun i s => s = b01 (rchM ro he wb wv wm w x v u i)) (some (b01 (rchM ro he wb wv wm w x v u n)))
    (fun m s hI => by
      show fX7_reaches_6 _ _ _ _ _ _ (m + 1) s (nI n) = _
      rw [fX7_reaches_6, show (0 : Int32) = nI 0 from rfl, rdI_n (by decide) (by decide), bind_some', hB.1.1, if_pos (nI_le (Nat.le_refl n) (by omega)), hI, zbI_b, bind_some'])
    (fun m b s hb hI => Or.inr (by
      refine ⟨b01 (rchM ro he wb wv wm w x v u (b + 1)), rfl, ?_⟩
      show fX7_reaches_6 _ _ _ _ _ _ (m + 1) s (nI b) = _
      obtain ⟨z, h1, h2, h3⟩ := sounds_ok hN hV hB hb hx wm
      have lv : v < 32 := by omega
      have e1 : rchM ro he wb wv wm w x v u (b + 1) = (rchM ro he wb wv wm w x v u b || (decide (ro b = nI u) && bt z v)) := by
        rw [h3 v hv]; rfl
      rw [fX7_reaches_6, rdB0, bind_some', hB.1.1, if_neg (nI_ge hb (by omega)), show (16 : Int32) = nI 16 from rfl, nI_add, rdI_n (by omega) (by decide), bind_some', hB.2.2.2.1 b hb, h1, bind_some', nI_1, e1, hI]
      cases c : rchM ro he wb wv wm w x v u b
      · rw [if_pos (by rfl)]
        by_cases d : ro b = nI u
        · rw [if_pos d, decide_eq_true d]
          by_cases f : bt z v = true
          · rw [if_pos ((shr_1 _ lv).mpr f), f]; rfl
          · have f2 : bt z v = false := by simpa using f
            rw [if_neg (fun q => f ((shr_1 _ lv).mp q)), f2]; rfl
        · rw [if_neg d, decide_eq_false d]; rfl
      · rw [if_neg (by decide)]; rfl))
    fu 0 0 (Nat.zero_le n) (by show n - 0 < 50000; omega) rfl
theorem dueFor_ok {n w k g : Nat} {te fr ro he sh wb wv nv nw ns si bk : Nat → Int32} (hN : RN n w k g) (hV : VW n w k g te fr ro he sh wb wv nv nw ns si) (hB : BK n w k g te fr ro he wb wv nv nw ns si bk) {i v x : Nat} (hi : i < k) (ev : nv i = nI v) (hv : v < n) (ex : nw i = nI x) (hx : x < 4) (wm : Int32) :
    ∃ z, fX7_dueFor bk (nI i) wm = some z ∧ bel z n ∧ ∀ u, u < n → bt z u = (bt (ns i) u && rchM ro he wb wv wm w x v u n) := by
  have hn6 : n ≤ 6 := hN.2.1
  have hk : k ≤ 12 := hN.2.2.2.1
  unfold fX7_dueFor
  have h := forI (fun m u (s : Int32) => fX7_dueFor_5 (nI i) wm bk (fun z _ => some z) m s u) (fun s => some s) n (fun u s => bel s n ∧ (∀ t, t < n → bt s t = (decide (t < u) && (bt (ns i) t && rchM ro he wb wv wm w x v t n))))
    (fun m s _ => by
      show fX7_dueFor_5 _ _ _ _ (m + 1) s (nI n) = _
      rw [fX7_dueFor_5, show (0 : Int32) = nI 0 from rfl, rdI_n (by decide) (by decide), bind_some', hB.1.1, if_pos (nI_le (Nat.le_refl n) (by omega))])
    (fun m u s hu hI => by
      obtain ⟨i1, i2⟩ := hI
      have lu : u < 32 := by omega
      have e0 : fX7_dueFor_5 (nI i) wm bk (fun z _ => some z) (m + 1) s (nI u) = if (ns i >>> (nI u &&& 31)) &&& 1 = 1 then (if b01 (rchM ro he wb wv wm w x v u n) = 0 then fX7_dueFor_5 (nI i) wm bk (fun z _ => some z) m (s ||| 0) (nI (u + 1)) else fX7_dueFor_5 (nI i) wm bk (fun z _ => some z) m (s ||| (1 <<< (nI u &&& 31))) (nI (u + 1))) else fX7_dueFor_5 (nI i) wm bk (fun z _ => some z) m (s ||| 0) (nI (u + 1)) := by
        rw [fX7_dueFor_5, rdB0, bind_some', hB.1.1, if_neg (nI_ge hu (by omega)), show (86 : Int32) = nI 86 from rfl, nI_add, rdI_n (by omega) (by decide), bind_some', hB.2.2.2.2.2.2.2.2.2.1 i hi, show (62 : Int32) = nI 62 from rfl, nI_add, rdI_n (by omega) (by decide), bind_some', hB.2.2.2.2.2.2.2.1 i hi, show (74 : Int32) = nI 74 from rfl, nI_add, rdI_n (by omega) (by decide), bind_some', hB.2.2.2.2.2.2.2.2.1 i hi, ev, ex, reaches_ok hN hV hB hv hx wm, bind_some', nI_1]
      have z0 : s ||| 0 = s := b_ext (fun q hq => by rw [b_or, b_0, Bool.or_false])
      by_cases c : bt (ns i) u = true ∧ rchM ro he wb wv wm w x v u n = true
      · refine ⟨s ||| (1 <<< (nI u &&& 31)), ⟨bel_or i1 (bel_one hu (by omega)), fun t ht => ?_⟩, ?_⟩
        · rw [b_or, i2 t ht, bt_one lu]
          by_cases e : t = u
          · subst e; rw [c.1, c.2, decide_eq_true (show t = t from rfl), decide_eq_true (show t < t + 1 by omega)]; simp
          · rw [decide_eq_false e, Bool.or_false]
            have : decide (t < u + 1) = decide (t < u) := decide_eq_decide.mpr (by omega)
            rw [this]
        · show fX7_dueFor_5 _ _ _ _ (m + 1) s (nI u) = _
          rw [e0, if_pos ((shr_1 _ lu).mpr c.1), c.2, if_neg (by decide)]
      · refine ⟨s, ⟨i1, fun t ht => ?_⟩, ?_⟩
        · rw [i2 t ht]
          by_cases e : t = u
          · subst e
            have : (bt (ns i) t && rchM ro he wb wv wm w x v t n) = false := by
              cases h1 : bt (ns i) t <;> cases h2 : rchM ro he wb wv wm w x v t n
              · rfl
              · rfl
              · rfl
              · exact absurd ⟨h1, h2⟩ c
            rw [this]; simp
          · have : decide (t < u + 1) = decide (t < u) := decide_eq_decide.mpr (by omega)
            rw [this]
        · show fX7_dueFor_5 _ _ _ _ (m + 1) s (nI u) = _
          rw [e0, z0]
          by_cases d : bt (ns i) u = true
          · have : rchM ro he wb wv wm w x v u n = false := by
              cases h2 : rchM ro he wb wv wm w x v u n
              · rfl
              · exact absurd ⟨d, h2⟩ c
            rw [if_pos ((shr_1 _ lu).mpr d), this, if_pos (by decide)]
          · rw [if_neg (fun q => d ((shr_1 _ lu).mp q))])
    fu 0 0 (Nat.zero_le n) (by show n - 0 < 50000; omega) ⟨bel_0 n, fun t _ => by rw [b_0]; simp⟩
  obtain ⟨z, ⟨h1, h2⟩, h3⟩ := h
  exact ⟨z, h3, h1, fun u hu => by rw [h2 u hu, decide_eq_true hu, Bool.true_and]⟩
theorem due_both {n w k g : Nat} {te fr ro he sh wb wv nv nw ns si bk : Nat → Int32} (hN : RN n w k g) (hV : VW n w k g te fr ro he sh wb wv nv nw ns si) (hB : BK n w k g te fr ro he wb wv nv nw ns si bk) {i : Nat} (hi : i < k) :
    ∃ z, fX3_dueFor (nI n) ro he sh nv nw ns (nI i) = some z ∧ fX7_dueFor bk (nI i) 255 = some z ∧ bel z n := by
  have hn6 : n ≤ 6 := hN.2.1
  have hk : k ≤ 12 := hN.2.2.2.1
  obtain ⟨v, hv, ev⟩ := hV.2.2.2.2.2.2.2.2.1 i hi
  obtain ⟨x, hx, ex⟩ := hV.2.2.2.2.2.2.2.2.2.1 i hi
  have hbns := hV.2.2.2.2.2.2.2.2.2.2.1 i hi
  obtain ⟨z, h1, h2, h3⟩ := dueFor_ok hN hV hB hi ev hv ex hx 255
  refine ⟨z, ?_, h1, h2⟩
  unfold fX3_dueFor
  have h := forI (fun m b (s : Int32) => fX3_dueFor_4 (nI i) (nI n) ro he sh nv nw (fun x2 _ => (rdI 12 ns (nI i)).bind (fun z10 => some (x2 &&& z10))) m s b) (fun s => some (s &&& ns i)) n (fun b s => bel s n ∧ ∀ u, u < n → bt s u = rchM ro he wb wv 255 w x v u b)
    (fun m s _ => by
      show fX3_dueFor_4 _ _ _ _ _ _ _ _ (m + 1) s (nI n) = _
      rw [fX3_dueFor_4, if_pos (nI_le (Nat.le_refl n) (by omega)), rdI_n (by omega) (by decide), bind_some'])
    (fun m b s hb hI => by
      obtain ⟨i1, i2⟩ := hI
      obtain ⟨r, hr, er⟩ := hV.2.2.1 b hb
      have lv : v < 32 := by omega
      have e0 : fX3_dueFor_4 (nI i) (nI n) ro he sh nv nw (fun x2 _ => (rdI 12 ns (nI i)).bind (fun z10 => some (x2 &&& z10))) (m + 1) s (nI b) = if b01 (bt (hearD he sh b x) v) = 0 then fX3_dueFor_4 (nI i) (nI n) ro he sh nv nw (fun x2 _ => (rdI 12 ns (nI i)).bind (fun z10 => some (x2 &&& z10))) m s (nI (b + 1)) else fX3_dueFor_4 (nI i) (nI n) ro he sh nv nw (fun x2 _ => (rdI 12 ns (nI i)).bind (fun z10 => some (x2 &&& z10))) m (s ||| (1 <<< (nI r &&& 31))) (nI (b + 1)) := by
        rw [fX3_dueFor_4, if_neg (nI_ge hb (by omega)), rdI_n (f := nw) (by omega) (by decide), bind_some', ex, heardIn_ok (by omega) hx, bind_some', rdI_n (f := nv) (by omega) (by decide), bind_some', ev, has_eq _ lv, bind_some', rdI_n (f := ro) (by omega) (by decide), bind_some', er, nI_1]
      have e1 : ∀ u, u < n → rchM ro he wb wv 255 w x v u (b + 1) = (rchM ro he wb wv 255 w x v u b || (decide (u = r) && bt (hearD he sh b x) v)) := by
        intro u hu
        show (rchM ro he wb wv 255 w x v u b || (decide (ro b = nI u) && hearM he wb wv 255 w b x v)) = _
        rw [hearM_255 hN hV hb hv, er, show decide (nI r = nI u) = decide (u = r) from by simp only [nI_eq (a := r) (b := u) (by omega) (by omega)]; exact decide_eq_decide.mpr eq_comm]
      by_cases c : bt (hearD he sh b x) v = true
      · refine ⟨s ||| (1 <<< (nI r &&& 31)), ⟨bel_or i1 (bel_one hr (by omega)), fun u hu => ?_⟩, ?_⟩
        · rw [b_or, i2 u hu, bt_one (by omega), e1 u hu, c, Bool.and_true]
        · show fX3_dueFor_4 _ _ _ _ _ _ _ _ (m + 1) s (nI b) = _
          rw [e0, c, if_neg (by decide)]
      · have c2 : bt (hearD he sh b x) v = false := by simpa using c
        refine ⟨s, ⟨i1, fun u hu => ?_⟩, ?_⟩
        · rw [i2 u hu, e1 u hu, c2, Bool.and_false, Bool.or_false]
        · show fX3_dueFor_4 _ _ _ _ _ _ _ _ (m + 1) s (nI b) = _
          rw [e0, c2, if_pos (by decide)])
    fu 0 0 (Nat.zero_le n) (by show n - 0 < 50000; omega) ⟨bel_0 n, fun u _ => b_0 u⟩
  obtain ⟨s, ⟨h4, h5⟩, h6⟩ := h
  refine Eq.trans h6 ?_
  congr 1
  refine bel_ext (bel_and h4) h2 (fun u hu => ?_)
  rw [b_and, h5 u hu, h3 u hu, Bool.and_comm]
