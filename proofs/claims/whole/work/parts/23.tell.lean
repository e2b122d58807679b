/-! THE SIX TELLERS: the class's and the reference's answer alike, and the relation stays -/
/-- hears is told -/
theorem T_hears {vi wo ne sg : Int32} {te fr ro he sh wb wv nv nw ns si bk : Nat → Int32} (hR : RV vi wo ne sg te fr ro he sh wb wv nv nw ns si bk) (p0 p1 p2 p3 : Int32) :
    ∃ r he' bk', fX3_setHears vi he p0 p1 p2 p3 = some (r, he') ∧ fX7_tellsHears bk p0 p1 p2 p3 = some (r, bk') ∧ okR r ∧ RV vi wo ne sg te fr ro he' sh wb wv nv nw ns si bk' := by
  obtain ⟨n, w, k, g, hN, rfl, rfl, rfl, rfl, hV, hB⟩ := id hR
  have hn6 : n ≤ 6 := hN.2.1
  have hb0 : bk 0 = nI n := hB.1.1
  have hn0 : 0 < n := Nat.lt_of_lt_of_le (by decide) hN.1
  unfold fX3_setHears fX7_tellsHears fX3_areTwo
  rcases vil (n := n) (by omega) hn0 p0 with ⟨h1, h2⟩ | ⟨b, hb, rfl, h1, h2⟩
  · exact ⟨-2, he, bk, by rw [h1]; rfl, by rw [h2 bk hb0]; rfl, Or.inr (Or.inl rfl), hR⟩
  rcases vil (n := n) (by omega) hn0 p2 with ⟨h3, h4⟩ | ⟨v, hv, rfl, h3, h4⟩
  · refine ⟨-2, he, bk, by rw [h1, h3]; rfl, ?_, Or.inr (Or.inl rfl), hR⟩
    rcases wind p1 with ⟨-, h6⟩ | ⟨x, hx, rfl, -, h6⟩ <;> rw [h2 bk hb0, h6, h4 bk hb0] <;> rfl
  by_cases e : b = v
  · subst e
    refine ⟨-2, he, bk, ?_, ?_, Or.inr (Or.inl rfl), hR⟩
    · rw [h1]; simp
    · rcases wind p1 with ⟨-, h6⟩ | ⟨x, hx, rfl, -, h6⟩ <;> rw [h2 bk hb0, h6] <;> simp
  have hne : ¬ nI b = nI v := fun q => e ((nI_eq (by omega) (by omega)).mp q)
  rcases wind p1 with ⟨h5, h6⟩ | ⟨x, hx, rfl, h5, h6⟩
  · refine ⟨-2, he, bk, ?_, ?_, Or.inr (Or.inl rfl), hR⟩
    · rw [h1, h3, h5]; simp [hne]
    · rw [h2 bk hb0, h6]; simp
  have ea : nI b * 4 + nI x = nI (4 * b + x) := by rw [show (4 : Int32) = nI 4 from rfl, pk_mul, nI_add, Nat.mul_comm]
  have eb : 22 + 4 * nI b + nI x = nI (22 + (4 * b + x)) := by rw [show (4 : Int32) = nI 4 from rfl, show (22 : Int32) = nI 22 from rfl, pk_mul, nI_add, nI_add, Nat.add_assoc]
  have hh := hB.2.2.2.2.1 b hb x hx
  have lv : v < 32 := by omega
  by_cases hq : b01 (bt (he (4 * b + x)) v) = p3
  · refine ⟨-3, he, bk, ?_, ?_, Or.inr (Or.inr (Or.inl rfl)), hR⟩
    · rw [h1, h3, h5, ea]
      simp only [bind_some', hne, if_false, if_neg (show ¬ (1 : Int32) = 0 by decide)]
      rw [rdI_n (by omega) (by decide), bind_some', has_eq _ lv, bind_some', if_pos hq]
    · rw [h2 bk hb0, h6, h4 bk hb0, eb]
      simp only [bind_some', hne, if_false, if_neg (show ¬ (1 : Int32) = 0 by decide)]
      rw [rdI_n (by omega) (by decide), bind_some', hh]
      have : (if he (4 * b + x) >>> (nI v &&& 31) &&& 1 = 1 then some 1 else some 0 : Option Int32) = some (b01 (bt (he (4 * b + x)) v)) := by
        by_cases c : bt (he (4 * b + x)) v = true
        · rw [if_pos ((shr_1 _ lv).mpr c), c]; rfl
        · rw [if_neg (fun z => c ((shr_1 _ lv).mp z))]
          have c2 : bt (he (4 * b + x)) v = false := by simpa using c
          rw [c2]; rfl
      rw [this, bind_some', if_pos hq]
  · refine ⟨1, upd he (4 * b + x) (he (4 * b + x) ^^^ ((1 : Int32) <<< (nI v &&& 31))), upd bk (22 + (4 * b + x)) (he (4 * b + x) ^^^ ((1 : Int32) <<< (nI v &&& 31))), ?_, ?_, Or.inl (by decide), ?_⟩
    · rw [h1, h3, h5, ea]
      simp only [bind_some', hne, if_false, if_neg (show ¬ (1 : Int32) = 0 by decide)]
      rw [rdI_n (by omega) (by decide), bind_some', has_eq _ lv, bind_some', if_neg hq, bind_some', wrI_n (by omega) (by decide), bind_some']
    · rw [h2 bk hb0, h6, h4 bk hb0, eb]
      simp only [bind_some', hne, if_false, if_neg (show ¬ (1 : Int32) = 0 by decide)]
      rw [rdI_n (by omega) (by decide), bind_some', hh]
      have : (if he (4 * b + x) >>> (nI v &&& 31) &&& 1 = 1 then some 1 else some 0 : Option Int32) = some (b01 (bt (he (4 * b + x)) v)) := by
        by_cases c : bt (he (4 * b + x)) v = true
        · rw [if_pos ((shr_1 _ lv).mpr c), c]; rfl
        · rw [if_neg (fun z => c ((shr_1 _ lv).mp z))]
          have c2 : bt (he (4 * b + x)) v = false := by simpa using c
          rw [c2]; rfl
      rw [this, bind_some', if_neg hq, bind_some', wrI_n (by omega) (by decide), bind_some']
    · obtain ⟨va, vb, v1, v2, v3, v4, v5, v6, v7, v8, v9, v10⟩ := hV
      obtain ⟨b1, b2, b3, b4, b5, b6, b7, b8, b9, b10, b11⟩ := hB
      refine ⟨n, w, k, g, hN, rfl, rfl, rfl, rfl, ⟨va, vb, v1, v2, ?_, v4, v5, v6, v7, v8, v9, v10⟩, ⟨?_, ?_, ?_, ?_, ?_, ?_, ?_, ?_, ?_, ?_, ?_⟩⟩
      · intro b' hb' x' hx'
        by_cases c : 4 * b' + x' = 4 * b + x
        · rw [c, upd_at]
          intro i hi
          rw [b_xor, v3 b hb x hx i hi, bt_one lv, decide_eq_false (by omega)]; rfl
        · rw [upd_ne c]; exact v3 b' hb' x' hx'
      · obtain ⟨c0, c1, c2, c3⟩ := b1
        exact ⟨by rw [upd_ne (by omega)]; exact c0, by rw [upd_ne (by omega)]; exact c1, by rw [upd_ne (by omega)]; exact c2, by rw [upd_ne (by omega)]; exact c3⟩
      · intro u hu; rw [upd_ne (by omega)]; exact b2 u hu
      · intro u hu; rw [upd_ne (by omega)]; exact b3 u hu
      · intro u hu; rw [upd_ne (by omega)]; exact b4 u hu
      · intro b' hb' x' hx'
        by_cases c : 4 * b' + x' = 4 * b + x
        · rw [c, upd_at, upd_at]
        · rw [upd_ne (show 22 + (4 * b' + x') ≠ 22 + (4 * b + x) by omega), upd_ne c]; exact b5 b' hb' x' hx'
      · intro u hu; have := hN.2.2.1; rw [upd_ne (by omega)]; exact b6 u hu
      · intro u hu; have := hN.2.2.1; rw [upd_ne (by omega)]; exact b7 u hu
      · intro u hu; rw [upd_ne (by omega)]; exact b8 u hu
      · intro u hu; rw [upd_ne (by omega)]; exact b9 u hu
      · intro u hu; rw [upd_ne (by omega)]; exact b10 u hu
      · intro u hu; rw [upd_ne (by omega)]; exact b11 u hu
