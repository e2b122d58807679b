/-! what the reference then does with the items -/
theorem rd17_ok {bk : Nat → Int32} (sp : Nat → Int32) (kx : Int32 → (Nat → Int32) → Option (Int32 × (Nat → Int32) × (Nat → Int32) × (Nat → Int32) × Int32 × Int32 × Int32 × Int32 × Int32)) : ∃ sp', fX7_read_17 bk kx fu 0 sp = kx 104 sp' ∧ ∀ j, j < 104 → sp' j = bk j := by
  have h := forI (fun m i (s : Nat → Int32) => fX7_read_17 bk kx m i s) (fun s => kx 104 s) 104 (fun i s => ∀ j, j < i → s j = bk j)
    (fun m s _ => by
      show fX7_read_17 _ _ (m + 1) (nI 104) s = _
      rw [fX7_read_17, if_pos (show (104 : Int32) ≤ nI 104 by decide)]; rfl)
    (fun m i s hi hI => by
      refine ⟨upd s i (bk i), fun j hj => ?_, ?_⟩
      · by_cases c : j = i
        · rw [c, upd_at]
        · rw [upd_ne c]; exact hI j (by omega)
      · show fX7_read_17 _ _ (m + 1) (nI i) s = _
        rw [fX7_read_17, if_neg (show ¬ (104 : Int32) ≤ nI i from nI_ge (b := 104) hi (by decide)), rdI_n hi (by decide), bind_some', wrI_n hi (by decide), bind_some', nI_1])
    fu 0 sp (by decide) (by decide) (fun j hj => absurd hj (Nat.not_lt_zero j))
  obtain ⟨s, h1, h2⟩ := h
  exact ⟨s, h2, h1⟩
theorem rd61_ok (sp : Nat → Int32) (b : Nat → Int32) (kx : Int32 → (Nat → Int32) → Option (Int32 × (Nat → Int32) × (Nat → Int32) × (Nat → Int32) × Int32 × Int32 × Int32 × Int32 × Int32)) : ∃ b', fX7_read_61 sp kx fu 0 b = kx 104 b' ∧ ∀ j, j < 104 → b' j = sp j := by
  have h := forI (fun m i (s : Nat → Int32) => fX7_read_61 sp kx m i s) (fun s => kx 104 s) 104 (fun i s => ∀ j, j < i → s j = sp j)
    (fun m s _ => by
      show fX7_read_61 _ _ (m + 1) (nI 104) s = _
      rw [fX7_read_61, if_pos (show (104 : Int32) ≤ nI 104 by decide)]; rfl)
    (fun m i s hi hI => by
      refine ⟨upd s i (sp i), fun j hj => ?_, ?_⟩
      · by_cases c : j = i
        · rw [c, upd_at]
        · rw [upd_ne c]; exact hI j (by omega)
      · show fX7_read_61 _ _ (m + 1) (nI i) s = _
        rw [fX7_read_61, if_neg (show ¬ (104 : Int32) ≤ nI i from nI_ge (b := 104) hi (by decide)), rdI_n hi (by decide), bind_some', wrI_n hi (by decide), bind_some', nI_1])
    fu 0 b (by decide) (by decide) (fun j hj => absurd hj (Nat.not_lt_zero j))
  obtain ⟨s, h1, h2⟩ := h
  exact ⟨s, h2, h1⟩
theorem rd43_run {g1 : Int32 × (Nat → Int32) × Int32 × Int32 × Int32 × Int32 × Int32} {M : Nat} (hM : M < 62) (hg : g1.2.2.1 = nI M) (sp : Nat → Int32) (kx : Int32 → (Nat → Int32) → Option (Int32 × (Nat → Int32) × (Nat → Int32) × (Nat → Int32) × Int32 × Int32 × Int32 × Int32 × Int32)) : ∀ (i m : Nat) (b b' : Nat → Int32), i ≤ M → TA g1.2.1 i b b' → fX7_read_43 g1 sp kx (m + i) (nI 0) b = fX7_read_43 g1 sp kx m (nI i) b'
  | 0, m, b, b', _, h => by
    have : b' = b := h
    rw [this]; rfl
  | i + 1, m, b, b', hi, ⟨b2, r, h1, h2, h3⟩ => by
    have := rd43_run hM hg sp kx i (m + 1) b b2 (by omega) h1
    rw [show m + (i + 1) = m + 1 + i by omega, this, fX7_read_43, hg, if_neg (nI_ge (by omega) (by omega)), h2, bind_some', if_pos h3, nI_1]
theorem neg_le {j : Nat} (hj : j < 2 ^ 20) : ((-10) - nI j : Int32) ≤ 0 ∧ ((-1000) - nI j : Int32) ≤ 0 := by
  have t := nI_toInt (n := j) (by omega)
  have a : ((-10) - nI j : Int32).toInt = -10 - j := by
    rw [fb_subI (by rw [t]; show -2147483648 ≤ (-10 : Int) - j; omega) (by rw [t]; show (-10 : Int) - j < 2147483648; omega), t]; rfl
  have b : ((-1000) - nI j : Int32).toInt = -1000 - j := by
    rw [fb_subI (by rw [t]; show -2147483648 ≤ (-1000 : Int) - j; omega) (by rw [t]; show (-1000 : Int) - j < 2147483648; omega), t]; rfl
  have z : (0 : Int32).toInt = 0 := rfl
  exact ⟨(fa_le _ _).mpr (by rw [a, z]; omega), (fa_le _ _).mpr (by rw [b, z]; omega)⟩
theorem P_read {vi wo ne sg : Int32} {te fr ro he sh wb wv nv nw ns si bk : Nat → Int32} (hR : RV vi wo ne sg te fr ro he sh wb wv nv nw ns si bk) {le ml : Int32} {tx mt : Nat → Int32} (hT : RT le tx ml mt) (D : DT) (dsi nu sp it : Nat → Int32) (nm : Int32) :
    ∃ ox om, fX6_read vi wo ne sg te fr ro he sh wb wv nv nw ns si D.1 D.2.1 D.2.2.1 D.2.2.2.1 D.2.2.2.2.1 D.2.2.2.2.2.1 D.2.2.2.2.2.2.1 D.2.2.2.2.2.2.2.1 D.2.2.2.2.2.2.2.2.1 D.2.2.2.2.2.2.2.2.2.1 D.2.2.2.2.2.2.2.2.2.2.1 D.2.2.2.2.2.2.2.2.2.2.2.1 D.2.2.2.2.2.2.2.2.2.2.2.2.1 D.2.2.2.2.2.2.2.2.2.2.2.2.2 dsi le tx nu nm = some ox ∧ fX7_read bk sp mt ml it = some om ∧ ox.1 = om.1 ∧ RV ox.2.1 ox.2.2.1 ox.2.2.2.1 ox.2.2.2.2.1 ox.2.2.2.2.2.1 ox.2.2.2.2.2.2.1 ox.2.2.2.2.2.2.2.1 ox.2.2.2.2.2.2.2.2.1 ox.2.2.2.2.2.2.2.2.2.1 ox.2.2.2.2.2.2.2.2.2.2.1 ox.2.2.2.2.2.2.2.2.2.2.2.1 ox.2.2.2.2.2.2.2.2.2.2.2.2.1 ox.2.2.2.2.2.2.2.2.2.2.2.2.2.1 ox.2.2.2.2.2.2.2.2.2.2.2.2.2.2.1 ox.2.2.2.2.2.2.2.2.2.2.2.2.2.2.2.1 om.2.1 := by
  obtain ⟨L, hL, rfl, rfl, hB⟩ := hT
  have hX : TXT L (fun j => (mt j).toNatClampNeg) tx mt := by
    refine ⟨hL, fun j hj => ?_⟩
    obtain ⟨c, h1, h2, h3⟩ := hB j hj
    show (mt j).toNatClampNeg < 256 ∧ mt j = nI (mt j).toNatClampNeg ∧ tx j = (nI (mt j).toNatClampNeg).toInt8.toInt32
    rw [h2, nI_clamp (by omega)]
    exact ⟨h1, rfl, h3⟩
  obtain ⟨s, la, hS, hla, tk⟩ := token_LA hX (Nat.zero_le L)
  have hS2 := hS.2.1
  have tk0 : fX7_token mt (nI L) 0 = some la := tk
  have r0 : fX7_reads mt (nI L) it = fX7_reads_14 mt (nI L) kxR fu it (nI 0) la.1 la.2.1 la.2.2.1 la.2.2.2 := by
    unfold fX7_reads
    rw [tk0, bind_some']; rfl
  have t0 := tell_TL hX nu nm D
  rw [TL_sp hX (KF L) nu (-1) nm 0 (-1) D s 0 s fu (by omega) hS (by show s < 50000; omega)] at t0
  unfold fX6_read fX7_read
  rw [r0, t0]
  rcases JT hX bk dsi L s (fu - s) fu 0 it nu nm (-1) D la (by omega) hS2 hS.2.2.2 hla (by omega) (by show L - s < 50000 - s; omega) (by show L - s < 50000; omega) (Or.inl ⟨rfl, Or.inl rfl⟩) with ⟨f, X, Y, x1, x2, x3, x4⟩ | ⟨M, I', rf', X, Y, x1, x2, x3, x4, x5⟩
  · have x2' : TL L tx (KF L) (fu - s) s nu (-1) nm 0 (-1) D = _ := x2
    rw [x2', x3, bind_some', bind_some']
    dsimp only
    rw [if_pos (neg_le (by omega)).1, if_pos rfl, x4]
    exact ⟨_, _, rfl, rfl, rfl, hR⟩
  · have x3' : TL L tx (KF L) (fu - s) s nu (-1) nm 0 (-1) D = _ := x3
    rw [x3', x4, bind_some', bind_some']
    dsimp only
    rw [if_neg (show ¬ (1 : Int32) = 0 by decide)]
    obtain ⟨sp', s1, s2⟩ := rd17_ok (bk := bk) sp (fun _ a => (fX7_read_43 (1, I', nI M, Y) a (fun _ b => some ((nI M, b, a, I', nI M, Y.1, Y.2.1, Y.2.2.1, Y.2.2.2))) fu 0 bk))
    rw [s1]
    rcases x5 with ⟨rfl, h | ⟨b', q1, q2⟩⟩ | ⟨j, hj, rfl, b', r, b2, q1, q2, q3⟩
    · omega
    · rw [if_pos rfl, if_neg (nI_nle x1 (by omega))]
      have run := rd43_run (g1 := (1, I', nI M, Y)) x2 rfl sp' (fun _ b => some ((nI M, b, sp', I', nI M, Y.1, Y.2.1, Y.2.2.1, Y.2.2.2))) M (fu - M) bk b' (Nat.le_refl M) q1
      have ef : fu - M + M = fu := by show 50000 - M + M = 50000; omega
      obtain ⟨z, ez⟩ : ∃ z, fu - M = z + 1 := ⟨49999 - M, by show 50000 - M = 49999 - M + 1; omega⟩
      rw [ef, ez, fX7_read_43, if_pos (nI_le (Nat.le_refl M) (by omega))] at run
      have run' : fX7_read_43 (1, I', nI M, Y) sp' (fun _ b => some ((nI M, b, sp', I', nI M, Y.1, Y.2.1, Y.2.2.1, Y.2.2.2))) fu 0 bk = _ := run
      unfold fX3_copy
      rw [run', bind_some']
      exact ⟨_, _, rfl, rfl, rfl, RV_copy q2 te fr ro he sh wb wv nv nw ns si⟩
    · rw [if_neg (nI_m1' (by omega)), if_pos (neg_le (by omega)).2]
      have run := rd43_run (g1 := (1, I', nI M, Y)) x2 rfl sp' (fun _ b => some ((nI M, b, sp', I', nI M, Y.1, Y.2.1, Y.2.2.1, Y.2.2.2))) j (fu - j) bk b' (by omega) q1
      have ef : fu - j + j = fu := by show 50000 - j + j = 50000; omega
      obtain ⟨z, ez⟩ : ∃ z, fu - j = z + 1 := ⟨49999 - j, by show 50000 - j = 49999 - j + 1; omega⟩
      obtain ⟨b3, y1, y2⟩ := rd61_ok sp' b2 (fun _ b => some (((-1000) - nI j, b, sp', I', nI M, Y.1, Y.2.1, Y.2.2.1, Y.2.2.2)))
      rw [ef, ez, fX7_read_43, if_neg (nI_ge hj (by omega)), q2, bind_some', if_neg (fa_of_lt q3).2.1, y1] at run
      have run' : fX7_read_43 (1, I', nI M, Y) sp' (fun _ b => some ((nI M, b, sp', I', nI M, Y.1, Y.2.1, Y.2.2.1, Y.2.2.2))) fu 0 bk = _ := run
      rw [run']
      exact ⟨_, _, rfl, rfl, rfl, RV_cong hR (fun _ _ => rfl) (fun _ _ => rfl) (fun _ _ => rfl) (fun _ _ => rfl) (fun _ _ => rfl) (fun _ _ => rfl) (fun _ _ => rfl) (fun _ _ => rfl) (fun _ _ => rfl) (fun _ _ => rfl) (fun _ _ => rfl) (fun i hi => by show b3 i = bk i; rw [y2 i hi, s2 i hi])⟩
