/-! READ: the class and the reference go through the text together -/
abbrev DT := Int32 × Int32 × Int32 × Int32 × (Nat → Int32) × (Nat → Int32) × (Nat → Int32) × (Nat → Int32) × (Nat → Int32) × (Nat → Int32) × (Nat → Int32) × (Nat → Int32) × (Nat → Int32) × (Nat → Int32)
abbrev R20 := Int32 × (Nat → Int32) × Int32 × Int32 × Int32 × Int32 × DT
def RVD (D : DT) (si bk : Nat → Int32) : Prop := RV D.1 D.2.1 D.2.2.1 D.2.2.2.1 D.2.2.2.2.1 D.2.2.2.2.2.1 D.2.2.2.2.2.2.1 D.2.2.2.2.2.2.2.1 D.2.2.2.2.2.2.2.2.1 D.2.2.2.2.2.2.2.2.2.1 D.2.2.2.2.2.2.2.2.2.2.1 D.2.2.2.2.2.2.2.2.2.2.2.1 D.2.2.2.2.2.2.2.2.2.2.2.2.1 D.2.2.2.2.2.2.2.2.2.2.2.2.2 si bk
def tellF (a_book : Nat → Int32) (z1 z2 z3 z4 : Int32) : Option (Int32 × (Nat → Int32)) := (if z1 = 0 then (fX7_in z2 2 6).bind (fun g15 => (if g15 = 0 then some (((-2), a_book)) else (fX7_begins a_book z2).bind (fun g17 => some ((1, g17))))) else (if z1 = 1 then (fX7_tellsHears a_book z2 z3 z4 1).bind (fun g14 => some ((g14.1, g14.2))) else (if z1 = 2 then (fX7_tellsWood a_book z2 z3).bind (fun g13 => some ((g13.1, g13.2))) else (if z1 = 3 then (fX7_tellsTemper a_book z2 z3).bind (fun g12 => some ((g12.1, g12.2))) else (if z1 = 4 then (fX7_tellsFriend a_book z2 z3).bind (fun g11 => some ((g11.1, g11.2))) else (fX7_tellsNeed a_book z2 z3 z4).bind (fun g10 => some ((g10.1, g10.2))))))))
theorem tells_eq (b I : Nat → Int32) {m : Nat} (hm : m < 62) : fX7_tells b I (nI m) = tellF b (I (4 * m)) (I (4 * m + 1)) (I (4 * m + 2)) (I (4 * m + 3)) := by
  unfold fX7_tells
  rw [show (4 : Int32) * nI m = nI (4 * m) from by rw [show (4 : Int32) = nI 4 from rfl, pk_mul], show nI (4 * m) + 1 = nI (4 * m + 1) from nI_1 _, show nI (4 * m) + 2 = nI (4 * m + 2) from nI_add _ 2, show nI (4 * m) + 3 = nI (4 * m + 3) from nI_add _ 3, rdI_n (by omega) (by decide), bind_some', rdI_n (by omega) (by decide), bind_some', rdI_n (by omega) (by decide), bind_some', rdI_n (by omega) (by decide), bind_some']
  rfl
def TA (I : Nat → Int32) : Nat → (Nat → Int32) → (Nat → Int32) → Prop
  | 0, b, b' => b' = b
  | m + 1, b, b' => ∃ b2 r, TA I m b b2 ∧ fX7_tells b2 I (nI m) = some (r, b') ∧ 0 ≤ r
theorem tells_cong {I J : Nat → Int32} (b : Nat → Int32) {m : Nat} (hm : m < 62) (h : ∀ j, j < 4 * m + 4 → J j = I j) : fX7_tells b J (nI m) = fX7_tells b I (nI m) := by
  rw [tells_eq b J hm, tells_eq b I hm, h (4 * m) (by omega), h (4 * m + 1) (by omega), h (4 * m + 2) (by omega), h (4 * m + 3) (by omega)]
theorem TA_cong {I J : Nat → Int32} : ∀ {m : Nat} {b b' : Nat → Int32}, m ≤ 62 → (∀ j, j < 4 * m → J j = I j) → TA I m b b' → TA J m b b'
  | 0, _, _, _, _, h => h
  | m + 1, b, b', hm, h, ⟨b2, r, h1, h2, h3⟩ => ⟨b2, r, TA_cong (by omega) (fun j hj => h j (by omega)) h1, by rw [tells_cong b2 (by omega) (fun j hj => h j (by omega))]; exact h2, h3⟩
/-- what was told ahead of many items -/
def PRE (bk0 I : Nat → Int32) (many : Nat) (rf : Int32) (D : DT) (si : Nat → Int32) : Prop :=
  (rf = -1 ∧ (many = 0 ∨ ∃ b', TA I many bk0 b' ∧ RVD D si b')) ∨ (∃ j, j < many ∧ rf = nI j ∧ ∃ b' r b2, TA I j bk0 b' ∧ fX7_tells b' I (nI j) = some (r, b2) ∧ r < 0)
theorem PRE_cong {bk0 I J : Nat → Int32} {many : Nat} {rf : Int32} {D : DT} {si : Nat → Int32} (hm : many < 62) (h : ∀ j, j < 4 * many → J j = I j) (hP : PRE bk0 I many rf D si) : PRE bk0 J many rf D si := by
  rcases hP with ⟨h1, h2 | ⟨b', h2, h3⟩⟩ | ⟨j, hj, h1, b', r, b2, h2, h3, h4⟩
  · exact Or.inl ⟨h1, Or.inl h2⟩
  · exact Or.inl ⟨h1, Or.inr ⟨b', TA_cong (by omega) h h2, h3⟩⟩
  · exact Or.inr ⟨j, hj, h1, b', r, b2, TA_cong (by omega) (fun i hi => h i (by omega)) h2, by rw [tells_cong b' (by omega) (fun i hi => h i (by omega))]; exact h3, h4⟩
/-- one item is told to both -/
theorem TK {k : Nat} (hk : k < 6) (nu : Nat → Int32) (D : DT) (b si : Nat → Int32) (z2 z3 z4 : Int32) (hD : k ≠ 0 → RVD D si b) (h2 : z2 = nu 0) (h3 : k ≠ 0 → z3 = nu 1) (h4 : k = 1 ∨ k = 5 → z4 = nu 2) :
    ∃ r D' b', fX2_isTaken nu (nI k) D.1 D.2.1 D.2.2.1 D.2.2.2.1 D.2.2.2.2.1 D.2.2.2.2.2.1 D.2.2.2.2.2.2.1 D.2.2.2.2.2.2.2.1 D.2.2.2.2.2.2.2.2.1 D.2.2.2.2.2.2.2.2.2.1 D.2.2.2.2.2.2.2.2.2.2.1 D.2.2.2.2.2.2.2.2.2.2.2.1 D.2.2.2.2.2.2.2.2.2.2.2.2.1 D.2.2.2.2.2.2.2.2.2.2.2.2.2 = some (b01 (decide (¬ r < 0)), D') ∧ tellF b (nI k) z2 z3 z4 = some (r, b') ∧ (¬ r < 0 → RVD D' si b') := by
  obtain ⟨d1, d2, d3, d4, d5, d6, d7, d8, d9, d10, d11, d12, d13, d14⟩ := D
  have r0 : rdI 3 nu 0 = some (nu 0) := rdI_n (n := 3) (j := 0) (by decide) (by decide)
  have r1 : rdI 3 nu 1 = some (nu 1) := rdI_n (n := 3) (j := 1) (by decide) (by decide)
  have r2 : rdI 3 nu 2 = some (nu 2) := rdI_n (n := 3) (j := 2) (by decide) (by decide)
  have split : ∀ (r : Int32) (X : DT), (if r < 0 then some ((0, X)) else some ((1, X)) : Option (Int32 × DT)) = some (b01 (decide (¬ r < 0)), X) := by
    intro r X
    by_cases c : r < 0
    · rw [if_pos c, decide_eq_false (fun z => z c)]; rfl
    · rw [if_neg c, decide_eq_true c]; rfl
  unfold fX2_isTaken tellF
  rcases (show k = 0 ∨ k = 1 ∨ k = 2 ∨ k = 3 ∨ k = 4 ∨ k = 5 by omega) with rfl | rfl | rfl | rfl | rfl | rfl
  · rw [if_pos (show nI 0 = 0 from rfl), if_pos (show nI 0 = 0 from rfl), r0, bind_some', h2]
    by_cases c : nu 0 < 2 ∨ ¬ nu 0 ≤ 6
    · obtain ⟨s1, s2⟩ := settle_no (vi := d1) (wo := d2) (ne := d3) (sg := d4) (te := d5) (fr := d6) (ro := d7) (he := d8) (sh := d9) c
      refine ⟨-2, (d1, d2, d3, d4, d5, d6, d7, d8, d9, d10, d11, d12, d13, d14), b, ?_, ?_, fun h => absurd (by decide) h⟩
      · show (fX3_settle d1 d2 d3 d4 d5 d6 d7 d8 d9 (nu 0)).bind _ = _
        rw [s1, bind_some']; rfl
      · rw [s2, bind_some', if_pos rfl]
    · obtain ⟨j, hj, ej⟩ : ∃ j, (2 ≤ j ∧ j ≤ 6) ∧ nu 0 = nI j := by
        have c1 : ¬ nu 0 < 2 := fun h => c (Or.inl h)
        have c2 : nu 0 ≤ 6 := Classical.byContradiction (fun h => c (Or.inr h))
        rcases pk_ix (nu 0) (n := 7) (by decide) with h | h | ⟨j, hj, ej⟩
        · exact absurd ((fa_lt _ _).mpr (by have h1 := (fa_lt _ _).mp h; have a : (0 : Int32).toInt = 0 := rfl; have b : (2 : Int32).toInt = 2 := rfl; omega)) c1
        · exact absurd c2 (fun h2 => by have h1 := (fa_le _ _).mp h; have h3 := (fa_le _ _).mp h2; have a : (nI 7).toInt = 7 := rfl; have b : (6 : Int32).toInt = 6 := rfl; omega)
        · refine ⟨j, ⟨?_, by omega⟩, ej⟩
          rcases Nat.lt_or_ge j 2 with h | h
          · rw [ej] at c1; exact absurd (nI_lt (b := 2) h (by decide) : nI j < nI 2) c1
          · exact h
      obtain ⟨te', fr', ro', he', sh', s1, s2, s3, s4, s5, s6⟩ := settle_ok d1 d2 d3 d4 d5 d6 d7 d8 d9 hj.1 hj.2
      obtain ⟨bk', b1, b2', b3, b4⟩ := begins_ok b hj.1 hj.2
      have i1 : fX7_in (nI j) 2 6 = some 1 := by
        unfold fX7_in
        rw [if_neg (show ¬ nI j < 2 from nI_nlt (b := 2) hj.1 (by omega)), if_neg (show ¬ 6 < nI j from nI_nlt (a := 6) (b := j) hj.2 (by decide))]
      rw [ej]
      refine ⟨1, (nI j, 0, 0, 0, te', fr', ro', he', sh', d10, d11, d12, d13, d14), bk', ?_, ?_, fun _ => RV_new d10 d11 d12 d13 d14 si hj.1 hj.2 s2 s3 s4 s5 s6 b2' b3 b4⟩
      · show (fX3_settle d1 d2 d3 d4 d5 d6 d7 d8 d9 (nI j)).bind _ = _
        rw [s1, bind_some']; rfl
      · rw [i1, bind_some', if_neg (by decide), b1, bind_some']
  · have hR : RV d1 d2 d3 d4 d5 d6 d7 d8 d9 d10 d11 d12 d13 d14 si b := hD (by decide)
    obtain ⟨r, he', bk', t1, t2, -, t4⟩ := T_hears hR (nu 0) (nu 1) (nu 2) 1
    rw [if_neg (show ¬ nI 1 = 0 by decide), if_pos (show nI 1 = 1 from rfl), if_neg (show ¬ nI 1 = 0 by decide), if_pos (show nI 1 = 1 from rfl), r0, bind_some', r1, bind_some', r2, bind_some', h2, h3 (by decide), h4 (by decide), t2, bind_some']
    refine ⟨r, (d1, d2, d3, d4, d5, d6, d7, he', d9, d10, d11, d12, d13, d14), bk', ?_, rfl, fun _ => t4⟩
    show (fX3_setHears d1 d8 (nu 0) (nu 1) (nu 2) 1).bind _ = _
    rw [t1, bind_some']; exact split r _
  · have hR : RV d1 d2 d3 d4 d5 d6 d7 d8 d9 d10 d11 d12 d13 d14 si b := hD (by decide)
    obtain ⟨r, wo', sh', wb', wv', bk', t1, t2, -, t4⟩ := T_wood hR (nu 0) (nu 1)
    rw [if_neg (show ¬ nI 2 = 0 by decide), if_neg (show ¬ nI 2 = 1 by decide), if_pos (show nI 2 = 2 from rfl), if_neg (show ¬ nI 2 = 0 by decide), if_neg (show ¬ nI 2 = 1 by decide), if_pos (show nI 2 = 2 from rfl), r0, bind_some', r1, bind_some', h2, h3 (by decide), t2, bind_some']
    refine ⟨r, (d1, wo', d3, d4, d5, d6, d7, d8, sh', wb', wv', d12, d13, d14), bk', ?_, rfl, fun _ => t4⟩
    show (fX3_addWood d1 d2 d9 d10 d11 (nu 0) (nu 1)).bind _ = _
    rw [t1, bind_some']; exact split r _
  · have hR : RV d1 d2 d3 d4 d5 d6 d7 d8 d9 d10 d11 d12 d13 d14 si b := hD (by decide)
    obtain ⟨r, te', bk', t1, t2, -, t4⟩ := T_temper hR (nu 0) (nu 1)
    rw [if_neg (show ¬ nI 3 = 0 by decide), if_neg (show ¬ nI 3 = 1 by decide), if_neg (show ¬ nI 3 = 2 by decide), if_pos (show nI 3 = 3 from rfl), if_neg (show ¬ nI 3 = 0 by decide), if_neg (show ¬ nI 3 = 1 by decide), if_neg (show ¬ nI 3 = 2 by decide), if_pos (show nI 3 = 3 from rfl), r0, bind_some', r1, bind_some', h2, h3 (by decide), t2, bind_some']
    refine ⟨r, (d1, d2, d3, d4, te', d6, d7, d8, d9, d10, d11, d12, d13, d14), bk', ?_, rfl, fun _ => t4⟩
    show (fX3_setTemper d1 d5 (nu 0) (nu 1)).bind _ = _
    rw [t1, bind_some']; exact split r _
  · have hR : RV d1 d2 d3 d4 d5 d6 d7 d8 d9 d10 d11 d12 d13 d14 si b := hD (by decide)
    obtain ⟨r, fr', bk', t1, t2, -, t4⟩ := T_friend hR (nu 0) (nu 1)
    rw [if_neg (show ¬ nI 4 = 0 by decide), if_neg (show ¬ nI 4 = 1 by decide), if_neg (show ¬ nI 4 = 2 by decide), if_neg (show ¬ nI 4 = 3 by decide), if_pos (show nI 4 = 4 from rfl), if_neg (show ¬ nI 4 = 0 by decide), if_neg (show ¬ nI 4 = 1 by decide), if_neg (show ¬ nI 4 = 2 by decide), if_neg (show ¬ nI 4 = 3 by decide), if_pos (show nI 4 = 4 from rfl), r0, bind_some', r1, bind_some', h2, h3 (by decide), t2, bind_some']
    refine ⟨r, (d1, d2, d3, d4, d5, fr', d7, d8, d9, d10, d11, d12, d13, d14), bk', ?_, rfl, fun _ => t4⟩
    show (fX3_setFriend d1 d6 (nu 0) (nu 1)).bind _ = _
    rw [t1, bind_some']; exact split r _
  · have hR : RV d1 d2 d3 d4 d5 d6 d7 d8 d9 d10 d11 d12 d13 d14 si b := hD (by decide)
    obtain ⟨r, ne', nv', nw', ns', bk', t1, t2, -, t4⟩ := T_need hR (nu 0) (nu 1) (nu 2)
    rw [if_neg (show ¬ nI 5 = 0 by decide), if_neg (show ¬ nI 5 = 1 by decide), if_neg (show ¬ nI 5 = 2 by decide), if_neg (show ¬ nI 5 = 3 by decide), if_neg (show ¬ nI 5 = 4 by decide), if_neg (show ¬ nI 5 = 0 by decide), if_neg (show ¬ nI 5 = 1 by decide), if_neg (show ¬ nI 5 = 2 by decide), if_neg (show ¬ nI 5 = 3 by decide), if_neg (show ¬ nI 5 = 4 by decide), r0, bind_some', r1, bind_some', r2, bind_some', h2, h3 (by decide), h4 (by decide), t2, bind_some']
    refine ⟨r, (d1, d2, ne', d4, d5, d6, d7, d8, d9, d10, d11, nv', nw', ns'), bk', ?_, rfl, fun _ => t4⟩
    show (fX3_addNeed d1 d3 d12 d13 d14 (nu 0) (nu 1) (nu 2)).bind _ = _
    rw [t1, bind_some']; exact split r _
/-- a walk through the tokens that goes from a token's end to the next -/
def TLi (L : Nat) (tx : Nat → Int32) (K : Int32 → (Nat → Int32) → Int32 → Int32 → Int32 → Int32 → DT → Option R20) : Nat → Int32 → (Nat → Int32) → Int32 → Int32 → Int32 → Int32 → DT → Option R20
  | 0, _, _, _, _, _, _, _ => none
  | n + 1, x, nu, w, nm, it, rf, D => if nI L ≤ x then K x nu w nm it rf D else (rdI 250 tx x).bind (fun z => if z = 32 then TLi L tx K n (x + 1) nu w nm it rf D else (fX2_endOfToken (nI L) tx x).bind (fun y => (fX2_stands tx nu w nm it rf D.1 D.2.1 D.2.2.1 D.2.2.2.1 D.2.2.2.2.1 D.2.2.2.2.2.1 D.2.2.2.2.2.2.1 D.2.2.2.2.2.2.2.1 D.2.2.2.2.2.2.2.2.1 D.2.2.2.2.2.2.2.2.2.1 D.2.2.2.2.2.2.2.2.2.2.1 D.2.2.2.2.2.2.2.2.2.2.2.1 D.2.2.2.2.2.2.2.2.2.2.2.2.1 D.2.2.2.2.2.2.2.2.2.2.2.2.2 x y : Option R20).bind (fun g => if g.1 = 0 then some ((-10) - x, g.2) else TLi L tx K n y g.2.1 g.2.2.1 g.2.2.2.1 g.2.2.2.2.1 g.2.2.2.2.2.1 g.2.2.2.2.2.2)))
def TL (L : Nat) (tx : Nat → Int32) (K : Int32 → (Nat → Int32) → Int32 → Int32 → Int32 → Int32 → DT → Option R20) (m a : Nat) (nu : Nat → Int32) (w nm it rf : Int32) (D : DT) : Option R20 := TLi L tx K m (nI a) nu w nm it rf D
def STD (tx : Nat → Int32) (nu : Nat → Int32) (w nm it rf : Int32) (D : DT) (s e : Nat) : Option R20 := fX2_stands tx nu w nm it rf D.1 D.2.1 D.2.2.1 D.2.2.2.1 D.2.2.2.2.1 D.2.2.2.2.2.1 D.2.2.2.2.2.2.1 D.2.2.2.2.2.2.2.1 D.2.2.2.2.2.2.2.2.1 D.2.2.2.2.2.2.2.2.2.1 D.2.2.2.2.2.2.2.2.2.2.1 D.2.2.2.2.2.2.2.2.2.2.2.1 D.2.2.2.2.2.2.2.2.2.2.2.2.1 D.2.2.2.2.2.2.2.2.2.2.2.2.2 (nI s) (nI e)
theorem TL_tok {L : Nat} {C : Nat → Nat} {tx mt : Nat → Int32} (hT : TXT L C tx mt) (K : Int32 → (Nat → Int32) → Int32 → Int32 → Int32 → Int32 → DT → Option R20) {s e : Nat} (hs : s < L) (h32 : C s ≠ 32) (hE : EN L C s e) (m : Nat) (nu : Nat → Int32) (w nm it rf : Int32) (D : DT) :
    TL L tx K (m + 1) s nu w nm it rf D = (STD tx nu w nm it rf D s e).bind (fun g => if g.1 = 0 then some ((-10) - nI s, g.2) else TL L tx K m e g.2.1 g.2.2.1 g.2.2.2.1 g.2.2.2.2.1 g.2.2.2.2.2.1 g.2.2.2.2.2.2) := by
  have hL := hT.1
  obtain ⟨hc, -, ht⟩ := hT.2 s hs
  unfold TL
  rw [TLi, if_neg (nI_ge hs (by omega)), rdI_n (by omega) (by decide), bind_some', ht, if_neg (fun z => h32 ((txs_c _ hc).mp z)), endOf_ok hT hs hE, bind_some']
  rfl
theorem TL_sp1 {L : Nat} {C : Nat → Nat} {tx mt : Nat → Int32} (hT : TXT L C tx mt) (K : Int32 → (Nat → Int32) → Int32 → Int32 → Int32 → Int32 → DT → Option R20) (nu : Nat → Int32) (w nm it rf : Int32) (D : DT) {a : Nat} (m : Nat) (ha : a < L) (h : C a = 32) : TL L tx K (m + 1) a nu w nm it rf D = TL L tx K m (a + 1) nu w nm it rf D := by
  have hL := hT.1
  obtain ⟨hc, -, ht⟩ := hT.2 a ha
  unfold TL
  rw [TLi, if_neg (nI_ge ha (by omega)), rdI_n (by omega) (by decide), bind_some', ht, if_pos ((txs_c _ hc).mpr h), nI_1]
theorem TL_sp {L : Nat} {C : Nat → Nat} {tx mt : Nat → Int32} (hT : TXT L C tx mt) (K : Int32 → (Nat → Int32) → Int32 → Int32 → Int32 → Int32 → DT → Option R20) (nu : Nat → Int32) (w nm it rf : Int32) (D : DT) : ∀ (d a s m : Nat), a + d = s → SP L C a s → d < m → TL L tx K m a nu w nm it rf D = TL L tx K (m - d) s nu w nm it rf D := by
  have hL := hT.1
  intro d
  induction d with
  | zero => intro a s m hd _ _; rw [show a = s by omega]; rfl
  | succ d ih =>
    intro a s m hd hS hm
    obtain ⟨m, rfl⟩ : ∃ z, m = z + 1 := ⟨m - 1, by omega⟩
    obtain ⟨h1, h2, h3, h4⟩ := hS
    rw [show m + 1 - (d + 1) = m - d by omega, ← ih (a + 1) s m (by omega) ⟨by omega, h2, fun j j1 j2 => h3 j (by omega) j2, h4⟩ (by omega)]
    exact TL_sp1 hT K nu w nm it rf D m (by omega) (h3 a (by omega) (by omega))
theorem TL_end {L : Nat} (hL : L ≤ 250) (tx : Nat → Int32) (K : Int32 → (Nat → Int32) → Int32 → Int32 → Int32 → Int32 → DT → Option R20) (m : Nat) (nu : Nat → Int32) (w nm it rf : Int32) (D : DT) : TL L tx K (m + 1) L nu w nm it rf D = K (nI L) nu w nm it rf D := by
  unfold TL
  rw [TLi, if_pos (nI_le (Nat.le_refl L) (by omega))]
/-- the class's own walk: byte by byte, past what is ahead of the last token's end -/
def TN (L : Nat) (tx : Nat → Int32) (K : Int32 → (Nat → Int32) → Int32 → Int32 → Int32 → Int32 → DT → Option R20) (m E a : Nat) (nu : Nat → Int32) (w nm it rf : Int32) (D : DT) : Option R20 :=
  fX2_tell_19 (nI L) tx (fun _ x nu w nm it rf d1 d2 d3 d4 d5 d6 d7 d8 d9 d10 d11 d12 d13 d14 => K x nu w nm it rf (d1, d2, d3, d4, d5, d6, d7, d8, d9, d10, d11, d12, d13, d14)) m (nI E) (nI a) nu w nm it rf D.1 D.2.1 D.2.2.1 D.2.2.2.1 D.2.2.2.2.1 D.2.2.2.2.2.1 D.2.2.2.2.2.2.1 D.2.2.2.2.2.2.2.1 D.2.2.2.2.2.2.2.2.1 D.2.2.2.2.2.2.2.2.2.1 D.2.2.2.2.2.2.2.2.2.2.1 D.2.2.2.2.2.2.2.2.2.2.2.1 D.2.2.2.2.2.2.2.2.2.2.2.2.1 D.2.2.2.2.2.2.2.2.2.2.2.2.2
theorem TN_skip {L : Nat} (hL : L ≤ 250) (tx : Nat → Int32) (K : Int32 → (Nat → Int32) → Int32 → Int32 → Int32 → Int32 → DT → Option R20) {E : Nat} (hE : E ≤ L) (nu : Nat → Int32) (w nm it rf : Int32) (D : DT) : ∀ (d a m : Nat), a + d = E → d < m → TN L tx K m E a nu w nm it rf D = TN L tx K (m - d) E E nu w nm it rf D := by
  intro d
  induction d with
  | zero => intro a m hd _; rw [show a = E by omega]; rfl
  | succ d ih =>
    intro a m hd hm
    obtain ⟨m, rfl⟩ : ∃ z, m = z + 1 := ⟨m - 1, by omega⟩
    rw [show m + 1 - (d + 1) = m - d by omega, ← ih (a + 1) m (by omega) (by omega)]
    unfold TN
    rw [fX2_tell_19, if_neg (nI_ge (by omega) (by omega)), if_pos (nI_lt (by omega) (by omega)), nI_1]
theorem TN_sp {L : Nat} {C : Nat → Nat} {tx mt : Nat → Int32} (hT : TXT L C tx mt) (K : Int32 → (Nat → Int32) → Int32 → Int32 → Int32 → Int32 → DT → Option R20) (nu : Nat → Int32) (w nm it rf : Int32) (D : DT) {E a : Nat} (m : Nat) (hE : E ≤ a) (ha : a < L) (h : C a = 32) : TN L tx K (m + 1) E a nu w nm it rf D = TN L tx K m E (a + 1) nu w nm it rf D := by
  have hL := hT.1
  obtain ⟨hc, -, ht⟩ := hT.2 a ha
  unfold TN
  rw [fX2_tell_19, if_neg (nI_ge ha (by omega)), if_neg (nI_nlt hE (by omega)), rdI_n (by omega) (by decide), bind_some', ht, if_pos ((txs_c _ hc).mpr h), nI_1]
theorem TN_tok {L : Nat} {C : Nat → Nat} {tx mt : Nat → Int32} (hT : TXT L C tx mt) (K : Int32 → (Nat → Int32) → Int32 → Int32 → Int32 → Int32 → DT → Option R20) {E s e : Nat} (hEs : E ≤ s) (hs : s < L) (h32 : C s ≠ 32) (hE : EN L C s e) (m : Nat) (nu : Nat → Int32) (w nm it rf : Int32) (D : DT) :
    TN L tx K (m + 1) E s nu w nm it rf D = (STD tx nu w nm it rf D s e).bind (fun g => if g.1 = 0 then some ((-10) - nI s, g.2) else TN L tx K m e (s + 1) g.2.1 g.2.2.1 g.2.2.2.1 g.2.2.2.2.1 g.2.2.2.2.2.1 g.2.2.2.2.2.2) := by
  have hL := hT.1
  obtain ⟨hc, -, ht⟩ := hT.2 s hs
  unfold TN
  rw [fX2_tell_19, if_neg (nI_ge hs (by omega)), if_neg (nI_nlt hEs (by omega)), rdI_n (by omega) (by decide), bind_some', ht, if_neg (fun z => h32 ((txs_c _ hc).mp z)), endOf_ok hT hs hE, bind_some', nI_1]
  rfl
theorem TN_end {L : Nat} (hL : L ≤ 250) (tx : Nat → Int32) (K : Int32 → (Nat → Int32) → Int32 → Int32 → Int32 → Int32 → DT → Option R20) (m E : Nat) (nu : Nat → Int32) (w nm it rf : Int32) (D : DT) : TN L tx K (m + 1) E L nu w nm it rf D = K (nI L) nu w nm it rf D := by
  unfold TN
  rw [fX2_tell_19, if_pos (nI_le (Nat.le_refl L) (by omega))]
theorem TN_TL {L : Nat} {C : Nat → Nat} {tx mt : Nat → Int32} (hT : TXT L C tx mt) (K : Int32 → (Nat → Int32) → Int32 → Int32 → Int32 → Int32 → DT → Option R20) : ∀ (d a m m' E : Nat) (nu : Nat → Int32) (w nm it rf : Int32) (D : DT), L - a ≤ d → a ≤ L → E ≤ a → L - a < m → L - a < m' → TN L tx K m E a nu w nm it rf D = TL L tx K m' a nu w nm it rf D := by
  have hL := hT.1
  intro d
  induction d with
  | zero =>
    intro a m m' E nu w nm it rf D hd ha hE hm hm'
    obtain ⟨m, rfl⟩ : ∃ z, m = z + 1 := ⟨m - 1, by omega⟩
    obtain ⟨m', rfl⟩ : ∃ z, m' = z + 1 := ⟨m' - 1, by omega⟩
    have : a = L := by omega
    subst this
    rw [TN_end hL, TL_end hL]
  | succ d ih =>
    intro a m m' E nu w nm it rf D hd ha hE hm hm'
    obtain ⟨m, rfl⟩ : ∃ z, m = z + 1 := ⟨m - 1, by omega⟩
    obtain ⟨m', rfl⟩ : ∃ z, m' = z + 1 := ⟨m' - 1, by omega⟩
    by_cases c : a = L
    · subst c
      rw [TN_end hL, TL_end hL]
    · have ha' : a < L := by omega
      by_cases h : C a = 32
      · rw [TN_sp hT K nu w nm it rf D m hE ha' h, TL_sp1 hT K nu w nm it rf D m' ha' h]
        exact ih (a + 1) m m' E nu w nm it rf D (by omega) (by omega) (by omega) (by omega) (by omega)
      · obtain ⟨e, hN⟩ := EN_ex (C := C) ha'
        have e1 := hN.1
        have e2 := hN.2.1
        rw [TN_tok hT K hE ha' h hN, TL_tok hT K ha' h hN]
        cases STD tx nu w nm it rf D a e with
        | none => rfl
        | some g =>
          rw [bind_some', bind_some']
          by_cases z : g.1 = 0
          · rw [if_pos z, if_pos z]
          · rw [if_neg z, if_neg z, TN_skip hL tx K e2 _ _ _ _ _ _ (e - (a + 1)) (a + 1) m (by omega) (by omega)]
            exact ih e (m - (e - (a + 1))) m' e _ _ _ _ _ _ (by omega) e2 (Nat.le_refl e) (by omega) (by omega)
/-- the class's end -/
def KF (L : Nat) : Int32 → (Nat → Int32) → Int32 → Int32 → Int32 → Int32 → DT → Option R20 := fun _ nu w nm it rf D => if it = 0 then some ((-10) - nI L, nu, w, nm, it, rf, D) else if w = -1 then (if rf = -1 then some (it, nu, w, nm, it, rf, D) else some ((-1000) - rf, nu, w, nm, it, rf, D)) else some ((-10) - nI L, nu, w, nm, it, rf, D)
theorem tell_TL {L : Nat} {C : Nat → Nat} {tx mt : Nat → Int32} (hT : TXT L C tx mt) (nu : Nat → Int32) (nm : Int32) (D : DT) : fX2_tell (nI L) tx nu nm D.1 D.2.1 D.2.2.1 D.2.2.2.1 D.2.2.2.2.1 D.2.2.2.2.2.1 D.2.2.2.2.2.2.1 D.2.2.2.2.2.2.2.1 D.2.2.2.2.2.2.2.2.1 D.2.2.2.2.2.2.2.2.2.1 D.2.2.2.2.2.2.2.2.2.2.1 D.2.2.2.2.2.2.2.2.2.2.2.1 D.2.2.2.2.2.2.2.2.2.2.2.2.1 D.2.2.2.2.2.2.2.2.2.2.2.2.2 = TL L tx (KF L) fu 0 nu (-1) nm 0 (-1) D :=
  have hL := hT.1
  have h : fX2_tell (nI L) tx nu nm D.1 D.2.1 D.2.2.1 D.2.2.2.1 D.2.2.2.2.1 D.2.2.2.2.2.1 D.2.2.2.2.2.2.1 D.2.2.2.2.2.2.2.1 D.2.2.2.2.2.2.2.2.1 D.2.2.2.2.2.2.2.2.2.1 D.2.2.2.2.2.2.2.2.2.2.1 D.2.2.2.2.2.2.2.2.2.2.2.1 D.2.2.2.2.2.2.2.2.2.2.2.2.1 D.2.2.2.2.2.2.2.2.2.2.2.2.2 = TN L tx (KF L) fu 0 0 nu (-1) nm 0 (-1) D := rfl
  h.trans (TN_TL hT (KF L) L 0 fu fu 0 nu (-1) nm 0 (-1) D (by omega) (by omega) (Nat.le_refl 0) (by show L - 0 < 50000; omega) (by show L - 0 < 50000; omega))
/-- a word is due -/
theorem ST_word {L : Nat} {C : Nat → Nat} {tx mt : Nat → Int32} (hT : TXT L C tx mt) {s e : Nat} (h1 : s < e) (h2 : e ≤ L) (nu : Nat → Int32) (nm it rf : Int32) (D : DT) :
    STD tx nu (-1) nm it rf D s e = if vb C s e = -1 ∨ ¬ (vb C s e = 0 ↔ it = 0) then some (0, nu, -1, nm, it, rf, D) else some (1, nu, vb C s e, 0, it, rf, D) := by
  unfold STD fX2_stands fX2_takesWord
  rw [if_pos rfl, wordAt_ok hT h1 h2, bind_some']
  by_cases c : vb C s e = -1
  · rw [if_pos c, if_pos (Or.inl c)]; rfl
  · rw [if_neg c]
    by_cases c2 : vb C s e = 0
    · by_cases c3 : it = 0
      · rw [if_pos c2, if_pos c3, if_neg (fun z => z.elim c (fun y => y ⟨fun _ => c3, fun _ => c2⟩))]; rfl
      · rw [if_pos c2, if_neg c3, if_pos (Or.inr (fun y => c3 (y.mp c2)))]; rfl
    · by_cases c3 : it = 0
      · rw [if_neg c2, if_pos c3, if_pos (Or.inr (fun y => c2 (y.mpr c3)))]; rfl
      · rw [if_neg c2, if_neg c3, if_neg (fun z => z.elim c (fun y => y ⟨fun h => absurd h c2, fun h => absurd h c3⟩))]; rfl
def nmN (k : Nat) : Nat := [1, 3, 2, 2, 2, 3].getD k 0
theorem nmN_b : ∀ k, k < 6 → 1 ≤ nmN k ∧ nmN k ≤ 3 := by decide
theorem numL_k : ∀ k, k < 6 → rdI 6 (fun j => numL.getD j 0) (nI k) = some (nI (nmN k)) := by decide +kernel
theorem numbers_k : ∀ k, k < 6 → fX7_numbers (nI k) = some (nI (nmN k)) := by decide +kernel
theorem k_m1 : ∀ k, k < 6 → ¬ nI k = -1 := by decide +kernel
def valN (C : Nat → Nat) (s e : Nat) : Nat := if e - s = 2 then 10 * (C s - 48) + (C (s + 1) - 48) else C s - 48
abbrev isN (C : Nat → Nat) (s e : Nat) : Prop := kd (C s) = 2 ∧ e - s ≤ 2
theorem num_m {L : Nat} {C : Nat → Nat} {tx mt : Nat → Int32} (hT : TXT L C tx mt) {a s e : Nat} (hS : SP L C a s) (hs : s < L) (hE : EN L C s e) : fX7_number mt (nI L) (nI a) = some (if isN C s e then nI (valN C s e) else -1, nI e, nI (kd (C s)), nI s, nI (e - s)) := by
  have hL := hT.1
  have kl := kd_le (C s)
  have tk := token_in hT hS hs hE
  obtain ⟨e1, e2, e3, e4⟩ := hE
  unfold fX7_number
  rw [tk, bind_some']
  dsimp only
  by_cases c : kd (C s) = 2
  · have b0 := kd_2.mp c
    rw [if_pos (show nI (kd (C s)) = 2 by rw [c]; rfl)]
    by_cases d : e - s ≤ 2
    · rw [if_pos (show nI (e - s) ≤ 2 from nI_le (b := 2) d (by decide)), byteAt_in hT hs, bind_some', if_pos (show isN C s e from ⟨c, d⟩)]
      unfold valN
      have x1 : nI (C s) - 48 = nI (C s - 48) := pk_sub (b := 48) (by omega)
      by_cases f : e - s = 2
      · have b1 := kd_2.mp (show kd (C (s + 1)) = 2 by rw [(e3 (Or.inr c)).1 (s + 1) (by omega) (by omega)]; exact c)
        rw [if_pos (show nI (e - s) = 2 by rw [f]; rfl), if_pos f, nI_1, byteAt_in hT (by omega), bind_some', x1, show (10 : Int32) = nI 10 from rfl, pk_mul, nI_add, show nI (10 * (C s - 48) + C (s + 1)) - 48 = nI (10 * (C s - 48) + C (s + 1) - 48) from pk_sub (b := 48) (by omega), show 10 * (C s - 48) + C (s + 1) - 48 = 10 * (C s - 48) + (C (s + 1) - 48) by omega]
      · rw [if_neg (show ¬ nI (e - s) = 2 from fun z => f ((nI_eq (b := 2) (by omega) (by decide)).mp z)), if_neg f, x1]
    · rw [if_neg (show ¬ nI (e - s) ≤ 2 from nI_ge (a := 2) (by omega) (by omega)), if_neg (show ¬ isN C s e from fun z => d z.2)]
  · rw [if_neg (show ¬ nI (kd (C s)) = 2 from fun z => c ((nI_eq (b := 2) (by omega) (by decide)).mp z)), if_neg (show ¬ isN C s e from fun z => c z.1)]
theorem num_end {L : Nat} {C : Nat → Nat} {tx mt : Nat → Int32} (hT : TXT L C tx mt) {a : Nat} (hS : SP L C a L) : fX7_number mt (nI L) (nI a) = some (-1, nI L, 0, nI L, 0) := by
  unfold fX7_number
  rw [token_end hT hS, bind_some']
  rfl
/-- a number is due -/
theorem ST_num {L : Nat} {C : Nat → Nat} {tx mt : Nat → Int32} (hT : TXT L C tx mt) {s e : Nat} (hs : s < L) (hE : EN L C s e) {k t : Nat} (hk : k < 6) (ht : t < nmN k) (nu : Nat → Int32) (it rf : Int32) (D : DT) :
    STD tx nu (nI k) (nI t) it rf D s e = if isN C s e then some (1, upd nu t (nI (valN C s e)), nI k, nI (t + 1), it, rf, D) else some (0, nu, nI k, nI t, it, rf, D) := by
  have hL := hT.1
  have nb := nmN_b k hk
  obtain ⟨hc, -, htx⟩ := hT.2 s hs
  obtain ⟨e1, e2, e3, e4⟩ := hE
  unfold STD fX2_stands fX2_takesNumber
  rw [if_neg (k_m1 k hk), numL_k k hk, bind_some', if_neg (nI_ge ht (by omega)), rdI_n (by omega) (by decide), bind_some', htx, fig_c _ hc, bind_some', pk_sub (by omega)]
  by_cases c : kd (C s) = 2
  · have b0 := kd_2.mp c
    rw [decide_eq_true c, if_neg (show ¬ b01 true = 0 by decide)]
    by_cases d : e - s ≤ 2
    · rw [if_pos (show nI (e - s) ≤ 2 from nI_le (b := 2) d (by decide)), if_pos (show isN C s e from ⟨c, d⟩)]
      have t0 : tx s = nI (C s) := by rw [htx, fa_byte_small (by omega)]
      have x1 : nI (C s) - 48 = nI (C s - 48) := pk_sub (b := 48) (by omega)
      have one : ∀ (kx : Int32 → Int32 → Option (Int32 × (Nat → Int32) × Int32)), fX2_takesNumber_26 (nI e) tx kx fu 0 (nI s) = kx (nI (valN C s e)) (nI e) := by
        intro kx
        unfold valN
        by_cases f : e - s = 2
        · obtain ⟨hc1, -, htx1⟩ := hT.2 (s + 1) (by omega)
          have b1 := kd_2.mp (show kd (C (s + 1)) = 2 by rw [(e3 (Or.inr c)).1 (s + 1) (by omega) (by omega)]; exact c)
          have t1 : tx (s + 1) = nI (C (s + 1)) := by rw [htx1, fa_byte_small (by omega)]
          show fX2_takesNumber_26 (nI e) tx kx (49997 + 1 + 1 + 1) 0 (nI s) = _
          rw [fX2_takesNumber_26, if_neg (nI_ge (by omega) (by omega)), rdI_n (by omega) (by decide), bind_some', t0, nI_1, fX2_takesNumber_26, if_neg (nI_ge (by omega) (by omega)), rdI_n (by omega) (by decide), bind_some', t1, nI_1, fX2_takesNumber_26, if_pos (nI_le (by omega) (by omega)), if_pos f, show (10 * 0 + nI (C s) : Int32) = nI (C s) from by rw [show (10 * 0 : Int32) = nI 0 from rfl, nI_add, Nat.zero_add], x1, show (10 : Int32) = nI 10 from rfl, pk_mul, nI_add, show nI (10 * (C s - 48) + C (s + 1)) - 48 = nI (10 * (C s - 48) + C (s + 1) - 48) from pk_sub (b := 48) (by omega), show 10 * (C s - 48) + C (s + 1) - 48 = 10 * (C s - 48) + (C (s + 1) - 48) by omega, show s + 1 + 1 = e by omega]
        · show fX2_takesNumber_26 (nI e) tx kx (49998 + 1 + 1) 0 (nI s) = _
          rw [fX2_takesNumber_26, if_neg (nI_ge (by omega) (by omega)), rdI_n (by omega) (by decide), bind_some', t0, nI_1, fX2_takesNumber_26, if_pos (nI_le (by omega) (by omega)), if_neg f, show (10 * 0 + nI (C s) : Int32) = nI (C s) from by rw [show (10 * 0 : Int32) = nI 0 from rfl, nI_add, Nat.zero_add], x1, show s + 1 = e by omega]
      rw [one, wrI_n (by omega) (by decide), bind_some', nI_1]
      rfl
    · rw [if_neg (show ¬ nI (e - s) ≤ 2 from nI_ge (a := 2) (by omega) (by omega)), if_neg (show ¬ isN C s e from fun z => d z.2)]
      rfl
  · rw [decide_eq_false c, if_pos (show b01 false = 0 from rfl), if_neg (show ¬ isN C s e from fun z => c z.1)]
    rfl
/-- the stop is due -/
theorem ST_stop {L : Nat} {C : Nat → Nat} {tx mt : Nat → Int32} (hT : TXT L C tx mt) {s : Nat} (e : Nat) (hs : s < L) {k : Nat} (hk : k < 6) (nu : Nat → Int32) (it rf : Int32) (D : DT) :
    STD tx nu (nI k) (nI (nmN k)) it rf D s e = if kd (C s) = 3 then (if rf = -1 then (fX2_isTaken nu (nI k) D.1 D.2.1 D.2.2.1 D.2.2.2.1 D.2.2.2.2.1 D.2.2.2.2.2.1 D.2.2.2.2.2.2.1 D.2.2.2.2.2.2.2.1 D.2.2.2.2.2.2.2.2.1 D.2.2.2.2.2.2.2.2.2.1 D.2.2.2.2.2.2.2.2.2.2.1 D.2.2.2.2.2.2.2.2.2.2.2.1 D.2.2.2.2.2.2.2.2.2.2.2.2.1 D.2.2.2.2.2.2.2.2.2.2.2.2.2).bind (fun g => some (1, nu, -1, nI (nmN k), it + 1, if g.1 = 0 then it else rf, g.2)) else some (1, nu, -1, nI (nmN k), it + 1, rf, D)) else some (0, nu, nI k, nI (nmN k), it, rf, D) := by
  have hL := hT.1
  have nb := nmN_b k hk
  obtain ⟨hc, -, htx⟩ := hT.2 s hs
  unfold STD fX2_stands
  rw [if_neg (k_m1 k hk), numL_k k hk, bind_some', if_pos (nI_le (Nat.le_refl _) (by omega)), rdI_n (by omega) (by decide), bind_some', htx]
  by_cases c : kd (C s) = 3
  · rw [if_pos ((tx3_c _ hc).mpr c), if_pos c]
    by_cases d : rf = -1
    · rw [if_pos d, if_pos d]
      cases h : fX2_isTaken nu (nI k) D.1 D.2.1 D.2.2.1 D.2.2.2.1 D.2.2.2.2.1 D.2.2.2.2.2.1 D.2.2.2.2.2.2.1 D.2.2.2.2.2.2.2.1 D.2.2.2.2.2.2.2.2.1 D.2.2.2.2.2.2.2.2.2.1 D.2.2.2.2.2.2.2.2.2.2.1 D.2.2.2.2.2.2.2.2.2.2.2.1 D.2.2.2.2.2.2.2.2.2.2.2.2.1 D.2.2.2.2.2.2.2.2.2.2.2.2.2 with
      | none => rfl
      | some g =>
        rw [bind_some', bind_some']
        by_cases f : g.1 = 0
        · rw [if_pos f, if_pos f]; rfl
        · rw [if_neg f, if_neg f]; rfl
    · rw [if_neg d, if_neg d]; rfl
  · rw [if_neg (fun z => c ((tx3_c _ hc).mp z)), if_neg c]
