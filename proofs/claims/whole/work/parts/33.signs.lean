/-! SIGNS taken for two others at once -/
def bothS (si : Nat → Int32) (a b l : Nat) : Int32 := (si a ||| (si b <<< (nI l &&& 31))) &&& 255
def takenS (g : Nat) (si : Nat → Int32) (a b l c : Nat) : Prop := c < g ∧ c ≠ a ∧ c ≠ b ∧ si c = bothS si a b l
theorem signOf_any {g : Nat} {si : Nat → Int32} (hg : g ≤ 6) (p : Int32) : ((∀ i, i < g → ¬ si i = p) ∧ fX3_signOf (nI g) si p = some (-1)) ∨ ∃ c, c < g ∧ si c = p ∧ fX3_signOf (nI g) si p = some (nI c) := by
  by_cases d : ∀ i, i < g → ¬ si i = p
  · exact Or.inl ⟨d, signOf_no hg d⟩
  · have ex : ∃ i, i < g ∧ si i = p := Classical.byContradiction (fun h => d (fun i hi e => h ⟨i, hi, e⟩))
    obtain ⟨i, hi, e, hf⟩ := fb_first (p := fun i => si i = p) ex
    exact Or.inr ⟨i, hi, e, signOf_yes hg hi e hf⟩
theorem nI_m1 {j : Nat} (h : j < 2 ^ 31) : ¬ nI j = -1 := fun z => absurd (nI_pos h) (by rw [z]; decide)
theorem ft_step {g : Nat} {si : Nat → Int32} (hg : g ≤ 6) (hd : ∀ i j, i < g → j < g → si i = si j → i = j) {a b l : Nat} (ha : a < g) (hb : b < g) (hl : l < 4) (m : Nat) :
    ((∀ c, ¬ takenS g si a b l c) ∧ fX3_firstTakenFor_2 (nI a) (nI b) (nI g) si (fun _ => some (-1)) (m + 1) (nI l) = fX3_firstTakenFor_2 (nI a) (nI b) (nI g) si (fun _ => some (-1)) m (nI (l + 1))) ∨ ∃ c, takenS g si a b l c ∧ fX3_firstTakenFor_2 (nI a) (nI b) (nI g) si (fun _ => some (-1)) (m + 1) (nI l) = some (nI (10 * l + c)) := by
  have e0 : fX3_firstTakenFor_2 (nI a) (nI b) (nI g) si (fun _ => some (-1)) (m + 1) (nI l) = (fX3_signOf (nI g) si (bothS si a b l)).bind (fun g4 => (if g4 = -1 then (fX3_firstTakenFor_2 (nI a) (nI b) (nI g) si (fun _ => some (-1)) m (nI (l + 1))) else (if g4 = nI a then (fX3_firstTakenFor_2 (nI a) (nI b) (nI g) si (fun _ => some (-1)) m (nI (l + 1))) else (if g4 = nI b then (fX3_firstTakenFor_2 (nI a) (nI b) (nI g) si (fun _ => some (-1)) m (nI (l + 1))) else some ((10 * nI l) + g4))))) := by
    rw [fX3_firstTakenFor_2, if_neg (show ¬ (3 : Int32) < nI l from nI_nlt (a := 3) (b := l) (by omega) (by decide)), rdI_n (by omega) (by decide), bind_some', rdI_n (by omega) (by decide), bind_some', nI_1]
    rfl
  rw [e0]
  rcases signOf_any (si := si) hg (bothS si a b l) with ⟨h1, h2⟩ | ⟨c, hc, h1, h2⟩
  · left
    refine ⟨fun c hc => h1 c hc.1 hc.2.2.2, ?_⟩
    rw [h2, bind_some', if_pos rfl]
  · have one : ∀ c', takenS g si a b l c' → c' = c := fun c' h => hd c' c h.1 hc (by rw [h.2.2.2, h1])
    rw [h2, bind_some', if_neg (nI_m1 (by omega))]
    by_cases c1 : c = a
    · left
      rw [if_pos (by rw [c1])]
      exact ⟨fun c' hc' => hc'.2.1 ((one c' hc').trans c1), rfl⟩
    · rw [if_neg (fun z => c1 ((nI_eq (by omega) (by omega)).mp z))]
      by_cases c2 : c = b
      · left
        rw [if_pos (by rw [c2])]
        exact ⟨fun c' hc' => hc'.2.2.1 ((one c' hc').trans c2), rfl⟩
      · right
        refine ⟨c, ⟨hc, c1, c2, h1⟩, ?_⟩
        rw [if_neg (fun z => c2 ((nI_eq (by omega) (by omega)).mp z)), show (10 : Int32) = nI 10 from rfl, pk_mul, nI_add]
theorem ft_no {g : Nat} {si : Nat → Int32} (hg : g ≤ 6) (hd : ∀ i j, i < g → j < g → si i = si j → i = j) {a b : Nat} (ha : a < g) (hb : b < g) (h : ∀ l c, l < 4 → ¬ takenS g si a b l c) : fX3_firstTakenFor (nI g) si (nI a) (nI b) = some (-1) := by
  unfold fX3_firstTakenFor
  exact forR (fun m i (_ : Unit) => fX3_firstTakenFor_2 (nI a) (nI b) (nI g) si (fun _ => some (-1)) m i) 4 (fun _ _ => True) _
    (fun m s _ => by
      show fX3_firstTakenFor_2 _ _ _ _ _ (m + 1) (nI 4) = _
      rw [fX3_firstTakenFor_2, if_pos (show (3 : Int32) < nI 4 from by decide)])
    (fun m l s hl _ => by
      rcases ft_step hg hd ha hb hl m with ⟨_, e⟩ | ⟨c, hc, _⟩
      · exact Or.inr ⟨(), trivial, e⟩
      · exact absurd hc (h l c hl))
    fu 0 () (by decide) (by decide) trivial
theorem ft_yes {g : Nat} {si : Nat → Int32} (hg : g ≤ 6) (hd : ∀ i j, i < g → j < g → si i = si j → i = j) {a b l0 c0 : Nat} (ha : a < g) (hb : b < g) (hl0 : l0 < 4) (hc0 : takenS g si a b l0 c0) (h : ∀ l c, l < l0 → ¬ takenS g si a b l c) : fX3_firstTakenFor (nI g) si (nI a) (nI b) = some (nI (10 * l0 + c0)) := by
  unfold fX3_firstTakenFor
  exact forR (fun m i (_ : Unit) => fX3_firstTakenFor_2 (nI a) (nI b) (nI g) si (fun _ => some (-1)) m i) 4 (fun l _ => l ≤ l0) _
    (fun m s hI => absurd hI (by omega))
    (fun m l s hl hI => by
      rcases ft_step hg hd ha hb hl m with ⟨h1, e⟩ | ⟨c, hc, e⟩
      · have : l ≠ l0 := fun z => h1 c0 (z ▸ hc0)
        exact Or.inr ⟨(), by omega, e⟩
      · have : l = l0 := by
          rcases Nat.lt_or_ge l l0 with q | q
          · exact absurd hc (h l c q)
          · omega
        subst this
        have : c = c0 := hd c c0 hc.1 hc0.1 (by rw [hc.2.2.2, hc0.2.2.2])
        subst this
        exact Or.inl e)
    fu 0 () (by decide) (by decide) (Nat.zero_le l0)
theorem dec_ok {g a b l c : Nat} (hg : g ≤ 6) (ha : a < g) (hb : b < g) (hl : l < 4) (hc : c < 6) : (24 * (g * a + b) + 6 * l + c) / (24 * g) = a ∧ (24 * (g * a + b) + 6 * l + c) / 24 % g = b ∧ (24 * (g * a + b) + 6 * l + c) / 6 % 4 = l ∧ (24 * (g * a + b) + 6 * l + c) % 6 = c ∧ 24 * (g * a + b) + 6 * l + c < 24 * g * g := by
  rcases (show g = 1 ∨ g = 2 ∨ g = 3 ∨ g = 4 ∨ g = 5 ∨ g = 6 by omega) with rfl | rfl | rfl | rfl | rfl | rfl <;> omega
theorem enc_ok {g x : Nat} (hg : g ≤ 6) (hx : x < 24 * g * g) : x / (24 * g) < g ∧ x / 24 % g < g ∧ x = 24 * (g * (x / (24 * g)) + x / 24 % g) + 6 * (x / 6 % 4) + x % 6 := by
  rcases (show g = 0 ∨ g = 1 ∨ g = 2 ∨ g = 3 ∨ g = 4 ∨ g = 5 ∨ g = 6 by omega) with rfl | rfl | rfl | rfl | rfl | rfl | rfl
  · simp at hx
  all_goals omega
theorem lex_ok {g a b l c a0 b0 l0 c0 : Nat} (hg : g ≤ 6) (hb : b < g) (hl : l < 4) (hc : c < 6) (h : a < a0 ∨ (a = a0 ∧ (b < b0 ∨ (b = b0 ∧ l < l0)))) (hb0 : b0 < g) : 24 * (g * a + b) + 6 * l + c < 24 * (g * a0 + b0) + 6 * l0 + c0 := by
  rcases (show g = 1 ∨ g = 2 ∨ g = 3 ∨ g = 4 ∨ g = 5 ∨ g = 6 by omega) with rfl | rfl | rfl | rfl | rfl | rfl <;> omega
theorem P_clearSigns {vi wo ne sg : Int32} {te fr ro he sh wb wv nv nw ns si bk : Nat → Int32} (hR : RV vi wo ne sg te fr ro he sh wb wv nv nw ns si bk) :
    ∃ r, fX6_clearSigns sg si = some r ∧ fX7_clearSigns bk = some r := by
  obtain ⟨n, w, k, g, hN, rfl, rfl, rfl, rfl, hV, hB⟩ := id hR
  have hg : g ≤ 6 := hN.2.2.2.2
  have hd := hV.2.2.2.2.2.2.2.2.2.2.2
  have hs := hB.2.2.2.2.2.2.2.2.2.2
  have bg : 24 * g * g ≤ 864 := by
    rcases (show g = 0 ∨ g = 1 ∨ g = 2 ∨ g = 3 ∨ g = 4 ∨ g = 5 ∨ g = 6 by omega) with rfl | rfl | rfl | rfl | rfl | rfl | rfl <;> decide
  let pm : Nat → Prop := fun x => takenS g si (x / (24 * g)) (x / 24 % g) (x / 6 % 4) (x % 6)
  have step : ∀ (m x : Nat), x < 24 * g * g → (pm x → fX7_clearSigns_9 bk (nI g) (fun _ => some (-1)) (m + 1) (nI x) = some (nI (1000 * (x / (24 * g)) + 100 * (x / 24 % g) + 10 * (x / 6 % 4) + x % 6))) ∧ (¬ pm x → fX7_clearSigns_9 bk (nI g) (fun _ => some (-1)) (m + 1) (nI x) = fX7_clearSigns_9 bk (nI g) (fun _ => some (-1)) m (nI (x + 1))) := by
    intro m x hx
    have g0 : 0 < g := by
      rcases Nat.eq_zero_or_pos g with z | z
      · subst z; simp at hx
      · exact z
    obtain ⟨ha, hb, -⟩ := enc_ok hg hx
    have d1 : dvI (nI x) (24 * nI g) = some (nI (x / (24 * g))) := by
      unfold dvI
      rw [show (24 : Int32) = nI 24 from rfl, pk_mul, if_neg (nI_ne0 (by omega) (by omega)), pk_div (by omega) (by omega) (by omega)]
    have d2 : dvI (nI x) 24 = some (nI (x / 24)) := by
      unfold dvI
      rw [show (24 : Int32) = nI 24 from rfl, if_neg (by decide), pk_div (by omega) (by decide) (by decide)]
    have d3 : rmI (nI (x / 24)) (nI g) = some (nI (x / 24 % g)) := by
      unfold rmI
      rw [if_neg (nI_ne0 (by omega) (by omega)), pk_rem (by omega) (by omega) (by omega)]
    have d4 : dvI (nI x) 6 = some (nI (x / 6)) := by
      unfold dvI
      rw [show (6 : Int32) = nI 6 from rfl, if_neg (by decide), pk_div (by omega) (by decide) (by decide)]
    have d5 : rmI (nI (x / 6)) 4 = some (nI (x / 6 % 4)) := by
      unfold rmI
      rw [show (4 : Int32) = nI 4 from rfl, if_neg (by decide), pk_rem (by omega) (by decide) (by decide)]
    have d6 : rmI (nI x) 6 = some (nI (x % 6)) := by
      unfold rmI
      rw [show (6 : Int32) = nI 6 from rfl, if_neg (by decide), pk_rem (by omega) (by decide) (by decide)]
    have le : ¬ (24 * nI g) * nI g ≤ nI x := by
      rw [show (24 : Int32) = nI 24 from rfl, pk_mul, pk_mul]
      exact nI_ge hx (by omega)
    have e0 : fX7_clearSigns_9 bk (nI g) (fun _ => some (-1)) (m + 1) (nI x) = (if nI g ≤ nI (x % 6) then (fX7_clearSigns_9 bk (nI g) (fun _ => some (-1)) m (nI (x + 1))) else (if nI (x % 6) = nI (x / (24 * g)) then (fX7_clearSigns_9 bk (nI g) (fun _ => some (-1)) m (nI (x + 1))) else (if nI (x % 6) = nI (x / 24 % g) then (fX7_clearSigns_9 bk (nI g) (fun _ => some (-1)) m (nI (x + 1))) else (rdI 104 bk (98 + nI (x % 6))).bind (fun z14 => (if z14 = bothS si (x / (24 * g)) (x / 24 % g) (x / 6 % 4) then some ((((1000 * nI (x / (24 * g))) + (100 * nI (x / 24 % g))) + (10 * nI (x / 6 % 4))) + nI (x % 6)) else (fX7_clearSigns_9 bk (nI g) (fun _ => some (-1)) m (nI (x + 1)))))))) := by
      rw [fX7_clearSigns_9, if_neg le, d1, bind_some', d2, bind_some', d3, bind_some', d4, bind_some', d5, bind_some', d6, bind_some', show (98 + nI (x / (24 * g))) = nI (98 + x / (24 * g)) from by rw [show (98 : Int32) = nI 98 from rfl, nI_add], rdI_n (by omega) (by decide), bind_some', hs _ ha, show (98 + nI (x / 24 % g)) = nI (98 + x / 24 % g) from by rw [show (98 : Int32) = nI 98 from rfl, nI_add], rdI_n (by omega) (by decide), bind_some', hs _ hb, nI_1]
      rfl
    rw [e0]
    have lc : x % 6 < 6 := Nat.mod_lt _ (by decide)
    refine ⟨fun hp => ?_, fun hp => ?_⟩
    · obtain ⟨p1, p2, p3, p4⟩ := hp
      rw [if_neg (nI_ge p1 (by omega)), if_neg (fun z => p2 ((nI_eq (by omega) (by omega)).mp z)), if_neg (fun z => p3 ((nI_eq (by omega) (by omega)).mp z)), show (98 + nI (x % 6)) = nI (98 + x % 6) from by rw [show (98 : Int32) = nI 98 from rfl, nI_add], rdI_n (by omega) (by decide), bind_some', hs _ p1, if_pos p4]
      rw [show (1000 : Int32) = nI 1000 from rfl, show (100 : Int32) = nI 100 from rfl, show (10 : Int32) = nI 10 from rfl, pk_mul, pk_mul, pk_mul, nI_add, nI_add, nI_add]
    · by_cases p1 : x % 6 < g
      · rw [if_neg (nI_ge p1 (by omega))]
        by_cases p2 : x % 6 = x / (24 * g)
        · rw [if_pos (by rw [p2])]
        · rw [if_neg (fun z => p2 ((nI_eq (by omega) (by omega)).mp z))]
          by_cases p3 : x % 6 = x / 24 % g
          · rw [if_pos (by rw [p3])]
          · rw [if_neg (fun z => p3 ((nI_eq (by omega) (by omega)).mp z)), show (98 + nI (x % 6)) = nI (98 + x % 6) from by rw [show (98 : Int32) = nI 98 from rfl, nI_add], rdI_n (by omega) (by decide), bind_some', hs _ p1, if_neg (fun z => hp ⟨p1, p2, p3, z⟩)]
      · rw [if_pos (nI_le (by omega) (by omega))]
  have ext : ∀ m, fX7_clearSigns_9 bk (nI g) (fun _ => some (-1)) (m + 1) (nI (24 * g * g)) = some (-1) := by
    intro m
    rw [fX7_clearSigns_9, show (24 : Int32) = nI 24 from rfl, pk_mul, pk_mul, if_pos (nI_le (Nat.le_refl _) (by omega))]
  have out : ∀ m, ∀ kx : Int32 → Option Int32, ∀ a, fX6_clearSigns_15 (nI g) si (nI a) kx (m + 1) (nI g) = kx (nI g) := by
    intro m kx a
    rw [fX6_clearSigns_15, if_pos (nI_le (Nat.le_refl g) (by omega))]
  by_cases ex : ∃ x, x < 24 * g * g ∧ pm x
  · obtain ⟨x0, hx0, hp0, hf0⟩ := @fb_first pm (fun _ => Classical.propDecidable _) _ ex
    obtain ⟨ha0, hb0, enc⟩ := enc_ok hg hx0
    have lc0 : x0 % 6 < 6 := Nat.mod_lt _ (by decide)
    have ll0 : x0 / 6 % 4 < 4 := Nat.mod_lt _ (by decide)
    have before : ∀ a b l c, a < g → b < g → l < 4 → (a < x0 / (24 * g) ∨ (a = x0 / (24 * g) ∧ (b < x0 / 24 % g ∨ (b = x0 / 24 % g ∧ l < x0 / 6 % 4)))) → ¬ takenS g si a b l c := by
      intro a b l c ha hb hl hlex ht
      have hc6 : c < 6 := by have := ht.1; omega
      have hlt := lex_ok (g := g) (a0 := x0 / (24 * g)) (b0 := x0 / 24 % g) (l0 := x0 / 6 % 4) (c0 := x0 % 6) hg hb hl hc6 hlex hb0
      rw [← enc] at hlt
      obtain ⟨e1, e2, e3, e4, e5⟩ := dec_ok hg ha hb hl hc6
      refine hf0 _ hlt ?_
      show takenS g si _ _ _ _
      rw [e1, e2, e3, e4]; exact ht
    refine ⟨nI (1000 * (x0 / (24 * g)) + 100 * (x0 / 24 % g) + 10 * (x0 / 6 % 4) + x0 % 6), ?_, ?_⟩
    · unfold fX6_clearSigns
      exact forR (fun m i (_ : Unit) => fX6_clearSigns_2 (nI g) si (fun _ => some (-1)) m i) g (fun a _ => a ≤ x0 / (24 * g)) _
        (fun m s hI => absurd hI (by omega))
        (fun m a s ha hI => by
          have e1 : fX6_clearSigns_2 (nI g) si (fun _ => some (-1)) (m + 1) (nI a) = fX6_clearSigns_15 (nI g) si (nI a) (fun _ => fX6_clearSigns_2 (nI g) si (fun _ => some (-1)) m (nI (a + 1))) fu 0 := by
            rw [fX6_clearSigns_2, if_neg (nI_ge ha (by omega)), nI_1]
          show fX6_clearSigns_2 (nI g) si (fun _ => some (-1)) (m + 1) (nI a) = _ ∨ _
          by_cases ea : a = x0 / (24 * g)
          · left
            rw [e1]
            exact forR (fun m' i (_ : Unit) => fX6_clearSigns_15 (nI g) si (nI a) (fun _ => fX6_clearSigns_2 (nI g) si (fun _ => some (-1)) m (nI (a + 1))) m' i) g (fun b _ => b ≤ x0 / 24 % g) _
              (fun m' s hI => absurd hI (by omega))
              (fun m' b s hb hI => by
                show fX6_clearSigns_15 _ _ _ _ (m' + 1) (nI b) = _ ∨ _
                by_cases eb : b = x0 / 24 % g
                · left
                  have hp0' : takenS g si a b (x0 / 6 % 4) (x0 % 6) := by rw [ea, eb]; exact hp0
                  rw [fX6_clearSigns_15, if_neg (nI_ge hb (by omega)), ft_yes hg hd ha hb ll0 hp0' (fun l c hl => before a b l c ha hb (by omega) (Or.inr ⟨ea, Or.inr ⟨eb, hl⟩⟩)), bind_some', if_neg (nI_m1 (by omega)), ea, eb, show (1000 : Int32) = nI 1000 from rfl, show (100 : Int32) = nI 100 from rfl, pk_mul, pk_mul, nI_add, nI_add, Nat.add_assoc _ (10 * _) _]
                · right
                  refine ⟨(), by omega, ?_⟩
                  show fX6_clearSigns_15 _ _ _ _ (m' + 1) (nI b) = _
                  rw [fX6_clearSigns_15, if_neg (nI_ge hb (by omega)), ft_no hg hd ha hb (fun l c hl => before a b l c ha hb hl (Or.inr ⟨ea, Or.inl (by omega)⟩)), bind_some', if_pos rfl, nI_1])
              fu 0 () (Nat.zero_le g) (by show g - 0 < 50000; omega) (Nat.zero_le _)
          · right
            refine ⟨(), by omega, ?_⟩
            show fX6_clearSigns_2 (nI g) si (fun _ => some (-1)) (m + 1) (nI a) = _
            rw [e1]
            exact forR (fun m' i (_ : Unit) => fX6_clearSigns_15 (nI g) si (nI a) (fun _ => fX6_clearSigns_2 (nI g) si (fun _ => some (-1)) m (nI (a + 1))) m' i) g (fun _ _ => True) _
              (fun m' s _ => out m' _ a)
              (fun m' b s hb _ => Or.inr ⟨(), trivial, by
                show fX6_clearSigns_15 _ _ _ _ (m' + 1) (nI b) = _
                rw [fX6_clearSigns_15, if_neg (nI_ge hb (by omega)), ft_no hg hd ha hb (fun l c hl => before a b l c ha hb hl (Or.inl (by omega))), bind_some', if_pos rfl, nI_1]⟩)
              fu 0 () (Nat.zero_le g) (by show g - 0 < 50000; omega) trivial)
        fu 0 () (Nat.zero_le g) (by show g - 0 < 50000; omega) (Nat.zero_le _)
    · unfold fX7_clearSigns
      rw [rdB3, bind_some', hB.1.2.2.2]
      exact forR (fun m i (_ : Unit) => fX7_clearSigns_9 bk (nI g) (fun _ => some (-1)) m i) (24 * g * g) (fun x _ => x ≤ x0) _
        (fun m s hI => absurd hI (by omega))
        (fun m x s hx hI => by
          by_cases e : x = x0
          · left; rw [e]; exact (step m x0 hx0).1 hp0
          · right; exact ⟨(), by omega, (step m x hx).2 (hf0 x (by omega))⟩)
        fu 0 () (Nat.zero_le _) (by show 24 * g * g - 0 < 50000; omega) (Nat.zero_le _)
  · have no : ∀ a b l c, a < g → b < g → l < 4 → ¬ takenS g si a b l c := by
      intro a b l c ha hb hl ht
      have hc6 : c < 6 := by have := ht.1; omega
      obtain ⟨e1, e2, e3, e4, e5⟩ := dec_ok hg ha hb hl hc6
      refine ex ⟨_, e5, ?_⟩
      show takenS g si _ _ _ _
      rw [e1, e2, e3, e4]; exact ht
    refine ⟨-1, ?_, ?_⟩
    · unfold fX6_clearSigns
      exact forR (fun m i (_ : Unit) => fX6_clearSigns_2 (nI g) si (fun _ => some (-1)) m i) g (fun _ _ => True) _
        (fun m s _ => by
          show fX6_clearSigns_2 _ _ _ (m + 1) (nI g) = _
          rw [fX6_clearSigns_2, if_pos (nI_le (Nat.le_refl g) (by omega))])
        (fun m a s ha _ => Or.inr ⟨(), trivial, by
          show fX6_clearSigns_2 _ _ _ (m + 1) (nI a) = _
          rw [fX6_clearSigns_2, if_neg (nI_ge ha (by omega)), nI_1]
          exact forR (fun m' i (_ : Unit) => fX6_clearSigns_15 (nI g) si (nI a) (fun _ => fX6_clearSigns_2 (nI g) si (fun _ => some (-1)) m (nI (a + 1))) m' i) g (fun _ _ => True) _
            (fun m' s _ => out m' _ a)
            (fun m' b s hb _ => Or.inr ⟨(), trivial, by
              show fX6_clearSigns_15 _ _ _ _ (m' + 1) (nI b) = _
              rw [fX6_clearSigns_15, if_neg (nI_ge hb (by omega)), ft_no hg hd ha hb (fun l c hl => no a b l c ha hb hl), bind_some', if_pos rfl, nI_1]⟩)
            fu 0 () (Nat.zero_le g) (by show g - 0 < 50000; omega) trivial⟩)
        fu 0 () (Nat.zero_le g) (by show g - 0 < 50000; omega) trivial
    · unfold fX7_clearSigns
      rw [rdB3, bind_some', hB.1.2.2.2]
      exact forR (fun m i (_ : Unit) => fX7_clearSigns_9 bk (nI g) (fun _ => some (-1)) m i) (24 * g * g) (fun _ _ => True) _
        (fun m s _ => ext m)
        (fun m x s hx _ => Or.inr ⟨(), trivial, (step m x hx).2 (fun h => ex ⟨x, hx, h⟩)⟩)
        fu 0 () (Nat.zero_le _) (by show 24 * g * g - 0 < 50000; omega) trivial
