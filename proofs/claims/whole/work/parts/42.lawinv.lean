/-! THE LAW: its world and its relation -/
def oB (G : GG) (o : Option ((Nat → Nat) × DT × (Nat → Int32))) : va_W := match o with
  | none => []
  | some x => wX3 G x.1 x.2.1.1 x.2.1.2.1 x.2.1.2.2.1 x.2.1.2.2.2.1 x.2.1.2.2.2.2.1 x.2.1.2.2.2.2.2.1 x.2.1.2.2.2.2.2.2.1 x.2.1.2.2.2.2.2.2.2.1 x.2.1.2.2.2.2.2.2.2.2.1 x.2.1.2.2.2.2.2.2.2.2.2.1 x.2.1.2.2.2.2.2.2.2.2.2.2.1 x.2.1.2.2.2.2.2.2.2.2.2.2.2.1 x.2.1.2.2.2.2.2.2.2.2.2.2.2.2.1 x.2.1.2.2.2.2.2.2.2.2.2.2.2.2.2 x.2.2
def oF (o0 o1 : Option ((Nat → Nat) × DT × (Nat → Int32))) : Nat → Option Nat := fun j => if j = 0 then o0.map (fun x => x.1 0) else if j = 1 then o1.map (fun x => x.1 0) else none
theorem oF_up0 (o0 o1 : Option ((Nat → Nat) × DT × (Nat → Int32))) (x : (Nat → Nat) × DT × (Nat → Int32)) : va_up (oF o0 o1) 0 (some (x.1 0)) = oF (some x) o1 := by
  funext j
  unfold va_up oF
  by_cases c : j = 0
  · rw [if_pos c, if_pos c]; rfl
  · rw [if_neg c, if_neg c, if_neg c]
theorem oF_up1 (o0 o1 : Option ((Nat → Nat) × DT × (Nat → Int32))) (x : (Nat → Nat) × DT × (Nat → Int32)) : va_up (oF o0 o1) 1 (some (x.1 0)) = oF o0 (some x) := by
  funext j
  unfold va_up oF
  by_cases c : j = 1
  · subst c; rw [if_pos rfl, if_neg (by decide), if_pos rfl]; rfl
  · rw [if_neg c, if_neg c, if_neg c]
def RI (o : Option ((Nat → Nat) × DT × (Nat → Int32))) (j : Nat) (ke im : Nat → Int32) : Prop := match o with
  | none => ke j = 0
  | some x => ke j = 1 ∧ RVD x.2.1 x.2.2 (fun t => im (104 * j + t))
theorem RI_keep {o : Option ((Nat → Nat) × DT × (Nat → Int32))} {j : Nat} {ke im ke' im' : Nat → Int32} (h : RI o j ke im) (h1 : ke' j = ke j) (h2 : ∀ t, t < 104 → im' (104 * j + t) = im (104 * j + t)) : RI o j ke' im' := by
  cases o with
  | none => show ke' j = 0; rw [h1]; exact h
  | some x =>
    obtain ⟨k1, k2⟩ := h
    exact ⟨by rw [h1]; exact k1, RV_cong k2 (fun _ _ => rfl) (fun _ _ => rfl) (fun _ _ => rfl) (fun _ _ => rfl) (fun _ _ => rfl) (fun _ _ => rfl) (fun _ _ => rfl) (fun _ _ => rfl) (fun _ _ => rfl) (fun _ _ => rfl) (fun _ _ => rfl) h2⟩
theorem in01 (p : Int32) : ((p < 0 ∨ ¬ p < 2) ∧ fX7_in p 0 1 = some 0) ∨ ∃ j, j < 2 ∧ p = nI j ∧ ¬ p < 0 ∧ p < 2 ∧ vp_in p 2 ∧ fX7_in p 0 1 = some 1 := by
  rcases pk_ix p (n := 2) (by decide) with h | h | ⟨j, hj, rfl⟩
  · exact Or.inl ⟨Or.inl h, by unfold fX7_in; rw [if_pos h]⟩
  · have h2 := (fa_le _ _).mp h
    have h3 : (nI 2).toInt = 2 := rfl
    have h4 : (2 : Int32).toInt = 2 := rfl
    have h5 : (0 : Int32).toInt = 0 := rfl
    have h6 : (1 : Int32).toInt = 1 := rfl
    refine Or.inl ⟨Or.inr (fun z => ?_), ?_⟩
    · have := (fa_lt _ _).mp z; omega
    · unfold fX7_in
      rw [if_neg (fun z => by have := (fa_lt _ _).mp z; omega), if_pos ((fa_lt _ _).mpr (by omega))]
  · refine Or.inr ⟨j, hj, rfl, nI_pos (by omega), nI_lt (b := 2) hj (by decide), nI_in hj (by decide), ?_⟩
    rcases (show j = 0 ∨ j = 1 by omega) with rfl | rfl <;> decide +kernel
theorem M_image (bk im ke q : Nat → Int32) {j : Nat} (hj : j < 2) (h1 : fX7_in (nI j) 0 1 = some 1) : ∃ im', fX7_image bk im ke q (nI j) = some (1, im', upd ke j 1, q) ∧ (∀ t, t < 104 → im' (104 * j + t) = bk t) ∧ ∀ u, (u < 104 * j ∨ 104 * j + 104 ≤ u) → im' u = im u := by
  have h := forI (fun m i (s : Nat → Int32) => fX7_image_16 (nI j) bk (fun _ a => (wrI 2 ke (nI j) (vp_nar .boolean 1)).bind (fun u8 => some ((1, a, u8, q)))) m i s) (fun s => (wrI 2 ke (nI j) (vp_nar .boolean 1)).bind (fun u8 => some ((1, s, u8, q)))) 104 (fun i s => (∀ t, t < i → s (104 * j + t) = bk t) ∧ ∀ u, (u < 104 * j ∨ 104 * j + 104 ≤ u) → s u = im u)
    (fun m s _ => by
      show fX7_image_16 _ _ _ (m + 1) (nI 104) s = _
      rw [fX7_image_16, if_pos (show (104 : Int32) ≤ nI 104 by decide)])
    (fun m i s hi hI => by
      refine ⟨upd s (104 * j + i) (bk i), ⟨fun t ht => ?_, fun u hu => by rw [upd_ne (by omega)]; exact hI.2 u hu⟩, ?_⟩
      · by_cases c : t = i
        · rw [c, upd_at]
        · rw [upd_ne (by omega)]; exact hI.1 t (by omega)
      · show fX7_image_16 _ _ _ (m + 1) (nI i) s = _
        rw [fX7_image_16, if_neg (show ¬ (104 : Int32) ≤ nI i from nI_ge (b := 104) hi (by decide)), rdI_n hi (by decide), bind_some', show (104 * nI j + nI i : Int32) = nI (104 * j + i) from by rw [show (104 : Int32) = nI 104 from rfl, pk_mul, nI_add], wrI_n (by omega) (by decide), bind_some', nI_1])
    fu 0 im (by decide) (by decide) ⟨fun t ht => absurd ht (Nat.not_lt_zero t), fun _ _ => rfl⟩
  obtain ⟨s, ⟨h2, h3⟩, h4⟩ := h
  refine ⟨s, ?_, h2, h3⟩
  unfold fX7_image
  rw [h1, bind_some', if_neg (by decide)]
  refine Eq.trans h4 ?_
  rw [wrI_n hj (by decide), bind_some', show vp_nar .boolean 1 = 1 from rfl]
theorem M_from (bk im ke q : Nat → Int32) {j : Nat} (hj : j < 2) (h1 : fX7_in (nI j) 0 1 = some 1) (hk : ke j = 1) : ∃ bk', fX7_from bk im ke q (nI j) = some (1, bk', q) ∧ ∀ t, t < 104 → bk' t = im (104 * j + t) := by
  have h := forI (fun m i (s : Nat → Int32) => fX7_from_33 (nI j) im (fun _ a => some ((1, a, q))) m i s) (fun s => some ((1, s, q))) 104 (fun i s => ∀ t, t < i → s t = im (104 * j + t))
    (fun m s _ => by
      show fX7_from_33 _ _ _ (m + 1) (nI 104) s = _
      rw [fX7_from_33, if_pos (show (104 : Int32) ≤ nI 104 by decide)])
    (fun m i s hi hI => by
      refine ⟨upd s i (im (104 * j + i)), fun t ht => ?_, ?_⟩
      · by_cases c : t = i
        · rw [c, upd_at]
        · rw [upd_ne c]; exact hI t (by omega)
      · show fX7_from_33 _ _ _ (m + 1) (nI i) s = _
        rw [fX7_from_33, if_neg (show ¬ (104 : Int32) ≤ nI i from nI_ge (b := 104) hi (by decide)), show (104 * nI j + nI i : Int32) = nI (104 * j + i) from by rw [show (104 : Int32) = nI 104 from rfl, pk_mul, nI_add], rdI_n (by omega) (by decide), bind_some', wrI_n hi (by decide), bind_some', nI_1])
    fu 0 bk (by decide) (by decide) (fun t ht => absurd ht (Nat.not_lt_zero t))
  obtain ⟨s, h2, h4⟩ := h
  refine ⟨s, ?_, h2⟩
  unfold fX7_from
  rw [h1, bind_some', if_neg (by decide), rdI_n hj (by decide), bind_some', hk, if_neg (by decide)]
  exact h4
theorem M_from0 (bk im ke : Nat → Int32) {rb rn rf : Int32} {q : Nat → Int32} (hc : RC rb rn rf q) {j : Nat} (hj : j < 2) (h1 : fX7_in (nI j) 0 1 = some 1) (hk : ke j = 0) : ∃ q', fX7_from bk im ke q (nI j) = some (-3, bk, q') ∧ fX6_counted rb rn rf (-3) = some (-3, rb, rn + 1, rf) ∧ RC rb (rn + 1) rf q' := by
  obtain ⟨k0, k1, k2⟩ := hc
  refine ⟨upd q 1 (q 1 + 1), ?_, rfl, by rw [upd_ne (by decide)]; exact k0, by rw [upd_at, k1], by rw [upd_ne (by decide)]; exact k2⟩
  unfold fX7_from
  rw [h1, bind_some', if_neg (by decide), rdI_n hj (by decide), bind_some', hk, if_pos rfl]
  unfold fX7_refuses
  rw [show rdI 3 q 1 = some (q 1) from rdI_n (n := 3) (j := 1) (by decide) (by decide), bind_some', show wrI 3 q 1 (q 1 + 1) = some (upd q 1 (q 1 + 1)) from wrI_n (n := 3) (j := 1) (by decide) (by decide), bind_some', bind_some']
/-- the law's world, related -/
def LW (G : GG) (A : Nat → Prop) (a va da : Nat → Nat) (ia : Nat) (ta na oa ga wa ma : Nat → Nat) (H : Heap) : Prop :=
  ∃ (a_refusedBad : Int32) (a_refusedNo : Int32) (a_refusedFull : Int32) (va_villages : Int32) (va_woods : Int32) (va_needs : Int32) (va_signs : Int32) (va_temper : Nat → Int32) (va_friend : Nat → Int32) (va_rope : Nat → Int32) (va_hears : Nat → Int32) (va_shut : Nat → Int32) (va_woodBell : Nat → Int32) (va_woodVillage : Nat → Int32) (va_needVillage : Nat → Int32) (va_needWind : Nat → Int32) (va_needSeen : Nat → Int32) (va_sign : Nat → Int32) (da_villages : Int32) (da_woods : Int32) (da_needs : Int32) (da_signs : Int32) (da_temper : Nat → Int32) (da_friend : Nat → Int32) (da_rope : Nat → Int32) (da_hears : Nat → Int32) (da_shut : Nat → Int32) (da_woodBell : Nat → Int32) (da_woodVillage : Nat → Int32) (da_needVillage : Nat → Int32) (da_needWind : Nat → Int32) (da_needSeen : Nat → Int32) (da_sign : Nat → Int32) (ta_length : Int32) (ta_text : Nat → Int32) (ta_number : Nat → Int32) (ta_word : Int32) (ta_numbers : Int32) (ta_items : Int32) (ta_refused : Int32) (na_due : Nat → Int32) (na_rang : Nat → Int32) (na_times : Nat → Int32) (na_last : Nat → Int32) (oa_best : Nat → Int32) (oa_most : Int32) (oa_given : Nat → Int32) (oa_meets : Nat → Int32) (oa_villages : Int32) (ga_path : Nat → Int32) (ga_favoured : Nat → Int32) (ga_villages : Int32) (wa_between : Nat → Int32) (m_book : Nat → Int32) (m_spare : Nat → Int32) (m_images : Nat → Int32) (m_kept : Nat → Int32) (m_text : Nat → Int32) (m_length : Int32) (m_refused : Nat → Int32) (m_items : Nat → Int32) (m_many : Int32) (m_at : Int32) (m_sort : Int32) (m_start : Int32) (m_size : Int32) (m_due : Nat → Int32) (m_rung : Nat → Int32) (m_anywhere : Nat → Int32) (o0 : Option ((Nat → Nat) × DT × (Nat → Int32))) (o1 : Option ((Nat → Nat) × DT × (Nat → Int32))), va_P G.1 vwCl (flat [wX6 G a (va 0) (da 0) ia (ta 0) (na 0) (oa 0) (ga 0) (wa 0) a_refusedBad a_refusedNo a_refusedFull, wX3 G va va_villages va_woods va_needs va_signs va_temper va_friend va_rope va_hears va_shut va_woodBell va_woodVillage va_needVillage va_needWind va_needSeen va_sign, wX3 G da da_villages da_woods da_needs da_signs da_temper da_friend da_rope da_hears da_shut da_woodBell da_woodVillage da_needVillage da_needWind da_needSeen da_sign, wI G ia (oF o0 o1), wX2 G ta ta_length ta_text ta_number ta_word ta_numbers ta_items ta_refused, wX4 G na na_due na_rang na_times na_last, wX1 G oa oa_best oa_most oa_given oa_meets oa_villages, wX0 G ga ga_path ga_favoured ga_villages, wX5 G wa wa_between, wX7 G ma m_book m_spare m_images m_kept m_text m_length m_refused m_items m_many m_at m_sort m_start m_size m_due m_rung m_anywhere, oB G o0, oB G o1]) H ∧ va_D A (flat [wX6 G a (va 0) (da 0) ia (ta 0) (na 0) (oa 0) (ga 0) (wa 0) a_refusedBad a_refusedNo a_refusedFull, wX3 G va va_villages va_woods va_needs va_signs va_temper va_friend va_rope va_hears va_shut va_woodBell va_woodVillage va_needVillage va_needWind va_needSeen va_sign, wX3 G da da_villages da_woods da_needs da_signs da_temper da_friend da_rope da_hears da_shut da_woodBell da_woodVillage da_needVillage da_needWind da_needSeen da_sign, wI G ia (oF o0 o1), wX2 G ta ta_length ta_text ta_number ta_word ta_numbers ta_items ta_refused, wX4 G na na_due na_rang na_times na_last, wX1 G oa oa_best oa_most oa_given oa_meets oa_villages, wX0 G ga ga_path ga_favoured ga_villages, wX5 G wa wa_between, wX7 G ma m_book m_spare m_images m_kept m_text m_length m_refused m_items m_many m_at m_sort m_start m_size m_due m_rung m_anywhere, oB G o0, oB G o1]) ∧ RV va_villages va_woods va_needs va_signs va_temper va_friend va_rope va_hears va_shut va_woodBell va_woodVillage va_needVillage va_needWind va_needSeen va_sign m_book ∧ RC a_refusedBad a_refusedNo a_refusedFull m_refused ∧ RT ta_length ta_text m_length m_text ∧ RI o0 0 m_kept m_images ∧ RI o1 1 m_kept m_images
/-- taken apart once, for all the cases -/
theorem LW_elim {G : GG} {A : Nat → Prop} {a va da : Nat → Nat} {ia : Nat} {ta na oa ga wa ma : Nat → Nat} {H : Heap} {Z : Prop} (hW : LW G A a va da ia ta na oa ga wa ma H)
    (f : ∀ (a_refusedBad : Int32) (a_refusedNo : Int32) (a_refusedFull : Int32) (va_villages : Int32) (va_woods : Int32) (va_needs : Int32) (va_signs : Int32) (va_temper : Nat → Int32) (va_friend : Nat → Int32) (va_rope : Nat → Int32) (va_hears : Nat → Int32) (va_shut : Nat → Int32) (va_woodBell : Nat → Int32) (va_woodVillage : Nat → Int32) (va_needVillage : Nat → Int32) (va_needWind : Nat → Int32) (va_needSeen : Nat → Int32) (va_sign : Nat → Int32) (da_villages : Int32) (da_woods : Int32) (da_needs : Int32) (da_signs : Int32) (da_temper : Nat → Int32) (da_friend : Nat → Int32) (da_rope : Nat → Int32) (da_hears : Nat → Int32) (da_shut : Nat → Int32) (da_woodBell : Nat → Int32) (da_woodVillage : Nat → Int32) (da_needVillage : Nat → Int32) (da_needWind : Nat → Int32) (da_needSeen : Nat → Int32) (da_sign : Nat → Int32) (ta_length : Int32) (ta_text : Nat → Int32) (ta_number : Nat → Int32) (ta_word : Int32) (ta_numbers : Int32) (ta_items : Int32) (ta_refused : Int32) (na_due : Nat → Int32) (na_rang : Nat → Int32) (na_times : Nat → Int32) (na_last : Nat → Int32) (oa_best : Nat → Int32) (oa_most : Int32) (oa_given : Nat → Int32) (oa_meets : Nat → Int32) (oa_villages : Int32) (ga_path : Nat → Int32) (ga_favoured : Nat → Int32) (ga_villages : Int32) (wa_between : Nat → Int32) (m_book : Nat → Int32) (m_spare : Nat → Int32) (m_images : Nat → Int32) (m_kept : Nat → Int32) (m_text : Nat → Int32) (m_length : Int32) (m_refused : Nat → Int32) (m_items : Nat → Int32) (m_many : Int32) (m_at : Int32) (m_sort : Int32) (m_start : Int32) (m_size : Int32) (m_due : Nat → Int32) (m_rung : Nat → Int32) (m_anywhere : Nat → Int32) (o0 : Option ((Nat → Nat) × DT × (Nat → Int32))) (o1 : Option ((Nat → Nat) × DT × (Nat → Int32))), va_P G.1 vwCl (flat [wX6 G a (va 0) (da 0) ia (ta 0) (na 0) (oa 0) (ga 0) (wa 0) a_refusedBad a_refusedNo a_refusedFull, wX3 G va va_villages va_woods va_needs va_signs va_temper va_friend va_rope va_hears va_shut va_woodBell va_woodVillage va_needVillage va_needWind va_needSeen va_sign, wX3 G da da_villages da_woods da_needs da_signs da_temper da_friend da_rope da_hears da_shut da_woodBell da_woodVillage da_needVillage da_needWind da_needSeen da_sign, wI G ia (oF o0 o1), wX2 G ta ta_length ta_text ta_number ta_word ta_numbers ta_items ta_refused, wX4 G na na_due na_rang na_times na_last, wX1 G oa oa_best oa_most oa_given oa_meets oa_villages, wX0 G ga ga_path ga_favoured ga_villages, wX5 G wa wa_between, wX7 G ma m_book m_spare m_images m_kept m_text m_length m_refused m_items m_many m_at m_sort m_start m_size m_due m_rung m_anywhere, oB G o0, oB G o1]) H → va_D A (flat [wX6 G a (va 0) (da 0) ia (ta 0) (na 0) (oa 0) (ga 0) (wa 0) a_refusedBad a_refusedNo a_refusedFull, wX3 G va va_villages va_woods va_needs va_signs va_temper va_friend va_rope va_hears va_shut va_woodBell va_woodVillage va_needVillage va_needWind va_needSeen va_sign, wX3 G da da_villages da_woods da_needs da_signs da_temper da_friend da_rope da_hears da_shut da_woodBell da_woodVillage da_needVillage da_needWind da_needSeen da_sign, wI G ia (oF o0 o1), wX2 G ta ta_length ta_text ta_number ta_word ta_numbers ta_items ta_refused, wX4 G na na_due na_rang na_times na_last, wX1 G oa oa_best oa_most oa_given oa_meets oa_villages, wX0 G ga ga_path ga_favoured ga_villages, wX5 G wa wa_between, wX7 G ma m_book m_spare m_images m_kept m_text m_length m_refused m_items m_many m_at m_sort m_start m_size m_due m_rung m_anywhere, oB G o0, oB G o1]) → RV va_villages va_woods va_needs va_signs va_temper va_friend va_rope va_hears va_shut va_woodBell va_woodVillage va_needVillage va_needWind va_needSeen va_sign m_book → RC a_refusedBad a_refusedNo a_refusedFull m_refused → RT ta_length ta_text m_length m_text → RI o0 0 m_kept m_images → RI o1 1 m_kept m_images → Z) : Z := by
  obtain ⟨a_refusedBad, a_refusedNo, a_refusedFull, va_villages, va_woods, va_needs, va_signs, va_temper, va_friend, va_rope, va_hears, va_shut, va_woodBell, va_woodVillage, va_needVillage, va_needWind, va_needSeen, va_sign, da_villages, da_woods, da_needs, da_signs, da_temper, da_friend, da_rope, da_hears, da_shut, da_woodBell, da_woodVillage, da_needVillage, da_needWind, da_needSeen, da_sign, ta_length, ta_text, ta_number, ta_word, ta_numbers, ta_items, ta_refused, na_due, na_rang, na_times, na_last, oa_best, oa_most, oa_given, oa_meets, oa_villages, ga_path, ga_favoured, ga_villages, wa_between, m_book, m_spare, m_images, m_kept, m_text, m_length, m_refused, m_items, m_many, m_at, m_sort, m_start, m_size, m_due, m_rung, m_anywhere, o0, o1, hP, hD, hR, hc, hT, hI0, hI1⟩ := hW
  exact f a_refusedBad a_refusedNo a_refusedFull va_villages va_woods va_needs va_signs va_temper va_friend va_rope va_hears va_shut va_woodBell va_woodVillage va_needVillage va_needWind va_needSeen va_sign da_villages da_woods da_needs da_signs da_temper da_friend da_rope da_hears da_shut da_woodBell da_woodVillage da_needVillage da_needWind da_needSeen da_sign ta_length ta_text ta_number ta_word ta_numbers ta_items ta_refused na_due na_rang na_times na_last oa_best oa_most oa_given oa_meets oa_villages ga_path ga_favoured ga_villages wa_between m_book m_spare m_images m_kept m_text m_length m_refused m_items m_many m_at m_sort m_start m_size m_due m_rung m_anywhere o0 o1 hP hD hR hc hT hI0 hI1
/-! new cells beside the world -/
theorem D_iff {A : Nat → Prop} {ws : va_W} : va_D A ws ↔ (ws.map Prod.fst).Nodup ∧ ∀ q ∈ ws, A q.1 := by
  constructor
  · intro h
    refine ⟨List.pairwise_iff_getElem.mpr (fun i j hi hj hij e => ?_), fun q hq => ?_⟩
    · rw [List.getElem_map, List.getElem_map] at e
      rw [List.length_map] at hi hj
      have := h.1 i j _ _ (List.getElem?_eq_getElem hi) (List.getElem?_eq_getElem hj) e
      omega
    · obtain ⟨k, hk⟩ := List.mem_iff_getElem?.mp hq
      exact h.2 k q hk
  · rintro ⟨h1, h2⟩
    refine ⟨fun i j p q hi hj e => ?_, fun k q hk => h2 q (List.mem_of_getElem? hk)⟩
    have n := List.pairwise_iff_getElem.mp h1
    obtain ⟨li, ei⟩ := List.getElem?_eq_some_iff.mp hi
    obtain ⟨lj, ej⟩ := List.getElem?_eq_some_iff.mp hj
    rcases Nat.lt_trichotomy i j with c | c | c
    · exact absurd (by rw [List.getElem_map, List.getElem_map, ei, ej]; exact e) (n i j (by rw [List.length_map]; exact li) (by rw [List.length_map]; exact lj) c)
    · exact c
    · exact absurd (by rw [List.getElem_map, List.getElem_map, ei, ej]; exact e.symm) (n j i (by rw [List.length_map]; exact lj) (by rw [List.length_map]; exact li) c)
theorem D_ins {A : Nat → Prop} {xs ys nb : va_W} (h : va_D A (xs ++ ys)) (hn : va_D A nb) (hx : ∀ p ∈ xs ++ ys, ∀ q ∈ nb, p.1 ≠ q.1) : va_D A (xs ++ (nb ++ ys)) := by
  obtain ⟨a1, a2⟩ := D_iff.mp h
  obtain ⟨b1, b2⟩ := D_iff.mp hn
  refine D_iff.mpr ⟨?_, fun q hq => ?_⟩
  · have hp : (xs ++ (nb ++ ys)).Perm (nb ++ (xs ++ ys)) := by
      rw [← List.append_assoc, ← List.append_assoc]
      exact List.Perm.append_right ys List.perm_append_comm
    refine (hp.map Prod.fst).nodup_iff.mpr ?_
    rw [List.map_append]
    refine List.nodup_append.mpr ⟨b1, a1, ?_⟩
    intro u hu v hv e
    obtain ⟨q, hq, rfl⟩ := List.mem_map.mp hu
    obtain ⟨p, hp', rfl⟩ := List.mem_map.mp hv
    exact hx p hp' q hq e.symm
  · rcases List.mem_append.mp hq with h3 | h3
    · exact a2 q (List.mem_append_left _ h3)
    · rcases List.mem_append.mp h3 with h4 | h4
      · exact b2 q h4
      · exact a2 q (List.mem_append_right _ h4)
theorem addN {D : va_G} {cl : List vw_C} {A : Nat → Prop} {Bs Cs C3 : List va_W} {nb xs ys : va_W} {H H1 : Heap} (hP : va_P D cl (flat Bs) H) (hD : va_D A (flat Bs)) (isB : List Nat) (hC : isB.map (fun i => Bs[i]?) = Cs.map some) (hlen : isB.length = C3.length) (hadr : (flat Bs).map Prod.fst = (flat (setB Bs isB C3)).map Prod.fst) (hadC : (flat Cs).map Prod.fst = (flat C3).map Prod.fst)
    (hk : ∀ q : Nat, q < H.size → ¬ va_A (flat Cs) H.size q → H1[q]? = H[q]?) (hF : ∀ q, va_A (flat Cs) H.size q → A q) (hP1 : va_P D cl (flat C3 ++ nb) H1) (hD1 : va_D (va_A (flat Cs) H.size) (flat C3 ++ nb)) (hx : flat (setB Bs isB C3) = xs ++ ys) : va_P D cl (xs ++ (nb ++ ys)) H1 ∧ va_D A (xs ++ (nb ++ ys)) := by
  have hPa : va_P D cl (flat C3) H1 := P_mem.mpr (fun q hq => P_mem.mp hP1 q (List.mem_append_left _ hq))
  have hPb : va_P D cl nb H1 := P_mem.mpr (fun q hq => P_mem.mp hP1 q (List.mem_append_right _ hq))
  have hP2 := joinB hP hD isB hC hlen hk hPa
  have hD2 := D_addr hadr hD
  rw [hx] at hP2 hD2 hadr
  obtain ⟨d1, d2, d3⟩ := D_app hD1
  refine ⟨P_mem.mpr (fun q hq => ?_), D_ins hD2 (d2.weaken (fun k q _ h => hF _ h)) (fun p hp q hq e => ?_)⟩
  · rcases List.mem_append.mp hq with h | h
    · exact P_mem.mp hP2 q (List.mem_append_left _ h)
    · rcases List.mem_append.mp h with h | h
      · exact P_mem.mp hPb q h
      · exact P_mem.mp hP2 q (List.mem_append_right _ h)
  · have hp1 : p.1 ∈ (flat Bs).map Prod.fst := by rw [hadr]; exact List.mem_map_of_mem hp
    obtain ⟨p', hp', e'⟩ := List.mem_map.mp hp1
    have lt : p.1 < H.size := by rw [← e']; exact (P_mem.mp hP p' hp').lt
    obtain ⟨k, hk'⟩ := List.mem_iff_getElem?.mp hq
    rcases d2.2 k q hk' with ⟨k2, e2, h⟩ | h
    · have h3 : q.1 ∈ (flat Cs).map Prod.fst := List.mem_map.mpr ⟨(q.1, e2), List.mem_of_getElem? h, rfl⟩
      rw [hadC] at h3
      obtain ⟨r, hr, er⟩ := List.mem_map.mp h3
      exact d3 r hr q hq er
    · omega
