/-! READ: all of it -/
theorem nI_m1' {j : Nat} (h : j < 2 ^ 30) : ¬ nI j = -1 := fun z => by
  have := nI_pos (n := j) (by omega)
  rw [z] at this
  exact this (by decide)
theorem NB {L : Nat} {C : Nat → Nat} {tx mt : Nat → Int32} (hT : TXT L C tx mt) {k many : Nat} (hk : k < 6) (hm : many < 62) (rf : Int32) (D : DT) (kx : Int32 → (Nat → Int32) → Int32 → Int32 → Int32 → Int32 → Option (Int32 × (Nat → Int32) × Int32 × Int32 × Int32 × Int32 × Int32)) :
    ∀ (r t a m mm : Nat) (nu I : Nat → Int32) (so st sz : Int32), t + r = nmN k → a ≤ L → L - a < m → r < mm → (∀ j, j < t → I (4 * many + 1 + j) = nu j) →
      (∃ f X Y, f ≤ L ∧ TL L tx (KF L) m a nu (nI k) (nI t) (nI many) rf D = some ((-10) - nI f, X) ∧ fX7_reads_95 mt (nI L) (nI many) (nI k) (nI (4 * many)) kx mm (nI (t + 1)) I (nI a) so st sz = some (0, Y) ∧ Y.2.2.2.2.1 = nI f) ∨
      (∃ a' m' nu' I' so' st' sz', a + r ≤ a' ∧ a' ≤ L ∧ L - a' < m' ∧ TL L tx (KF L) m a nu (nI k) (nI t) (nI many) rf D = TL L tx (KF L) m' a' nu' (nI k) (nI (nmN k)) (nI many) rf D ∧ fX7_reads_95 mt (nI L) (nI many) (nI k) (nI (4 * many)) kx mm (nI (t + 1)) I (nI a) so st sz = kx (nI (nmN k + 1)) I' (nI a') so' st' sz' ∧ (∀ j, j < nmN k → I' (4 * many + 1 + j) = nu' j) ∧ ∀ j, j ≤ 4 * many → I' j = I j) := by
  have hL := hT.1
  have nb := nmN_b k hk
  intro r
  induction r with
  | zero =>
    intro t a m mm nu I so st sz htr ha hm1 hm2 hI
    obtain ⟨mm, rfl⟩ : ∃ z, mm = z + 1 := ⟨mm - 1, by omega⟩
    have : t = nmN k := by omega
    subst this
    right
    refine ⟨a, m, nu, I, so, st, sz, by omega, ha, hm1, rfl, ?_, hI, fun _ _ => rfl⟩
    rw [fX7_reads_95, numbers_k k hk, bind_some', if_pos (nI_lt (by omega) (by omega))]
  | succ r ih =>
    intro t a m mm nu I so st sz htr ha hm1 hm2 hI
    obtain ⟨mm, rfl⟩ : ∃ z, mm = z + 1 := ⟨mm - 1, by omega⟩
    obtain ⟨s, hS⟩ := SP_ex L C (L - a) a (by omega)
    have hS1 := hS.1
    have hS2 := hS.2.1
    rw [TL_sp hT (KF L) nu (nI k) (nI t) (nI many) rf D (s - a) a s m (by omega) hS (by omega)]
    obtain ⟨m1, em⟩ : ∃ z, m - (s - a) = z + 1 := ⟨m - (s - a) - 1, by omega⟩
    rw [em, fX7_reads_95, numbers_k k hk, bind_some', if_neg (nI_nlt (by omega) (by omega)), nI_add, show 4 * many + (t + 1) = 4 * many + 1 + t by omega, nI_1]
    by_cases c : s < L
    · obtain ⟨e, hE⟩ := EN_ex (C := C) c
      have e1 := hE.1
      have e2 := hE.2.1
      rw [TL_tok hT (KF L) c (hS.2.2.2 c) hE, ST_num hT c hE hk (by omega), num_m hT hS c hE, bind_some']
      by_cases d : isN C s e
      · rw [if_pos d, if_pos d, bind_some', if_neg (show ¬ (1 : Int32) = 0 by decide), wrI_n (by omega) (by decide), bind_some', rdI_n (by omega) (by decide), bind_some', upd_at]
        have vb : valN C s e < 2 ^ 30 := by
          have b0 := kd_2.mp d.1
          unfold valN
          split
          · rename_i f
            have b1 := kd_2.mp (show kd (C (s + 1)) = 2 by rw [(hE.2.2.1 (Or.inr d.1)).1 (s + 1) (by omega) (by omega)]; exact d.1)
            omega
          · omega
        rw [if_neg (show ¬ nI (valN C s e) = -1 from nI_m1' vb)]
        rcases ih (t + 1) e m1 mm (upd nu t (nI (valN C s e))) (upd I (4 * many + 1 + t) (nI (valN C s e))) (nI (kd (C s))) (nI s) (nI (e - s)) (by omega) e2 (by omega) (by omega) (fun j hj => by
          by_cases f : j = t
          · subst f; rw [upd_at, upd_at]
          · rw [upd_ne (by omega), upd_ne (by omega)]; exact hI j (by omega)) with ⟨f, X, Y, x1, x2, x3, x4⟩ | ⟨a', m', nu', I', so', st', sz', x1, x2, x3, x4, x5, x6, x7⟩
        · exact Or.inl ⟨f, X, Y, x1, x2, x3, x4⟩
        · exact Or.inr ⟨a', m', nu', I', so', st', sz', by omega, x2, x3, x4, x5, x6, fun j hj => by rw [x7 j hj, upd_ne (by omega)]⟩
      · left
        rw [if_neg d, if_neg d, bind_some', if_pos rfl, wrI_n (by omega) (by decide), bind_some', rdI_n (by omega) (by decide), bind_some', upd_at, if_pos rfl]
        exact ⟨s, _, _, by omega, rfl, rfl, rfl⟩
    · have : s = L := by omega
      subst this
      left
      rw [TL_end hL, num_end hT hS, bind_some', wrI_n (by omega) (by decide), bind_some', rdI_n (by omega) (by decide), bind_some', upd_at, if_pos rfl]
      unfold KF
      by_cases d : nI many = 0
      · rw [if_pos d]; exact ⟨s, _, _, by omega, rfl, rfl, rfl⟩
      · rw [if_neg d, if_neg (k_m1 k hk)]; exact ⟨s, _, _, by omega, rfl, rfl, rfl⟩
def kxR : (Nat → Int32) → Int32 → Int32 → Int32 → Int32 → Int32 → Option (Int32 × (Nat → Int32) × Int32 × Int32 × Int32 × Int32 × Int32) := fun a b c d e f => some ((1, a, b, c, d, e, f))
theorem JT {L : Nat} {C : Nat → Nat} {tx mt : Nat → Int32} (hT : TXT L C tx mt) (bk0 si : Nat → Int32) :
    ∀ (d s m mm many : Nat) (I nu : Nat → Int32) (nm rf : Int32) (D : DT) (la : Int32 × Int32 × Int32 × Int32), L - s ≤ d → s ≤ L → (s < L → C s ≠ 32) → LA L C s la → 6 * many ≤ s → L - s < m → L - s < mm → PRE bk0 I many rf D si →
      (∃ f X Y, f ≤ L ∧ TL L tx (KF L) m s nu (-1) nm (nI many) rf D = some ((-10) - nI f, X) ∧ fX7_reads_14 mt (nI L) kxR mm I (nI many) la.1 la.2.1 la.2.2.1 la.2.2.2 = some (0, Y) ∧ Y.2.2.2.2.1 = nI f) ∨
      (∃ M I' rf' X Y, 0 < M ∧ M < 62 ∧ TL L tx (KF L) m s nu (-1) nm (nI many) rf D = some (if rf' = -1 then nI M else (-1000) - rf', X) ∧ fX7_reads_14 mt (nI L) kxR mm I (nI many) la.1 la.2.1 la.2.2.1 la.2.2.2 = some (1, I', nI M, Y) ∧ PRE bk0 I' M rf' X.2.2.2.2.2 si) := by
  have hL := hT.1
  intro d
  induction d with
  | zero =>
    intro s m mm many I nu nm rf D la hd hsL h32 hla h6 hm1 hm2 hP
    have : s = L := by omega
    subst this
    obtain ⟨m, rfl⟩ : ∃ z, m = z + 1 := ⟨m - 1, by omega⟩
    obtain ⟨mm, rfl⟩ : ∃ z, mm = z + 1 := ⟨mm - 1, by omega⟩
    rcases hla with ⟨-, rfl⟩ | ⟨h, -⟩
    · rw [TL_end hL, fX7_reads_14]
      unfold KF
      by_cases c : many = 0
      · left
        subst c
        refine ⟨s, _, (I, nI 0, nI s, 0, nI s, 0), Nat.le_refl s, if_pos rfl, ?_, rfl⟩
        · rw [if_pos (show nI 0 = 0 from rfl)]
          unfold fX7_reads_J28
          have v0 : fX7_verb mt (nI s) 0 (nI s) 0 = some (-1) := by
            unfold fX7_verb
            show fX7_verb_4 _ _ _ _ _ _ (49999 + 1) 0 0 = _
            rw [fX7_verb_4, if_pos (by decide)]
            rfl
          rw [show fX7_verb mt (nI s) (nI s, (0 : Int32), nI s, (0 : Int32)).2.1 (nI s, (0 : Int32), nI s, (0 : Int32)).2.2.1 (nI s, (0 : Int32), nI s, (0 : Int32)).2.2.2 = some (-1) from v0, bind_some', if_pos rfl]
      · right
        have nz : ¬ nI many = 0 := nI_ne0 (by omega) (by omega)
        rw [if_neg nz, if_pos rfl, if_neg nz, if_pos rfl]
        refine ⟨many, I, rf, (nu, -1, nm, nI many, rf, D), _, by omega, by omega, ?_, rfl, hP⟩
        split <;> rfl
    · omega
  | succ d ih =>
    intro s m mm many I nu nm rf D la hd hsL h32 hla h6 hm1 hm2 hP
    rcases hla with ⟨rfl, rfl⟩ | ⟨hs, e, hE, rfl⟩
    · exact ih s m mm many I nu nm rf D _ (by omega) hsL h32 (Or.inl ⟨rfl, rfl⟩) h6 hm1 hm2 hP
    obtain ⟨m, rfl⟩ : ∃ z, m = z + 1 := ⟨m - 1, by omega⟩
    obtain ⟨mm, rfl⟩ : ∃ z, mm = z + 1 := ⟨mm - 1, by omega⟩
    have e1 := hE.1
    have e2 := hE.2.1
    have kl := kd_le (C s)
    have many62 : many < 62 := by omega
    have rJ : fX7_reads_14 mt (nI L) kxR (mm + 1) I (nI many) (nI e) (nI (kd (C s))) (nI s) (nI (e - s)) = fX7_reads_J28 mt (nI L) (fX7_reads_14 mt (nI L) kxR mm) kxR I (nI many) (nI e) (nI (kd (C s))) (nI s) (nI (e - s)) := by
      rw [fX7_reads_14]
      by_cases c : nI many = 0
      · rw [if_pos c]
      · rw [if_neg c, if_neg (nI_ne0 (by omega) (by omega))]
    rw [TL_tok hT (KF L) hs (h32 hs) hE, ST_word hT e1 e2]
    show (∃ f X Y, f ≤ L ∧ _ = _ ∧ fX7_reads_14 mt (nI L) kxR (mm + 1) I (nI many) (nI e) (nI (kd (C s))) (nI s) (nI (e - s)) = _ ∧ _) ∨ (∃ M I' rf' X Y, 0 < M ∧ M < 62 ∧ _ = _ ∧ fX7_reads_14 mt (nI L) kxR (mm + 1) I (nI many) (nI e) (nI (kd (C s))) (nI s) (nI (e - s)) = _ ∧ _)
    rw [rJ]
    unfold fX7_reads_J28
    rw [verb_ok hT hs hE, bind_some']
    by_cases bad : vb C s e = -1 ∨ ¬ (vb C s e = 0 ↔ nI many = 0)
    · left
      rw [if_pos bad, bind_some', if_pos rfl]
      by_cases c : vb C s e = -1
      · rw [if_pos c]; exact ⟨s, _, _, by omega, rfl, rfl, rfl⟩
      · have c2 : ¬ (vb C s e = 0 ↔ nI many = 0) := bad.elim (fun z => absurd z c) id
        rw [if_neg c]
        by_cases c3 : vb C s e = 0
        · have c4 : ¬ nI many = 0 := fun z => c2 ⟨fun _ => z, fun _ => c3⟩
          rw [if_pos c3, if_neg c4]
          exact ⟨s, _, _, by omega, rfl, rfl, rfl⟩
        · have c4 : nI many = 0 := Classical.byContradiction (fun z => c2 ⟨fun h => absurd h c3, fun h => absurd h z⟩)
          rw [if_neg c3, if_pos c4]
          exact ⟨s, _, _, by omega, rfl, rfl, rfl⟩
    · have c : ¬ vb C s e = -1 := fun z => bad (Or.inl z)
      have ci : vb C s e = 0 ↔ nI many = 0 := Classical.byContradiction (fun z => bad (Or.inr z))
      rw [if_neg bad, bind_some', if_neg (show ¬ (1 : Int32) = 0 by decide), if_neg c]
      rcases vb_b (C := C) (s := s) (e := e) with h | ⟨k, hk, ek, h4⟩
      · exact absurd h c
      have nb := nmN_b k hk
      rw [ek] at ci ⊢
      have ff : (if nI k = 0 then some 1 else some 0 : Option Int32) = (if nI many = 0 then some 1 else some 0) := by
        by_cases z : nI k = 0
        · rw [if_pos z, if_pos (ci.mp z)]
        · rw [if_neg z, if_neg (fun y => z (ci.mpr y))]
      have e5 : ∃ x : Int32, (if nI many = 0 then some 1 else some 0 : Option Int32) = some x := by
        by_cases z : nI many = 0
        · exact ⟨1, if_pos z⟩
        · exact ⟨0, if_neg z⟩
      obtain ⟨x5, e5⟩ := e5
      rw [ff, e5, bind_some', bind_some', if_pos rfl, if_neg (show ¬ 62 ≤ nI many from nI_ge (b := 62) many62 (by decide)), bind_some', show (4 : Int32) * nI many = nI (4 * many) from by rw [show (4 : Int32) = nI 4 from rfl, pk_mul], wrI_n (by omega) (by decide), bind_some']
      rcases NB hT hk many62 rf D (fun x3_95_18 a_items_95_19 a_at_95_20 a_sort_95_21 a_start_95_22 a_size_95_23 => (fX7_token mt (nI L) a_at_95_20).bind (fun g24 => (if g24.2.1 = 3 then (fX7_token mt (nI L) g24.1).bind (fun g26 => (fX7_reads_14 mt (nI L) kxR mm a_items_95_19 (nI many + 1) g26.1 g26.2.1 g26.2.2.1 g26.2.2.2)) else some ((0, a_items_95_19, nI many, g24.1, g24.2.1, g24.2.2.1, g24.2.2.2))))) (nmN k) 0 e m fu nu (upd I (4 * many) (nI k)) (nI (kd (C s))) (nI s) (nI (e - s)) (by omega) e2 (by omega) (by show nmN k < 50000; omega) (fun j hj => absurd hj (Nat.not_lt_zero j)) with ⟨f, X, Y, x1, x2, x3, x4⟩ | ⟨a', m', nu', I', so', st', sz', x1, x2, x3, x4, x5', x6, x7⟩
      · exact Or.inl ⟨f, X, Y, x1, x2, x3, x4⟩
      · have x4' : TL L tx (KF L) m e nu (nI k) 0 (nI many) rf D = _ := x4
        have x5'' : fX7_reads_95 mt (nI L) (nI many) (nI k) (nI (4 * many)) _ fu 1 (upd I (4 * many) (nI k)) (nI e) (nI (kd (C s))) (nI s) (nI (e - s)) = _ := x5'
        rw [x5'']
        show (∃ f X Y, f ≤ L ∧ TL L tx (KF L) m e nu (nI k) 0 (nI many) rf D = _ ∧ _) ∨ (∃ M I' rf' X Y, 0 < M ∧ M < 62 ∧ TL L tx (KF L) m e nu (nI k) 0 (nI many) rf D = _ ∧ _)
        rw [x4']
        obtain ⟨s2, la2, hS2, hla2, tk2⟩ := token_LA hT x2
        have s2a := hS2.1
        have s2b := hS2.2.1
        rw [tk2, bind_some', TL_sp hT (KF L) nu' (nI k) (nI (nmN k)) (nI many) rf D (s2 - a') a' s2 m' (by omega) hS2 (by omega)]
        obtain ⟨m2, em2⟩ : ∃ z, m' - (s2 - a') = z + 1 := ⟨m' - (s2 - a') - 1, by omega⟩
        rw [em2]
        rcases hla2 with ⟨rfl, rfl⟩ | ⟨hs2, ee, hE2, rfl⟩
        · left
          rw [TL_end hL, if_neg (show ¬ (0 : Int32) = 3 by decide)]
          unfold KF
          by_cases z : nI many = 0
          · rw [if_pos z]; exact ⟨s2, _, _, by omega, rfl, rfl, rfl⟩
          · rw [if_neg z, if_neg (k_m1 k hk)]; exact ⟨s2, _, _, by omega, rfl, rfl, rfl⟩
        · have kl2 := kd_le (C s2)
          rw [TL_tok hT (KF L) hs2 (hS2.2.2.2 hs2) hE2, ST_stop hT ee hs2 hk]
          by_cases st : kd (C s2) = 3
          · have ee1 := hE2.1
            have ee2 := hE2.2.1
            rw [if_pos st, if_pos (show nI (kd (C s2)) = 3 by rw [st]; rfl)]
            obtain ⟨s3, la3, hS3, hla3, tk3⟩ := token_LA hT ee2
            have s3a := hS3.1
            have s3b := hS3.2.1
            have eI : ∀ j, j < 4 * many → I' j = I j := fun j hj => by rw [x7 j (by omega), upd_ne (by omega)]
            have eI4 : I' (4 * many) = nI k := by rw [x7 _ (Nat.le_refl _), upd_at]
            have goal : ∃ rf2 D2, ((if rf = -1 then (fX2_isTaken nu' (nI k) D.1 D.2.1 D.2.2.1 D.2.2.2.1 D.2.2.2.2.1 D.2.2.2.2.2.1 D.2.2.2.2.2.2.1 D.2.2.2.2.2.2.2.1 D.2.2.2.2.2.2.2.2.1 D.2.2.2.2.2.2.2.2.2.1 D.2.2.2.2.2.2.2.2.2.2.1 D.2.2.2.2.2.2.2.2.2.2.2.1 D.2.2.2.2.2.2.2.2.2.2.2.2.1 D.2.2.2.2.2.2.2.2.2.2.2.2.2).bind (fun g => some (1, nu', -1, nI (nmN k), nI many + 1, if g.1 = 0 then nI many else rf, g.2)) else some (1, nu', -1, nI (nmN k), nI many + 1, rf, D)) : Option R20) = some (1, nu', -1, nI (nmN k), nI (many + 1), rf2, D2) ∧ PRE bk0 I' (many + 1) rf2 D2 si := by
              rw [nI_1]
              rcases hP with ⟨rfl, hP⟩ | ⟨j, hj, ej, b', r, b2, q1, q2, q3⟩
              · have key : ∃ b', TA I' many bk0 b' ∧ (k ≠ 0 → RVD D si b') := by
                  rcases hP with hP | ⟨b', q1, q2⟩
                  · subst hP
                    refine ⟨bk0, rfl, fun hk0 => ?_⟩
                    exact absurd ((nI_eq (b := 0) (by omega) (by decide)).mp (ci.mpr rfl)) hk0
                  · exact ⟨b', TA_cong (by omega) eI q1, fun _ => q2⟩
                obtain ⟨b', q1, q2⟩ := key
                obtain ⟨r, D', b2, t1, t2, t3⟩ := TK hk nu' D b' si (I' (4 * many + 1)) (I' (4 * many + 2)) (I' (4 * many + 3)) q2 (x6 0 (by omega)) (fun h => x6 1 (by
                  rcases (show k = 1 ∨ k = 2 ∨ k = 3 ∨ k = 4 ∨ k = 5 by omega) with rfl | rfl | rfl | rfl | rfl <;> decide)) (fun h => x6 2 (by
                  rcases h with rfl | rfl <;> decide))
                have tl : fX7_tells b' I' (nI many) = some (r, b2) := by
                  rw [tells_eq b' I' many62, eI4]; exact t2
                rw [if_pos rfl, t1, bind_some']
                by_cases c : r < 0
                · refine ⟨nI many, D', ?_, Or.inr ⟨many, by omega, rfl, b', r, b2, q1, tl, c⟩⟩
                  rw [decide_eq_false (fun z => z c)]; rfl
                · refine ⟨-1, D', ?_, Or.inl ⟨rfl, Or.inr ⟨b2, ⟨b', r, q1, tl, fa_of_nlt c⟩, t3 c⟩⟩⟩
                  rw [decide_eq_true c]; rfl
              · have nj : ¬ rf = -1 := by rw [ej]; exact nI_m1' (by omega)
                rw [if_neg nj]
                exact ⟨rf, D, rfl, Or.inr ⟨j, by omega, ej, b', r, b2, TA_cong (by omega) (fun i hi => eI i (by omega)) q1, by rw [tells_cong b' (by omega) (fun i hi => eI i (by omega))]; exact q2, q3⟩⟩
            obtain ⟨rf2, D2, g1, g2⟩ := goal
            rw [g1, bind_some', if_neg (show ¬ (1 : Int32) = 0 by decide), tk3, bind_some', nI_1]
            show (∃ f X Y, f ≤ L ∧ TL L tx (KF L) m2 ee nu' (-1) (nI (nmN k)) (nI (many + 1)) rf2 D2 = _ ∧ _) ∨ (∃ M I' rf' X Y, 0 < M ∧ M < 62 ∧ TL L tx (KF L) m2 ee nu' (-1) (nI (nmN k)) (nI (many + 1)) rf2 D2 = _ ∧ _)
            rw [TL_sp hT (KF L) nu' (-1) (nI (nmN k)) (nI (many + 1)) rf2 D2 (s3 - ee) ee s3 m2 (by omega) hS3 (by omega)]
            exact ih s3 (m2 - (s3 - ee)) mm (many + 1) I' nu' (nI (nmN k)) rf2 D2 la3 (by omega) s3b hS3.2.2.2 hla3 (by omega) (by omega) (by omega) g2
          · left
            rw [if_neg st, if_neg (show ¬ nI (kd (C s2)) = 3 from fun z => st ((nI_eq (b := 3) (by omega) (by decide)).mp z)), bind_some', if_pos rfl]
            exact ⟨s2, _, _, by omega, rfl, rfl, rfl⟩
/-! the same valley, kept elsewhere -/
theorem shutAt_cong {wb wv wb' wv' : Nat → Int32} (b v : Nat) : ∀ {i : Nat}, (∀ j, j < i → wb' j = wb j ∧ wv' j = wv j) → shutAt wb' wv' b v i = shutAt wb wv b v i
  | 0, _ => rfl
  | i + 1, h => by
    show (shutAt wb' wv' b v i || (decide (wb' i = nI b) && decide (wv' i = nI v))) = (shutAt wb wv b v i || (decide (wb i = nI b) && decide (wv i = nI v)))
    rw [shutAt_cong b v (fun j hj => h j (by omega)), (h i (by omega)).1, (h i (by omega)).2]
theorem RV_cong {vi wo ne sg : Int32} {te fr ro he sh wb wv nv nw ns si bk te' fr' ro' he' sh' wb' wv' nv' nw' ns' si' bk' : Nat → Int32} (hR : RV vi wo ne sg te fr ro he sh wb wv nv nw ns si bk)
    (c1 : ∀ j, j < 6 → te' j = te j) (c2 : ∀ j, j < 6 → fr' j = fr j) (c3 : ∀ j, j < 6 → ro' j = ro j) (c4 : ∀ j, j < 24 → he' j = he j) (c5 : ∀ j, j < 6 → sh' j = sh j) (c6 : ∀ j, j < 8 → wb' j = wb j) (c7 : ∀ j, j < 8 → wv' j = wv j) (c8 : ∀ j, j < 12 → nv' j = nv j) (c9 : ∀ j, j < 12 → nw' j = nw j) (c10 : ∀ j, j < 12 → ns' j = ns j) (c11 : ∀ j, j < 6 → si' j = si j) (c12 : ∀ j, j < 104 → bk' j = bk j) :
    RV vi wo ne sg te' fr' ro' he' sh' wb' wv' nv' nw' ns' si' bk' := by
  obtain ⟨n, w, k, g, hN, rfl, rfl, rfl, rfl, hV, hB⟩ := hR
  obtain ⟨n2, n6, w8, k12, g6⟩ := id hN
  obtain ⟨v1, v2, v3, v4, v5, v6, v7, v8, v9, v10, v11, v12⟩ := hV
  obtain ⟨⟨a0, a1, a2, a3⟩, b2, b3, b4, b5, b6, b7, b8, b9, b10, b11⟩ := hB
  refine ⟨n, w, k, g, hN, rfl, rfl, rfl, rfl, ⟨?_, ?_, ?_, ?_, ?_, ?_, ?_, ?_, ?_, ?_, ?_, ?_⟩, ⟨⟨?_, ?_, ?_, ?_⟩, ?_, ?_, ?_, ?_, ?_, ?_, ?_, ?_, ?_, ?_⟩⟩
  · intro v hv; rw [c1 v (by omega)]; exact v1 v hv
  · intro v hv; rw [c2 v (by omega)]; exact v2 v hv
  · intro v hv; rw [c3 v (by omega)]; exact v3 v hv
  · intro b c hb hc; rw [c3 b (by omega), c3 c (by omega)]; exact v4 b c hb hc
  · intro b hb x hx; rw [c4 _ (by omega)]; exact v5 b hb x hx
  · intro b hb
    rw [c5 b (by omega)]
    refine ⟨(v6 b hb).1, fun v hv => ?_⟩
    rw [shutAt_cong b v (fun j hj => ⟨c6 j (by omega), c7 j (by omega)⟩)]
    exact (v6 b hb).2 v hv
  · intro i hi; rw [c6 i (by omega)]; exact v7 i hi
  · intro i hi; rw [c7 i (by omega)]; exact v8 i hi
  · intro i hi; rw [c8 i (by omega)]; exact v9 i hi
  · intro i hi; rw [c9 i (by omega)]; exact v10 i hi
  · intro i hi; rw [c10 i (by omega)]; exact v11 i hi
  · intro i j hi hj; rw [c11 i (by omega), c11 j (by omega)]; exact v12 i j hi hj
  · rw [c12 _ (by omega)]; exact a0
  · rw [c12 _ (by omega)]; exact a1
  · rw [c12 _ (by omega)]; exact a2
  · rw [c12 _ (by omega)]; exact a3
  · intro v hv; rw [c12 _ (by omega), c1 v (by omega)]; exact b2 v hv
  · intro v hv; rw [c12 _ (by omega), c2 v (by omega)]; exact b3 v hv
  · intro v hv; rw [c12 _ (by omega), c3 v (by omega)]; exact b4 v hv
  · intro b hb x hx; rw [c12 _ (by omega), c4 _ (by omega)]; exact b5 b hb x hx
  · intro i hi; rw [c12 _ (by omega), c6 i (by omega)]; exact b6 i hi
  · intro i hi; rw [c12 _ (by omega), c7 i (by omega)]; exact b7 i hi
  · intro i hi; rw [c12 _ (by omega), c8 i (by omega)]; exact b8 i hi
  · intro i hi; rw [c12 _ (by omega), c9 i (by omega)]; exact b9 i hi
  · intro i hi; rw [c12 _ (by omega), c10 i (by omega)]; exact b10 i hi
  · intro i hi; rw [c12 _ (by omega), c11 i (by omega)]; exact b11 i hi
theorem cpI_in {N : Nat} (f g : Nat → Int32) {j : Nat} (h : j < N) : cpI N f g j = f j := by
  have := pk_cpy_in (f := f) (g := g) (sp := 0) (dp := 0) (n := N) (j := j) (Nat.zero_le j) (by omega)
  rwa [Nat.zero_add, Nat.sub_zero] at this
theorem RV_copy {vi wo ne sg : Int32} {te fr ro he sh wb wv nv nw ns si bk : Nat → Int32} (hR : RV vi wo ne sg te fr ro he sh wb wv nv nw ns si bk) (te' fr' ro' he' sh' wb' wv' nv' nw' ns' si' : Nat → Int32) :
    RV vi wo ne sg (cpI 6 te te') (cpI 6 fr fr') (cpI 6 ro ro') (cpI 24 he he') (cpI 6 sh sh') (cpI 8 wb wb') (cpI 8 wv wv') (cpI 12 nv nv') (cpI 12 nw nw') (cpI 12 ns ns') (cpI 6 si si') bk :=
  RV_cong hR (fun _ h => cpI_in _ _ h) (fun _ h => cpI_in _ _ h) (fun _ h => cpI_in _ _ h) (fun _ h => cpI_in _ _ h) (fun _ h => cpI_in _ _ h) (fun _ h => cpI_in _ _ h) (fun _ h => cpI_in _ _ h) (fun _ h => cpI_in _ _ h) (fun _ h => cpI_in _ _ h) (fun _ h => cpI_in _ _ h) (fun _ h => cpI_in _ _ h) (fun _ _ => rfl)
