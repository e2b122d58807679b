/-! A WORD all round -/
/-- what b adds -/
def wordT (ro he sh : Nat → Int32) (x : Nat) (K : Int32) : Nat → Int32 → Int32 := fun b s => if bt K (ro b).toNatClampNeg = true then s ||| hearD he sh b x else s
def wordN (n : Nat) (ro he sh : Nat → Int32) (x : Nat) (K : Int32) : Int32 := itS (wordT ro he sh x K) n K
def wordI (n : Nat) (ro he sh : Nat → Int32) (x v : Nat) : Nat → Int32
  | 0 => (1 : Int32) <<< (nI v &&& 31)
  | i + 1 => wordN n ro he sh x (wordI n ro he sh x v i)
theorem knowAfter_ok {n w k g : Nat} {te fr ro he sh wb wv nv nw ns si : Nat → Int32} (hN : RN n w k g) (hV : VW n w k g te fr ro he sh wb wv nv nw ns si) {x : Nat} (hx : x < 4) (K : Int32) : fX3_knowAfterRound (nI n) ro he sh K (nI x) = some (wordN n ro he sh x K) := by
  have hn6 : n ≤ 6 := hN.2.1
  unfold fX3_knowAfterRound
  exact foldL (fun m i (s : Int32) => fX3_knowAfterRound_5 K (nI x) (nI n) ro he sh (fun z _ => some z) m s i) (fun s => some s) n (wordT ro he sh x K) (by omega)
    (fun m s => by
      show fX3_knowAfterRound_5 _ _ _ _ _ _ _ (m + 1) s (nI n) = _
      rw [fX3_knowAfterRound_5, if_pos (nI_le (Nat.le_refl n) (by omega))])
    (fun m b s hb => by
      show fX3_knowAfterRound_5 _ _ _ _ _ _ _ (m + 1) s (nI b) = _
      obtain ⟨r, hr, er⟩ := hV.2.2.1 b hb
      rw [fX3_knowAfterRound_5, if_neg (nI_ge hb (by omega)), rdI_n (by omega) (by decide), bind_some', er, has_eq _ (by omega), bind_some', heardIn_ok (by omega) hx, bind_some', nI_1]
      unfold wordT
      rw [er, nI_clamp (by omega)]
      cases bt K r <;> rfl) K
theorem wordM_ok {n w k g : Nat} {te fr ro he sh wb wv nv nw ns si bk : Nat → Int32} (hN : RN n w k g) (hV : VW n w k g te fr ro he sh wb wv nv nw ns si) (hB : BK n w k g te fr ro he wb wv nv nw ns si bk) {x : Nat} (hx : x < 4) (K : Int32) (kx : Int32 → Int32 → Option (Int32 × (Nat → Int32))) : fX7_word_54 (nI x) bk K kx fu K 0 = kx (wordN n ro he sh x K) (nI n) := by
  have hn6 : n ≤ 6 := hN.2.1
  exact foldL (fun m i (s : Int32) => fX7_word_54 (nI x) bk K kx m s i) (fun s => kx s (nI n)) n (wordT ro he sh x K) (by omega)
    (fun m s => by
      show fX7_word_54 _ _ _ _ (m + 1) s (nI n) = _
      rw [fX7_word_54, rdB0, bind_some', hB.1.1, if_pos (nI_le (Nat.le_refl n) (by omega))])
    (fun m b s hb => by
      show fX7_word_54 _ _ _ _ (m + 1) s (nI b) = _
      obtain ⟨r, hr, er⟩ := hV.2.2.1 b hb
      have z0 : s ||| 0 = s := b_ext (fun q hq => by rw [b_or, b_0, Bool.or_false])
      rw [fX7_word_54, rdB0, bind_some', hB.1.1, if_neg (nI_ge hb (by omega)), show (16 : Int32) = nI 16 from rfl, nI_add, rdI_n (by omega) (by decide), bind_some', hB.2.2.2.1 b hb, er, hall_ok hN hV hB hb hx, bind_some', nI_1, z0, shrb _ (by omega)]
      unfold wordT
      rw [er, nI_clamp (by omega)]
      cases bt K r <;> rfl) K
theorem wordT_up {n w k g : Nat} {te fr ro he sh wb wv nv nw ns si : Nat → Int32} (hV : VW n w k g te fr ro he sh wb wv nv nw ns si) {x : Nat} (hx : x < 4) {K : Int32} (hK : bel K n) : ∀ i, i ≤ n → bel (itS (wordT ro he sh x K) i K) n ∧ ∀ b, bt K b = true → bt (itS (wordT ro he sh x K) i K) b = true
  | 0, _ => ⟨hK, fun _ h => h⟩
  | i + 1, h => by
    obtain ⟨h1, h2⟩ := wordT_up hV hx hK i (by omega)
    have e : itS (wordT ro he sh x K) (i + 1) K = wordT ro he sh x K i (itS (wordT ro he sh x K) i K) := rfl
    rw [e]
    clear e
    generalize itS (wordT ro he sh x K) i K = z at h1 h2 ⊢
    unfold wordT
    split
    · exact ⟨bel_or h1 (bel_hear hV (by omega) hx), fun b hb => by rw [b_or, h2 b hb]; rfl⟩
    · exact ⟨h1, h2⟩
theorem onesN_mono {x y : Int32} (h : ∀ i, bt x i = true → bt y i = true) : ∀ n, onesN x n ≤ onesN y n
  | 0 => Nat.le_refl 0
  | n + 1 => by
    have := onesN_mono h n
    show onesN x n + _ ≤ onesN y n + _
    by_cases c : bt x n = true
    · rw [if_pos c, if_pos (h n c)]; omega
    · rw [if_neg c]; omega
theorem onesN_lt {x y : Int32} (h : ∀ i, bt x i = true → bt y i = true) : ∀ n, (∃ i, i < n ∧ bt x i = false ∧ bt y i = true) → onesN x n < onesN y n
  | 0, ⟨i, hi, _⟩ => absurd hi (Nat.not_lt_zero i)
  | n + 1, ⟨i, hi, h1, h2⟩ => by
    show onesN x n + _ < onesN y n + _
    have m := onesN_mono h n
    by_cases c : i = n
    · subst c
      rw [if_neg (by rw [h1]; decide), if_pos h2]; omega
    · have := onesN_lt h n ⟨i, by omega, h1, h2⟩
      by_cases c : bt x n = true
      · rw [if_pos c, if_pos (h n c)]; omega
      · rw [if_neg c]; omega
theorem word_end {n w k g : Nat} {te fr ro he sh wb wv nv nw ns si : Nat → Int32} (hN : RN n w k g) (hV : VW n w k g te fr ro he sh wb wv nv nw ns si) {x v : Nat} (hx : x < 4) (hv : v < n) : ∃ t, t < 6 ∧ wordI n ro he sh x v (t + 1) = wordI n ro he sh x v t ∧ ∀ i, i < t → ¬ wordI n ro he sh x v (i + 1) = wordI n ro he sh x v i := by
  have hn6 : n ≤ 6 := hN.2.1
  have bl : ∀ i, bel (wordI n ro he sh x v i) n := by
    intro i
    induction i with
    | zero => exact bel_one hv (by omega)
    | succ i ih => exact (wordT_up hV hx ih n (Nat.le_refl n)).1
  have up : ∀ i b, bt (wordI n ro he sh x v i) b = true → bt (wordI n ro he sh x v (i + 1)) b = true := fun i b hb => (wordT_up hV hx (bl i) n (Nat.le_refl n)).2 b hb
  have ex : ∃ t, t < 6 ∧ wordI n ro he sh x v (t + 1) = wordI n ro he sh x v t := Classical.byContradiction (fun hno => by
    have grow : ∀ i, i ≤ 6 → i + 1 ≤ onesN (wordI n ro he sh x v i) n := by
      intro i
      induction i with
      | zero =>
        intro _
        have : onesN 0 n < onesN (wordI n ro he sh x v 0) n := onesN_lt (fun i h => by rw [b_0] at h; cases h) n ⟨v, hv, b_0 v, by show bt ((1 : Int32) <<< (nI v &&& 31)) v = true; rw [bt_one (by omega)]; exact decide_eq_true rfl⟩
        omega
      | succ i ih =>
        intro hi
        have h1 := ih (by omega)
        have hne : ¬ wordI n ro he sh x v (i + 1) = wordI n ro he sh x v i := fun e => hno ⟨i, by omega, e⟩
        have : ∃ b, b < n ∧ bt (wordI n ro he sh x v i) b = false ∧ bt (wordI n ro he sh x v (i + 1)) b = true := Classical.byContradiction (fun hnb => hne (bel_ext (bl (i + 1)) (bl i) (fun b hb => by
          cases c : bt (wordI n ro he sh x v i) b
          · cases d : bt (wordI n ro he sh x v (i + 1)) b
            · rfl
            · exact absurd ⟨b, hb, c, d⟩ hnb
          · exact up i b c)))
        have := onesN_lt (up i) n this
        omega
    have h6 := grow 6 (Nat.le_refl 6)
    have := onesN_le (wordI n ro he sh x v 6) n
    omega)
  obtain ⟨t, ht, e, hf⟩ := fb_first (p := fun t => wordI n ro he sh x v (t + 1) = wordI n ro he sh x v t) ex
  exact ⟨t, ht, e, hf⟩
theorem P_word {vi wo ne sg : Int32} {te fr ro he sh wb wv nv nw ns si bk : Nat → Int32} (hR : RV vi wo ne sg te fr ro he sh wb wv nv nw ns si bk) {rb rn rf : Int32} {q : Nat → Int32} (hc : RC rb rn rf q) (p0 p1 p2 : Int32) :
    ∃ ox om, fX6_word rb rn rf vi ro he sh p0 p1 p2 = some ox ∧ fX7_word bk q p0 p1 p2 = some om ∧ ox.1 = om.1 ∧ RC ox.2.1 ox.2.2.1 ox.2.2.2 om.2 := by
  obtain ⟨n, w, k, g, hN, rfl, rfl, rfl, rfl, hV, hB⟩ := id hR
  have hn6 : n ≤ 6 := hN.2.1
  have hb0 : bk 0 = nI n := hB.1.1
  have hn0 : 0 < n := Nat.lt_of_lt_of_le (by decide) hN.1
  obtain ⟨b2, n2, f2, q2, k1, k2, k3⟩ := bad_ok hc
  unfold fX6_word fX7_word
  rcases vil (n := n) (by omega) hn0 p0 with ⟨h1, h2⟩ | ⟨v, hv, rfl, h1, h2⟩
  · exact ⟨(-2, b2, n2, f2), (-2, q2), by rw [h1, bind_some', if_pos rfl, k1, bind_some'], by rw [h2 bk hb0, bind_some', if_pos rfl, k2, bind_some'], rfl, k3⟩
  rcases wind p1 with ⟨h3, h4⟩ | ⟨x, hx, rfl, h3, h4⟩
  · exact ⟨(-2, b2, n2, f2), (-2, q2), by rw [h1, bind_some', if_neg (by decide), h3, bind_some', if_pos rfl, k1, bind_some'], by rw [h2 bk hb0, bind_some', if_neg (by decide), h4, bind_some', if_pos rfl, k2, bind_some'], rfl, k3⟩
  rcases side p2 with ⟨h5, h6⟩ | ⟨hp, h5, h6⟩
  · exact ⟨(-2, b2, n2, f2), (-2, q2), by rw [h1, bind_some', if_neg (by decide), h3, bind_some', if_neg (by decide), h5, bind_some', if_pos rfl, k1, bind_some'], by rw [h2 bk hb0, bind_some', if_neg (by decide), h4, bind_some', if_neg (by decide), h6, bind_some', if_pos rfl, k2, bind_some'], rfl, k3⟩
  obtain ⟨t, ht, et, hf⟩ := word_end hN hV hx hv
  have xl : ∀ (kx : Int32 → Int32 → Int32 → Option (Int32 × Int32 × Int32 × Int32)) (d i m : Nat), i + d = t → d < m → fX6_word_52 (nI x) (nI n) ro he sh kx m (nI i) (wordI n ro he sh x v i) (wordI n ro he sh x v (i + 1)) = kx (nI t) (wordI n ro he sh x v t) (wordI n ro he sh x v (t + 1)) := by
    intro kx d
    induction d with
    | zero =>
      intro i m hi hm
      have : i = t := by omega
      subst this
      obtain ⟨m', rfl⟩ : ∃ m', m = m' + 1 := ⟨m - 1, by omega⟩
      rw [fX6_word_52, if_pos et]
    | succ d ih =>
      intro i m hi hm
      obtain ⟨m', rfl⟩ : ∃ m', m = m' + 1 := ⟨m - 1, by omega⟩
      rw [fX6_word_52, if_neg (hf i (by omega)), if_neg (show ¬ (6 : Int32) ≤ nI i from nI_ge (b := 6) (by omega) (by decide)), knowAfter_ok hN hV hx, bind_some', nI_1]
      exact ih (i + 1) m' (by omega) (by omega)
  have ml : ∀ (kx : Int32 → Int32 → Int32 → Option (Int32 × (Nat → Int32))) (d i m : Nat), i + d = t → d + 1 < m → fX7_word_42 (nI x) bk kx m (wordI n ro he sh x v i) (nI i) 1 = kx (wordI n ro he sh x v (t + 1)) (nI t) 0 := by
    intro kx d
    induction d with
    | zero =>
      intro i m hi hm
      have : i = t := by omega
      subst this
      obtain ⟨m', rfl⟩ : ∃ m', m = m' + 2 := ⟨m - 2, by omega⟩
      rw [fX7_word_42, if_neg (by decide), wordM_ok hN hV hB hx]
      have e1 : wordN n ro he sh x (wordI n ro he sh x v i) = wordI n ro he sh x v i := et
      rw [if_pos e1, bind_some', if_pos rfl, fX7_word_42, if_pos rfl, show (0 : Int32) = nI 0 from rfl, nI_add]
      rfl
    | succ d ih =>
      intro i m hi hm
      obtain ⟨m', rfl⟩ : ∃ m', m = m' + 1 := ⟨m - 1, by omega⟩
      rw [fX7_word_42, if_neg (by decide), wordM_ok hN hV hB hx]
      have e1 : ¬ wordN n ro he sh x (wordI n ro he sh x v i) = wordI n ro he sh x v i := hf i (by omega)
      rw [if_neg e1, bind_some', if_neg (by decide), nI_1]
      exact ih (i + 1) m' (by omega) (by omega)
  have X := xl (fun a b _ => (if p2 = 0 then some ((a, rb, rn, rf)) else some ((b, rb, rn, rf)))) t 0 fu (by omega) (by show t < 50000; omega)
  have M := ml (fun a b _ => (if p2 = 0 then some ((b, q)) else some ((a, q)))) t 0 fu (by omega) (by show t + 1 < 50000; omega)
  have kk := knowAfter_ok hN hV hx ((1 : Int32) <<< (nI v &&& 31))
  rw [h1, bind_some', if_neg (show ¬ (1 : Int32) = 0 by decide), h3, bind_some', if_neg (show ¬ (1 : Int32) = 0 by decide), h5, bind_some', if_neg (show ¬ (1 : Int32) = 0 by decide), kk, bind_some', h2 bk hb0, bind_some', if_neg (show ¬ (1 : Int32) = 0 by decide), h4, bind_some', if_neg (show ¬ (1 : Int32) = 0 by decide), h6, bind_some', if_neg (show ¬ (1 : Int32) = 0 by decide)]
  rcases hp with rfl | rfl
  · exact ⟨(nI t, rb, rn, rf), (nI t, q), X, M, rfl, hc⟩
  · exact ⟨(wordI n ro he sh x v t, rb, rn, rf), (wordI n ro he sh x v (t + 1), q), X, M, et.symm, hc⟩
/-! THE DIGEST -/
def dgA (f : Nat → Int32) : Nat → Int64 → Int64 := fun i h => 31 * h + (f i).toInt64
def dgB (f1 f2 : Nat → Int32) : Nat → Int64 → Int64 := fun i h => 31 * (31 * h + (f1 i).toInt64) + (f2 i).toInt64
def dgC (f1 f2 f3 : Nat → Int32) : Nat → Int64 → Int64 := fun i h => 31 * (31 * (31 * h + (f1 i).toInt64) + (f2 i).toInt64) + (f3 i).toInt64
def dgV (te fr ro he : Nat → Int32) : Nat → Int64 → Int64 := fun v h => itS (dgA (fun x => he (4 * v + x))) 4 (dgC te fr ro v h)
theorem P_digest {vi wo ne sg : Int32} {te fr ro he sh wb wv nv nw ns si bk : Nat → Int32} (hR : RV vi wo ne sg te fr ro he sh wb wv nv nw ns si bk) {le ml : Int32} {tx mt : Nat → Int32} (hT : RT le tx ml mt) :
    ∃ r, fX6_digest vi wo ne sg te fr ro he wb wv nv nw ns si le = some r ∧ fX7_digest bk ml = some r := by
  obtain ⟨n, w, k, g, hN, rfl, rfl, rfl, rfl, hV, hB⟩ := id hR
  obtain ⟨L, hL, rfl, rfl, -⟩ := hT
  obtain ⟨h1, h2, h3, h4, h5⟩ := id hN
  obtain ⟨⟨c0, c1, c2, c3⟩, b2, b3, b4, b5, b6, b7, b8, b9, b10, b11⟩ := id hB
  let h0 : Int64 := 31 * (31 * (31 * (31 * (31 * 727 + (nI n).toInt64) + (nI w).toInt64) + (nI k).toInt64) + (nI g).toInt64) + (nI L).toInt64
  refine ⟨itS (dgA si) g (itS (dgC nv nw ns) k (itS (dgB wb wv) w (itS (dgV te fr ro he) n h0))), ?_, ?_⟩
  · unfold fX6_digest
    have s0 : fX6_digest_6 (nI n) (nI w) (nI k) (nI g) (nI L) (fun x _ => (fX3_digestFrom (nI n) (nI w) (nI k) (nI g) te fr ro he wb wv nv nw ns si x).bind (fun g5 => some g5)) fu 727 0 = (fX3_digestFrom (nI n) (nI w) (nI k) (nI g) te fr ro he wb wv nv nw ns si h0).bind (fun g5 => some g5) := by
      unfold fu
      rw [fX6_digest_6, if_neg (by decide), show fX6_howMany (nI n) (nI w) (nI k) (nI g) (nI L) 0 = some (nI n) from rfl, bind_some', fX6_digest_6, if_neg (by decide), show fX6_howMany (nI n) (nI w) (nI k) (nI g) (nI L) (0 + 1) = some (nI w) from rfl, bind_some', fX6_digest_6, if_neg (by decide), show fX6_howMany (nI n) (nI w) (nI k) (nI g) (nI L) (0 + 1 + 1) = some (nI k) from rfl, bind_some', fX6_digest_6, if_neg (by decide), show fX6_howMany (nI n) (nI w) (nI k) (nI g) (nI L) (0 + 1 + 1 + 1) = some (nI g) from rfl, bind_some', fX6_digest_6, if_neg (by decide), show fX6_howMany (nI n) (nI w) (nI k) (nI g) (nI L) (0 + 1 + 1 + 1 + 1) = some (nI L) from rfl, bind_some', fX6_digest_6, if_pos (by decide)]
    refine Eq.trans s0 ?_
    unfold fX3_digestFrom
    have e4 : ∀ h, fX3_digestFrom_214 (nI g) si (fun x _ => some x) fu h 0 = some (itS (dgA si) g h) := fun h =>
      foldL (fun m i (s : Int64) => fX3_digestFrom_214 (nI g) si (fun x _ => some x) m s i) (fun s => some s) g (dgA si) (by omega)
        (fun m s => by show fX3_digestFrom_214 _ _ _ (m + 1) s (nI g) = _; rw [fX3_digestFrom_214, if_pos (nI_le (Nat.le_refl g) (by omega))])
        (fun m i s hi => by show fX3_digestFrom_214 _ _ _ (m + 1) s (nI i) = _; rw [fX3_digestFrom_214, if_neg (nI_ge hi (by omega)), rdI_n (by omega) (by decide), bind_some', nI_1]; rfl) h
    have e3 : ∀ h, fX3_digestFrom_151 (nI k) nv nw ns (fun x _ => fX3_digestFrom_214 (nI g) si (fun x _ => some x) fu x 0) fu h 0 = some (itS (dgA si) g (itS (dgC nv nw ns) k h)) := fun h => by
      rw [← e4]
      exact foldL (fun m i (s : Int64) => fX3_digestFrom_151 (nI k) nv nw ns (fun x _ => fX3_digestFrom_214 (nI g) si (fun x _ => some x) fu x 0) m s i) (fun s => fX3_digestFrom_214 (nI g) si (fun x _ => some x) fu s 0) k (dgC nv nw ns) (by omega)
        (fun m s => by show fX3_digestFrom_151 _ _ _ _ _ (m + 1) s (nI k) = _; rw [fX3_digestFrom_151, if_pos (nI_le (Nat.le_refl k) (by omega))])
        (fun m i s hi => by show fX3_digestFrom_151 _ _ _ _ _ (m + 1) s (nI i) = _; rw [fX3_digestFrom_151, if_neg (nI_ge hi (by omega)), rdI_n (by omega) (by decide), bind_some', rdI_n (by omega) (by decide), bind_some', rdI_n (by omega) (by decide), bind_some', nI_1]; rfl) h
    have e2 : ∀ h, fX3_digestFrom_103 (nI w) wb wv (fun x _ => fX3_digestFrom_151 (nI k) nv nw ns (fun x _ => fX3_digestFrom_214 (nI g) si (fun x _ => some x) fu x 0) fu x 0) fu h 0 = some (itS (dgA si) g (itS (dgC nv nw ns) k (itS (dgB wb wv) w h))) := fun h => by
      rw [← e3]
      exact foldL (fun m i (s : Int64) => fX3_digestFrom_103 (nI w) wb wv (fun x _ => fX3_digestFrom_151 (nI k) nv nw ns (fun x _ => fX3_digestFrom_214 (nI g) si (fun x _ => some x) fu x 0) fu x 0) m s i) (fun s => fX3_digestFrom_151 (nI k) nv nw ns (fun x _ => fX3_digestFrom_214 (nI g) si (fun x _ => some x) fu x 0) fu s 0) w (dgB wb wv) (by omega)
        (fun m s => by show fX3_digestFrom_103 _ _ _ _ (m + 1) s (nI w) = _; rw [fX3_digestFrom_103, if_pos (nI_le (Nat.le_refl w) (by omega))])
        (fun m i s hi => by show fX3_digestFrom_103 _ _ _ _ (m + 1) s (nI i) = _; rw [fX3_digestFrom_103, if_neg (nI_ge hi (by omega)), rdI_n (by omega) (by decide), bind_some', rdI_n (by omega) (by decide), bind_some', nI_1]; rfl) h
    have inner : ∀ (kx : Int64 → Int32 → Option Int64) (v : Nat) (h : Int64), v < n → fX3_digestFrom_62 he (nI v) kx fu h 0 = kx (itS (dgA (fun x => he (4 * v + x))) 4 h) 4 := fun kx v h hv =>
      foldL (fun m i (s : Int64) => fX3_digestFrom_62 he (nI v) kx m s i) (fun s => kx s 4) 4 (dgA (fun x => he (4 * v + x))) (by decide)
        (fun m s => by show fX3_digestFrom_62 _ _ _ (m + 1) s (nI 4) = _; rw [fX3_digestFrom_62, if_pos (show (4 : Int32) ≤ nI 4 from by decide)]; rfl)
        (fun m i s hi => by
          show fX3_digestFrom_62 _ _ _ (m + 1) s (nI i) = _
          have ea : nI v * 4 + nI i = nI (4 * v + i) := by rw [show (4 : Int32) = nI 4 from rfl, pk_mul, nI_add, Nat.mul_comm]
          rw [fX3_digestFrom_62, if_neg (show ¬ (4 : Int32) ≤ nI i from nI_ge (b := 4) hi (by decide)), ea, rdI_n (by omega) (by decide), bind_some', nI_1]; rfl) h
    have e1 := foldL (fun m i (s : Int64) => fX3_digestFrom_5 (nI n) te fr ro he (fun x _ => fX3_digestFrom_103 (nI w) wb wv (fun x _ => fX3_digestFrom_151 (nI k) nv nw ns (fun x _ => fX3_digestFrom_214 (nI g) si (fun x _ => some x) fu x 0) fu x 0) fu x 0) m s i) (fun s => fX3_digestFrom_103 (nI w) wb wv (fun x _ => fX3_digestFrom_151 (nI k) nv nw ns (fun x _ => fX3_digestFrom_214 (nI g) si (fun x _ => some x) fu x 0) fu x 0) fu s 0) n (dgV te fr ro he) (by omega)
        (fun m s => by show fX3_digestFrom_5 _ _ _ _ _ _ (m + 1) s (nI n) = _; rw [fX3_digestFrom_5, if_pos (nI_le (Nat.le_refl n) (by omega))])
        (fun m i s hi => by show fX3_digestFrom_5 _ _ _ _ _ _ (m + 1) s (nI i) = _; rw [fX3_digestFrom_5, if_neg (nI_ge hi (by omega)), rdI_n (by omega) (by decide), bind_some', rdI_n (by omega) (by decide), bind_some', rdI_n (by omega) (by decide), bind_some', inner _ i _ hi, nI_1]; rfl) h0
    have e5 := e1.trans (e2 _)
    rw [show fX3_digestFrom_5 (nI n) te fr ro he (fun x _ => fX3_digestFrom_103 (nI w) wb wv (fun x _ => fX3_digestFrom_151 (nI k) nv nw ns (fun x _ => fX3_digestFrom_214 (nI g) si (fun x _ => some x) fu x 0) fu x 0) fu x 0) fu h0 0 = _ from e5, bind_some']
  · unfold fX7_digest
    have s0 : ∀ (kx : Int64 → Int32 → Option Int64), fX7_digest_6 bk kx fu 727 0 = kx (31 * (31 * (31 * (31 * 727 + (nI n).toInt64) + (nI w).toInt64) + (nI k).toInt64) + (nI g).toInt64) (0 + 1 + 1 + 1 + 1) := by
      intro kx
      unfold fu
      rw [fX7_digest_6, if_neg (by decide), rdB0, bind_some', fX7_digest_6, if_neg (by decide), show rdI 104 bk (0 + 1) = some (bk 1) from rdB1 bk, bind_some', fX7_digest_6, if_neg (by decide), show rdI 104 bk (0 + 1 + 1) = some (bk 2) from rdB2 bk, bind_some', fX7_digest_6, if_neg (by decide), show rdI 104 bk (0 + 1 + 1 + 1) = some (bk 3) from rdB3 bk, bind_some', fX7_digest_6, if_pos (by decide), c0, c1, c2, c3]
    rw [s0]
    have e4 : ∀ h, fX7_digest_261 bk (fun x _ => some x) fu h 0 = some (itS (dgA si) g h) := fun h =>
      foldL (fun m i (s : Int64) => fX7_digest_261 bk (fun x _ => some x) m s i) (fun s => some s) g (dgA si) (by omega)
        (fun m s => by show fX7_digest_261 _ _ (m + 1) s (nI g) = _; rw [fX7_digest_261, rdB3, bind_some', c3, if_pos (nI_le (Nat.le_refl g) (by omega))])
        (fun m i s hi => by show fX7_digest_261 _ _ (m + 1) s (nI i) = _; rw [fX7_digest_261, rdB3, bind_some', c3, if_neg (nI_ge hi (by omega)), show (98 : Int32) = nI 98 from rfl, nI_add, rdI_n (by omega) (by decide), bind_some', b11 i hi, nI_1]; rfl) h
    have e3 : ∀ h, fX7_digest_196 bk (fun x _ => fX7_digest_261 bk (fun x _ => some x) fu x 0) fu h 0 = some (itS (dgA si) g (itS (dgC nv nw ns) k h)) := fun h => by
      rw [← e4]
      exact foldL (fun m i (s : Int64) => fX7_digest_196 bk (fun x _ => fX7_digest_261 bk (fun x _ => some x) fu x 0) m s i) (fun s => fX7_digest_261 bk (fun x _ => some x) fu s 0) k (dgC nv nw ns) (by omega)
        (fun m s => by show fX7_digest_196 _ _ (m + 1) s (nI k) = _; rw [fX7_digest_196, rdB2, bind_some', c2, if_pos (nI_le (Nat.le_refl k) (by omega))])
        (fun m i s hi => by show fX7_digest_196 _ _ (m + 1) s (nI i) = _; rw [fX7_digest_196, rdB2, bind_some', c2, if_neg (nI_ge hi (by omega)), show (62 : Int32) = nI 62 from rfl, nI_add, rdI_n (by omega) (by decide), bind_some', show (74 : Int32) = nI 74 from rfl, nI_add, rdI_n (by omega) (by decide), bind_some', show (86 : Int32) = nI 86 from rfl, nI_add, rdI_n (by omega) (by decide), bind_some', b8 i hi, b9 i hi, b10 i hi, nI_1]; rfl) h
    have e2 : ∀ h, fX7_digest_146 bk (fun x _ => fX7_digest_196 bk (fun x _ => fX7_digest_261 bk (fun x _ => some x) fu x 0) fu x 0) fu h 0 = some (itS (dgA si) g (itS (dgC nv nw ns) k (itS (dgB wb wv) w h))) := fun h => by
      rw [← e3]
      exact foldL (fun m i (s : Int64) => fX7_digest_146 bk (fun x _ => fX7_digest_196 bk (fun x _ => fX7_digest_261 bk (fun x _ => some x) fu x 0) fu x 0) m s i) (fun s => fX7_digest_196 bk (fun x _ => fX7_digest_261 bk (fun x _ => some x) fu x 0) fu s 0) w (dgB wb wv) (by omega)
        (fun m s => by show fX7_digest_146 _ _ (m + 1) s (nI w) = _; rw [fX7_digest_146, rdB1, bind_some', c1, if_pos (nI_le (Nat.le_refl w) (by omega))])
        (fun m i s hi => by show fX7_digest_146 _ _ (m + 1) s (nI i) = _; rw [fX7_digest_146, rdB1, bind_some', c1, if_neg (nI_ge hi (by omega)), show (46 : Int32) = nI 46 from rfl, nI_add, rdI_n (by omega) (by decide), bind_some', show (54 : Int32) = nI 54 from rfl, nI_add, rdI_n (by omega) (by decide), bind_some', b6 i hi, b7 i hi, nI_1]; rfl) h
    have inner : ∀ (kx : Int64 → Int32 → Option Int64) (v : Nat) (h : Int64), v < n → fX7_digest_104 bk (nI v) kx fu h 0 = kx (itS (dgA (fun x => he (4 * v + x))) 4 h) 4 := fun kx v h hv =>
      foldL (fun m i (s : Int64) => fX7_digest_104 bk (nI v) kx m s i) (fun s => kx s 4) 4 (dgA (fun x => he (4 * v + x))) (by decide)
        (fun m s => by show fX7_digest_104 _ _ _ (m + 1) s (nI 4) = _; rw [fX7_digest_104, if_pos (show (4 : Int32) ≤ nI 4 from by decide)]; rfl)
        (fun m i s hi => by
          show fX7_digest_104 _ _ _ (m + 1) s (nI i) = _
          have eb : 22 + 4 * nI v + nI i = nI (22 + (4 * v + i)) := by rw [show (4 : Int32) = nI 4 from rfl, show (22 : Int32) = nI 22 from rfl, pk_mul, nI_add, nI_add, Nat.add_assoc]
          rw [fX7_digest_104, if_neg (show ¬ (4 : Int32) ≤ nI i from nI_ge (b := 4) hi (by decide)), eb, rdI_n (by omega) (by decide), bind_some', b5 v hv i hi, nI_1]; rfl) h
    have e1 := foldL (fun m i (s : Int64) => fX7_digest_45 bk (fun x _ => fX7_digest_146 bk (fun x _ => fX7_digest_196 bk (fun x _ => fX7_digest_261 bk (fun x _ => some x) fu x 0) fu x 0) fu x 0) m s i) (fun s => fX7_digest_146 bk (fun x _ => fX7_digest_196 bk (fun x _ => fX7_digest_261 bk (fun x _ => some x) fu x 0) fu x 0) fu s 0) n (dgV te fr ro he) (by omega)
        (fun m s => by show fX7_digest_45 _ _ (m + 1) s (nI n) = _; rw [fX7_digest_45, rdB0, bind_some', c0, if_pos (nI_le (Nat.le_refl n) (by omega))])
        (fun m i s hi => by show fX7_digest_45 _ _ (m + 1) s (nI i) = _; rw [fX7_digest_45, rdB0, bind_some', c0, if_neg (nI_ge hi (by omega)), show (4 + nI i) = nI (4 + i) from by rw [show (4 : Int32) = nI 4 from rfl, nI_add], rdI_n (by omega) (by decide), bind_some', show (10 + nI i) = nI (10 + i) from by rw [show (10 : Int32) = nI 10 from rfl, nI_add], rdI_n (by omega) (by decide), bind_some', show (16 + nI i) = nI (16 + i) from by rw [show (16 : Int32) = nI 16 from rfl, nI_add], rdI_n (by omega) (by decide), bind_some', b2 i hi, b3 i hi, b4 i hi, inner _ i _ hi, nI_1]; rfl) h0
    exact e1.trans (e2 _)
