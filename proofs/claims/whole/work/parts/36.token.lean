/-! READ: bytes, tokens, words -/
def kd (c : Nat) : Nat := if 97 ≤ c ∧ c ≤ 122 then 1 else if 48 ≤ c ∧ c ≤ 57 then 2 else if c = 59 then 3 else 4
theorem kd_le (c : Nat) : 1 ≤ kd c ∧ kd c ≤ 4 := by unfold kd; (repeat' split) <;> omega
theorem kd_1 {c : Nat} : kd c = 1 ↔ 97 ≤ c ∧ c ≤ 122 := by unfold kd; (repeat' split) <;> omega
theorem kd_2 {c : Nat} : kd c = 2 ↔ 48 ≤ c ∧ c ≤ 57 := by unfold kd; (repeat' split) <;> omega
theorem kd_3 {c : Nat} : kd c = 3 ↔ c = 59 := by unfold kd; (repeat' split) <;> omega
theorem sort_c : ∀ c, c < 256 → fX7_sortOf (nI c) = some (nI (kd c)) := by decide +kernel
theorem let_c : ∀ c, c < 256 → fX2_isLetter (nI c).toInt8.toInt32 = some (b01 (decide (kd c = 1))) := by decide +kernel
theorem fig_c : ∀ c, c < 256 → fX2_isFigure (nI c).toInt8.toInt32 = some (b01 (decide (kd c = 2))) := by decide +kernel
theorem txs_c : ∀ c, c < 256 → ((nI c).toInt8.toInt32 = 32 ↔ c = 32) := by decide +kernel
theorem tx3_c : ∀ c, c < 256 → ((nI c).toInt8.toInt32 = 59 ↔ kd c = 3) := by decide +kernel
def TXT (L : Nat) (C : Nat → Nat) (tx mt : Nat → Int32) : Prop := L ≤ 250 ∧ ∀ j, j < L → C j < 256 ∧ mt j = nI (C j) ∧ tx j = (nI (C j)).toInt8.toInt32
def SP (L : Nat) (C : Nat → Nat) (a s : Nat) : Prop := a ≤ s ∧ s ≤ L ∧ (∀ j, a ≤ j → j < s → C j = 32) ∧ (s < L → C s ≠ 32)
theorem SP_ex (L : Nat) (C : Nat → Nat) : ∀ d a, a + d = L → ∃ s, SP L C a s
  | 0, a, h => ⟨a, Nat.le_refl a, by omega, fun j h1 h2 => by omega, fun h => by omega⟩
  | d + 1, a, h => by
    by_cases c : C a = 32
    · obtain ⟨s, h1, h2, h3, h4⟩ := SP_ex L C d (a + 1) (by omega)
      refine ⟨s, by omega, h2, fun j j1 j2 => ?_, h4⟩
      by_cases e : j = a
      · rw [e]; exact c
      · exact h3 j (by omega) j2
    · exact ⟨a, Nat.le_refl a, by omega, fun j h1 h2 => by omega, fun _ => c⟩
def EN (L : Nat) (C : Nat → Nat) (s e : Nat) : Prop := s < e ∧ e ≤ L ∧ ((kd (C s) = 1 ∨ kd (C s) = 2) → (∀ j, s ≤ j → j < e → kd (C j) = kd (C s)) ∧ (e < L → kd (C e) ≠ kd (C s))) ∧ (¬ (kd (C s) = 1 ∨ kd (C s) = 2) → e = s + 1)
theorem run_ex (L : Nat) (C : Nat → Nat) (K : Nat) : ∀ d a, a + d = L → ∃ e, a ≤ e ∧ e ≤ L ∧ (∀ j, a ≤ j → j < e → kd (C j) = K) ∧ (e < L → kd (C e) ≠ K)
  | 0, a, h => ⟨a, Nat.le_refl a, by omega, fun j h1 h2 => by omega, fun h => by omega⟩
  | d + 1, a, h => by
    by_cases c : kd (C a) = K
    · obtain ⟨s, h1, h2, h3, h4⟩ := run_ex L C K d (a + 1) (by omega)
      refine ⟨s, by omega, h2, fun j j1 j2 => ?_, h4⟩
      by_cases e : j = a
      · rw [e]; exact c
      · exact h3 j (by omega) j2
    · exact ⟨a, Nat.le_refl a, by omega, fun j h1 h2 => by omega, fun _ => c⟩
theorem EN_ex {L : Nat} {C : Nat → Nat} {s : Nat} (h : s < L) : ∃ e, EN L C s e := by
  by_cases c : kd (C s) = 1 ∨ kd (C s) = 2
  · obtain ⟨e, h1, h2, h3, h4⟩ := run_ex L C (kd (C s)) (L - (s + 1)) (s + 1) (by omega)
    refine ⟨e, by omega, h2, fun _ => ⟨fun j j1 j2 => ?_, h4⟩, fun z => absurd c z⟩
    by_cases d : j = s
    · rw [d]
    · exact h3 j (by omega) j2
  · exact ⟨s + 1, by omega, by omega, fun z => absurd z c, fun _ => rfl⟩
theorem byteAt_in {L : Nat} {C : Nat → Nat} {tx mt : Nat → Int32} (hT : TXT L C tx mt) {j : Nat} (h : j < L) : fX7_byteAt mt (nI L) (nI j) = some (nI (C j)) := by
  have hL := hT.1
  unfold fX7_byteAt
  rw [if_neg (nI_ge h (by omega)), rdI_n (by omega) (by decide), bind_some', (hT.2 j h).2.1]
theorem byteAt_out {L : Nat} {mt : Nat → Int32} {j : Nat} (h : L ≤ j) (hj : j < 2 ^ 30) : fX7_byteAt mt (nI L) (nI j) = some (-1) := by
  unfold fX7_byteAt
  rw [if_pos (nI_le h (by omega))]
theorem token_sp {L : Nat} {C : Nat → Nat} {tx mt : Nat → Int32} (hT : TXT L C tx mt) (kx : Int32 → Option (Int32 × Int32 × Int32 × Int32)) : ∀ (d a s m : Nat), a + d = s → SP L C a s → d < m → fX7_token_0 mt (nI L) kx m (nI a) = kx (nI s) := by
  have hL := hT.1
  intro d
  induction d with
  | zero =>
    intro a s m hd hS hm
    obtain ⟨m, rfl⟩ : ∃ z, m = z + 1 := ⟨m - 1, by omega⟩
    have : a = s := by omega
    subst this
    obtain ⟨h1, h2, h3, h4⟩ := hS
    rw [fX7_token_0]
    by_cases c : a < L
    · have hc := (hT.2 a c).1
      rw [byteAt_in hT c, bind_some', if_neg (show ¬ nI (C a) = 32 from fun z => h4 c ((nI_eq (b := 32) (by omega) (by decide)).mp z))]
    · rw [byteAt_out (by omega) (by omega), bind_some', if_neg (by decide)]
  | succ d ih =>
    intro a s m hd hS hm
    obtain ⟨m, rfl⟩ : ∃ z, m = z + 1 := ⟨m - 1, by omega⟩
    obtain ⟨h1, h2, h3, h4⟩ := hS
    rw [fX7_token_0, byteAt_in hT (show a < L by omega), bind_some', h3 a (by omega) (by omega), if_pos (show nI 32 = 32 from rfl), nI_1]
    exact ih (a + 1) s m (by omega) ⟨by omega, h2, fun j j1 j2 => h3 j (by omega) j2, h4⟩ (by omega)
theorem token_run {L : Nat} {C : Nat → Nat} {tx mt : Nat → Int32} (hT : TXT L C tx mt) (kx : Int32 → Int32 → Option (Int32 × Int32 × Int32 × Int32)) {K : Nat} (hK : K = 1 ∨ K = 2) {s e : Nat} (he : e ≤ L) (hr : ∀ j, s ≤ j → j < e → kd (C j) = K) (hx : e < L → kd (C e) ≠ K) : ∀ (d j m : Nat), j + d = e → s < j → d < m → fX7_token_54 mt (nI L) (nI K) kx m (nI j) (nI (j - s)) = kx (nI e) (nI (e - s)) := by
  have hL := hT.1
  intro d
  induction d with
  | zero =>
    intro j m hd hs hm
    obtain ⟨m, rfl⟩ : ∃ z, m = z + 1 := ⟨m - 1, by omega⟩
    have : j = e := by omega
    subst this
    have key : ∃ z, (fX7_byteAt mt (nI L) (nI j)).bind (fun g => fX7_sortOf g) = some z ∧ z ≠ nI K := by
      by_cases c : j < L
      · have hc := (hT.2 j c).1
        have kl := kd_le (C j)
        refine ⟨nI (kd (C j)), by rw [byteAt_in hT c, bind_some', sort_c _ hc], fun z => hx c ((nI_eq (by omega) (by omega)).mp z)⟩
      · refine ⟨0, by rw [byteAt_out (by omega) (by omega)]; rfl, fun z => ?_⟩
        rcases hK with rfl | rfl
        · exact absurd z (by decide)
        · exact absurd z (by decide)
    obtain ⟨z, k1, k2⟩ := key
    obtain ⟨y, k3, k4⟩ : ∃ y, fX7_byteAt mt (nI L) (nI j) = some y ∧ fX7_sortOf y = some z := by
      cases h : fX7_byteAt mt (nI L) (nI j) with
      | none => rw [h] at k1; cases k1
      | some y => rw [h] at k1; exact ⟨y, rfl, k1⟩
    rw [fX7_token_54, if_neg (nI_ne0 (by omega) (by omega)), k3, bind_some', k4, bind_some', if_neg k2]
    rcases hK with rfl | rfl
    · rw [if_pos (show nI 1 = 1 from rfl)]
    · rw [if_neg (show ¬ nI 2 = 1 by decide), if_pos (show nI 2 = 2 from rfl)]
  | succ d ih =>
    intro j m hd hs hm
    obtain ⟨m, rfl⟩ : ∃ z, m = z + 1 := ⟨m - 1, by omega⟩
    have c : j < L := by omega
    have hc := (hT.2 j c).1
    have e1 : j - s + 1 = j + 1 - s := by omega
    rw [fX7_token_54, if_neg (nI_ne0 (by omega) (by omega)), byteAt_in hT c, bind_some', sort_c _ hc, bind_some', hr j (by omega) (by omega), if_pos rfl, nI_1, nI_1, e1, ih (j + 1) m (by omega) (by omega) (by omega)]
    rcases hK with rfl | rfl
    · rw [if_pos (show nI 1 = 1 from rfl)]
    · rw [if_neg (show ¬ nI 2 = 1 by decide), if_pos (show nI 2 = 2 from rfl)]
theorem token_in {L : Nat} {C : Nat → Nat} {tx mt : Nat → Int32} (hT : TXT L C tx mt) {a s e : Nat} (hS : SP L C a s) (hs : s < L) (hE : EN L C s e) : fX7_token mt (nI L) (nI a) = some (nI e, nI (kd (C s)), nI s, nI (e - s)) := by
  have hL := hT.1
  have hc := (hT.2 s hs).1
  obtain ⟨e1, e2, e3, e4⟩ := hE
  have kl := kd_le (C s)
  unfold fX7_token
  rw [token_sp hT _ (s - a) a s fu (by have := hS.1; omega) hS (by show s - a < 50000; omega), byteAt_in hT hs, bind_some', sort_c _ hc, bind_some']
  show fX7_token_54 mt (nI L) (nI (kd (C s))) _ (49999 + 1) (nI s) (nI 0) = _
  rw [fX7_token_54, if_pos (show nI 0 = 0 from rfl), if_neg (nI_ne0 (by omega) (by omega)), nI_1, nI_1]
  by_cases c : kd (C s) = 1 ∨ kd (C s) = 2
  · have := token_run hT (fun x y => some ((x, nI (kd (C s)), nI s, y))) c e2 (e3 c).1 (e3 c).2 (e - (s + 1)) (s + 1) 49999 (by omega) (by omega) (by omega)
    rw [show s + 1 - s = 1 by omega] at this
    exact this
  · have h34 : kd (C s) = 3 ∨ kd (C s) = 4 := by omega
    rw [e4 c, show s + 1 - s = 1 by omega]
    show fX7_token_54 mt (nI L) (nI (kd (C s))) _ (49998 + 1) (nI (s + 1)) (nI 1) = _
    rw [fX7_token_54, if_neg (show ¬ nI 1 = 0 by decide)]
    rcases h34 with h | h <;> rw [h] <;> rfl
theorem token_end {L : Nat} {C : Nat → Nat} {tx mt : Nat → Int32} (hT : TXT L C tx mt) {a : Nat} (hS : SP L C a L) : fX7_token mt (nI L) (nI a) = some (nI L, 0, nI L, 0) := by
  have hL := hT.1
  unfold fX7_token
  rw [token_sp hT _ (L - a) a L fu (by have := hS.1; omega) hS (by show L - a < 50000; omega), byteAt_out (Nat.le_refl L) (by omega), bind_some', show fX7_sortOf (-1) = some 0 from rfl, bind_some']
  rfl
/-- what lies ahead at s -/
def LA (L : Nat) (C : Nat → Nat) (s : Nat) (la : Int32 × Int32 × Int32 × Int32) : Prop := (s = L ∧ la = (nI L, 0, nI L, 0)) ∨ (s < L ∧ ∃ e, EN L C s e ∧ la = (nI e, nI (kd (C s)), nI s, nI (e - s)))
theorem token_LA {L : Nat} {C : Nat → Nat} {tx mt : Nat → Int32} (hT : TXT L C tx mt) {a : Nat} (ha : a ≤ L) : ∃ s la, SP L C a s ∧ LA L C s la ∧ fX7_token mt (nI L) (nI a) = some la := by
  obtain ⟨s, hS⟩ := SP_ex L C (L - a) a (by omega)
  by_cases c : s < L
  · obtain ⟨e, hE⟩ := EN_ex (C := C) c
    exact ⟨s, _, hS, Or.inr ⟨c, e, hE, rfl⟩, token_in hT hS c hE⟩
  · have : s = L := by have := hS.2.1; omega
    subst this
    exact ⟨s, _, hS, Or.inl ⟨rfl, rfl⟩, token_end hT hS⟩
theorem endOf_ok {L : Nat} {C : Nat → Nat} {tx mt : Nat → Int32} (hT : TXT L C tx mt) {s e : Nat} (hs : s < L) (hE : EN L C s e) : fX2_endOfToken (nI L) tx (nI s) = some (nI e) := by
  have hL := hT.1
  obtain ⟨hc, -, ht⟩ := hT.2 s hs
  obtain ⟨e1, e2, e3, e4⟩ := hE
  have hlet : ∀ (d j m : Nat), kd (C s) = 1 → j + d = e → s < j → d < m → fX2_endOfToken_16 (nI L) tx (fun x => some x) m (nI j) = some (nI e) := by
    intro d
    induction d with
    | zero =>
      intro j m hk hd hj hm
      obtain ⟨m, rfl⟩ : ∃ z, m = z + 1 := ⟨m - 1, by omega⟩
      have : j = e := by omega
      subst this
      rw [fX2_endOfToken_16]
      by_cases c : j < L
      · obtain ⟨hcj, -, htj⟩ := hT.2 j c
        have := (e3 (Or.inl hk)).2 c
        rw [hk] at this
        rw [if_neg (nI_ge c (by omega)), rdI_n (by omega) (by decide), bind_some', htj, let_c _ hcj, bind_some', decide_eq_false this, if_pos (show b01 false = 0 from rfl)]
      · rw [if_pos (nI_le (by omega) (by omega))]
    | succ d ih =>
      intro j m hk hd hj hm
      obtain ⟨m, rfl⟩ : ∃ z, m = z + 1 := ⟨m - 1, by omega⟩
      have c : j < L := by omega
      obtain ⟨hcj, -, htj⟩ := hT.2 j c
      have := (e3 (Or.inl hk)).1 j (by omega) (by omega)
      rw [hk] at this
      rw [fX2_endOfToken_16, if_neg (nI_ge c (by omega)), rdI_n (by omega) (by decide), bind_some', htj, let_c _ hcj, bind_some', decide_eq_true this, if_neg (show ¬ b01 true = 0 by decide), nI_1]
      exact ih (j + 1) m hk (by omega) (by omega) (by omega)
  have hfig : ∀ (d j m : Nat), kd (C s) = 2 → j + d = e → s < j → d < m → fX2_endOfToken_54 (nI L) tx (fun x => some x) m (nI j) = some (nI e) := by
    intro d
    induction d with
    | zero =>
      intro j m hk hd hj hm
      obtain ⟨m, rfl⟩ : ∃ z, m = z + 1 := ⟨m - 1, by omega⟩
      have : j = e := by omega
      subst this
      rw [fX2_endOfToken_54]
      by_cases c : j < L
      · obtain ⟨hcj, -, htj⟩ := hT.2 j c
        have := (e3 (Or.inr hk)).2 c
        rw [hk] at this
        rw [if_neg (nI_ge c (by omega)), rdI_n (by omega) (by decide), bind_some', htj, fig_c _ hcj, bind_some', decide_eq_false this, if_pos (show b01 false = 0 from rfl)]
      · rw [if_pos (nI_le (by omega) (by omega))]
    | succ d ih =>
      intro j m hk hd hj hm
      obtain ⟨m, rfl⟩ : ∃ z, m = z + 1 := ⟨m - 1, by omega⟩
      have c : j < L := by omega
      obtain ⟨hcj, -, htj⟩ := hT.2 j c
      have := (e3 (Or.inr hk)).1 j (by omega) (by omega)
      rw [hk] at this
      rw [fX2_endOfToken_54, if_neg (nI_ge c (by omega)), rdI_n (by omega) (by decide), bind_some', htj, fig_c _ hcj, bind_some', decide_eq_true this, if_neg (show ¬ b01 true = 0 by decide), nI_1]
      exact ih (j + 1) m hk (by omega) (by omega) (by omega)
  unfold fX2_endOfToken
  rw [rdI_n (by omega) (by decide), bind_some', ht, let_c _ hc, bind_some', bind_some', fig_c _ hc, bind_some', nI_1]
  by_cases c1 : kd (C s) = 1
  · rw [decide_eq_true c1, if_neg (show ¬ b01 true = 0 by decide)]
    exact hlet (e - (s + 1)) (s + 1) fu c1 (by omega) (by omega) (by show e - (s + 1) < 50000; omega)
  · rw [decide_eq_false c1, if_pos (show b01 false = 0 from rfl)]
    by_cases c2 : kd (C s) = 2
    · rw [decide_eq_true c2, if_neg (show ¬ b01 true = 0 by decide)]
      exact hfig (e - (s + 1)) (s + 1) fu c2 (by omega) (by omega) (by show e - (s + 1) < 50000; omega)
    · rw [decide_eq_false c2, if_pos (show b01 false = 0 from rfl), e4 (by omega)]
/-! the words -/
def wLn : List Nat := [8, 5, 4, 6, 6, 4]
def wCh : List (List Nat) := [[118, 105, 108, 108, 97, 103, 101, 115], [104, 101, 97, 114, 115], [119, 111, 111, 100], [116, 101, 109, 112, 101, 114], [102, 114, 105, 101, 110, 100], [110, 101, 101, 100]]
def wl (k : Nat) : Nat := wLn.getD k 0
def wd (k i : Nat) : Nat := (wCh.getD k []).getD i 0
def eqW (C : Nat → Nat) (s e k : Nat) : Bool := decide (e - s = wl k) && allB (fun i => decide (C (s + i) = wd k i)) (wl k)
theorem wl_b : ∀ k, k < 6 → 4 ≤ wl k ∧ wl k ≤ 8 := by decide
theorem wd_b : ∀ k, k < 6 → ∀ i, i < wl k → 97 ≤ wd k i ∧ wd k i ≤ 122 := by decide
theorem len_k : ∀ k, k < 6 → fJ0_length_8abf5 k = some (nI (wl k)) := by decide +kernel
theorem char_k : ∀ k, k < 6 → ∀ i, i < wl k → fJ0_charAt_5068e k (nI i) = some (nI (wd k i)) := by decide +kernel
theorem txl_c : ∀ c, c < 256 → ∀ x, x < 128 → (nI x = (nI c).toInt8.toInt32 ↔ c = x) := by
  intro c hc x hx
  by_cases h : c < 128
  · rw [fa_byte_small h, nI_eq (by omega) (by omega)]; exact eq_comm
  · have h2 : (nI c).toInt8.toInt32 < 0 := (by decide +kernel : ∀ c, c < 256 → ¬ c < 128 → (nI c).toInt8.toInt32 < 0) c hc h
    constructor
    · intro z; rw [← z] at h2; exact absurd h2 (nI_pos (by omega))
    · intro z; omega
theorem isWord_ok {L : Nat} {C : Nat → Nat} {tx mt : Nat → Int32} (hT : TXT L C tx mt) {s e : Nat} (h1 : s < e) (h2 : e ≤ L) {k : Nat} (hk : k < 6) : fX2_isWord tx k (nI s) (nI e) = some (b01 (eqW C s e k)) := by
  have hL := hT.1
  have wb := wl_b k hk
  unfold fX2_isWord
  rw [len_k k hk, bind_some', pk_sub (by omega)]
  by_cases c : e - s = wl k
  · rw [c, if_pos rfl]
    unfold eqW
    rw [decide_eq_true c, Bool.true_and]
    have step : ∀ m i, i < wl k → fX2_isWord_15 k (nI s) (nI e) tx (fun _ => some 1) (m + 1) (nI (s + i)) = if C (s + i) = wd k i then fX2_isWord_15 k (nI s) (nI e) tx (fun _ => some 1) m (nI (s + (i + 1))) else some 0 := by
      intro m i hi
      obtain ⟨hc, -, ht⟩ := hT.2 (s + i) (by omega)
      have wdb := wd_b k hk i hi
      rw [fX2_isWord_15, if_neg (nI_ge (by omega) (by omega)), pk_sub (by omega), show s + i - s = i by omega, char_k k hk i hi, bind_some', rdI_n (by omega) (by decide), bind_some', ht, nI_1]
      by_cases d : C (s + i) = wd k i
      · rw [if_pos ((txl_c _ hc _ (by omega)).mpr d), if_pos d]; rfl
      · rw [if_neg (fun z => d ((txl_c _ hc _ (by omega)).mp z)), if_neg d]
    have go : ∀ (r i m : Nat), i + r = wl k → r < m → (∀ j, j < i → C (s + j) = wd k j) → fX2_isWord_15 k (nI s) (nI e) tx (fun _ => some 1) m (nI (s + i)) = some (b01 (allB (fun i => decide (C (s + i) = wd k i)) (wl k))) := by
      intro r
      induction r with
      | zero =>
        intro i m hi hm hj
        obtain ⟨m, rfl⟩ : ∃ z, m = z + 1 := ⟨m - 1, by omega⟩
        rw [fX2_isWord_15, if_pos (nI_le (by omega) (by omega)), (allB_iff _ _).mpr (fun j hj' => decide_eq_true (hj j (by omega)))]
        rfl
      | succ r ih =>
        intro i m hi hm hj
        obtain ⟨m, rfl⟩ : ∃ z, m = z + 1 := ⟨m - 1, by omega⟩
        rw [step m i (by omega)]
        by_cases d : C (s + i) = wd k i
        · rw [if_pos d]
          refine ih (i + 1) m (by omega) (by omega) (fun j hj' => ?_)
          by_cases f : j = i
          · rw [f]; exact d
          · exact hj j (by omega)
        · rw [if_neg d]
          have : allB (fun i => decide (C (s + i) = wd k i)) (wl k) = false := by
            cases f : allB (fun i => decide (C (s + i) = wd k i)) (wl k)
            · rfl
            · exact absurd (of_decide_eq_true ((allB_iff _ _).mp f i (by omega))) d
          rw [this]; rfl
    exact go (wl k) 0 fu (by omega) (by show wl k < 50000; omega) (fun j hj => absurd hj (Nat.not_lt_zero j))
  · rw [if_neg (fun z => c ((nI_eq (by omega) (by omega)).mp z).symm)]
    unfold eqW
    rw [decide_eq_false c, Bool.false_and]
    rfl
def vb (C : Nat → Nat) (s e : Nat) : Int32 := if eqW C s e 0 = true then 0 else if eqW C s e 1 = true then 1 else if eqW C s e 2 = true then 2 else if eqW C s e 3 = true then 3 else if eqW C s e 4 = true then 4 else if eqW C s e 5 = true then 5 else -1
theorem wordAt_ok {L : Nat} {C : Nat → Nat} {tx mt : Nat → Int32} (hT : TXT L C tx mt) {s e : Nat} (h1 : s < e) (h2 : e ≤ L) : fX2_wordAt tx (nI s) (nI e) = some (vb C s e) := by
  unfold fX2_wordAt vb
  rw [isWord_ok hT h1 h2 (show 0 < 6 by decide), isWord_ok hT h1 h2 (show 1 < 6 by decide), isWord_ok hT h1 h2 (show 2 < 6 by decide), isWord_ok hT h1 h2 (show 3 < 6 by decide), isWord_ok hT h1 h2 (show 4 < 6 by decide), isWord_ok hT h1 h2 (show 5 < 6 by decide)]
  simp only [bind_some']
  cases eqW C s e 0 <;> cases eqW C s e 1 <;> cases eqW C s e 2 <;> cases eqW C s e 3 <;> cases eqW C s e 4 <;> cases eqW C s e 5 <;> rfl
/-- the bytes ahead of z as one number -/
def hv (f : Nat → Nat) : Nat → Nat
  | 0 => 0
  | z + 1 => 256 * hv f z + f z
theorem hv_eq {f g : Nat → Nat} : ∀ (z l : Nat), (∀ i, i < z → 0 < f i ∧ f i < 256) → (∀ i, i < l → 0 < g i ∧ g i < 256) → (hv f z = hv g l ↔ z = l ∧ ∀ i, i < l → f i = g i)
  | 0, 0, _, _ => ⟨fun _ => ⟨rfl, fun i hi => absurd hi (Nat.not_lt_zero i)⟩, fun _ => rfl⟩
  | 0, l + 1, _, hg => ⟨fun h => by
      have := hg l (by omega)
      have h2 : 0 = 256 * hv g l + g l := h
      omega, fun h => by omega⟩
  | z + 1, 0, hf, _ => ⟨fun h => by
      have := hf z (by omega)
      have h2 : 256 * hv f z + f z = 0 := h
      omega, fun h => by omega⟩
  | z + 1, l + 1, hf, hg => by
    have a := hf z (by omega)
    have b := hg l (by omega)
    have ih := hv_eq z l (fun i hi => hf i (by omega)) (fun i hi => hg i (by omega))
    show 256 * hv f z + f z = 256 * hv g l + g l ↔ _
    constructor
    · intro h
      have h1 : f z = g l := by omega
      have h2 : hv f z = hv g l := by omega
      obtain ⟨e1, e2⟩ := ih.mp h2
      refine ⟨by omega, fun i hi => ?_⟩
      by_cases c : i = l
      · rw [c, ← h1, e1]
      · exact e2 i (by omega)
    · rintro ⟨h1, h2⟩
      have e1 : z = l := by omega
      have := ih.mpr ⟨e1, fun i hi => h2 i (by omega)⟩
      rw [this, e1, h2 l (by omega)]
theorem hv_lt {f : Nat → Nat} : ∀ (z : Nat), (∀ i, i < z → f i < 128) → z ≤ 8 → hv f z < 2 ^ 63
  | z, h, hz => by
    have : ∀ y, y ≤ z → 2 * hv f y < 256 ^ y + (if y = 0 then 1 else 0) := by
      intro y
      induction y with
      | zero => intro _; show 2 * 0 < 256 ^ 0 + 1; decide
      | succ y ih =>
        intro hy
        have i := ih (by omega)
        have b := h y (by omega)
        show 2 * (256 * hv f y + f y) < 256 ^ (y + 1) + 0
        rw [Nat.pow_succ]
        by_cases c : y = 0
        · subst c
          show 2 * (256 * 0 + f 0) < 256 ^ 0 * 256 + 0
          omega
        · rw [if_neg c] at i
          omega
    have t := this z (Nat.le_refl z)
    have p : 256 ^ z ≤ 256 ^ 8 := Nat.pow_le_pow_right (by decide) hz
    have q : (256 : Nat) ^ 8 = 2 ^ 64 := by decide
    have q2 : (2 : Nat) ^ 64 = 2 * 2 ^ 63 := by decide
    by_cases c : z = 0
    · subst c; show 0 < 2 ^ 63; omega
    · rw [if_neg c] at t; omega
theorem wv_k : ∀ k, k < 6 → lN (hv (wd k) (wl k)) = [8532470181776549235, 448377483891, 2003791716, 127978976601458, 112641580559972, 1852138852].getD k 0 := by decide +kernel
theorem cmp_ok {x y : Int64} : lg_cmp x y = 0 ↔ x = y := by
  unfold lg_cmp
  by_cases c : x > y
  · rw [if_pos c]
    constructor
    · intro h; exact absurd h (by decide)
    · intro h; subst h; exact absurd c (by rw [gt_iff_lt, fa_lt64]; omega)
  · rw [if_neg c]
    by_cases d : x = y
    · rw [if_pos d]; exact ⟨fun _ => d, fun _ => rfl⟩
    · rw [if_neg d]; exact ⟨fun h => absurd h (by decide), fun h => absurd h d⟩
theorem lN_step (a b : Nat) : 256 * lN a + lN b = lN (256 * a + b) := by
  show lN 256 * lN a + lN b = lN (256 * a + b)
  rw [show lN 256 * lN a = lN (256 * a) from (Int64.ofNat_mul 256 a).symm]
  exact (Int64.ofNat_add (256 * a) b).symm
/-- the reference's verb, by its number -/
theorem verb_v {V : Nat} (hV : V < 2 ^ 63) {C : Nat → Nat} {s e : Nat} (h : ∀ k, k < 6 → (V = hv (wd k) (wl k) ↔ eqW C s e k = true)) : ((if (lg_cmp (lN V) 8532470181776549235) = 0 then some 0 else (if (lg_cmp (lN V) 448377483891) = 0 then some 1 else (if (lg_cmp (lN V) 2003791716) = 0 then some 2 else some ((-1)))) : Option (Int32)).bind (fun f8 => (if f8 = ((-1)) then (if (lg_cmp (lN V) 127978976601458) = 0 then some 3 else (if (lg_cmp (lN V) 112641580559972) = 0 then some 4 else (if (lg_cmp (lN V) 1852138852) = 0 then some 5 else some ((-1))))) else some f8))) = some (vb C s e) := by
  have hk : ∀ k, k < 6 → hv (wd k) (wl k) < 2 ^ 63 := fun k hk => hv_lt _ (fun i hi => by have := wd_b k hk i hi; omega) (wl_b k hk).2
  have t : ∀ k, k < 6 → (lN V = [8532470181776549235, 448377483891, 2003791716, 127978976601458, 112641580559972, 1852138852].getD k 0 ↔ eqW C s e k = true) := by
    intro k h6
    rw [← wv_k k h6, pk_lEQ hV (hk k h6)]
    exact h k h6
  have t0 : lN V = 8532470181776549235 ↔ eqW C s e 0 = true := t 0 (by decide)
  have t1 : lN V = 448377483891 ↔ eqW C s e 1 = true := t 1 (by decide)
  have t2 : lN V = 2003791716 ↔ eqW C s e 2 = true := t 2 (by decide)
  have t3 : lN V = 127978976601458 ↔ eqW C s e 3 = true := t 3 (by decide)
  have t4 : lN V = 112641580559972 ↔ eqW C s e 4 = true := t 4 (by decide)
  have t5 : lN V = 1852138852 ↔ eqW C s e 5 = true := t 5 (by decide)
  unfold vb
  simp only [cmp_ok, t0, t1, t2, t3, t4, t5]
  cases eqW C s e 0 <;> cases eqW C s e 1 <;> cases eqW C s e 2 <;> cases eqW C s e 3 <;> cases eqW C s e 4 <;> cases eqW C s e 5 <;> rfl
theorem verb_ok {L : Nat} {C : Nat → Nat} {tx mt : Nat → Int32} (hT : TXT L C tx mt) {s e : Nat} (hs : s < L) (hE : EN L C s e) : fX7_verb mt (nI L) (nI (kd (C s))) (nI s) (nI (e - s)) = some (vb C s e) := by
  have hL := hT.1
  obtain ⟨e1, e2, e3, e4⟩ := hE
  have kl := kd_le (C s)
  have wpos : ∀ k, k < 6 → 0 < hv (wd k) (wl k) := by
    intro k hk
    have a := wl_b k hk
    obtain ⟨z, hz⟩ : ∃ z, wl k = z + 1 := ⟨wl k - 1, by omega⟩
    rw [hz]
    show 0 < 256 * hv (wd k) z + wd k z
    have := wd_b k hk z (by omega)
    omega
  unfold fX7_verb
  by_cases c1 : kd (C s) = 1
  · have run := (e3 (Or.inl c1)).1
    by_cases c9 : e - s < 9
    · have hb : ∀ i, i < e - s → 97 ≤ C (s + i) ∧ C (s + i) ≤ 122 := fun i hi => kd_1.mp (by rw [run (s + i) (by omega) (by omega)]; exact c1)
      have hV : hv (fun i => C (s + i)) (e - s) < 2 ^ 63 := hv_lt _ (fun i hi => by have := hb i hi; omega) (by omega)
      refine Eq.trans ?_ (verb_v (V := hv (fun i => C (s + i)) (e - s)) hV (fun k hk => ?_))
      · refine forR (fun m i (z : Int64) => fX7_verb_4 mt (nI L) (nI (kd (C s))) (nI s) (nI (e - s)) _ m z i) (e - s) (fun i z => z = lN (hv (fun i => C (s + i)) i)) _ (fun m z hI => ?_) (fun m i z hi hI => Or.inr ⟨_, rfl, ?_⟩) fu 0 0 (Nat.zero_le _) (by show e - s - 0 < 50000; omega) rfl
        · show fX7_verb_4 _ _ _ _ _ _ (m + 1) z (nI (e - s)) = _
          rw [fX7_verb_4, if_pos (nI_le (Nat.le_refl _) (by omega)), hI]
        · show fX7_verb_4 _ _ _ _ _ _ (m + 1) z (nI i) = _
          have hbi := hb i hi
          rw [fX7_verb_4, if_neg (nI_ge hi (by omega)), if_neg (show ¬ 9 ≤ nI (e - s) from nI_ge (b := 9) c9 (by decide)), c1, if_pos (show nI 1 = 1 from rfl), nI_add, byteAt_in hT (by omega), bind_some', hI, nI_l (by omega), lN_step, nI_1]
          rfl
      · rw [hv_eq (f := fun i => C (s + i)) (e - s) (wl k) (fun i hi => by have := hb i hi; show 0 < C (s + i) ∧ C (s + i) < 256; omega) (fun i hi => by have := wd_b k hk i hi; omega)]
        unfold eqW
        rw [Bool.and_eq_true, decide_eq_true_iff, allB_iff]
        exact and_congr_right (fun _ => forall_congr' (fun i => forall_congr' (fun _ => by rw [decide_eq_true_iff])))
    · refine Eq.trans ?_ (verb_v (V := 0) (Nat.two_pow_pos 63) (fun k hk => ?_))
      · show fX7_verb_4 _ _ _ _ _ _ (49999 + 1) 0 0 = _
        rw [fX7_verb_4, if_pos (show 9 ≤ nI (e - s) from nI_le (a := 9) (by omega) (by omega))]
        split <;> rfl
      · have a := wl_b k hk
        have b := wpos k hk
        constructor
        · intro h; omega
        · intro h
          unfold eqW at h
          rw [Bool.and_eq_true] at h
          have := of_decide_eq_true h.1
          omega
  · refine Eq.trans ?_ (verb_v (V := 0) (Nat.two_pow_pos 63) (fun k hk => ?_))
    · show fX7_verb_4 _ _ _ _ _ _ (49999 + 1) 0 0 = _
      rw [fX7_verb_4, if_neg (show ¬ nI (kd (C s)) = 1 from fun z => c1 ((nI_eq (b := 1) (by omega) (by decide)).mp z))]
      split
      · rfl
      · split <;> rfl
    · have a := wl_b k hk
      have b := wpos k hk
      constructor
      · intro h; omega
      · intro h
        unfold eqW at h
        rw [Bool.and_eq_true] at h
        have h0 := of_decide_eq_true ((allB_iff _ _).mp h.2 0 (by omega))
        have h1 := wd_b k hk 0 (by omega)
        rw [Nat.add_zero] at h0
        exact absurd (kd_1.mpr (by omega)) c1
/-- a word is at least four bytes long -/
theorem vb_b {C : Nat → Nat} {s e : Nat} : vb C s e = -1 ∨ ∃ k, k < 6 ∧ vb C s e = nI k ∧ 4 ≤ e - s := by
  have q : ∀ k, k < 6 → eqW C s e k = true → 4 ≤ e - s := by
    intro k hk h
    unfold eqW at h
    rw [Bool.and_eq_true] at h
    have := of_decide_eq_true h.1
    have := wl_b k hk
    omega
  unfold vb
  by_cases h0 : eqW C s e 0 = true
  · rw [if_pos h0]; exact Or.inr ⟨0, by decide, rfl, q 0 (by decide) h0⟩
  rw [if_neg h0]
  by_cases h1 : eqW C s e 1 = true
  · rw [if_pos h1]; exact Or.inr ⟨1, by decide, rfl, q 1 (by decide) h1⟩
  rw [if_neg h1]
  by_cases h2 : eqW C s e 2 = true
  · rw [if_pos h2]; exact Or.inr ⟨2, by decide, rfl, q 2 (by decide) h2⟩
  rw [if_neg h2]
  by_cases h3 : eqW C s e 3 = true
  · rw [if_pos h3]; exact Or.inr ⟨3, by decide, rfl, q 3 (by decide) h3⟩
  rw [if_neg h3]
  by_cases h4 : eqW C s e 4 = true
  · rw [if_pos h4]; exact Or.inr ⟨4, by decide, rfl, q 4 (by decide) h4⟩
  rw [if_neg h4]
  by_cases h5 : eqW C s e 5 = true
  · rw [if_pos h5]; exact Or.inr ⟨5, by decide, rfl, q 5 (by decide) h5⟩
  rw [if_neg h5]
  exact Or.inl rfl
