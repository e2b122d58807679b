/-! THE PURE SIDE: rows on reads, writes, loops, bits -/
theorem rdI_n {n : Nat} {f : Nat → Int32} {j : Nat} (h : j < n) (hn : n < 2 ^ 31) : rdI n f (nI j) = some (f j) := by
  unfold rdI
  rw [if_neg (nI_in h hn), nI_clamp (Nat.lt_trans h hn)]
theorem wrI_n {n : Nat} {f : Nat → Int32} {j : Nat} {x : Int32} (h : j < n) (hn : n < 2 ^ 31) : wrI n f (nI j) x = some (upd f j x) := by
  unfold wrI
  rw [if_neg (nI_in h hn), nI_clamp (Nat.lt_trans h hn)]
theorem bind_some' {α β : Type} (a : α) (k : α → Option β) : (some a).bind k = k a := rfl
/-- a loop: its answer is R -/
theorem forR {σ α : Type} (F : Nat → Int32 → σ → Option α) (N : Nat) (I : Nat → σ → Prop) (R : Option α)
    (hexit : ∀ n s, I N s → F (n + 1) (nI N) s = R)
    (hstep : ∀ n i s, i < N → I i s → F (n + 1) (nI i) s = R ∨ ∃ s', I (i + 1) s' ∧ F (n + 1) (nI i) s = F n (nI (i + 1)) s') :
    ∀ (n i : Nat) (s : σ), i ≤ N → N - i < n → I i s → F n (nI i) s = R := by
  intro n
  induction n with
  | zero => intro i s _ h; exact absurd h (Nat.not_lt_zero _)
  | succ n ih =>
    intro i s hi hn hI
    rcases Nat.lt_or_ge i N with h | h
    · rcases hstep n i s h hI with e | ⟨s', h1, e⟩
      · exact e
      · rw [e]
        exact ih (i + 1) s' h (by omega) h1
    · have : i = N := by omega
      subst this
      exact hexit n s hI
/-- a loop: it comes to its end with I -/
theorem forI {σ α : Type} (F : Nat → Int32 → σ → Option α) (kx : σ → Option α) (N : Nat) (I : Nat → σ → Prop)
    (hexit : ∀ n s, I N s → F (n + 1) (nI N) s = kx s)
    (hstep : ∀ n i s, i < N → I i s → ∃ s', I (i + 1) s' ∧ F (n + 1) (nI i) s = F n (nI (i + 1)) s') :
    ∀ (n i : Nat) (s : σ), i ≤ N → N - i < n → I i s → ∃ s', I N s' ∧ F n (nI i) s = kx s' := by
  intro n
  induction n with
  | zero => intro i s _ h; exact absurd h (Nat.not_lt_zero _)
  | succ n ih =>
    intro i s hi hn hI
    rcases Nat.lt_or_ge i N with h | h
    · obtain ⟨s', h1, e⟩ := hstep n i s h hI
      rw [e]
      exact ih (i + 1) s' h (by omega) h1
    · have : i = N := by omega
      subst this
      exact ⟨s, hI, hexit n s hI⟩
theorem and1_0 (y : Int32) : y &&& 1 = 0 ↔ bt y 0 = false := by
  constructor
  · intro h
    have h2 := b_and y 1 0
    rw [h, b_0] at h2
    have h3 : bt 1 0 = true := by decide +kernel
    rw [h3, Bool.and_true] at h2
    exact h2.symm
  · intro h
    refine b_ext (fun i hi => ?_)
    rw [b_and, b_0]
    rcases Nat.eq_zero_or_pos i with h0 | h0
    · rw [h0, h]; rfl
    · have : bt 1 i = false := (by decide +kernel : ∀ i, i < 32 → 0 < i → bt 1 i = false) i hi h0
      rw [this, Bool.and_false]
theorem and1_1 (y : Int32) : y &&& 1 = 1 ↔ bt y 0 = true := by
  constructor
  · intro h
    have h2 := b_and y 1 0
    have h3 : bt 1 0 = true := by decide +kernel
    rw [h, h3, Bool.and_true] at h2
    exact h2.symm
  · intro h
    refine b_ext (fun i hi => ?_)
    rw [b_and]
    rcases Nat.eq_zero_or_pos i with h0 | h0
    · rw [h0, h]; rfl
    · have : bt 1 i = false := (by decide +kernel : ∀ i, i < 32 → 0 < i → bt 1 i = false) i hi h0
      rw [this, Bool.and_false]
theorem bt_shr0 (x : Int32) {j : Nat} (hj : j < 32) : bt (x >>> (nI j &&& 31)) 0 = bt x j := by
  rw [b_sshr j hj x (by decide)]
  rw [Nat.add_zero, if_pos hj]
theorem shr_0 (x : Int32) {j : Nat} (hj : j < 32) : (x >>> (nI j &&& 31)) &&& 1 = 0 ↔ bt x j = false := by rw [and1_0, bt_shr0 x hj]
theorem shr_1 (x : Int32) {j : Nat} (hj : j < 32) : (x >>> (nI j &&& 31)) &&& 1 = 1 ↔ bt x j = true := by rw [and1_1, bt_shr0 x hj]
theorem bt_one {j : Nat} (hj : j < 32) (i : Nat) : bt ((1 : Int32) <<< (nI j &&& 31)) i = decide (i = j) := by
  rcases Nat.lt_or_ge i 32 with h | h
  · exact (by decide +kernel : ∀ j, j < 32 → ∀ i, i < 32 → bt ((1 : Int32) <<< (nI j &&& 31)) i = decide (i = j)) j hj i h
  · rw [b_big h, decide_eq_false (by omega)]
theorem bt_not (x : Int32) {i : Nat} (hi : i < 32) : bt (x ^^^ (-1)) i = !bt x i := by rw [b_xor, b_m1 i hi]; cases bt x i <;> rfl
/-- 0 or 1 -/
def b01 (b : Bool) : Int32 := if b then 1 else 0
theorem b01_0 (b : Bool) : b01 b = 0 ↔ b = false := by cases b <;> decide
theorem b01_1 (b : Bool) : b01 b = 1 ↔ b = true := by cases b <;> decide
theorem b01_eq (a b : Bool) : b01 a = b01 b ↔ a = b := by cases a <;> cases b <;> decide
theorem zbI_b (b : Bool) : zbI (b01 b) = some (b01 b) := by cases b <;> rfl
theorem has_eq (x : Int32) {j : Nat} (hj : j < 32) : fX6_has x (nI j) = some (b01 (bt x j)) := by
  unfold fX6_has
  by_cases h : bt x j = true
  · rw [if_neg (by rw [shr_0 x hj, h]; decide), h]; rfl
  · rw [if_pos (by rw [shr_0 x hj]; simpa using h)]
    have : bt x j = false := by simpa using h
    rw [this]; rfl
/-- the bits of x lie below n -/
def bel (x : Int32) (n : Nat) : Prop := ∀ i, n ≤ i → bt x i = false
theorem bel_mono {x : Int32} {a b : Nat} (h : bel x a) (hab : a ≤ b) : bel x b := fun i hi => h i (Nat.le_trans hab hi)
theorem bel_0 (n : Nat) : bel 0 n := fun i _ => b_0 i
theorem bel_or {x y : Int32} {n : Nat} (hx : bel x n) (hy : bel y n) : bel (x ||| y) n := fun i hi => by rw [b_or, hx i hi, hy i hi]; rfl
theorem bel_and {x y : Int32} {n : Nat} (hx : bel x n) : bel (x &&& y) n := fun i hi => by rw [b_and, hx i hi]; rfl
theorem bel_and' {x y : Int32} {n : Nat} (hy : bel y n) : bel (x &&& y) n := fun i hi => by rw [b_and, hy i hi, Bool.and_false]
theorem bel_one {j n : Nat} (hj : j < n) (hn : n ≤ 32) : bel ((1 : Int32) <<< (nI j &&& 31)) n := fun i hi => by rw [bt_one (by omega), decide_eq_false (by omega)]
theorem bel_ext {x y : Int32} {n : Nat} (hx : bel x n) (hy : bel y n) (h : ∀ i, i < n → bt x i = bt y i) : x = y := b_ext (fun i _ => by
  rcases Nat.lt_or_ge i n with q | q
  · exact h i q
  · rw [hx i q, hy i q])
theorem bel_zero {x : Int32} {n : Nat} (hx : bel x n) : x = 0 ↔ ∀ i, i < n → bt x i = false := by
  constructor
  · intro h i _; rw [h, b_0]
  · intro h; exact bel_ext hx (bel_0 n) (fun i hi => by rw [h i hi, b_0])
/-- numbers -/
theorem nI_lit (n : Nat) : (OfNat.ofNat n : Int32) = nI n := fa_lit n
theorem upd_at {f : Nat → Int32} {k : Nat} {x : Int32} : upd f k x k = x := pk_us
theorem upd_ne {f : Nat → Int32} {k j : Nat} {x : Int32} (h : j ≠ k) : upd f k x j = f j := pk_un h
theorem rdB0 (bk : Nat → Int32) : rdI 104 bk 0 = some (bk 0) := rdI_n (n := 104) (j := 0) (by decide) (by decide)
theorem rdB1 (bk : Nat → Int32) : rdI 104 bk 1 = some (bk 1) := rdI_n (n := 104) (j := 1) (by decide) (by decide)
theorem rdB2 (bk : Nat → Int32) : rdI 104 bk 2 = some (bk 2) := rdI_n (n := 104) (j := 2) (by decide) (by decide)
theorem rdB3 (bk : Nat → Int32) : rdI 104 bk 3 = some (bk 3) := rdI_n (n := 104) (j := 3) (by decide) (by decide)
