/-! how many bits -/
def onesN (x : Int32) : Nat → Nat
  | 0 => 0
  | i + 1 => onesN x i + (if bt x i = true then 1 else 0)
theorem onesN_le (x : Int32) : ∀ n, onesN x n ≤ n
  | 0 => Nat.le_refl 0
  | n + 1 => by
    have := onesN_le x n
    show onesN x n + _ ≤ n + 1
    split <;> omega
theorem onesN_bel {x : Int32} {n : Nat} (h : bel x n) : ∀ m, n ≤ m → onesN x m = onesN x n
  | 0, hm => by rw [show n = 0 by omega]
  | m + 1, hm => by
    by_cases e : n = m + 1
    · rw [e]
    · show onesN x m + _ = _
      rw [onesN_bel h m (by omega), h m (by omega)]; rfl
theorem bel_nat {x : Int32} {n : Nat} (h : bel x n) (hn : n ≤ 31) : ∃ j, j < 2 ^ n ∧ x = nI j := by
  refine ⟨x.toBitVec.toNat, ?_, ?_⟩
  · refine Nat.lt_pow_two_of_testBit _ (fun i hi => ?_)
    exact h i hi
  · apply Int32.toBitVec_inj.mp
    show x.toBitVec = BitVec.ofNat 32 x.toBitVec.toNat
    rw [BitVec.ofNat_toNat, BitVec.setWidth_eq]
set_option maxRecDepth 100000 in
theorem bitCount_4096 : ∀ j, j < 4096 → fJ6_bitCount_0f7a4 (nI j) = some (nI (onesN (nI j) 12)) := by decide +kernel
theorem bitCount_ok {x : Int32} (h : bel x 12) : fJ6_bitCount_0f7a4 x = some (nI (onesN x 12)) := by
  obtain ⟨j, hj, rfl⟩ := bel_nat h (by decide)
  exact bitCount_4096 j hj
