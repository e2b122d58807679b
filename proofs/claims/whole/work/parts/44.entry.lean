/-! THE CLAIM OUT OF ONE WALK OF THE LAW'S BODY. Your part is whole_start (and what it stands on); all else here is the same for every law, but numbers. -/
def R_law : String := "BlindBellsLaw"
def lw_P (b : Addr) (xs : List Int32) (args : Array Value) (s : State) : Prop := args = #[.ref b] ∧ s.IntsAt b xs ∧ xs.length ≤ 2560 ∧ (Jvm.Cond.and given_1 narrow_1).before args s = true
def lw_Q (_ : Array Value) (s : State) (o : Outcome) (t : State) : Prop := o = .returned (some (.int 1)) ∧ Framed s o t [] 600000 7302250
def lw_Z (below : List Frame) (a : Array Value) (s : State) : State → Prop := fun t => ∃ o, t.status = .running ∧ Ended t below o ∧ lw_Q a s o t
/-- the law's own end, with 1 on the stack, nothing written that was there before, its room as the claim has it -/
theorem lw_ret {p : Program} {l : Launch} {e : Env} {s : State} {m : MethodId} {below : List Frame} {meth : Method} {c : Code} {b : Nat} (hx : p.tables.exec = Jvm.exec) (hb : c.code = code) (hr : meth.sig.returnType = ret) (hlocks : meth.locks = false) {pc : Nat} {H : Heap} {ls : Array Slot} (hdg : decode code pc = .ok (.ireturn, 1)) : W p l e room_1 s m #[Value.ref b] below meth c H [] 600000 7302250 (lw_Z below #[Value.ref b] s) (F0 m pc ls [.int 1]) := by
  intro T hT X
  obtain ⟨fs, hret, hrun, hended, hW, hframe⟩ := X.leave (v := some (.int 1)) (hlocks := hlocks) (fun h => by rw [hr] at h; cases h)
  have hmeth' : T.vm.method? m = some meth := X.method'
  refine ⟨T.setFrames fs, ?_, .returned (some (.int 1)), hrun, hended, rfl, ⟨_, rfl⟩, hW, hframe⟩
  jvm_step X.here [X.here.top, hx, hb, hdg, hmeth', hr, ret, narrow_b1]
  (try refine ⟨rfl, ?_⟩); (try refine ⟨rfl, ?_⟩)
  first | (intro acts; rw [hret _ acts rfl rfl rfl]) | rw [hret _ _ rfl rfl rfl]
  exact Steps.refl _
/-- what holds at the law's entry: the machine, the code, the tables' words (any of lw_tbl by 'hts w (by decide +kernel)'), the script of L ints xs at the cell b, what the Statement gives of the start (any of its parts by flat_of_before) -/
def lw_At (p : Program) (s : State) (m : MethodId) (meth : Method) (c : Code) (b L : Nat) (xs : Nat → Int32) : Prop :=
  p.tables.exec = Jvm.exec ∧ c.code = code ∧ meth.sig.returnType = ret ∧ c.maxLocals = 4 ∧ s.vm.findClass R_law = some m.cls ∧ (∀ w ∈ lw_tbl, w.before #[Value.ref b] s = true) ∧ va_X b L xs s s.heap ∧ b < s.heap.size ∧ meth.locks = false ∧ (Jvm.Cond.and given_1 narrow_1).before #[Value.ref b] s = true
/-! what the entry gives: classes, array classes, links, statics, String constants -/
set_option maxHeartbeats 4000000 in
set_option maxRecDepth 100000 in
theorem ezX0 : ∀ w ∈ u_ws RX0 TX0 3, w ∈ lw_tbl := by decide +kernel
set_option maxHeartbeats 4000000 in
set_option maxRecDepth 100000 in
theorem enX0 : Cond.instantiable RX0 3 ∈ lw_tbl := by decide +kernel
set_option maxHeartbeats 4000000 in
set_option maxRecDepth 100000 in
theorem ezX1 : ∀ w ∈ u_ws RX1 TX1 5, w ∈ lw_tbl := by decide +kernel
set_option maxHeartbeats 4000000 in
set_option maxRecDepth 100000 in
theorem enX1 : Cond.instantiable RX1 5 ∈ lw_tbl := by decide +kernel
set_option maxHeartbeats 4000000 in
set_option maxRecDepth 100000 in
theorem ezX2 : ∀ w ∈ u_ws RX2 TX2 7, w ∈ lw_tbl := by decide +kernel
set_option maxHeartbeats 4000000 in
set_option maxRecDepth 100000 in
theorem enX2 : Cond.instantiable RX2 7 ∈ lw_tbl := by decide +kernel
set_option maxHeartbeats 4000000 in
set_option maxRecDepth 100000 in
theorem ezX3 : ∀ w ∈ u_ws RX3 TX3 15, w ∈ lw_tbl := by decide +kernel
set_option maxHeartbeats 4000000 in
set_option maxRecDepth 100000 in
theorem enX3 : Cond.instantiable RX3 15 ∈ lw_tbl := by decide +kernel
set_option maxHeartbeats 4000000 in
set_option maxRecDepth 100000 in
theorem ezX4 : ∀ w ∈ u_ws RX4 TX4 4, w ∈ lw_tbl := by decide +kernel
set_option maxHeartbeats 4000000 in
set_option maxRecDepth 100000 in
theorem enX4 : Cond.instantiable RX4 4 ∈ lw_tbl := by decide +kernel
set_option maxHeartbeats 4000000 in
set_option maxRecDepth 100000 in
theorem ezX5 : ∀ w ∈ u_ws RX5 TX5 1, w ∈ lw_tbl := by decide +kernel
set_option maxHeartbeats 4000000 in
set_option maxRecDepth 100000 in
theorem enX5 : Cond.instantiable RX5 1 ∈ lw_tbl := by decide +kernel
set_option maxHeartbeats 4000000 in
set_option maxRecDepth 100000 in
theorem ezX6 : ∀ w ∈ u_ws RX6 TX6 11, w ∈ lw_tbl := by decide +kernel
set_option maxHeartbeats 4000000 in
set_option maxRecDepth 100000 in
theorem enX6 : Cond.instantiable RX6 11 ∈ lw_tbl := by decide +kernel
set_option maxHeartbeats 4000000 in
set_option maxRecDepth 100000 in
theorem ezX7 : ∀ w ∈ u_ws RX7 TX7 16, w ∈ lw_tbl := by decide +kernel
set_option maxHeartbeats 4000000 in
set_option maxRecDepth 100000 in
theorem enX7 : Cond.instantiable RX7 16 ∈ lw_tbl := by decide +kernel
set_option maxHeartbeats 4000000 in
set_option maxRecDepth 100000 in
theorem eaI : (Cond.arrayClass .int) ∈ lw_tbl := by decide +kernel
set_option maxHeartbeats 4000000 in
set_option maxRecDepth 100000 in
theorem eaB : (Cond.arrayClass .byte) ∈ lw_tbl := by decide +kernel
set_option maxHeartbeats 4000000 in
set_option maxRecDepth 100000 in
theorem eaZ : (Cond.arrayClass .boolean) ∈ lw_tbl := by decide +kernel
set_option maxHeartbeats 4000000 in
set_option maxRecDepth 100000 in
theorem eaV : (Cond.arrayOver (.object "BlindBells$Valley")) ∈ lw_tbl := by decide +kernel
set_option maxHeartbeats 4000000 in
set_option maxRecDepth 100000 in
theorem easN : (Cond.laysStatic "BlindBells$Tale" "NUMBERS_OF" "[I") ∈ lw_tbl := by decide +kernel
set_option maxHeartbeats 4000000 in
set_option maxRecDepth 100000 in
theorem easC : (Cond.laysStatic "java/lang/String" "COMPACT_STRINGS" "Z") ∈ lw_tbl := by decide +kernel
set_option maxHeartbeats 4000000 in
set_option maxRecDepth 100000 in
theorem easF : (Cond.laysStatic "jdk/internal/util/Preconditions" "SIOOBE_FORMATTER" "Ljava/util/function/BiFunction;") ∈ lw_tbl := by decide +kernel
set_option maxHeartbeats 4000000 in
set_option maxRecDepth 100000 in
theorem eaiT : (Cond.initialized "BlindBells$Tale") ∈ lw_tbl := by decide +kernel
set_option maxHeartbeats 4000000 in
set_option maxRecDepth 100000 in
theorem eaiS : (Cond.initialized "java/lang/String") ∈ lw_tbl := by decide +kernel
set_option maxHeartbeats 4000000 in
set_option maxRecDepth 100000 in
theorem eaiP : (Cond.initialized "jdk/internal/util/Preconditions") ∈ lw_tbl := by decide +kernel
set_option maxHeartbeats 4000000 in
set_option maxRecDepth 100000 in
theorem eaN : ∀ q ∈ nwQ, Cond.methodLinkNest q.1 q.2.1 q.2.2.1 q.2.2.2 ∈ lw_tbl := by decide +kernel
set_option maxHeartbeats 4000000 in
set_option maxRecDepth 100000 in
theorem eaR : ∀ i, i < 6 → Cond.stringRef RX2 (sIdx.getD i 0) (sTx.getD i "") ∈ lw_tbl := by decide +kernel
abbrev eTm (i : Nat) : Term := .string RX2 (sIdx.getD i 0)
abbrev eGv : List Cond := flatC (Jvm.Cond.and given_1 narrow_1)
set_option maxHeartbeats 4000000 in
set_option maxRecDepth 100000 in
theorem eg1 : Cond.arrayOf (.static "BlindBells$Tale" "NUMBERS_OF" "[I") .int ∈ eGv := by decide +kernel
set_option maxHeartbeats 4000000 in
set_option maxRecDepth 100000 in
theorem eg2 : Cond.eq (.length (.static "BlindBells$Tale" "NUMBERS_OF" "[I")) (.int (Int32.ofNat 6)) ∈ eGv := by decide +kernel
set_option maxHeartbeats 4000000 in
set_option maxRecDepth 100000 in
theorem eg3 : ∀ j, j < 6 → Cond.eq (.elem (.static "BlindBells$Tale" "NUMBERS_OF" "[I") (.int (Int32.ofNat j))) (.int (numL.getD j 0)) ∈ eGv := by decide +kernel
set_option maxHeartbeats 4000000 in
set_option maxRecDepth 100000 in
theorem eg4 : Cond.eq (.static "java/lang/String" "COMPACT_STRINGS" "Z") (.int 1) ∈ eGv := by decide +kernel
set_option maxHeartbeats 4000000 in
set_option maxRecDepth 100000 in
theorem eg5 : Cond.isRef (.static "jdk/internal/util/Preconditions" "SIOOBE_FORMATTER" "Ljava/util/function/BiFunction;") ∈ eGv := by decide +kernel
set_option maxHeartbeats 4000000 in
set_option maxRecDepth 100000 in
theorem eg6 : ∀ i, i < 6 → Cond.exactly (eTm i) "java/lang/String" ∈ eGv := by decide +kernel
set_option maxHeartbeats 4000000 in
set_option maxRecDepth 100000 in
theorem eg7 : ∀ i, i < 6 → Cond.eq (.field (eTm i) "java/lang/String" "coder" "B") (.int 0) ∈ eGv := by decide +kernel
set_option maxHeartbeats 4000000 in
set_option maxRecDepth 100000 in
theorem eg8 : ∀ i, i < 6 → Cond.arrayOf (.field (eTm i) "java/lang/String" "value" "[B") .byte ∈ eGv := by decide +kernel
set_option maxHeartbeats 4000000 in
set_option maxRecDepth 100000 in
theorem eg9 : ∀ i, i < 6 → Cond.eq (.length (.field (eTm i) "java/lang/String" "value" "[B")) (.int (Int32.ofNat (sLen.getD i 0))) ∈ eGv := by decide +kernel
set_option maxHeartbeats 4000000 in
set_option maxRecDepth 100000 in
theorem eg10 : ∀ i, i < 6 → ∀ j, j < sLen.getD i 0 → Cond.eq (.elem (.field (eTm i) "java/lang/String" "value" "[B") (.int (Int32.ofNat j))) (.int ((sByt.getD i []).getD j 0)) ∈ eGv := by decide +kernel
set_option maxHeartbeats 4000000 in
set_option maxRecDepth 100000 in
theorem eg11 : ∀ i, i < 6 → ∀ j, j < 6 → i ≠ j → Cond.not (Cond.eq (eTm i) (eTm j)) ∈ eGv ∨ Cond.not (Cond.eq (eTm j) (eTm i)) ∈ eGv := by decide +kernel
set_option maxHeartbeats 4000000 in
set_option maxRecDepth 100000 in
theorem entry {s : State} {b : Nat} (hts : ∀ w ∈ lw_tbl, w.before #[Value.ref b] s = true) (hgv : (Jvm.Cond.and given_1 narrow_1).before #[Value.ref b] s = true) :
    ∃ G : GG, va_K G.1 vwCl (tyG G) s ∧ nwA s ∧ stA G (fun q : Nat => s.heap.size ≤ q) s ∧ va_AO "BlindBells$Valley" s := by
  have hg := flat_of_before _ hgv
  have hA : ∀ a : Nat, a < s.heap.size → ¬ (fun q : Nat => s.heap.size ≤ q) a := fun a h z => absurd h (Nat.not_lt.mpr z)
  obtain ⟨c0, i0, k0⟩ := u_known (C := RX0) (T := TX0) (N := 3) (n := 3) hts ezX0 (hts _ enX0)
  obtain ⟨c1, i1, k1⟩ := u_known (C := RX1) (T := TX1) (N := 5) (n := 5) hts ezX1 (hts _ enX1)
  obtain ⟨c2, i2, k2⟩ := u_known (C := RX2) (T := TX2) (N := 7) (n := 7) hts ezX2 (hts _ enX2)
  obtain ⟨c3, i3, k3⟩ := u_known (C := RX3) (T := TX3) (N := 15) (n := 15) hts ezX3 (hts _ enX3)
  obtain ⟨c4, i4, k4⟩ := u_known (C := RX4) (T := TX4) (N := 4) (n := 4) hts ezX4 (hts _ enX4)
  obtain ⟨c5, i5, k5⟩ := u_known (C := RX5) (T := TX5) (N := 1) (n := 1) hts ezX5 (hts _ enX5)
  obtain ⟨c6, i6, k6⟩ := u_known (C := RX6) (T := TX6) (N := 11) (n := 11) hts ezX6 (hts _ enX6)
  obtain ⟨c7, i7, k7⟩ := u_known (C := RX7) (T := TX7) (N := 16) (n := 16) hts ezX7 (hts _ enX7)
  obtain ⟨D, hKc⟩ : ∃ D : va_G, ∀ (k : Nat) (q : vw_C), vwCl[k]? = some q → u_Kn s q.1 q.2.1 q.2.2 (D.1 k) (D.2 k) := by
    refine ⟨(fun k => if k = 0 then c0 else if k = 1 then c1 else if k = 2 then c2 else if k = 3 then c3 else if k = 4 then c4 else if k = 5 then c5 else if k = 6 then c6 else c7, fun k => if k = 0 then i0 else if k = 1 then i1 else if k = 2 then i2 else if k = 3 then i3 else if k = 4 then i4 else if k = 5 then i5 else if k = 6 then i6 else i7), ?_⟩
    intro k q hq
    match k, hq with
    | 0, hq => cases hq; exact k0
    | 1, hq => cases hq; exact k1
    | 2, hq => cases hq; exact k2
    | 3, hq => cases hq; exact k3
    | 4, hq => cases hq; exact k4
    | 5, hq => cases hq; exact k5
    | 6, hq => cases hq; exact k6
    | 7, hq => cases hq; exact k7
    | k + 8, hq => simp at hq
  obtain ⟨aI, kI, pI, fI1, fI2, fI3⟩ := Cond.arrayClass_spec (hts _ eaI)
  obtain ⟨aB, kB, pB, fB1, fB2, fB3⟩ := Cond.arrayClass_spec (hts _ eaB)
  obtain ⟨aZ, kZ, pZ, fZ1, fZ2, fZ3⟩ := Cond.arrayClass_spec (hts _ eaZ)
  obtain ⟨pV, aV, kV, fV1, -, fV2, fV3, fV4⟩ := Cond.arrayOver_spec (hts _ eaV)
  obtain ⟨t, ht, hT⟩ := va_Tof (A := fun q : Nat => s.heap.size ≤ q) (f := fun j => .int (numL.getD j 0)) (N := 6) (by decide) (hg _ eg1) (va_eqt (hg _ eg2)) (fun j hj => va_eqt (hg _ (eg3 j hj))) hA
  obtain ⟨adK, adV, hSt, hTm⟩ := vk_Sof (A := fun q : Nat => s.heap.size ≤ q) (tm := eTm) (len := sLen) (byt := sByt) (N := 6) (by decide +kernel) (fun i hi => hg _ (eg6 i hi)) (fun i hi => hg _ (eg7 i hi)) (fun i hi => hg _ (eg8 i hi)) (fun i hi => hg _ (eg9 i hi)) (fun i hi j hj => hg _ (eg10 i hi j hj)) (fun i j hi hj hij => by
    rcases eg11 i hi j hj hij with h | h
    · exact Or.inl (hg _ h)
    · exact Or.inr (hg _ h)) hA
  refine ⟨(D, (aI, aB, aZ, aV), (t, adK, adV)), ⟨hKc, ?_⟩, fun q hq => va_Nw.of rfl (hts _ (eaN q hq)), ⟨va_Zof (hts _ easN) (hts _ eaiT) ht hA, hT, va_Zof (hts _ easC) (hts _ eaiS) (va_eqt (hg _ eg4)) hA, fun i hi => vk_R.of (hts _ (eaR i hi)) (hTm i hi), hSt, va_Zqof (hts _ easF) (hts _ eaiP) (hg _ eg5) hA⟩, va_AO.of (hts _ eaV)⟩
  intro k q hq
  match k, hq with
  | 0, hq => cases hq; exact ⟨fun n z => ⟨fun k h => (by cases h), kI, fI2, pI, fI3⟩, fI1⟩
  | 1, hq => cases hq; exact ⟨fun n z => ⟨fun k h => (by cases h), kB, fB2, pB, fB3⟩, fB1⟩
  | 2, hq => cases hq; exact ⟨fun n z => ⟨fun k h => (by cases h), kZ, fZ2, pZ, fZ3⟩, fZ1⟩
  | 3, hq => cases hq; exact ⟨fun n z => ⟨fun k h => (by cases h), kV, fV2, pV, fV3⟩, kV, pV, fV2, fV3, fV1, fV4⟩
  | k + 4, hq => simp [tyG] at hq
