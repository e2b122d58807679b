/-! MY OWN LIBRARY: the pure side (calls that may fail are Options), the world's signature, contracts of one shape, calls -/
def rdI (n : Nat) (f : Nat → Int32) (i : Int32) : Option Int32 := if i < 0 ∨ n ≤ i.toNatClampNeg then none else some (f i.toNatClampNeg)
def wrI (n : Nat) (f : Nat → Int32) (i x : Int32) : Option (Nat → Int32) := if i < 0 ∨ n ≤ i.toNatClampNeg then none else some (upd f i.toNatClampNeg x)
def dvI (x y : Int32) : Option Int32 := if y = 0 then none else some (x / y)
def rmI (x y : Int32) : Option Int32 := if y = 0 then none else some (x - x / y * y)
def zbI (x : Int32) : Option Int32 := if x = 0 ∨ x = 1 then some x else none
theorem o_b {α β : Type} {x : Option α} {k : α → Option β} {o : β} (h : x.bind k = some o) : ∃ a, x = some a ∧ k a = some o := by
  cases x with
  | none => cases h
  | some a => exact ⟨a, rfl, h⟩
theorem o_i {α : Type} {c : Prop} [Decidable c] {a b : Option α} {o : α} (h : (if c then a else b) = some o) : (c → a = some o) ∧ (¬ c → b = some o) := by
  by_cases hc : c
  · rw [if_pos hc] at h; exact ⟨fun _ => h, fun n => absurd hc n⟩
  · rw [if_neg hc] at h; exact ⟨fun n => absurd n hc, fun _ => h⟩
theorem o_rd {α : Type} {n : Nat} {f : Nat → Int32} {i : Int32} {k : Int32 → Option α} {o : α} (h : (rdI n f i).bind k = some o) : vp_in i n ∧ k (f i.toNatClampNeg) = some o := by
  unfold rdI at h
  by_cases hc : i < 0 ∨ n ≤ i.toNatClampNeg
  · rw [if_pos hc] at h; cases h
  · rw [if_neg hc] at h; exact ⟨hc, h⟩
theorem o_wr {α : Type} {n : Nat} {f : Nat → Int32} {i x : Int32} {k : (Nat → Int32) → Option α} {o : α} (h : (wrI n f i x).bind k = some o) : vp_in i n ∧ k (upd f i.toNatClampNeg x) = some o := by
  unfold wrI at h
  by_cases hc : i < 0 ∨ n ≤ i.toNatClampNeg
  · rw [if_pos hc] at h; cases h
  · rw [if_neg hc] at h; exact ⟨hc, h⟩
theorem o_dv {α : Type} {x y : Int32} {k : Int32 → Option α} {o : α} (h : (dvI x y).bind k = some o) : ¬ y = 0 ∧ k (x / y) = some o := by
  unfold dvI at h
  by_cases hc : y = 0
  · rw [if_pos hc] at h; cases h
  · rw [if_neg hc] at h; exact ⟨hc, h⟩
theorem o_rm {α : Type} {x y : Int32} {k : Int32 → Option α} {o : α} (h : (rmI x y).bind k = some o) : ¬ y = 0 ∧ k (x - x / y * y) = some o := by
  unfold rmI at h
  by_cases hc : y = 0
  · rw [if_pos hc] at h; cases h
  · rw [if_neg hc] at h; exact ⟨hc, h⟩
theorem o_zb {α : Type} {x : Int32} {k : Int32 → Option α} {o : α} (h : (zbI x).bind k = some o) : narrow .boolean (.int x) = .int x ∧ k x = some o := by
  unfold zbI at h
  by_cases hc : x = 0 ∨ x = 1
  · rw [if_pos hc] at h
    refine ⟨?_, h⟩
    rcases hc with rfl | rfl <;> rfl
  · rw [if_neg hc] at h; cases h
theorem o_s {α : Type} {a o : α} (h : some a = some o) : o = a := (Option.some.inj h).symm
/-! the world's signature: classes' numbers and slots; array classes of int, byte, boolean, Valley; the static array, the String constants -/
abbrev GG : Type := va_G × (ClassId × ClassId × ClassId × ClassId) × (Nat × (Nat → Nat) × (Nat → Nat))
abbrev gI (G : GG) : ClassId := G.2.1.1
abbrev gB (G : GG) : ClassId := G.2.1.2.1
abbrev gZ (G : GG) : ClassId := G.2.1.2.2.1
abbrev gV (G : GG) : ClassId := G.2.1.2.2.2
abbrev tyG (G : GG) : List (ClassId × FieldType) := [(gI G, .int), (gB G, .byte), (gZ G, .boolean), (gV G, .object "BlindBells$Valley")]
def nwQ : List (String × Nat × MethodName × String) := [(RX6, 25, yX2_init, "BlindBells"), (RX6, 32, yX4_init, "BlindBells"), (RX6, 39, yX1_init, "BlindBells"), (RX6, 46, yX0_init, "BlindBells"), (RX6, 53, yX5_init, "BlindBells"), (RX0, 36, yX6_has, "BlindBells"), (RX1, 35, yX6_pair, "BlindBells"), (RX1, 39, yX6_has, "BlindBells"), (RX3, 81, yX6_isWind, "BlindBells"), (RX3, 84, yX6_has, "BlindBells"), (RX4, 54, yX6_has, "BlindBells"), (RX4, 74, yX6_pair, "BlindBells"), (RX5, 33, yX6_pair, "BlindBells"), (RX5, 66, yX6_has, "BlindBells")]
def nwA (U : State) : Prop := ∀ q ∈ nwQ, va_Nw (.methodLinkNest q.1 q.2.1 q.2.2.1 q.2.2.2) U
theorem nwA.warm {s U : State} (hW : s.WarmedH U.vm) (h : nwA s) : nwA U := fun q hq => va_Nw.warmM hW (h q hq)
theorem nwA.same {u U : State} (hv : u.vm = U.vm) (h : nwA u) : nwA U := fun q hq => va_Nw.same rfl hv (h q hq)
theorem nwA.at {s : State} (h : nwA s) (i : Nat) {q : String × Nat × MethodName × String} (hq : nwQ[i]? = some q) : va_Nw (.methodLinkNest q.1 q.2.1 q.2.2.1 q.2.2.2) s := h q (List.mem_of_getElem? hq)
theorem nw0 {s : State} (h : nwA s) : va_Nw (.methodLinkNest RX6 25 yX2_init "BlindBells") s := h (RX6, 25, yX2_init, "BlindBells") (List.mem_of_getElem? (i := 0) rfl)
theorem nw1 {s : State} (h : nwA s) : va_Nw (.methodLinkNest RX6 32 yX4_init "BlindBells") s := h (RX6, 32, yX4_init, "BlindBells") (List.mem_of_getElem? (i := 1) rfl)
theorem nw2 {s : State} (h : nwA s) : va_Nw (.methodLinkNest RX6 39 yX1_init "BlindBells") s := h (RX6, 39, yX1_init, "BlindBells") (List.mem_of_getElem? (i := 2) rfl)
theorem nw3 {s : State} (h : nwA s) : va_Nw (.methodLinkNest RX6 46 yX0_init "BlindBells") s := h (RX6, 46, yX0_init, "BlindBells") (List.mem_of_getElem? (i := 3) rfl)
theorem nw4 {s : State} (h : nwA s) : va_Nw (.methodLinkNest RX6 53 yX5_init "BlindBells") s := h (RX6, 53, yX5_init, "BlindBells") (List.mem_of_getElem? (i := 4) rfl)
theorem nw5 {s : State} (h : nwA s) : va_Nw (.methodLinkNest RX0 36 yX6_has "BlindBells") s := h (RX0, 36, yX6_has, "BlindBells") (List.mem_of_getElem? (i := 5) rfl)
theorem nw6 {s : State} (h : nwA s) : va_Nw (.methodLinkNest RX1 35 yX6_pair "BlindBells") s := h (RX1, 35, yX6_pair, "BlindBells") (List.mem_of_getElem? (i := 6) rfl)
theorem nw7 {s : State} (h : nwA s) : va_Nw (.methodLinkNest RX1 39 yX6_has "BlindBells") s := h (RX1, 39, yX6_has, "BlindBells") (List.mem_of_getElem? (i := 7) rfl)
theorem nw8 {s : State} (h : nwA s) : va_Nw (.methodLinkNest RX3 81 yX6_isWind "BlindBells") s := h (RX3, 81, yX6_isWind, "BlindBells") (List.mem_of_getElem? (i := 8) rfl)
theorem nw9 {s : State} (h : nwA s) : va_Nw (.methodLinkNest RX3 84 yX6_has "BlindBells") s := h (RX3, 84, yX6_has, "BlindBells") (List.mem_of_getElem? (i := 9) rfl)
theorem nw10 {s : State} (h : nwA s) : va_Nw (.methodLinkNest RX4 54 yX6_has "BlindBells") s := h (RX4, 54, yX6_has, "BlindBells") (List.mem_of_getElem? (i := 10) rfl)
theorem nw11 {s : State} (h : nwA s) : va_Nw (.methodLinkNest RX4 74 yX6_pair "BlindBells") s := h (RX4, 74, yX6_pair, "BlindBells") (List.mem_of_getElem? (i := 11) rfl)
theorem nw12 {s : State} (h : nwA s) : va_Nw (.methodLinkNest RX5 33 yX6_pair "BlindBells") s := h (RX5, 33, yX6_pair, "BlindBells") (List.mem_of_getElem? (i := 12) rfl)
theorem nw13 {s : State} (h : nwA s) : va_Nw (.methodLinkNest RX5 66 yX6_has "BlindBells") s := h (RX5, 66, yX6_has, "BlindBells") (List.mem_of_getElem? (i := 13) rfl)
def sIdx : List Nat := [91, 97, 99, 101, 103, 105]
def sTx : List String := ["villages", "hears", "wood", "temper", "friend", "need"]
def sLen : List Nat := [8, 5, 4, 6, 6, 4]
def sByt : List (List Int32) := [[118, 105, 108, 108, 97, 103, 101, 115], [104, 101, 97, 114, 115], [119, 111, 111, 100], [116, 101, 109, 112, 101, 114], [102, 114, 105, 101, 110, 100], [110, 101, 101, 100]]
def numL : List Int32 := [1, 3, 2, 2, 2, 3]
def stA (G : GG) (A : Nat → Prop) (U : State) : Prop := va_Z "BlindBells$Tale" "NUMBERS_OF" "[I" (.ref G.2.2.1) A U U.heap ∧ va_T .int G.2.2.1 6 (fun j => .int (numL.getD j 0)) A U U.heap ∧ va_Z "java/lang/String" "COMPACT_STRINGS" "Z" (.int 1) A U U.heap ∧ (∀ i, i < 6 → vk_R RX2 (sIdx.getD i 0) (sTx.getD i "") (G.2.2.2.1 i) U) ∧ vk_S 6 sLen sByt G.2.2.2.1 G.2.2.2.2 A U U.heap ∧ va_Zq "jdk/internal/util/Preconditions" "SIOOBE_FORMATTER" "Ljava/util/function/BiFunction;" A U U.heap
theorem stA.same {G : GG} {A : Nat → Prop} {u U : State} (hv : u.vm = U.vm) (hh : u.heap = U.heap) (h : stA G A u) : stA G A U := by
  obtain ⟨h1, h2, h3, h4, h5, h6⟩ := h
  have hvm : u.vm.Alike U.vm := by rw [hv]; exact Vm.Alike.refl _
  rw [hh] at h1 h2 h3 h5 h6
  exact ⟨h1.moved hvm, h2.moved hvm, h3.moved hvm, fun i hi => (h4 i hi).same hv.symm, h5.moved hvm, h6.moved hvm⟩
theorem stA.go {G : GG} {A0 A1 : Nat → Prop} {s U : State} {H : Heap} {locs : List Loc} (hS : va_S A0 s.heap H locs) (hA : ∀ q, A1 q → A0 q) (hU : U.heap = H) (hW : s.WarmedH U.vm) (h : stA G A0 s) : stA G A1 U := by
  obtain ⟨h1, h2, h3, h4, h5, h6⟩ := h
  have hvm : s.vm.Alike U.vm := hW.alike
  have hq : ∀ a : Nat, a < s.heap.size → ¬ A0 a → U.heap[a]? = s.heap[a]? := by rw [hU]; exact hS.2.1
  exact ⟨((h1.kept hq).moved hvm).narrow hA, ((h2.kept hq).moved hvm).narrow hA, ((h3.kept hq).moved hvm).narrow hA, fun i hi => (h4 i hi).warm hW, ((h5.kept hq).moved hvm).narrow hA, ((h6.kept hq).moved hvm).narrow hA⟩
/-! contracts of methods that make nothing: the cells ws before, the cells ws' behind -/
def cPre (G : GG) (ws : va_W) (sz : Nat) (U : State) : Prop := U.heap.size = sz ∧ va_P G.1 vwCl ws U.heap ∧ va_K G.1 vwCl (tyG G) U ∧ va_D (fun _ => True) ws ∧ nwA U ∧ stA G (va_A ws sz) U
def cEnd (G : GG) (ws : va_W) (_ : Unit) (t : State) : Prop := va_P G.1 vwCl ws t.heap
def QI (G : GG) (A : Nat → Prop) (r : Int32) (ws' : va_W) : Array Value → State → Outcome → State → Prop := va_Qi (fun (r' : Int32) (_ : Unit) => r' = r) (cEnd G ws') A
def QL (G : GG) (A : Nat → Prop) (r : Int64) (ws' : va_W) : Array Value → State → Outcome → State → Prop := va_Ql (fun (r' : Int64) (_ : Unit) => r' = r) (cEnd G ws') A
def QV (G : GG) (A : Nat → Prop) (ws' : va_W) : Array Value → State → Outcome → State → Prop := va_Qv (fun (_ : Unit) => True) (cEnd G ws') A
def cMi (l : Launch) (G : GG) (y : MethodName) (wds : List Cond) (rm : Room) (av : List Value) (ws : va_W) (r : Int32) (ws' : va_W) : Prop := ∀ sz : Nat, Met l y wds rm (va_Pc av (cPre G ws sz)) (QI G (va_A ws sz) r ws') 0 0 (va_A ws sz)
def cMl (l : Launch) (G : GG) (y : MethodName) (wds : List Cond) (rm : Room) (av : List Value) (ws : va_W) (r : Int64) (ws' : va_W) : Prop := ∀ sz : Nat, Met l y wds rm (va_Pc av (cPre G ws sz)) (QL G (va_A ws sz) r ws') 0 0 (va_A ws sz)
def cMv (l : Launch) (G : GG) (y : MethodName) (wds : List Cond) (rm : Room) (av : List Value) (ws : va_W) (ws' : va_W) : Prop := ∀ sz : Nat, Met l y wds rm (va_Pc av (cPre G ws sz)) (QV G (va_A ws sz) ws') 0 0 (va_A ws sz)
theorem fb_cPre {G : GG} {av : List Value} {ws : va_W} {sz : Nat} : FrameBlind (va_Pc av (cPre G ws sz)) := fun a U g mk q => by
  obtain ⟨q0, q1, qP, qK, qD, qN, qE⟩ := q
  exact ⟨q0, q1, qP, va_K.moved (u := U) (U := U.calling g mk a) (Vm.Alike.refl U.vm) qK, qD, nwA.same (u := U) rfl qN, stA.same (u := U) rfl rfl qE⟩
/-- what holds all along in a method's body -/
def Cx (p : Program) (m : MethodId) (c : Code) (cc : ByteArray) (nL : Nat) (s : State) (args : Array Value) (Ts : List Cond) (own : String) (meth : Method) (ret : Option FieldType) (G : GG) (A : Nat → Prop) : Prop :=
  CallFix p m c cc nL s args Ts own ∧ meth.sig.returnType = ret ∧ meth.locks = false ∧ va_K G.1 vwCl (tyG G) s ∧ nwA s ∧ stA G A s ∧ ∀ q : Nat, s.heap.size ≤ q → A q
section LIBW
variable {p : Program} {l : Launch} {e : Env} {R : Room} {s : State} {m : MethodId} {args : Array Value} {below : List Frame} {meth : Method} {c : Code} {H : Heap} {locs : List Loc} {cells slots : Nat} {Q : State → Prop}
variable {cc : ByteArray} {nL : Nat} {Ts : List Cond} {own : String} {ret : Option FieldType} {G : GG} {A : Nat → Prop} {pc : Nat} {ls : Array Slot}
theorem met_of {y : MethodName} {wds wds' : List Cond} {rm : Room} {av : List Value} {ws : va_W} {sz : Nat} {Qc : (Nat → Prop) → Array Value → State → Outcome → State → Prop} (hy : plainName y.cls = true) (hw : wds = Cond.code y cc nL ret :: wds') (hav : (lg_sl av).length ≤ nL)
    (body : ∀ (p : Program) (e : Env) (s : State) (m : MethodId) (args : Array Value) (below : List Frame) (meth : Method) (c : Code) (A : Nat → Prop) (ls : Array Slot), Cx p m c cc nL s args wds y.cls meth ret G A → va_P G.1 vwCl ws s.heap → va_D A ws → va_S A s.heap s.heap [] → lv_has ls nL (lv_args 0 av) →
      W p l e rm s m args below meth c s.heap [] 0 0 (MQ below (Qc A) args s 0 0 A) (F0 m 0 ls [])) :
    Met l y wds rm (va_Pc av (cPre G ws sz)) (Qc (va_A ws sz)) 0 0 (va_A ws sz) := by
  refine Met.ofW (cc := cc) (maxL := nL) (ret := ret) hy hw ?_
  intro p e s m args below meth c s₁ B hml hv
  obtain ⟨rfl, hsz, hP, hK, hD0, hN, hE⟩ := hv
  subst hsz
  have hts := atoms_spec (ws := wds) B.pre
  have hown : s.vm.findClass y.cls = some m.cls := findClass_of_methodNamed B.named
  have hl := lv_entry av (n := nL) hav
  have hD := hD0.self (sz := s.heap.size)
  rw [lg_entry_eq]
  exact body p e s m _ below meth c _ _ ⟨⟨B.exec, B.bytes, hml, hown, hts⟩, B.returns, B.notSynchronized, hK, hN, hE, fun q h => Or.inr h⟩ hP hD va_S.rf hl
theorem rt_i {ws' : va_W} {r v : Int32} (C : Cx p m c cc nL s args Ts own meth (some .int) G A) (hP : va_P G.1 vwCl ws' H) (hS : va_S A s.heap H locs) (hv : v = r) (hdg : decode cc pc = .ok (.ireturn, 1)) : W p l e R s m args below meth c H locs cells slots (MQ below (QI G A r ws') args s cells slots A) (F0 m pc ls [.int v]) := by
  obtain ⟨⟨hx, hb, -, -, -⟩, hr, hlocks, -, -, -, -⟩ := C
  exact W.iret hx hb hr (fun t ht hW => ⟨⟨v, (), rfl, hv, by unfold cEnd; rw [ht]; exact hP⟩, hS.F ht⟩) hS.2.2 hdg hlocks
theorem rt_z {ws' : va_W} {r v : Int32} (C : Cx p m c cc nL s args Ts own meth (some .boolean) G A) (hP : va_P G.1 vwCl ws' H) (hS : va_S A s.heap H locs) (hv : v = r) (hn : narrow .boolean (.int v) = .int v) (hdg : decode cc pc = .ok (.ireturn, 1)) : W p l e R s m args below meth c H locs cells slots (MQ below (QI G A r ws') args s cells slots A) (F0 m pc ls [.int v]) := by
  obtain ⟨⟨hx, hb, -, -, -⟩, hr, hlocks, -, -, -, -⟩ := C
  exact W.zret hx hb hr hn (fun t ht hW => ⟨⟨v, (), rfl, hv, by unfold cEnd; rw [ht]; exact hP⟩, hS.F ht⟩) hS.2.2 hdg hlocks
theorem rt_n {ty : FieldType} {ws' : va_W} {r v : Int32} (C : Cx p m c cc nL s args Ts own meth (some ty) G A) (hP : va_P G.1 vwCl ws' H) (hS : va_S A s.heap H locs) (hv : v = r) (hn : narrow ty (.int v) = .int v) (hdg : decode cc pc = .ok (.ireturn, 1)) : W p l e R s m args below meth c H locs cells slots (MQ below (QI G A r ws') args s cells slots A) (F0 m pc ls [.int v]) := by
  obtain ⟨⟨hx, hb, -, -, -⟩, hr, hlocks, -, -, -, -⟩ := C
  exact W.zret hx hb hr hn (fun t ht hW => ⟨⟨v, (), rfl, hv, by unfold cEnd; rw [ht]; exact hP⟩, hS.F ht⟩) hS.2.2 hdg hlocks
theorem rt_l {ws' : va_W} {r v : Int64} (C : Cx p m c cc nL s args Ts own meth (some .long) G A) (hP : va_P G.1 vwCl ws' H) (hS : va_S A s.heap H locs) (hv : v = r) (hdg : decode cc pc = .ok (.lreturn, 1)) : W p l e R s m args below meth c H locs cells slots (MQ below (QL G A r ws') args s cells slots A) (F0 m pc ls [.long v]) := by
  obtain ⟨⟨hx, hb, -, -, -⟩, hr, hlocks, -, -, -, -⟩ := C
  exact W.lret hx hb hr (fun t ht hW => ⟨⟨v, (), rfl, hv, by unfold cEnd; rw [ht]; exact hP⟩, hS.F ht⟩) hS.2.2 hdg hlocks
theorem rt_v {ws' : va_W} (C : Cx p m c cc nL s args Ts own meth none G A) (hP : va_P G.1 vwCl ws' H) (hS : va_S A s.heap H locs) (hdg : decode cc pc = .ok (.return_, 1)) : W p l e R s m args below meth c H locs cells slots (MQ below (QV G A ws') args s cells slots A) (F0 m pc ls []) := by
  obtain ⟨⟨hx, hb, -, -, -⟩, hr, hlocks, -, -, -, -⟩ := C
  exact W.vret hx hb hr (fun t ht hW => ⟨⟨(), rfl, trivial, by unfold cEnd; rw [ht]; exact hP⟩, hS.F ht⟩) hS.2.2 hdg hlocks
/-! the cells of a call, put back at their places -/
def setM : va_W → List Nat → va_W → va_W
  | ws, i :: is, x :: xs => setM (ws.set i x) is xs
  | ws, _, _ => ws
theorem setM_P {D : va_G} {cl : List vw_C} {A0 : Nat → Prop} {H1 : Heap} : ∀ (is : List Nat) (w1 ws : va_W), va_D A0 ws → is.map (fun i => (ws[i]?).map Prod.fst) = w1.map (fun q => some q.1) → (∀ (k : Nat) (q : Nat × va_E), ws[k]? = some q → k ∉ is → va_at D cl q H1) → va_P D cl w1 H1 → va_P D cl (setM ws is w1) H1 ∧ va_D A0 (setM ws is w1)
  | [], [], ws, hD, _, hk, _ => ⟨fun k q h => hk k q h (by simp), hD⟩
  | [], x :: xs, ws, _, h, _, _ => by simp at h
  | i :: is, [], ws, _, h, _, _ => by simp at h
  | i :: is, x :: xs, ws, hD, h, hk, h1 => by
    simp only [List.map_cons, List.cons.injEq] at h
    obtain ⟨h2, h3⟩ := h
    cases hw : ws[i]? with
    | none => rw [hw] at h2; simp at h2
    | some z =>
      rw [hw] at h2
      have hz : z.1 = x.1 := by simpa using h2
      have hD2 : va_D A0 (ws.set i x) := by
        have := va_D.set (p := i) (a := x.1) (e0 := z.2) (e := x.2) hD (by rw [hw]; exact congrArg some (Prod.ext hz rfl))
        exact this
      have hlen : i < ws.length := (List.getElem?_eq_some_iff.mp hw).1
      have fstEq : ∀ j : Nat, ((ws.set i x)[j]?).map Prod.fst = (ws[j]?).map Prod.fst := by
        intro j
        by_cases hj : i = j
        · subst hj
          rw [List.getElem?_set_self hlen, hw]
          simp [hz]
        · rw [List.getElem?_set_ne hj]
      refine setM_P is xs (ws.set i x) hD2 (by rw [← h3]; exact List.map_congr_left (fun j _ => fstEq j)) ?_ (fun k q hq => h1 (k + 1) q hq)
      intro k q hq hkn
      by_cases hki : i = k
      · subst hki
        rw [List.getElem?_set_self hlen] at hq
        cases hq
        exact h1 0 x rfl
      · rw [List.getElem?_set_ne hki] at hq
        exact hk k q hq (by simp only [List.mem_cons, not_or]; exact ⟨fun z => hki z.symm, hkn⟩)
theorem joinM {D : va_G} {cl : List vw_C} {A0 : Nat → Prop} {ws wc w1 : va_W} {H H1 : Heap} (hP : va_P D cl ws H) (hD : va_D A0 ws) (isC : List Nat) (hC : isC.map (fun i => ws[i]?) = wc.map some) (hadr : wc.map Prod.fst = w1.map Prod.fst)
    (hk : ∀ q : Nat, q < H.size → ¬ va_A wc H.size q → H1[q]? = H[q]?) (hP1 : va_P D cl w1 H1) : va_P D cl (setM ws isC w1) H1 ∧ va_D A0 (setM ws isC w1) := by
  refine setM_P isC w1 ws hD ?_ ?_ hP1
  · have h1 : isC.map (fun i => (ws[i]?).map Prod.fst) = (isC.map (fun i => ws[i]?)).map (fun o => o.map Prod.fst) := by rw [List.map_map]; rfl
    rw [h1, hC, List.map_map]
    have h2 : wc.map ((fun o : Option (Nat × va_E) => o.map Prod.fst) ∘ some) = (wc.map Prod.fst).map some := by rw [List.map_map]; rfl
    rw [h2, hadr, List.map_map]; rfl
  · intro k q hq hki
    have hl := (hP k q hq).lt
    refine (hP k q hq).kept (hk q.1 hl (fun h => ?_))
    rcases h with ⟨k2, e2, h⟩ | h
    · have h3 : (isC.map (fun i => ws[i]?))[k2]? = some (some (q.1, e2)) := by rw [hC, List.getElem?_map, h]; rfl
      rw [List.getElem?_map] at h3
      cases hi : isC[k2]? with
      | none => rw [hi] at h3; cases h3
      | some i =>
        rw [hi] at h3
        have h4 : ws[i]? = some (q.1, e2) := Option.some.inj h3
        have hij := hD.1 k i q (q.1, e2) hq h4 rfl
        subst hij
        exact hki (List.mem_of_getElem? hi)
    · omega
theorem preS_of {av : List Value} {ws wc : va_W} (hK : va_K G.1 vwCl (tyG G) s) (hN : nwA s) (hE : stA G A s) (hA : ∀ q : Nat, s.heap.size ≤ q → A q) (hP : va_P G.1 vwCl ws H) (hD : va_D A ws) (hS : va_S A s.heap H locs) (isC : List Nat) (hn : va_nd isC = true) (hC : isC.map (fun i => ws[i]?) = wc.map some) : PreS s H (va_Pc av (cPre G wc H.size)) av := by
  have hF := va_free hD hS hA isC hC
  have hDc := hD.sub (ws' := wc) isC hn hC
  have hPc : va_P G.1 vwCl wc H := by
    intro k q hq
    have h3 : (isC.map (fun i => ws[i]?))[k]? = some (some q) := by rw [hC, List.getElem?_map, hq]; rfl
    rw [List.getElem?_map] at h3
    cases hi : isC[k]? with
    | none => rw [hi] at h3; cases h3
    | some i => rw [hi] at h3; exact hP i q (Option.some.inj h3)
  exact ⟨fb_cPre, fun U hU hW => ⟨rfl, by rw [hU], by rw [hU]; exact hPc, va_K.moved hW.alike hK, hDc.weaken (fun _ _ _ _ => trivial), nwA.warm hW hN, stA.go hS hF hU hW hE⟩⟩
theorem setM_same : ∀ (is : List Nat) (wc ws : va_W), is.map (fun i => ws[i]?) = wc.map some → setM ws is wc = ws
  | [], [], _, _ => rfl
  | [], _ :: _, _, h => by simp at h
  | _ :: _, [], _, h => by simp at h
  | i :: is, x :: xs, ws, h => by
    simp only [List.map_cons, List.cons.injEq] at h
    obtain ⟨h2, h3⟩ := h
    have e : ws.set i x = ws := by
      apply List.ext_getElem?
      intro j
      by_cases hj : i = j
      · subst hj
        rw [List.getElem?_set_self (List.getElem?_eq_some_iff.mp h2).1, h2]
      · rw [List.getElem?_set_ne hj]
    show setM (ws.set i x) is xs = ws
    rw [e]
    exact setM_same is xs ws h3
theorem kci {ws wc w1 ws' : va_W} {r : Int32} {rest st0 : List Value} {a : Array Value} (C : Cx p m c cc nL s args Ts own meth ret G A) (hP : va_P G.1 vwCl ws H) (hD : va_D A ws) (hS : va_S A s.heap H locs) (isC : List Nat) (hC : isC.map (fun i => ws[i]?) = wc.map some) (hadr : wc.map Prod.fst = w1.map Prod.fst) (hset : setM ws isC w1 = ws')
    (hr : va_Run p l e R s m args below meth c H locs cells slots 0 0 (F0 m pc ls st0) rest (QI G (va_A wc H.size) r w1 a) (va_A wc H.size))
    (kk : ∀ (H1 : Heap) (locs1 : List Loc), va_P G.1 vwCl ws' H1 → va_D A ws' → va_S A s.heap H1 locs1 → W p l e R s m args below meth c H1 locs1 cells slots Q (F0 m (pc + 3) ls (.int r :: rest))) : W p l e R s m args below meth c H locs cells slots Q (F0 m pc ls st0) := by
  obtain ⟨-, -, -, -, -, -, hA⟩ := C
  have hF := va_free hD hS hA isC hC
  refine va_calli hr hS (fun q _ h => hF q h) hF (fun r1 u t H1 locs1 ht hvm hw hB hz1 hk1 hS1 => ?_)
  have hw : r1 = r := hw
  subst hw
  have hP1 : va_P G.1 vwCl w1 H1 := by have h := hB; unfold cEnd at h; rw [ht] at h; exact h
  obtain ⟨hP2, hD2⟩ := joinM hP hD isC hC hadr hk1 hP1
  rw [hset] at hP2 hD2
  exact kk H1 locs1 hP2 hD2 hS1
theorem kcl {ws wc w1 ws' : va_W} {r : Int64} {rest st0 : List Value} {a : Array Value} (C : Cx p m c cc nL s args Ts own meth ret G A) (hP : va_P G.1 vwCl ws H) (hD : va_D A ws) (hS : va_S A s.heap H locs) (isC : List Nat) (hC : isC.map (fun i => ws[i]?) = wc.map some) (hadr : wc.map Prod.fst = w1.map Prod.fst) (hset : setM ws isC w1 = ws')
    (hr : va_Run p l e R s m args below meth c H locs cells slots 0 0 (F0 m pc ls st0) rest (QL G (va_A wc H.size) r w1 a) (va_A wc H.size))
    (kk : ∀ (H1 : Heap) (locs1 : List Loc), va_P G.1 vwCl ws' H1 → va_D A ws' → va_S A s.heap H1 locs1 → W p l e R s m args below meth c H1 locs1 cells slots Q (F0 m (pc + 3) ls (.long r :: rest))) : W p l e R s m args below meth c H locs cells slots Q (F0 m pc ls st0) := by
  obtain ⟨-, -, -, -, -, -, hA⟩ := C
  have hF := va_free hD hS hA isC hC
  refine va_calll hr hS (fun q _ h => hF q h) hF (fun r1 u t H1 locs1 ht hvm hw hB hz1 hk1 hS1 => ?_)
  have hw : r1 = r := hw
  subst hw
  have hP1 : va_P G.1 vwCl w1 H1 := by have h := hB; unfold cEnd at h; rw [ht] at h; exact h
  obtain ⟨hP2, hD2⟩ := joinM hP hD isC hC hadr hk1 hP1
  rw [hset] at hP2 hD2
  exact kk H1 locs1 hP2 hD2 hS1
theorem kcv {ws wc w1 ws' : va_W} {rest st0 : List Value} {a : Array Value} (C : Cx p m c cc nL s args Ts own meth ret G A) (hP : va_P G.1 vwCl ws H) (hD : va_D A ws) (hS : va_S A s.heap H locs) (isC : List Nat) (hC : isC.map (fun i => ws[i]?) = wc.map some) (hadr : wc.map Prod.fst = w1.map Prod.fst) (hset : setM ws isC w1 = ws')
    (hr : va_Run p l e R s m args below meth c H locs cells slots 0 0 (F0 m pc ls st0) rest (QV G (va_A wc H.size) w1 a) (va_A wc H.size))
    (kk : ∀ (H1 : Heap) (locs1 : List Loc), va_P G.1 vwCl ws' H1 → va_D A ws' → va_S A s.heap H1 locs1 → W p l e R s m args below meth c H1 locs1 cells slots Q (F0 m (pc + 3) ls (rest))) : W p l e R s m args below meth c H locs cells slots Q (F0 m pc ls st0) := by
  obtain ⟨-, -, -, -, -, -, hA⟩ := C
  have hF := va_free hD hS hA isC hC
  refine va_callv hr hS (fun q _ h => hF q h) hF (fun u t H1 locs1 ht hvm hw hB hz1 hk1 hS1 => ?_)
  skip
  have hP1 : va_P G.1 vwCl w1 H1 := by have h := hB; unfold cEnd at h; rw [ht] at h; exact h
  obtain ⟨hP2, hD2⟩ := joinM hP hD isC hC hadr hk1 hP1
  rw [hset] at hP2 hD2
  exact kk H1 locs1 hP2 hD2 hS1
theorem kVi {y : MethodName} {wds wds' : List Cond} {rm : Room} {C0 : String} {index maxL n : Nat} {bytes : ByteArray} {rt : Option FieldType} {b : Nat} {As rest st0 : List Value} {ws wc w1 ws' : va_W} {r : Int32} {q0 ci : Nat} {q : vw_C} {fs : List Value} (C : Cx p m c cc nL s args Ts own meth ret G A) (hP : va_P G.1 vwCl ws H) (hD : va_D A ws) (hS : va_S A s.heap H locs) (hM : cMi l G y wds rm (.ref b :: As) wc r w1) (hG : GoodIn Ts (wsV own index C0 y wds)) (hw : wds = Cond.code y bytes maxL rt :: wds') (hrm : rm.cells = 0 ∧ rm.slots = 0) (hd : y.cls = C0 ∧ y.cls ≠ "java/lang/invoke/MethodHandle" ∧ y.cls ≠ "java/lang/invoke/VarHandle" ∧ (parseMethodDescriptor y.desc).map (fun d => d.parameters.length) = some n) (hR : rm.frames + 1 ≤ R.frames ∧ 8 + (maxL + 11) + rm.locals ≤ R.locals) (hn : As.length = n) (hsz : ls.size = nL) (hst : st0 = As.reverse ++ .ref b :: rest) (hW : (rest.map fun v => v.category).sum ≤ 8) (hcs : cells + 0 ≤ R.cells ∧ slots + 0 ≤ R.slots) (isC : List Nat) (hnd : va_nd isC = true) (hC : isC.map (fun i => ws[i]?) = wc.map some) (hadr : wc.map Prod.fst = w1.map Prod.fst) (hset : setM ws isC w1 = ws') (hc : vwCl[ci]? = some q) (hq : q.1 = C0) (he : ws[q0]? = some (b, .inr (ci, fs))) (hdg : decode cc pc = .ok (.invokevirtual index, 3))
    (kk : ∀ (H1 : Heap) (locs1 : List Loc), va_P G.1 vwCl ws' H1 → va_D A ws' → va_S A s.heap H1 locs1 → W p l e R s m args below meth c H1 locs1 cells slots Q (F0 m (pc + 3) ls (.int r :: rest))) : W p l e R s m args below meth c H locs cells slots Q (F0 m pc ls st0) := by
  obtain ⟨S, -, -, hK, hN, hE, hA⟩ := id C
  have hpre := preS_of (av := (.ref b :: As)) hK hN hE hA hP hD hS isC hnd hC
  have hrv : ∃ cell : Cell, H[b]? = some cell ∧ cell.vm.isStatics = false ∧ s.vm.findClass C0 = some cell.cls := by rw [← hq]; exact va_recv hK hP hc he
  refine kci (w1 := w1) C hP hD hS isC hC hadr hset (va_runV S (hM H.size) (cwV n S.2.2.2.2 hG hw hrm.1 hrm.2 hd hR) ⟨hpre.1, hrv, hpre.2⟩ rfl hn hsz hst (lv_room hW) hdg hcs) kk
theorem kWi {y : MethodName} {wds wds' : List Cond} {rm : Room} {C0 : String} {index maxL n : Nat} {bytes : ByteArray} {rt : Option FieldType} {b : Nat} {As rest st0 : List Value} {ws wc w1 ws' : va_W} {r : Int32} (C : Cx p m c cc nL s args Ts own meth ret G A) (hP : va_P G.1 vwCl ws H) (hD : va_D A ws) (hS : va_S A s.heap H locs) (hM : cMi l G y wds rm (.ref b :: As) wc r w1) (hG : GoodIn Ts (wsV own index C0 y wds)) (hw : wds = Cond.code y bytes maxL rt :: wds') (hrm : rm.cells = 0 ∧ rm.slots = 0) (hd : y.cls = C0 ∧ y.cls ≠ "java/lang/invoke/MethodHandle" ∧ y.cls ≠ "java/lang/invoke/VarHandle" ∧ (parseMethodDescriptor y.desc).map (fun d => d.parameters.length) = some n) (hR : rm.frames + 1 ≤ R.frames ∧ 8 + (maxL + 11) + rm.locals ≤ R.locals) (hn : As.length = n) (hsz : ls.size = nL) (hst : st0 = As.reverse ++ .ref b :: rest) (hW : (rest.map fun v => v.category).sum ≤ 8) (hcs : cells + 0 ≤ R.cells ∧ slots + 0 ≤ R.slots) (isC : List Nat) (hnd : va_nd isC = true) (hC : isC.map (fun i => ws[i]?) = wc.map some) (hadr : wc.map Prod.fst = w1.map Prod.fst) (hset : setM ws isC w1 = ws') (hrv : ∃ cell : Cell, H[b]? = some cell ∧ cell.vm.isStatics = false ∧ s.vm.findClass C0 = some cell.cls) (hdg : decode cc pc = .ok (.invokevirtual index, 3))
    (kk : ∀ (H1 : Heap) (locs1 : List Loc), va_P G.1 vwCl ws' H1 → va_D A ws' → va_S A s.heap H1 locs1 → W p l e R s m args below meth c H1 locs1 cells slots Q (F0 m (pc + 3) ls (.int r :: rest))) : W p l e R s m args below meth c H locs cells slots Q (F0 m pc ls st0) := by
  obtain ⟨S, -, -, hK, hN, hE, hA⟩ := id C
  have hpre := preS_of (av := (.ref b :: As)) hK hN hE hA hP hD hS isC hnd hC
  refine kci (w1 := w1) C hP hD hS isC hC hadr hset (va_runV S (hM H.size) (cwV n S.2.2.2.2 hG hw hrm.1 hrm.2 hd hR) ⟨hpre.1, hrv, hpre.2⟩ rfl hn hsz hst (lv_room hW) hdg hcs) kk
theorem kVl {y : MethodName} {wds wds' : List Cond} {rm : Room} {C0 : String} {index maxL n : Nat} {bytes : ByteArray} {rt : Option FieldType} {b : Nat} {As rest st0 : List Value} {ws wc w1 ws' : va_W} {r : Int64} {q0 ci : Nat} {q : vw_C} {fs : List Value} (C : Cx p m c cc nL s args Ts own meth ret G A) (hP : va_P G.1 vwCl ws H) (hD : va_D A ws) (hS : va_S A s.heap H locs) (hM : cMl l G y wds rm (.ref b :: As) wc r w1) (hG : GoodIn Ts (wsV own index C0 y wds)) (hw : wds = Cond.code y bytes maxL rt :: wds') (hrm : rm.cells = 0 ∧ rm.slots = 0) (hd : y.cls = C0 ∧ y.cls ≠ "java/lang/invoke/MethodHandle" ∧ y.cls ≠ "java/lang/invoke/VarHandle" ∧ (parseMethodDescriptor y.desc).map (fun d => d.parameters.length) = some n) (hR : rm.frames + 1 ≤ R.frames ∧ 8 + (maxL + 11) + rm.locals ≤ R.locals) (hn : As.length = n) (hsz : ls.size = nL) (hst : st0 = As.reverse ++ .ref b :: rest) (hW : (rest.map fun v => v.category).sum ≤ 8) (hcs : cells + 0 ≤ R.cells ∧ slots + 0 ≤ R.slots) (isC : List Nat) (hnd : va_nd isC = true) (hC : isC.map (fun i => ws[i]?) = wc.map some) (hadr : wc.map Prod.fst = w1.map Prod.fst) (hset : setM ws isC w1 = ws') (hc : vwCl[ci]? = some q) (hq : q.1 = C0) (he : ws[q0]? = some (b, .inr (ci, fs))) (hdg : decode cc pc = .ok (.invokevirtual index, 3))
    (kk : ∀ (H1 : Heap) (locs1 : List Loc), va_P G.1 vwCl ws' H1 → va_D A ws' → va_S A s.heap H1 locs1 → W p l e R s m args below meth c H1 locs1 cells slots Q (F0 m (pc + 3) ls (.long r :: rest))) : W p l e R s m args below meth c H locs cells slots Q (F0 m pc ls st0) := by
  obtain ⟨S, -, -, hK, hN, hE, hA⟩ := id C
  have hpre := preS_of (av := (.ref b :: As)) hK hN hE hA hP hD hS isC hnd hC
  have hrv : ∃ cell : Cell, H[b]? = some cell ∧ cell.vm.isStatics = false ∧ s.vm.findClass C0 = some cell.cls := by rw [← hq]; exact va_recv hK hP hc he
  refine kcl (w1 := w1) C hP hD hS isC hC hadr hset (va_runV S (hM H.size) (cwV n S.2.2.2.2 hG hw hrm.1 hrm.2 hd hR) ⟨hpre.1, hrv, hpre.2⟩ rfl hn hsz hst (lv_room hW) hdg hcs) kk
theorem kVv {y : MethodName} {wds wds' : List Cond} {rm : Room} {C0 : String} {index maxL n : Nat} {bytes : ByteArray} {rt : Option FieldType} {b : Nat} {As rest st0 : List Value} {ws wc w1 ws' : va_W} {q0 ci : Nat} {q : vw_C} {fs : List Value} (C : Cx p m c cc nL s args Ts own meth ret G A) (hP : va_P G.1 vwCl ws H) (hD : va_D A ws) (hS : va_S A s.heap H locs) (hM : cMv l G y wds rm (.ref b :: As) wc w1) (hG : GoodIn Ts (wsV own index C0 y wds)) (hw : wds = Cond.code y bytes maxL rt :: wds') (hrm : rm.cells = 0 ∧ rm.slots = 0) (hd : y.cls = C0 ∧ y.cls ≠ "java/lang/invoke/MethodHandle" ∧ y.cls ≠ "java/lang/invoke/VarHandle" ∧ (parseMethodDescriptor y.desc).map (fun d => d.parameters.length) = some n) (hR : rm.frames + 1 ≤ R.frames ∧ 8 + (maxL + 11) + rm.locals ≤ R.locals) (hn : As.length = n) (hsz : ls.size = nL) (hst : st0 = As.reverse ++ .ref b :: rest) (hW : (rest.map fun v => v.category).sum ≤ 8) (hcs : cells + 0 ≤ R.cells ∧ slots + 0 ≤ R.slots) (isC : List Nat) (hnd : va_nd isC = true) (hC : isC.map (fun i => ws[i]?) = wc.map some) (hadr : wc.map Prod.fst = w1.map Prod.fst) (hset : setM ws isC w1 = ws') (hc : vwCl[ci]? = some q) (hq : q.1 = C0) (he : ws[q0]? = some (b, .inr (ci, fs))) (hdg : decode cc pc = .ok (.invokevirtual index, 3))
    (kk : ∀ (H1 : Heap) (locs1 : List Loc), va_P G.1 vwCl ws' H1 → va_D A ws' → va_S A s.heap H1 locs1 → W p l e R s m args below meth c H1 locs1 cells slots Q (F0 m (pc + 3) ls (rest))) : W p l e R s m args below meth c H locs cells slots Q (F0 m pc ls st0) := by
  obtain ⟨S, -, -, hK, hN, hE, hA⟩ := id C
  have hpre := preS_of (av := (.ref b :: As)) hK hN hE hA hP hD hS isC hnd hC
  have hrv : ∃ cell : Cell, H[b]? = some cell ∧ cell.vm.isStatics = false ∧ s.vm.findClass C0 = some cell.cls := by rw [← hq]; exact va_recv hK hP hc he
  refine kcv (w1 := w1) C hP hD hS isC hC hadr hset (va_runV S (hM H.size) (cwV n S.2.2.2.2 hG hw hrm.1 hrm.2 hd hR) ⟨hpre.1, hrv, hpre.2⟩ rfl hn hsz hst (lv_room hW) hdg hcs) kk
theorem kSi {y : MethodName} {wds wds' : List Cond} {rm : Room} {index maxL n : Nat} {bytes : ByteArray} {rt : Option FieldType} {As rest st0 : List Value} {ws wc w1 ws' : va_W} {r : Int32} (C : Cx p m c cc nL s args Ts own meth ret G A) (hP : va_P G.1 vwCl ws H) (hD : va_D A ws) (hS : va_S A s.heap H locs) (hM : cMi l G y wds rm As wc r w1) (hG : GoodIn Ts (va_wsS own index y wds)) (hw : wds = Cond.code y bytes maxL rt :: wds') (hrm : rm.cells = 0 ∧ rm.slots = 0) (hd : y.cls ≠ "java/lang/invoke/MethodHandle" ∧ y.cls ≠ "java/lang/invoke/VarHandle" ∧ (parseMethodDescriptor y.desc).map (fun d => d.parameters.length) = some n) (hR : rm.frames + 1 ≤ R.frames ∧ 8 + (maxL + 11) + rm.locals ≤ R.locals) (hn : As.length = n) (hsz : ls.size = nL) (hst : st0 = As.reverse ++ rest) (hW : (rest.map fun v => v.category).sum ≤ 8) (hcs : cells + 0 ≤ R.cells ∧ slots + 0 ≤ R.slots) (isC : List Nat) (hnd : va_nd isC = true) (hC : isC.map (fun i => ws[i]?) = wc.map some) (hadr : wc.map Prod.fst = w1.map Prod.fst) (hset : setM ws isC w1 = ws') (hdg : decode cc pc = .ok (.invokestatic index, 3))
    (kk : ∀ (H1 : Heap) (locs1 : List Loc), va_P G.1 vwCl ws' H1 → va_D A ws' → va_S A s.heap H1 locs1 → W p l e R s m args below meth c H1 locs1 cells slots Q (F0 m (pc + 3) ls (.int r :: rest))) : W p l e R s m args below meth c H locs cells slots Q (F0 m pc ls st0) := by
  obtain ⟨S, -, -, hK, hN, hE, hA⟩ := id C
  have hpre := preS_of (av := As) hK hN hE hA hP hD hS isC hnd hC
  refine kci (w1 := w1) C hP hD hS isC hC hadr hset (va_runS S (hM H.size) (va_cwS n S.2.2.2.2 hG hw hrm.1 hrm.2 hd hR) hpre rfl hn hsz hst (lv_room hW) hdg hcs) kk
theorem kSl {y : MethodName} {wds wds' : List Cond} {rm : Room} {index maxL n : Nat} {bytes : ByteArray} {rt : Option FieldType} {As rest st0 : List Value} {ws wc w1 ws' : va_W} {r : Int64} (C : Cx p m c cc nL s args Ts own meth ret G A) (hP : va_P G.1 vwCl ws H) (hD : va_D A ws) (hS : va_S A s.heap H locs) (hM : cMl l G y wds rm As wc r w1) (hG : GoodIn Ts (va_wsS own index y wds)) (hw : wds = Cond.code y bytes maxL rt :: wds') (hrm : rm.cells = 0 ∧ rm.slots = 0) (hd : y.cls ≠ "java/lang/invoke/MethodHandle" ∧ y.cls ≠ "java/lang/invoke/VarHandle" ∧ (parseMethodDescriptor y.desc).map (fun d => d.parameters.length) = some n) (hR : rm.frames + 1 ≤ R.frames ∧ 8 + (maxL + 11) + rm.locals ≤ R.locals) (hn : As.length = n) (hsz : ls.size = nL) (hst : st0 = As.reverse ++ rest) (hW : (rest.map fun v => v.category).sum ≤ 8) (hcs : cells + 0 ≤ R.cells ∧ slots + 0 ≤ R.slots) (isC : List Nat) (hnd : va_nd isC = true) (hC : isC.map (fun i => ws[i]?) = wc.map some) (hadr : wc.map Prod.fst = w1.map Prod.fst) (hset : setM ws isC w1 = ws') (hdg : decode cc pc = .ok (.invokestatic index, 3))
    (kk : ∀ (H1 : Heap) (locs1 : List Loc), va_P G.1 vwCl ws' H1 → va_D A ws' → va_S A s.heap H1 locs1 → W p l e R s m args below meth c H1 locs1 cells slots Q (F0 m (pc + 3) ls (.long r :: rest))) : W p l e R s m args below meth c H locs cells slots Q (F0 m pc ls st0) := by
  obtain ⟨S, -, -, hK, hN, hE, hA⟩ := id C
  have hpre := preS_of (av := As) hK hN hE hA hP hD hS isC hnd hC
  refine kcl (w1 := w1) C hP hD hS isC hC hadr hset (va_runS S (hM H.size) (va_cwS n S.2.2.2.2 hG hw hrm.1 hrm.2 hd hR) hpre rfl hn hsz hst (lv_room hW) hdg hcs) kk
theorem kSv {y : MethodName} {wds wds' : List Cond} {rm : Room} {index maxL n : Nat} {bytes : ByteArray} {rt : Option FieldType} {As rest st0 : List Value} {ws wc w1 ws' : va_W} (C : Cx p m c cc nL s args Ts own meth ret G A) (hP : va_P G.1 vwCl ws H) (hD : va_D A ws) (hS : va_S A s.heap H locs) (hM : cMv l G y wds rm As wc w1) (hG : GoodIn Ts (va_wsS own index y wds)) (hw : wds = Cond.code y bytes maxL rt :: wds') (hrm : rm.cells = 0 ∧ rm.slots = 0) (hd : y.cls ≠ "java/lang/invoke/MethodHandle" ∧ y.cls ≠ "java/lang/invoke/VarHandle" ∧ (parseMethodDescriptor y.desc).map (fun d => d.parameters.length) = some n) (hR : rm.frames + 1 ≤ R.frames ∧ 8 + (maxL + 11) + rm.locals ≤ R.locals) (hn : As.length = n) (hsz : ls.size = nL) (hst : st0 = As.reverse ++ rest) (hW : (rest.map fun v => v.category).sum ≤ 8) (hcs : cells + 0 ≤ R.cells ∧ slots + 0 ≤ R.slots) (isC : List Nat) (hnd : va_nd isC = true) (hC : isC.map (fun i => ws[i]?) = wc.map some) (hadr : wc.map Prod.fst = w1.map Prod.fst) (hset : setM ws isC w1 = ws') (hdg : decode cc pc = .ok (.invokestatic index, 3))
    (kk : ∀ (H1 : Heap) (locs1 : List Loc), va_P G.1 vwCl ws' H1 → va_D A ws' → va_S A s.heap H1 locs1 → W p l e R s m args below meth c H1 locs1 cells slots Q (F0 m (pc + 3) ls (rest))) : W p l e R s m args below meth c H locs cells slots Q (F0 m pc ls st0) := by
  obtain ⟨S, -, -, hK, hN, hE, hA⟩ := id C
  have hpre := preS_of (av := As) hK hN hE hA hP hD hS isC hnd hC
  refine kcv (w1 := w1) C hP hD hS isC hC hadr hset (va_runS S (hM H.size) (va_cwS n S.2.2.2.2 hG hw hrm.1 hrm.2 hd hR) hpre rfl hn hsz hst (lv_room hW) hdg hcs) kk
theorem kNi {y : MethodName} {wds wds' : List Cond} {rm : Room} {index maxL n : Nat} {bytes : ByteArray} {rt : Option FieldType} {As rest st0 : List Value} {ws wc w1 ws' : va_W} {r : Int32} {host : String} (C : Cx p m c cc nL s args Ts own meth ret G A) (hP : va_P G.1 vwCl ws H) (hD : va_D A ws) (hS : va_S A s.heap H locs) (hM : cMi l G y wds rm As wc r w1) (hG : GoodIn Ts wds) (hlk : va_Nw (.methodLinkNest own index y host) s) (hst1 : (Cond.static y).before args s = true) (hini : (Cond.initialized y.cls).before args s = true) (hw : wds = Cond.code y bytes maxL rt :: wds') (hrm : rm.cells = 0 ∧ rm.slots = 0) (hd : y.cls ≠ "java/lang/invoke/MethodHandle" ∧ y.cls ≠ "java/lang/invoke/VarHandle" ∧ (parseMethodDescriptor y.desc).map (fun d => d.parameters.length) = some n) (hR : rm.frames + 1 ≤ R.frames ∧ 8 + (maxL + 11) + rm.locals ≤ R.locals) (hn : As.length = n) (hsz : ls.size = nL) (hst : st0 = As.reverse ++ rest) (hW : (rest.map fun v => v.category).sum ≤ 8) (hcs : cells + 0 ≤ R.cells ∧ slots + 0 ≤ R.slots) (isC : List Nat) (hnd : va_nd isC = true) (hC : isC.map (fun i => ws[i]?) = wc.map some) (hadr : wc.map Prod.fst = w1.map Prod.fst) (hset : setM ws isC w1 = ws') (hdg : decode cc pc = .ok (.invokestatic index, 3))
    (kk : ∀ (H1 : Heap) (locs1 : List Loc), va_P G.1 vwCl ws' H1 → va_D A ws' → va_S A s.heap H1 locs1 → W p l e R s m args below meth c H1 locs1 cells slots Q (F0 m (pc + 3) ls (.int r :: rest))) : W p l e R s m args below meth c H locs cells slots Q (F0 m pc ls st0) := by
  obtain ⟨S, -, -, hK, hN, hE, hA⟩ := id C
  have hpre := preS_of (av := As) hK hN hE hA hP hD hS isC hnd hC
  refine kci (w1 := w1) C hP hD hS isC hC hadr hset (va_runSN S (hM H.size) ⟨va_cnB n S.2.2.2.2 hG hw hrm.1 hrm.2 hlk hini hd hR, hst1, trivial⟩ hpre rfl hn hsz hst (lv_room hW) hdg hcs) kk
theorem kNl {y : MethodName} {wds wds' : List Cond} {rm : Room} {index maxL n : Nat} {bytes : ByteArray} {rt : Option FieldType} {As rest st0 : List Value} {ws wc w1 ws' : va_W} {r : Int64} {host : String} (C : Cx p m c cc nL s args Ts own meth ret G A) (hP : va_P G.1 vwCl ws H) (hD : va_D A ws) (hS : va_S A s.heap H locs) (hM : cMl l G y wds rm As wc r w1) (hG : GoodIn Ts wds) (hlk : va_Nw (.methodLinkNest own index y host) s) (hst1 : (Cond.static y).before args s = true) (hini : (Cond.initialized y.cls).before args s = true) (hw : wds = Cond.code y bytes maxL rt :: wds') (hrm : rm.cells = 0 ∧ rm.slots = 0) (hd : y.cls ≠ "java/lang/invoke/MethodHandle" ∧ y.cls ≠ "java/lang/invoke/VarHandle" ∧ (parseMethodDescriptor y.desc).map (fun d => d.parameters.length) = some n) (hR : rm.frames + 1 ≤ R.frames ∧ 8 + (maxL + 11) + rm.locals ≤ R.locals) (hn : As.length = n) (hsz : ls.size = nL) (hst : st0 = As.reverse ++ rest) (hW : (rest.map fun v => v.category).sum ≤ 8) (hcs : cells + 0 ≤ R.cells ∧ slots + 0 ≤ R.slots) (isC : List Nat) (hnd : va_nd isC = true) (hC : isC.map (fun i => ws[i]?) = wc.map some) (hadr : wc.map Prod.fst = w1.map Prod.fst) (hset : setM ws isC w1 = ws') (hdg : decode cc pc = .ok (.invokestatic index, 3))
    (kk : ∀ (H1 : Heap) (locs1 : List Loc), va_P G.1 vwCl ws' H1 → va_D A ws' → va_S A s.heap H1 locs1 → W p l e R s m args below meth c H1 locs1 cells slots Q (F0 m (pc + 3) ls (.long r :: rest))) : W p l e R s m args below meth c H locs cells slots Q (F0 m pc ls st0) := by
  obtain ⟨S, -, -, hK, hN, hE, hA⟩ := id C
  have hpre := preS_of (av := As) hK hN hE hA hP hD hS isC hnd hC
  refine kcl (w1 := w1) C hP hD hS isC hC hadr hset (va_runSN S (hM H.size) ⟨va_cnB n S.2.2.2.2 hG hw hrm.1 hrm.2 hlk hini hd hR, hst1, trivial⟩ hpre rfl hn hsz hst (lv_room hW) hdg hcs) kk
theorem kNv {y : MethodName} {wds wds' : List Cond} {rm : Room} {index maxL n : Nat} {bytes : ByteArray} {rt : Option FieldType} {As rest st0 : List Value} {ws wc w1 ws' : va_W} {host : String} (C : Cx p m c cc nL s args Ts own meth ret G A) (hP : va_P G.1 vwCl ws H) (hD : va_D A ws) (hS : va_S A s.heap H locs) (hM : cMv l G y wds rm As wc w1) (hG : GoodIn Ts wds) (hlk : va_Nw (.methodLinkNest own index y host) s) (hst1 : (Cond.static y).before args s = true) (hini : (Cond.initialized y.cls).before args s = true) (hw : wds = Cond.code y bytes maxL rt :: wds') (hrm : rm.cells = 0 ∧ rm.slots = 0) (hd : y.cls ≠ "java/lang/invoke/MethodHandle" ∧ y.cls ≠ "java/lang/invoke/VarHandle" ∧ (parseMethodDescriptor y.desc).map (fun d => d.parameters.length) = some n) (hR : rm.frames + 1 ≤ R.frames ∧ 8 + (maxL + 11) + rm.locals ≤ R.locals) (hn : As.length = n) (hsz : ls.size = nL) (hst : st0 = As.reverse ++ rest) (hW : (rest.map fun v => v.category).sum ≤ 8) (hcs : cells + 0 ≤ R.cells ∧ slots + 0 ≤ R.slots) (isC : List Nat) (hnd : va_nd isC = true) (hC : isC.map (fun i => ws[i]?) = wc.map some) (hadr : wc.map Prod.fst = w1.map Prod.fst) (hset : setM ws isC w1 = ws') (hdg : decode cc pc = .ok (.invokestatic index, 3))
    (kk : ∀ (H1 : Heap) (locs1 : List Loc), va_P G.1 vwCl ws' H1 → va_D A ws' → va_S A s.heap H1 locs1 → W p l e R s m args below meth c H1 locs1 cells slots Q (F0 m (pc + 3) ls (rest))) : W p l e R s m args below meth c H locs cells slots Q (F0 m pc ls st0) := by
  obtain ⟨S, -, -, hK, hN, hE, hA⟩ := id C
  have hpre := preS_of (av := As) hK hN hE hA hP hD hS isC hnd hC
  refine kcv (w1 := w1) C hP hD hS isC hC hadr hset (va_runSN S (hM H.size) ⟨va_cnB n S.2.2.2.2 hG hw hrm.1 hrm.2 hlk hini hd hR, hst1, trivial⟩ hpre rfl hn hsz hst (lv_room hW) hdg hcs) kk
theorem at_pc {pc' : Nat} {st : List Value} (h : pc = pc') (k : W p l e R s m args below meth c H locs cells slots Q (F0 m pc' ls st)) : W p l e R s m args below meth c H locs cells slots Q (F0 m pc ls st) := by subst h; exact k
theorem rd_ok {n : Nat} {f : Nat → Int32} {i z : Int32} (h : rdI n f i = some z) : vp_in i n ∧ f i.toNatClampNeg = z := by
  unfold rdI at h
  by_cases hc : i < 0 ∨ n ≤ i.toNatClampNeg
  · rw [if_pos hc] at h; cases h
  · rw [if_neg hc] at h; exact ⟨hc, Option.some.inj h⟩
theorem wr_ok {n : Nat} {f u : Nat → Int32} {i x : Int32} (h : wrI n f i x = some u) : vp_in i n ∧ upd f i.toNatClampNeg x = u := by
  unfold wrI at h
  by_cases hc : i < 0 ∨ n ≤ i.toNatClampNeg
  · rw [if_pos hc] at h; cases h
  · rw [if_neg hc] at h; exact ⟨hc, Option.some.inj h⟩
theorem dv_ok {x y z : Int32} (h : dvI x y = some z) : ¬ y = 0 ∧ x / y = z := by
  unfold dvI at h
  by_cases hc : y = 0
  · rw [if_pos hc] at h; cases h
  · rw [if_neg hc] at h; exact ⟨hc, Option.some.inj h⟩
theorem rm_ok {x y z : Int32} (h : rmI x y = some z) : ¬ y = 0 ∧ x - x / y * y = z := by
  unfold rmI at h
  by_cases hc : y = 0
  · rw [if_pos hc] at h; cases h
  · rw [if_neg hc] at h; exact ⟨hc, Option.some.inj h⟩
theorem zb_ok {x z : Int32} (h : zbI x = some z) : narrow .boolean (.int x) = .int x ∧ z = x := by
  unfold zbI at h
  by_cases hc : x = 0 ∨ x = 1
  · rw [if_pos hc] at h
    refine ⟨?_, (Option.some.inj h).symm⟩
    rcases hc with rfl | rfl <;> rfl
  · rw [if_neg hc] at h; cases h
theorem k_idiv {x y z : Int32} {rest : List Value} (hx : p.tables.exec = Jvm.exec) (hb : c.code = cc) (h : dvI x y = some z) (hdg : decode cc pc = .ok (.idiv, 1)) (k : W p l e R s m args below meth c H locs cells slots Q (F0 m (pc + 1) ls (.int z :: rest))) : W p l e R s m args below meth c H locs cells slots Q (F0 m pc ls (.int y :: .int x :: rest)) := by
  obtain ⟨h1, rfl⟩ := dv_ok h
  exact lv_idiv hx hb hdg h1 k
theorem k_irem {x y z : Int32} {rest : List Value} (hx : p.tables.exec = Jvm.exec) (hb : c.code = cc) (h : rmI x y = some z) (hdg : decode cc pc = .ok (.irem, 1)) (k : W p l e R s m args below meth c H locs cells slots Q (F0 m (pc + 1) ls (.int z :: rest))) : W p l e R s m args below meth c H locs cells slots Q (F0 m pc ls (.int y :: .int x :: rest)) := by
  obtain ⟨h1, rfl⟩ := rm_ok h
  exact lv_irem hx hb hdg h1 k
theorem k_sald {i z : Int32} {rest : List Value} (hx : p.tables.exec = Jvm.exec) (hb : c.code = cc) (hE : stA G A s) (hS : va_S A s.heap H locs) (h : rdI 6 (fun j => numL.getD j 0) i = some z) (hdg : decode cc pc = .ok (.iaload, 1))
    (kk : W p l e R s m args below meth c H locs cells slots Q (F0 m (pc + 1) ls (.int z :: rest))) : W p l e R s m args below meth c H locs cells slots Q (F0 m pc ls (.int i :: .ref G.2.2.1 :: rest)) := by
  obtain ⟨h1, rfl⟩ := rd_ok h
  exact va_ti hx hb hE.2.1 hS h1 rfl hdg kk
theorem k_iald {D : va_G} {cl : List vw_C} {tys : List (ClassId × FieldType)} {ws : va_W} {a : Nat} {rest : List Value} (hx : p.tables.exec = Jvm.exec) (hb : c.code = cc) (hK : va_K D cl tys s) (hP : va_P D cl ws H) (q0 t0 : Nat) {cA : ClassId} {n : Nat} {f : Nat → Int32} (ha : ws[q0]? = some (a, .inl (cA, n, .inl f))) (ht : tys[t0]? = some (cA, .int)) {i z : Int32} (h : rdI n f i = some z) (hdg : decode cc pc = .ok (.iaload, 1))
    (kk : W p l e R s m args below meth c H locs cells slots Q (F0 m (pc + 1) ls (.int z :: rest))) : W p l e R s m args below meth c H locs cells slots Q (F0 m pc ls (.int i :: .ref a :: rest)) := by
  obtain ⟨h1, rfl⟩ := rd_ok h
  exact va_iald hx hb hK hP q0 t0 ha ht h1 hdg kk
theorem k_bald {D : va_G} {cl : List vw_C} {tys : List (ClassId × FieldType)} {ws : va_W} {a : Nat} {rest : List Value} (hx : p.tables.exec = Jvm.exec) (hb : c.code = cc) (hK : va_K D cl tys s) (hP : va_P D cl ws H) (q0 t0 : Nat) {cA : ClassId} {n : Nat} {f : Nat → Int32} (ha : ws[q0]? = some (a, .inl (cA, n, .inl f))) (ht : tys[t0]? = some (cA, .byte)) {i z : Int32} (h : rdI n f i = some z) (hdg : decode cc pc = .ok (.baload, 1))
    (kk : W p l e R s m args below meth c H locs cells slots Q (F0 m (pc + 1) ls (.int z :: rest))) : W p l e R s m args below meth c H locs cells slots Q (F0 m pc ls (.int i :: .ref a :: rest)) := by
  obtain ⟨h1, rfl⟩ := rd_ok h
  exact va_bald hx hb hK hP q0 t0 ha ht h1 hdg kk
theorem k_zald {D : va_G} {cl : List vw_C} {tys : List (ClassId × FieldType)} {ws : va_W} {a : Nat} {rest : List Value} (hx : p.tables.exec = Jvm.exec) (hb : c.code = cc) (hK : va_K D cl tys s) (hP : va_P D cl ws H) (q0 t0 : Nat) {cA : ClassId} {n : Nat} {f : Nat → Int32} (ha : ws[q0]? = some (a, .inl (cA, n, .inl f))) (ht : tys[t0]? = some (cA, .boolean)) {i z : Int32} (h : rdI n f i = some z) (hdg : decode cc pc = .ok (.baload, 1))
    (kk : W p l e R s m args below meth c H locs cells slots Q (F0 m (pc + 1) ls (.int z :: rest))) : W p l e R s m args below meth c H locs cells slots Q (F0 m pc ls (.int i :: .ref a :: rest)) := by
  obtain ⟨h1, rfl⟩ := rd_ok h
  exact va_zald hx hb hK hP q0 t0 ha ht h1 hdg kk
theorem k_iast {D : va_G} {cl : List vw_C} {tys : List (ClassId × FieldType)} {ws : va_W} {A : Nat → Prop} {H0 : Heap} {a : Nat} {rest : List Value} (hx : p.tables.exec = Jvm.exec) (hb : c.code = cc) (hK : va_K D cl tys s) (hP : va_P D cl ws H) (hD : va_D A ws) (hS : va_S A H0 H locs) (q0 t0 : Nat) {cA : ClassId} {n : Nat} {f u : Nat → Int32} (ha : ws[q0]? = some (a, .inl (cA, n, .inl f))) (ht : tys[t0]? = some (cA, .int)) {i x : Int32} (h : wrI n f i x = some u) (hdg : decode cc pc = .ok (.iastore, 1))
    (kk : ∀ (H1 : Heap) (locs1 : List Loc), va_P D cl (ws.set q0 (a, .inl (cA, n, .inl u))) H1 → va_D A (ws.set q0 (a, .inl (cA, n, .inl u))) → va_S A H0 H1 locs1 → W p l e R s m args below meth c H1 locs1 cells slots Q (F0 m (pc + 1) ls rest)) : W p l e R s m args below meth c H locs cells slots Q (F0 m pc ls (.int x :: .int i :: .ref a :: rest)) := by
  obtain ⟨h1, rfl⟩ := wr_ok h
  exact va_iast hx hb hK hP hD hS q0 t0 ha ht h1 hdg kk
theorem k_bast {D : va_G} {cl : List vw_C} {tys : List (ClassId × FieldType)} {ws : va_W} {A : Nat → Prop} {H0 : Heap} {a : Nat} {rest : List Value} (hx : p.tables.exec = Jvm.exec) (hb : c.code = cc) (hK : va_K D cl tys s) (hP : va_P D cl ws H) (hD : va_D A ws) (hS : va_S A H0 H locs) (q0 t0 : Nat) {cA : ClassId} {n : Nat} {f u : Nat → Int32} (ha : ws[q0]? = some (a, .inl (cA, n, .inl f))) (ht : tys[t0]? = some (cA, .byte)) {i x : Int32} (h : wrI n f i (vp_nar .byte x) = some u) (hdg : decode cc pc = .ok (.bastore, 1))
    (kk : ∀ (H1 : Heap) (locs1 : List Loc), va_P D cl (ws.set q0 (a, .inl (cA, n, .inl u))) H1 → va_D A (ws.set q0 (a, .inl (cA, n, .inl u))) → va_S A H0 H1 locs1 → W p l e R s m args below meth c H1 locs1 cells slots Q (F0 m (pc + 1) ls rest)) : W p l e R s m args below meth c H locs cells slots Q (F0 m pc ls (.int x :: .int i :: .ref a :: rest)) := by
  obtain ⟨h1, rfl⟩ := wr_ok h
  exact va_bast hx hb hK hP hD hS q0 t0 ha ht h1 hdg kk
theorem k_zast {D : va_G} {cl : List vw_C} {tys : List (ClassId × FieldType)} {ws : va_W} {A : Nat → Prop} {H0 : Heap} {a : Nat} {rest : List Value} (hx : p.tables.exec = Jvm.exec) (hb : c.code = cc) (hK : va_K D cl tys s) (hP : va_P D cl ws H) (hD : va_D A ws) (hS : va_S A H0 H locs) (q0 t0 : Nat) {cA : ClassId} {n : Nat} {f u : Nat → Int32} (ha : ws[q0]? = some (a, .inl (cA, n, .inl f))) (ht : tys[t0]? = some (cA, .boolean)) {i x : Int32} (h : wrI n f i (vp_nar .boolean x) = some u) (hdg : decode cc pc = .ok (.bastore, 1))
    (kk : ∀ (H1 : Heap) (locs1 : List Loc), va_P D cl (ws.set q0 (a, .inl (cA, n, .inl u))) H1 → va_D A (ws.set q0 (a, .inl (cA, n, .inl u))) → va_S A H0 H1 locs1 → W p l e R s m args below meth c H1 locs1 cells slots Q (F0 m (pc + 1) ls rest)) : W p l e R s m args below meth c H locs cells slots Q (F0 m pc ls (.int x :: .int i :: .ref a :: rest)) := by
  obtain ⟨h1, rfl⟩ := wr_ok h
  exact va_zast hx hb hK hP hD hS q0 t0 ha ht h1 hdg kk
end LIBW
def fu : Nat := 50000
abbrev cpI (n : Nat) (f g : Nat → Int32) : Nat → Int32 := va_cpy f g 0 0 n
abbrev wX0 (G : GG) (a : Nat → Nat) (path_ : Nat → Int32) (favoured_ : Nat → Int32) (villages_ : Int32) : va_W := [(a 0, .inr (0, [.ref (a 1), .ref (a 2), .int villages_])), (a 1, .inl (gI G, 6, .inl path_)), (a 2, .inl (gI G, 6, .inl favoured_))]
abbrev wX1 (G : GG) (a : Nat → Nat) (best_ : Nat → Int32) (most_ : Int32) (given_ : Nat → Int32) (meets_ : Nat → Int32) (villages_ : Int32) : va_W := [(a 0, .inr (1, [.ref (a 1), .int most_, .ref (a 2), .ref (a 3), .int villages_])), (a 1, .inl (gI G, 6, .inl best_)), (a 2, .inl (gI G, 6, .inl given_)), (a 3, .inl (gI G, 36, .inl meets_))]
abbrev wX2 (G : GG) (a : Nat → Nat) (length_ : Int32) (text_ : Nat → Int32) (number_ : Nat → Int32) (word_ : Int32) (numbers_ : Int32) (items_ : Int32) (refused_ : Int32) : va_W := [(a 0, .inr (2, [.int length_, .ref (a 1), .ref (a 2), .int word_, .int numbers_, .int items_, .int refused_])), (a 1, .inl (gB G, 250, .inl text_)), (a 2, .inl (gI G, 3, .inl number_))]
abbrev wX3 (G : GG) (a : Nat → Nat) (villages_ : Int32) (woods_ : Int32) (needs_ : Int32) (signs_ : Int32) (temper_ : Nat → Int32) (friend_ : Nat → Int32) (rope_ : Nat → Int32) (hears_ : Nat → Int32) (shut_ : Nat → Int32) (woodBell_ : Nat → Int32) (woodVillage_ : Nat → Int32) (needVillage_ : Nat → Int32) (needWind_ : Nat → Int32) (needSeen_ : Nat → Int32) (sign_ : Nat → Int32) : va_W := [(a 0, .inr (3, [.int villages_, .int woods_, .int needs_, .int signs_, .ref (a 1), .ref (a 2), .ref (a 3), .ref (a 4), .ref (a 5), .ref (a 6), .ref (a 7), .ref (a 8), .ref (a 9), .ref (a 10), .ref (a 11)])), (a 1, .inl (gI G, 6, .inl temper_)), (a 2, .inl (gI G, 6, .inl friend_)), (a 3, .inl (gI G, 6, .inl rope_)), (a 4, .inl (gI G, 24, .inl hears_)), (a 5, .inl (gI G, 6, .inl shut_)), (a 6, .inl (gI G, 8, .inl woodBell_)), (a 7, .inl (gI G, 8, .inl woodVillage_)), (a 8, .inl (gI G, 12, .inl needVillage_)), (a 9, .inl (gI G, 12, .inl needWind_)), (a 10, .inl (gI G, 12, .inl needSeen_)), (a 11, .inl (gI G, 6, .inl sign_))]
abbrev wX4 (G : GG) (a : Nat → Nat) (due_ : Nat → Int32) (rang_ : Nat → Int32) (times_ : Nat → Int32) (last_ : Nat → Int32) : va_W := [(a 0, .inr (4, [.ref (a 1), .ref (a 2), .ref (a 3), .ref (a 4)])), (a 1, .inl (gI G, 12, .inl due_)), (a 2, .inl (gI G, 12, .inl rang_)), (a 3, .inl (gI G, 36, .inl times_)), (a 4, .inl (gI G, 36, .inl last_))]
abbrev wX5 (G : GG) (a : Nat → Nat) (between_ : Nat → Int32) : va_W := [(a 0, .inr (5, [.ref (a 1)])), (a 1, .inl (gI G, 36, .inl between_))]
abbrev wX7 (G : GG) (a : Nat → Nat) (book_ : Nat → Int32) (spare_ : Nat → Int32) (images_ : Nat → Int32) (kept_ : Nat → Int32) (text_ : Nat → Int32) (length_ : Int32) (refused_ : Nat → Int32) (items_ : Nat → Int32) (many_ : Int32) (at_ : Int32) (sort_ : Int32) (start_ : Int32) (size_ : Int32) (due_ : Nat → Int32) (rung_ : Nat → Int32) (anywhere_ : Nat → Int32) : va_W := [(a 0, .inr (7, [.ref (a 1), .ref (a 2), .ref (a 3), .ref (a 4), .ref (a 5), .int length_, .ref (a 6), .ref (a 7), .int many_, .int at_, .int sort_, .int start_, .int size_, .ref (a 8), .ref (a 9), .ref (a 10)])), (a 1, .inl (gI G, 104, .inl book_)), (a 2, .inl (gI G, 104, .inl spare_)), (a 3, .inl (gI G, 208, .inl images_)), (a 4, .inl (gZ G, 2, .inl kept_)), (a 5, .inl (gI G, 250, .inl text_)), (a 6, .inl (gI G, 3, .inl refused_)), (a 7, .inl (gI G, 250, .inl items_)), (a 8, .inl (gI G, 12, .inl due_)), (a 9, .inl (gI G, 12, .inl rung_)), (a 10, .inl (gI G, 6, .inl anywhere_))]
abbrev wX6 (G : GG) (a : Nat → Nat) (valley_ : Nat) (draft_ : Nat) (images_ : Nat) (tale_ : Nat) (run_ : Nat) (ropeSearch_ : Nat) (ringSearch_ : Nat) (woodSearch_ : Nat) (refusedBad_ : Int32) (refusedNo_ : Int32) (refusedFull_ : Int32) : va_W := [(a 0, .inr (6, [.ref valley_, .ref draft_, .ref images_, .ref tale_, .ref run_, .ref ropeSearch_, .ref ringSearch_, .ref woodSearch_, .int refusedBad_, .int refusedNo_, .int refusedFull_]))]
