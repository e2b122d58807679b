/-! NEW OBJECTS: contracts of constructors -/
def adr (L : List Nat) : Nat → Nat := fun i => L.getD i 0
def cMn {S : Type} (l : Launch) (G : GG) (y : MethodName) (wds : List Cond) (rm : Room) (a0 ci : Nat) (fs : List Value) (post : S → Prop) (Wd : S → va_W) (mc ms : Nat) : Prop :=
  ∀ sz : Nat, Met l y wds rm (va_Pc [.ref a0] (cPre G [(a0, .inr (ci, fs))] sz)) (va_Qv post (fun u t => va_P G.1 vwCl (Wd u) t.heap ∧ va_D (va_A [(a0, .inr (ci, fs))] sz) (Wd u)) (va_A [(a0, .inr (ci, fs))] sz)) mc ms (va_A [(a0, .inr (ci, fs))] sz)
section LIBN
variable {p : Program} {l : Launch} {e : Env} {R : Room} {s : State} {m : MethodId} {args : Array Value} {below : List Frame} {meth : Method} {c : Code} {H : Heap} {locs : List Loc} {cells slots : Nat} {Q : State → Prop}
variable {cc : ByteArray} {nL : Nat} {Ts : List Cond} {own : String} {ret : Option FieldType} {G : GG} {A : Nat → Prop} {pc : Nat} {ls : Array Slot} {rest : List Value} {ws : va_W}
theorem met_ofN {y : MethodName} {wds wds' : List Cond} {rm : Room} {av : List Value} {ws : va_W} {sz mc ms : Nat} {Qc : (Nat → Prop) → Array Value → State → Outcome → State → Prop} (hy : plainName y.cls = true) (hw : wds = Cond.code y cc nL ret :: wds') (hav : (lg_sl av).length ≤ nL)
    (body : ∀ (p : Program) (e : Env) (s : State) (m : MethodId) (args : Array Value) (below : List Frame) (meth : Method) (c : Code) (A : Nat → Prop) (ls : Array Slot), Cx p m c cc nL s args wds y.cls meth ret G A → meth.name = y.name → (∀ q, va_A ws s.heap.size q ↔ A q) → va_P G.1 vwCl ws s.heap → va_D A ws → va_S A s.heap s.heap [] → lv_has ls nL (lv_args 0 av) →
      W p l e rm s m args below meth c s.heap [] 0 0 (MQ below (Qc A) args s mc ms A) (F0 m 0 ls [])) :
    Met l y wds rm (va_Pc av (cPre G ws sz)) (Qc (va_A ws sz)) mc ms (va_A ws sz) := by
  refine Met.ofW (cc := cc) (maxL := nL) (ret := ret) hy hw ?_
  intro p e s m args below meth c s₁ B hml hv
  obtain ⟨rfl, hsz, hP, hK, hD0, hN, hE⟩ := hv
  subst hsz
  have hts := atoms_spec (ws := wds) B.pre
  have hown : s.vm.findClass y.cls = some m.cls := findClass_of_methodNamed B.named
  have hl := lv_entry av (n := nL) hav
  have hD := hD0.self (sz := s.heap.size)
  rw [lg_entry_eq]
  exact body p e s m _ below meth c _ _ ⟨⟨B.exec, B.bytes, hml, hown, hts⟩, B.returns, B.notSynchronized, hK, hN, hE, fun q h => Or.inr h⟩ (name_of_methodNamed B.named B.method).1 (fun q => Iff.rfl) hP hD va_S.rf hl
theorem k_newI (hx : p.tables.exec = Jvm.exec) (hb : c.code = cc) (harr : (Cond.arrayClass .int).before args s = true) (hK : va_K G.1 vwCl (tyG G) s) (hP : va_P G.1 vwCl ws H) (hD : va_D A ws) (hS : va_S A s.heap H locs) (hA : ∀ q : Nat, s.heap.size ≤ q → A q) {n : Int32} (N : Nat) (hn : ¬ n < 0) (hN : n.toNatClampNeg = N) (hbytes : N * componentBytes .int ≤ 536870912) (hcells : cells + 1 ≤ R.cells) (hslots : slots + N ≤ R.slots) (hdg : decode cc pc = .ok (.newarray .int, 2))
    (kk : ∀ (q : Nat) (H1 : Heap), va_P G.1 vwCl (ws ++ [(q, .inl (gI G, N, .inl (fun _ => 0)))]) H1 → va_D A (ws ++ [(q, .inl (gI G, N, .inl (fun _ => 0)))]) → va_S A s.heap H1 locs → W p l e R s m args below meth c H1 locs (cells + 1) (slots + N) Q (F0 m (pc + 2) ls (.ref q :: rest))) : W p l e R s m args below meth c H locs cells slots Q (F0 m pc ls (.int n :: rest)) := by
  refine va_newa (atype := .int) (ty := .int) (a0 := (N, .inl (fun _ => 0))) hx hb harr rfl hK hP hD hS hA (fun cA => rfl) hn hN hbytes hcells hslots hdg (fun q cA H1 hK1 hP1 hD1 hS1 => ?_)
  have h1 := va_nm_int (hK1.2 4 (cA, .int) rfl).2
  have h2 := va_nm_int (hK.2 0 (gI G, .int) rfl).2
  have : cA = gI G := Option.some.inj (h1.symm.trans h2)
  subst this
  exact kk q H1 hP1 hD1 hS1
theorem k_newB (hx : p.tables.exec = Jvm.exec) (hb : c.code = cc) (harr : (Cond.arrayClass .byte).before args s = true) (hK : va_K G.1 vwCl (tyG G) s) (hP : va_P G.1 vwCl ws H) (hD : va_D A ws) (hS : va_S A s.heap H locs) (hA : ∀ q : Nat, s.heap.size ≤ q → A q) {n : Int32} (N : Nat) (hn : ¬ n < 0) (hN : n.toNatClampNeg = N) (hbytes : N * componentBytes .byte ≤ 536870912) (hcells : cells + 1 ≤ R.cells) (hslots : slots + N ≤ R.slots) (hdg : decode cc pc = .ok (.newarray .byte, 2))
    (kk : ∀ (q : Nat) (H1 : Heap), va_P G.1 vwCl (ws ++ [(q, .inl (gB G, N, .inl (fun _ => 0)))]) H1 → va_D A (ws ++ [(q, .inl (gB G, N, .inl (fun _ => 0)))]) → va_S A s.heap H1 locs → W p l e R s m args below meth c H1 locs (cells + 1) (slots + N) Q (F0 m (pc + 2) ls (.ref q :: rest))) : W p l e R s m args below meth c H locs cells slots Q (F0 m pc ls (.int n :: rest)) := by
  refine va_newa (atype := .byte) (ty := .byte) (a0 := (N, .inl (fun _ => 0))) hx hb harr rfl hK hP hD hS hA (fun cA => rfl) hn hN hbytes hcells hslots hdg (fun q cA H1 hK1 hP1 hD1 hS1 => ?_)
  have h1 := va_nm_byte (hK1.2 4 (cA, .byte) rfl).2
  have h2 := va_nm_byte (hK.2 1 (gB G, .byte) rfl).2
  have : cA = gB G := Option.some.inj (h1.symm.trans h2)
  subst this
  exact kk q H1 hP1 hD1 hS1
theorem k_newZ (hx : p.tables.exec = Jvm.exec) (hb : c.code = cc) (harr : (Cond.arrayClass .boolean).before args s = true) (hK : va_K G.1 vwCl (tyG G) s) (hP : va_P G.1 vwCl ws H) (hD : va_D A ws) (hS : va_S A s.heap H locs) (hA : ∀ q : Nat, s.heap.size ≤ q → A q) {n : Int32} (N : Nat) (hn : ¬ n < 0) (hN : n.toNatClampNeg = N) (hbytes : N * componentBytes .boolean ≤ 536870912) (hcells : cells + 1 ≤ R.cells) (hslots : slots + N ≤ R.slots) (hdg : decode cc pc = .ok (.newarray .boolean, 2))
    (kk : ∀ (q : Nat) (H1 : Heap), va_P G.1 vwCl (ws ++ [(q, .inl (gZ G, N, .inl (fun _ => 0)))]) H1 → va_D A (ws ++ [(q, .inl (gZ G, N, .inl (fun _ => 0)))]) → va_S A s.heap H1 locs → W p l e R s m args below meth c H1 locs (cells + 1) (slots + N) Q (F0 m (pc + 2) ls (.ref q :: rest))) : W p l e R s m args below meth c H locs cells slots Q (F0 m pc ls (.int n :: rest)) := by
  refine va_newa (atype := .boolean) (ty := .boolean) (a0 := (N, .inl (fun _ => 0))) hx hb harr rfl hK hP hD hS hA (fun cA => rfl) hn hN hbytes hcells hslots hdg (fun q cA H1 hK1 hP1 hD1 hS1 => ?_)
  have h1 := va_nm_boolean (hK1.2 4 (cA, .boolean) rfl).2
  have h2 := va_nm_boolean (hK.2 2 (gZ G, .boolean) rfl).2
  have : cA = gZ G := Option.some.inj (h1.symm.trans h2)
  subst this
  exact kk q H1 hP1 hD1 hS1
theorem k_newV (hx : p.tables.exec = Jvm.exec) (hb : c.code = cc) {index : Nat} (hown : s.vm.findClass own = some m.cls) (hcl : (Cond.classLink own index "BlindBells$Valley").before args s = true) (hov : va_AO "BlindBells$Valley" s) (hK : va_K G.1 vwCl (tyG G) s) (hP : va_P G.1 vwCl ws H) (hD : va_D A ws) (hS : va_S A s.heap H locs) (hA : ∀ q : Nat, s.heap.size ≤ q → A q) {n : Int32} (N : Nat) (hn : ¬ n < 0) (hN : n.toNatClampNeg = N) (hbytes : N * 4 ≤ 536870912) (hcells : cells + 1 ≤ R.cells) (hslots : slots + N ≤ R.slots) (hdg : decode cc pc = .ok (.anewarray index, 3))
    (kk : ∀ (q : Nat) (H1 : Heap), va_P G.1 vwCl (ws ++ [(q, .inl (gV G, N, .inr (.inr (.inr (.inr (fun _ => none))))))]) H1 → va_D A (ws ++ [(q, .inl (gV G, N, .inr (.inr (.inr (.inr (fun _ => none))))))]) → va_S A s.heap H1 locs → W p l e R s m args below meth c H1 locs (cells + 1) (slots + N) Q (F0 m (pc + 3) ls (.ref q :: rest))) : W p l e R s m args below meth c H locs cells slots Q (F0 m pc ls (.int n :: rest)) := by
  refine va_newq (C := "BlindBells$Valley") hx hb hown hcl hov hK hP hD hS hA hn hN hbytes hcells hslots hdg (fun q cA H1 hK1 hP1 hD1 hS1 => ?_)
  have h1 := va_nmO (hK1.2 4 (cA, .object "BlindBells$Valley") rfl).2 rfl
  have h2 := va_nmO (hK.2 3 (gV G, .object "BlindBells$Valley") rfl).2 rfl
  have : cA = gV G := Option.some.inj (h1.symm.trans h2)
  subst this
  exact kk q H1 hP1 hD1 hS1
theorem joinN {D : va_G} {cl : List vw_C} {A0 : Nat → Prop} {ws w1 : va_W} {q : Nat} {e0 : va_E} {H H1 : Heap} (hP : va_P D cl (ws ++ [(q, e0)]) H) (hD : va_D A0 (ws ++ [(q, e0)])) (hk : ∀ x : Nat, x < H.size → ¬ va_A [(q, e0)] H.size x → H1[x]? = H[x]?) (hF : ∀ x, va_A [(q, e0)] H.size x → A0 x) (hP1 : va_P D cl w1 H1) (hD1 : va_D (va_A [(q, e0)] H.size) w1) : va_P D cl (ws ++ w1) H1 ∧ va_D A0 (ws ++ w1) := by
  obtain ⟨d1, d2, d3⟩ := D_app hD
  have hq : ∀ x ∈ ws, x.1 < H.size ∧ x.1 ≠ q := fun x hx => ⟨(P_mem.mp hP x (List.mem_append_left _ hx)).lt, d3 x hx (q, e0) (List.mem_singleton.mpr rfl)⟩
  have nA : ∀ x ∈ ws, ¬ va_A [(q, e0)] H.size x.1 := by
    intro x hx h
    obtain ⟨h1, h2⟩ := hq x hx
    rcases h with ⟨k, e1, h⟩ | h
    · have := List.mem_singleton.mp (List.mem_of_getElem? h)
      exact h2 (congrArg Prod.fst this)
    · omega
  refine ⟨P_mem.mpr (fun x hx => ?_), va_D.app d1 (hD1.weaken (fun k x hx h => hF _ h)) (fun i j x y hi hj e => ?_)⟩
  · rcases List.mem_append.mp hx with h | h
    · exact (P_mem.mp hP x (List.mem_append_left _ h)).kept (hk x.1 (hq x h).1 (nA x h))
    · exact P_mem.mp hP1 x h
  · have := hD1.2 j y hj
    rw [← e] at this
    exact nA x (List.mem_of_getElem? hi) this
theorem preN_of {ws : va_W} {q : Nat} {e0 : va_E} (hK : va_K G.1 vwCl (tyG G) s) (hN : nwA s) (hE : stA G A s) (hA : ∀ q : Nat, s.heap.size ≤ q → A q) (hP : va_P G.1 vwCl (ws ++ [(q, e0)]) H) (hD : va_D A (ws ++ [(q, e0)])) (hS : va_S A s.heap H locs) : (∀ x, va_A [(q, e0)] H.size x → A x) ∧ PreS s H (va_Pc [.ref q] (cPre G [(q, e0)] H.size)) [.ref q] := by
  obtain ⟨d1, d2, d3⟩ := D_app hD
  have hF : ∀ x, va_A [(q, e0)] H.size x → A x := by
    intro x h
    rcases h with ⟨k, e1, h⟩ | h
    · exact d2.2 k (x, e1) h
    · exact hA x (Nat.le_trans hS.1 h)
  have hPc : va_P G.1 vwCl [(q, e0)] H := P_mem.mpr (fun x hx => P_mem.mp hP x (List.mem_append_right _ hx))
  exact ⟨hF, fb_cPre, fun U hU hW => ⟨rfl, by rw [hU], by rw [hU]; exact hPc, va_K.moved hW.alike hK, d2.weaken (fun _ _ _ _ => trivial), nwA.warm hW hN, stA.go hS hF hU hW hE⟩⟩
/-- a constructor, by a link -/
theorem kI {S : Type} {post : S → Prop} {Wd : S → va_W} {y : MethodName} {wds wds' : List Cond} {rm : Room} {index maxL mc ms q ci : Nat} {fs : List Value} {bytes : ByteArray} (C : Cx p m c cc nL s args Ts own meth ret G A) (hP : va_P G.1 vwCl (ws ++ [(q, .inr (ci, fs))]) H) (hD : va_D A (ws ++ [(q, .inr (ci, fs))])) (hS : va_S A s.heap H locs) (hM : cMn l G y wds rm q ci fs post Wd mc ms) (hG : GoodIn Ts wds) (hlk : (Cond.methodLink own index y).before args s = true) (hin : (Cond.instanceMethod y).before args s = true) (hini : (Cond.initialized y.cls).before args s = true) (hw : wds = Cond.code y bytes maxL none :: wds') (hrm : rm.cells = mc ∧ rm.slots = ms) (hy : y.name = "<init>") (hd : y.cls ≠ "java/lang/invoke/MethodHandle" ∧ y.cls ≠ "java/lang/invoke/VarHandle" ∧ (parseMethodDescriptor y.desc).map (fun d => d.parameters.length) = some 0) (hR : rm.frames + 1 ≤ R.frames ∧ 8 + (maxL + 11) + rm.locals ≤ R.locals) (hsz : ls.size = nL) (hW : (rest.map fun v => v.category).sum ≤ 8) (hcs : cells + mc ≤ R.cells ∧ slots + ms ≤ R.slots) (hdg : decode cc pc = .ok (.invokespecial index, 3))
    (kk : ∀ (u : S) (H1 : Heap) (locs1 : List Loc), post u → va_P G.1 vwCl (ws ++ Wd u) H1 → va_D A (ws ++ Wd u) → va_S A s.heap H1 locs1 → W p l e R s m args below meth c H1 locs1 (cells + mc) (slots + ms) Q (F0 m (pc + 3) ls rest)) : W p l e R s m args below meth c H locs cells slots Q (F0 m pc ls (.ref q :: rest)) := by
  obtain ⟨S0, -, -, hK, hN, hE, hA⟩ := C
  obtain ⟨hF, hpre⟩ := preN_of hK hN hE hA hP hD hS
  refine va_callv (va_runI (As := []) (rest := rest) S0 (hM H.size) (cwI 0 S0.2.2.2.2 hG hw hrm.1 hrm.2 hini hlk hin hy hd hR) hpre rfl rfl hsz rfl (lv_room hW) hdg hcs) hS (fun x _ h => hF x h) hF (fun u t H1 locs1 ht hvm hp hB hz1 hk1 hS1 => ?_)
  obtain ⟨hP1, hD1⟩ := hB
  rw [ht] at hP1
  obtain ⟨hP2, hD2⟩ := joinN hP hD hk1 hF hP1 hD1
  exact kk u H1 locs1 hp hP2 hD2 hS1
/-- a constructor of a nest mate -/
theorem kIN {S : Type} {post : S → Prop} {Wd : S → va_W} {y : MethodName} {wds wds' : List Cond} {rm : Room} {index maxL mc ms q ci : Nat} {fs : List Value} {bytes : ByteArray} {host : String} (C : Cx p m c cc nL s args Ts own meth ret G A) (hP : va_P G.1 vwCl (ws ++ [(q, .inr (ci, fs))]) H) (hD : va_D A (ws ++ [(q, .inr (ci, fs))])) (hS : va_S A s.heap H locs) (hM : cMn l G y wds rm q ci fs post Wd mc ms) (hG : GoodIn Ts wds) (hlk : va_Nw (.methodLinkNest own index y host) s) (hin : (Cond.instanceMethod y).before args s = true) (hini : (Cond.initialized y.cls).before args s = true) (hw : wds = Cond.code y bytes maxL none :: wds') (hrm : rm.cells = mc ∧ rm.slots = ms) (hy : y.name = "<init>") (hd : y.cls ≠ "java/lang/invoke/MethodHandle" ∧ y.cls ≠ "java/lang/invoke/VarHandle" ∧ (parseMethodDescriptor y.desc).map (fun d => d.parameters.length) = some 0) (hR : rm.frames + 1 ≤ R.frames ∧ 8 + (maxL + 11) + rm.locals ≤ R.locals) (hsz : ls.size = nL) (hW : (rest.map fun v => v.category).sum ≤ 8) (hcs : cells + mc ≤ R.cells ∧ slots + ms ≤ R.slots) (hdg : decode cc pc = .ok (.invokespecial index, 3))
    (kk : ∀ (u : S) (H1 : Heap) (locs1 : List Loc), post u → va_P G.1 vwCl (ws ++ Wd u) H1 → va_D A (ws ++ Wd u) → va_S A s.heap H1 locs1 → W p l e R s m args below meth c H1 locs1 (cells + mc) (slots + ms) Q (F0 m (pc + 3) ls rest)) : W p l e R s m args below meth c H locs cells slots Q (F0 m pc ls (.ref q :: rest)) := by
  obtain ⟨S0, -, -, hK, hN, hE, hA⟩ := C
  obtain ⟨hF, hpre⟩ := preN_of hK hN hE hA hP hD hS
  refine va_callv (va_runIN (As := []) (rest := rest) S0 (hM H.size) ⟨va_cnB 0 S0.2.2.2.2 hG hw hrm.1 hrm.2 hlk hini hd hR, hy, hin⟩ hpre rfl rfl hsz rfl (lv_room hW) hdg hcs) hS (fun x _ h => hF x h) hF (fun u t H1 locs1 ht hvm hp hB hz1 hk1 hS1 => ?_)
  obtain ⟨hP1, hD1⟩ := hB
  rw [ht] at hP1
  obtain ⟨hP2, hD2⟩ := joinN hP hD hk1 hF hP1 hD1
  exact kk u H1 locs1 hp hP2 hD2 hS1
end LIBN

theorem iiX0_init_X0 : ∀ w ∈ u_ws RX0 TX0 3, w ∈ wsX0_init := by decide +kernel
theorem mmX0_init_o1 : (Cond.methodLink RX0 3 objectInit) ∈ wsX0_init := by decide +kernel
theorem mmX0_init_o2 : (Cond.instanceMethod objectInit) ∈ wsX0_init := by decide +kernel
theorem mmX0_init_o3 : (Cond.code objectInit ⟨#[0xb1]⟩ 1 none) ∈ wsX0_init := by decide +kernel
theorem mmX0_init_aI : (Cond.arrayClass .int) ∈ wsX0_init := by decide +kernel
theorem hdX0_init : yX0_init.cls ≠ "java/lang/invoke/MethodHandle" ∧ yX0_init.cls ≠ "java/lang/invoke/VarHandle" ∧ (parseMethodDescriptor yX0_init.desc).map (fun d => d.parameters.length) = some 0 := by decide +kernel
abbrev rmX0_init : Room := { frames := 1, cells := 2, slots := 12, locals := 20 }
set_option maxHeartbeats 4000000 in
set_option maxRecDepth 100000 in
theorem tX0_init (l : Launch) (G : GG) (a0 : Nat) : cMn l G yX0_init wsX0_init rmX0_init a0 0 [.null, .null, .int 0] (fun (u : Nat → Nat) => u 0 = a0) (fun (u : Nat → Nat) => wX0 G u (fun _ => 0) (fun _ => 0) 0) 2 12 := by
  intro sz
  refine met_ofN (y := yX0_init) (av := [.ref a0]) (cc := cX0_init) (nL := 1) (ret := none) (Qc := fun A9 => va_Qv (fun (u : Nat → Nat) => u 0 = a0) (fun u t => va_P G.1 vwCl ((fun (u : Nat → Nat) => wX0 G u (fun _ => 0) (fun _ => 0) 0) u) t.heap ∧ va_D A9 ((fun (u : Nat → Nat) => wX0 G u (fun _ => 0) (fun _ => 0) 0) u)) A9) (by decide) rfl (Nat.le_of_ble_eq_true rfl) ?_
  intro p e s m args below meth c A ls C hin hAA hP hD hS hl
  obtain ⟨⟨hx, hb, hml, hown, hts⟩, hr, hlocks, hK, hN, hE, hA⟩ := id C
  have hl : lv_has ls 1 [(0, .ref a0)] := hl
  refine lv_aload_n hx hb dX0_init_0 rfl (lv_at hl 0 rfl) ?_
  refine W.objInit hx hb hown (hts _ mmX0_init_o1) (hts _ mmX0_init_o2) (hts _ mmX0_init_o3) rfl (by rw [hml]; exact hl.1) rfl dX0_init_1 (Nat.le_of_ble_eq_true rfl) (Nat.le_of_ble_eq_true rfl) ?_
  refine W.eq (g2 := F0 m 4 ls []) rfl ?_
  refine lv_aload_n hx hb dX0_init_4 rfl (lv_at hl 0 rfl) ?_
  refine lv_bipush (v := 6) hx hb dX0_init_5 (by decide) ?_
  refine k_newI hx hb (hts _ mmX0_init_aI) hK hP hD hS hA 6 (by decide) (by decide) (by decide) (Nat.le_of_ble_eq_true rfl) (Nat.le_of_ble_eq_true rfl) dX0_init_7 (fun q1 H hP hD hS => ?_)
  have hP : va_P G.1 vwCl [(a0, .inr (0, [.null, .null, .int 0])), (q1, .inl (gI G, 6, .inl (fun _ => 0)))] H := hP
  have hD : va_D A [(a0, .inr (0, [.null, .null, .int 0])), (q1, .inl (gI G, 6, .inl (fun _ => 0)))] := hD
  refine W.widen (k := 1) (n := 6) (by decide) (by decide) ?_
  refine va_putF (D := G.1) (ci := 0) (v := .ref q1) (ty := tyX0 0) (C := RX0) (T := TX0) (N := 3) hx hb hts iiX0_init_X0 tyX0 tyX0_ok nmX0 hown hK hP hD hS 0 rfl rfl 0 (by decide) (hts (Cond.fieldLink RX0 9 "BlindBells$RingSearch" "path" "[I") (by decide +kernel)) (fun _ h9 => h9) rfl hin rfl (by decide +kernel) rfl rfl (Nat.le_of_ble_eq_true rfl) dX0_init_9 (fun H locs hP hD hS => ?_)
  have hP : va_P G.1 vwCl [(a0, .inr (0, [.ref q1, .null, .int 0])), (q1, .inl (gI G, 6, .inl (fun _ => 0)))] H := hP
  have hD : va_D A [(a0, .inr (0, [.ref q1, .null, .int 0])), (q1, .inl (gI G, 6, .inl (fun _ => 0)))] := hD
  refine lv_aload_n hx hb dX0_init_12 rfl (lv_at hl 0 rfl) ?_
  refine lv_bipush (v := 6) hx hb dX0_init_13 (by decide) ?_
  refine k_newI hx hb (hts _ mmX0_init_aI) hK hP hD hS hA 6 (by decide) (by decide) (by decide) (Nat.le_of_ble_eq_true rfl) (Nat.le_of_ble_eq_true rfl) dX0_init_15 (fun q2 H hP hD hS => ?_)
  have hP : va_P G.1 vwCl [(a0, .inr (0, [.ref q1, .null, .int 0])), (q1, .inl (gI G, 6, .inl (fun _ => 0))), (q2, .inl (gI G, 6, .inl (fun _ => 0)))] H := hP
  have hD : va_D A [(a0, .inr (0, [.ref q1, .null, .int 0])), (q1, .inl (gI G, 6, .inl (fun _ => 0))), (q2, .inl (gI G, 6, .inl (fun _ => 0)))] := hD
  refine W.widen (k := 2) (n := 12) (by decide) (by decide) ?_
  refine va_putF (D := G.1) (ci := 0) (v := .ref q2) (ty := tyX0 1) (C := RX0) (T := TX0) (N := 3) hx hb hts iiX0_init_X0 tyX0 tyX0_ok nmX0 hown hK hP hD hS 0 rfl rfl 1 (by decide) (hts (Cond.fieldLink RX0 15 "BlindBells$RingSearch" "favoured" "[I") (by decide +kernel)) (fun _ h9 => h9) rfl hin rfl (by decide +kernel) rfl rfl (Nat.le_of_ble_eq_true rfl) dX0_init_17 (fun H locs hP hD hS => ?_)
  have hP : va_P G.1 vwCl [(a0, .inr (0, [.ref q1, .ref q2, .int 0])), (q1, .inl (gI G, 6, .inl (fun _ => 0))), (q2, .inl (gI G, 6, .inl (fun _ => 0)))] H := hP
  have hD : va_D A [(a0, .inr (0, [.ref q1, .ref q2, .int 0])), (q1, .inl (gI G, 6, .inl (fun _ => 0))), (q2, .inl (gI G, 6, .inl (fun _ => 0)))] := hD
  have hP9 : va_P G.1 vwCl ((fun (u : Nat → Nat) => wX0 G u (fun _ => 0) (fun _ => 0) 0) (adr [a0, q1, q2])) H := hP
  have hD9 : va_D A ((fun (u : Nat → Nat) => wX0 G u (fun _ => 0) (fun _ => 0) 0) (adr [a0, q1, q2])) := hD
  exact W.vret hx hb hr (fun t ht hW => ⟨⟨adr [a0, q1, q2], rfl, rfl, by rw [ht]; exact hP9, hD9⟩, hS.F ht⟩) hS.2.2 dX0_init_20 hlocks
theorem iiX1_init_X1 : ∀ w ∈ u_ws RX1 TX1 5, w ∈ wsX1_init := by decide +kernel
theorem mmX1_init_o1 : (Cond.methodLink RX1 3 objectInit) ∈ wsX1_init := by decide +kernel
theorem mmX1_init_o2 : (Cond.instanceMethod objectInit) ∈ wsX1_init := by decide +kernel
theorem mmX1_init_o3 : (Cond.code objectInit ⟨#[0xb1]⟩ 1 none) ∈ wsX1_init := by decide +kernel
theorem mmX1_init_aI : (Cond.arrayClass .int) ∈ wsX1_init := by decide +kernel
theorem hdX1_init : yX1_init.cls ≠ "java/lang/invoke/MethodHandle" ∧ yX1_init.cls ≠ "java/lang/invoke/VarHandle" ∧ (parseMethodDescriptor yX1_init.desc).map (fun d => d.parameters.length) = some 0 := by decide +kernel
abbrev rmX1_init : Room := { frames := 1, cells := 3, slots := 48, locals := 20 }
set_option maxHeartbeats 4000000 in
set_option maxRecDepth 100000 in
theorem tX1_init (l : Launch) (G : GG) (a0 : Nat) : cMn l G yX1_init wsX1_init rmX1_init a0 1 [.null, .int 0, .null, .null, .int 0] (fun (u : Nat → Nat) => u 0 = a0) (fun (u : Nat → Nat) => wX1 G u (fun _ => 0) 0 (fun _ => 0) (fun _ => 0) 0) 3 48 := by
  intro sz
  refine met_ofN (y := yX1_init) (av := [.ref a0]) (cc := cX1_init) (nL := 1) (ret := none) (Qc := fun A9 => va_Qv (fun (u : Nat → Nat) => u 0 = a0) (fun u t => va_P G.1 vwCl ((fun (u : Nat → Nat) => wX1 G u (fun _ => 0) 0 (fun _ => 0) (fun _ => 0) 0) u) t.heap ∧ va_D A9 ((fun (u : Nat → Nat) => wX1 G u (fun _ => 0) 0 (fun _ => 0) (fun _ => 0) 0) u)) A9) (by decide) rfl (Nat.le_of_ble_eq_true rfl) ?_
  intro p e s m args below meth c A ls C hin hAA hP hD hS hl
  obtain ⟨⟨hx, hb, hml, hown, hts⟩, hr, hlocks, hK, hN, hE, hA⟩ := id C
  have hl : lv_has ls 1 [(0, .ref a0)] := hl
  refine lv_aload_n hx hb dX1_init_0 rfl (lv_at hl 0 rfl) ?_
  refine W.objInit hx hb hown (hts _ mmX1_init_o1) (hts _ mmX1_init_o2) (hts _ mmX1_init_o3) rfl (by rw [hml]; exact hl.1) rfl dX1_init_1 (Nat.le_of_ble_eq_true rfl) (Nat.le_of_ble_eq_true rfl) ?_
  refine W.eq (g2 := F0 m 4 ls []) rfl ?_
  refine lv_aload_n hx hb dX1_init_4 rfl (lv_at hl 0 rfl) ?_
  refine lv_bipush (v := 6) hx hb dX1_init_5 (by decide) ?_
  refine k_newI hx hb (hts _ mmX1_init_aI) hK hP hD hS hA 6 (by decide) (by decide) (by decide) (Nat.le_of_ble_eq_true rfl) (Nat.le_of_ble_eq_true rfl) dX1_init_7 (fun q1 H hP hD hS => ?_)
  have hP : va_P G.1 vwCl [(a0, .inr (1, [.null, .int 0, .null, .null, .int 0])), (q1, .inl (gI G, 6, .inl (fun _ => 0)))] H := hP
  have hD : va_D A [(a0, .inr (1, [.null, .int 0, .null, .null, .int 0])), (q1, .inl (gI G, 6, .inl (fun _ => 0)))] := hD
  refine W.widen (k := 1) (n := 6) (by decide) (by decide) ?_
  refine va_putF (D := G.1) (ci := 1) (v := .ref q1) (ty := tyX1 0) (C := RX1) (T := TX1) (N := 5) hx hb hts iiX1_init_X1 tyX1 tyX1_ok nmX1 hown hK hP hD hS 0 rfl rfl 0 (by decide) (hts (Cond.fieldLink RX1 9 "BlindBells$RopeSearch" "best" "[I") (by decide +kernel)) (fun _ h9 => h9) rfl hin rfl (by decide +kernel) rfl rfl (Nat.le_of_ble_eq_true rfl) dX1_init_9 (fun H locs hP hD hS => ?_)
  have hP : va_P G.1 vwCl [(a0, .inr (1, [.ref q1, .int 0, .null, .null, .int 0])), (q1, .inl (gI G, 6, .inl (fun _ => 0)))] H := hP
  have hD : va_D A [(a0, .inr (1, [.ref q1, .int 0, .null, .null, .int 0])), (q1, .inl (gI G, 6, .inl (fun _ => 0)))] := hD
  refine lv_aload_n hx hb dX1_init_12 rfl (lv_at hl 0 rfl) ?_
  refine lv_bipush (v := 6) hx hb dX1_init_13 (by decide) ?_
  refine k_newI hx hb (hts _ mmX1_init_aI) hK hP hD hS hA 6 (by decide) (by decide) (by decide) (Nat.le_of_ble_eq_true rfl) (Nat.le_of_ble_eq_true rfl) dX1_init_15 (fun q2 H hP hD hS => ?_)
  have hP : va_P G.1 vwCl [(a0, .inr (1, [.ref q1, .int 0, .null, .null, .int 0])), (q1, .inl (gI G, 6, .inl (fun _ => 0))), (q2, .inl (gI G, 6, .inl (fun _ => 0)))] H := hP
  have hD : va_D A [(a0, .inr (1, [.ref q1, .int 0, .null, .null, .int 0])), (q1, .inl (gI G, 6, .inl (fun _ => 0))), (q2, .inl (gI G, 6, .inl (fun _ => 0)))] := hD
  refine W.widen (k := 2) (n := 12) (by decide) (by decide) ?_
  refine va_putF (D := G.1) (ci := 1) (v := .ref q2) (ty := tyX1 2) (C := RX1) (T := TX1) (N := 5) hx hb hts iiX1_init_X1 tyX1 tyX1_ok nmX1 hown hK hP hD hS 0 rfl rfl 2 (by decide) (hts (Cond.fieldLink RX1 15 "BlindBells$RopeSearch" "given" "[I") (by decide +kernel)) (fun _ h9 => h9) rfl hin rfl (by decide +kernel) rfl rfl (Nat.le_of_ble_eq_true rfl) dX1_init_17 (fun H locs hP hD hS => ?_)
  have hP : va_P G.1 vwCl [(a0, .inr (1, [.ref q1, .int 0, .ref q2, .null, .int 0])), (q1, .inl (gI G, 6, .inl (fun _ => 0))), (q2, .inl (gI G, 6, .inl (fun _ => 0)))] H := hP
  have hD : va_D A [(a0, .inr (1, [.ref q1, .int 0, .ref q2, .null, .int 0])), (q1, .inl (gI G, 6, .inl (fun _ => 0))), (q2, .inl (gI G, 6, .inl (fun _ => 0)))] := hD
  refine lv_aload_n hx hb dX1_init_20 rfl (lv_at hl 0 rfl) ?_
  refine lv_bipush (v := 36) hx hb dX1_init_21 (by decide) ?_
  refine k_newI hx hb (hts _ mmX1_init_aI) hK hP hD hS hA 36 (by decide) (by decide) (by decide) (Nat.le_of_ble_eq_true rfl) (Nat.le_of_ble_eq_true rfl) dX1_init_23 (fun q3 H hP hD hS => ?_)
  have hP : va_P G.1 vwCl [(a0, .inr (1, [.ref q1, .int 0, .ref q2, .null, .int 0])), (q1, .inl (gI G, 6, .inl (fun _ => 0))), (q2, .inl (gI G, 6, .inl (fun _ => 0))), (q3, .inl (gI G, 36, .inl (fun _ => 0)))] H := hP
  have hD : va_D A [(a0, .inr (1, [.ref q1, .int 0, .ref q2, .null, .int 0])), (q1, .inl (gI G, 6, .inl (fun _ => 0))), (q2, .inl (gI G, 6, .inl (fun _ => 0))), (q3, .inl (gI G, 36, .inl (fun _ => 0)))] := hD
  refine W.widen (k := 3) (n := 48) (by decide) (by decide) ?_
  refine va_putF (D := G.1) (ci := 1) (v := .ref q3) (ty := tyX1 3) (C := RX1) (T := TX1) (N := 5) hx hb hts iiX1_init_X1 tyX1 tyX1_ok nmX1 hown hK hP hD hS 0 rfl rfl 3 (by decide) (hts (Cond.fieldLink RX1 18 "BlindBells$RopeSearch" "meets" "[I") (by decide +kernel)) (fun _ h9 => h9) rfl hin rfl (by decide +kernel) rfl rfl (Nat.le_of_ble_eq_true rfl) dX1_init_25 (fun H locs hP hD hS => ?_)
  have hP : va_P G.1 vwCl [(a0, .inr (1, [.ref q1, .int 0, .ref q2, .ref q3, .int 0])), (q1, .inl (gI G, 6, .inl (fun _ => 0))), (q2, .inl (gI G, 6, .inl (fun _ => 0))), (q3, .inl (gI G, 36, .inl (fun _ => 0)))] H := hP
  have hD : va_D A [(a0, .inr (1, [.ref q1, .int 0, .ref q2, .ref q3, .int 0])), (q1, .inl (gI G, 6, .inl (fun _ => 0))), (q2, .inl (gI G, 6, .inl (fun _ => 0))), (q3, .inl (gI G, 36, .inl (fun _ => 0)))] := hD
  have hP9 : va_P G.1 vwCl ((fun (u : Nat → Nat) => wX1 G u (fun _ => 0) 0 (fun _ => 0) (fun _ => 0) 0) (adr [a0, q1, q2, q3])) H := hP
  have hD9 : va_D A ((fun (u : Nat → Nat) => wX1 G u (fun _ => 0) 0 (fun _ => 0) (fun _ => 0) 0) (adr [a0, q1, q2, q3])) := hD
  exact W.vret hx hb hr (fun t ht hW => ⟨⟨adr [a0, q1, q2, q3], rfl, rfl, by rw [ht]; exact hP9, hD9⟩, hS.F ht⟩) hS.2.2 dX1_init_28 hlocks
theorem iiX2_init_X2 : ∀ w ∈ u_ws RX2 TX2 7, w ∈ wsX2_init := by decide +kernel
theorem mmX2_init_o1 : (Cond.methodLink RX2 3 objectInit) ∈ wsX2_init := by decide +kernel
theorem mmX2_init_o2 : (Cond.instanceMethod objectInit) ∈ wsX2_init := by decide +kernel
theorem mmX2_init_o3 : (Cond.code objectInit ⟨#[0xb1]⟩ 1 none) ∈ wsX2_init := by decide +kernel
theorem mmX2_init_aB : (Cond.arrayClass .byte) ∈ wsX2_init := by decide +kernel
theorem mmX2_init_aI : (Cond.arrayClass .int) ∈ wsX2_init := by decide +kernel
theorem hdX2_init : yX2_init.cls ≠ "java/lang/invoke/MethodHandle" ∧ yX2_init.cls ≠ "java/lang/invoke/VarHandle" ∧ (parseMethodDescriptor yX2_init.desc).map (fun d => d.parameters.length) = some 0 := by decide +kernel
abbrev rmX2_init : Room := { frames := 1, cells := 2, slots := 253, locals := 20 }
set_option maxHeartbeats 4000000 in
set_option maxRecDepth 100000 in
theorem tX2_init (l : Launch) (G : GG) (a0 : Nat) : cMn l G yX2_init wsX2_init rmX2_init a0 2 [.int 0, .null, .null, .int 0, .int 0, .int 0, .int 0] (fun (u : Nat → Nat) => u 0 = a0) (fun (u : Nat → Nat) => wX2 G u 0 (fun _ => 0) (fun _ => 0) 0 0 0 0) 2 253 := by
  intro sz
  refine met_ofN (y := yX2_init) (av := [.ref a0]) (cc := cX2_init) (nL := 1) (ret := none) (Qc := fun A9 => va_Qv (fun (u : Nat → Nat) => u 0 = a0) (fun u t => va_P G.1 vwCl ((fun (u : Nat → Nat) => wX2 G u 0 (fun _ => 0) (fun _ => 0) 0 0 0 0) u) t.heap ∧ va_D A9 ((fun (u : Nat → Nat) => wX2 G u 0 (fun _ => 0) (fun _ => 0) 0 0 0 0) u)) A9) (by decide) rfl (Nat.le_of_ble_eq_true rfl) ?_
  intro p e s m args below meth c A ls C hin hAA hP hD hS hl
  obtain ⟨⟨hx, hb, hml, hown, hts⟩, hr, hlocks, hK, hN, hE, hA⟩ := id C
  have hl : lv_has ls 1 [(0, .ref a0)] := hl
  refine lv_aload_n hx hb dX2_init_0 rfl (lv_at hl 0 rfl) ?_
  refine W.objInit hx hb hown (hts _ mmX2_init_o1) (hts _ mmX2_init_o2) (hts _ mmX2_init_o3) rfl (by rw [hml]; exact hl.1) rfl dX2_init_1 (Nat.le_of_ble_eq_true rfl) (Nat.le_of_ble_eq_true rfl) ?_
  refine W.eq (g2 := F0 m 4 ls []) rfl ?_
  refine lv_aload_n hx hb dX2_init_4 rfl (lv_at hl 0 rfl) ?_
  refine lv_sipush (v := 250) hx hb dX2_init_5 (by decide) ?_
  refine k_newB hx hb (hts _ mmX2_init_aB) hK hP hD hS hA 250 (by decide) (by decide) (by decide) (Nat.le_of_ble_eq_true rfl) (Nat.le_of_ble_eq_true rfl) dX2_init_8 (fun q1 H hP hD hS => ?_)
  have hP : va_P G.1 vwCl [(a0, .inr (2, [.int 0, .null, .null, .int 0, .int 0, .int 0, .int 0])), (q1, .inl (gB G, 250, .inl (fun _ => 0)))] H := hP
  have hD : va_D A [(a0, .inr (2, [.int 0, .null, .null, .int 0, .int 0, .int 0, .int 0])), (q1, .inl (gB G, 250, .inl (fun _ => 0)))] := hD
  refine W.widen (k := 1) (n := 250) (by decide) (by decide) ?_
  refine va_putF (D := G.1) (ci := 2) (v := .ref q1) (ty := tyX2 1) (C := RX2) (T := TX2) (N := 7) hx hb hts iiX2_init_X2 tyX2 tyX2_ok nmX2 hown hK hP hD hS 0 rfl rfl 1 (by decide) (hts (Cond.fieldLink RX2 9 "BlindBells$Tale" "text" "[B") (by decide +kernel)) (fun _ h9 => h9) rfl hin rfl (by decide +kernel) rfl rfl (Nat.le_of_ble_eq_true rfl) dX2_init_10 (fun H locs hP hD hS => ?_)
  have hP : va_P G.1 vwCl [(a0, .inr (2, [.int 0, .ref q1, .null, .int 0, .int 0, .int 0, .int 0])), (q1, .inl (gB G, 250, .inl (fun _ => 0)))] H := hP
  have hD : va_D A [(a0, .inr (2, [.int 0, .ref q1, .null, .int 0, .int 0, .int 0, .int 0])), (q1, .inl (gB G, 250, .inl (fun _ => 0)))] := hD
  refine lv_aload_n hx hb dX2_init_13 rfl (lv_at hl 0 rfl) ?_
  refine lv_iconst (v := 3) hx hb dX2_init_14 (by decide) ?_
  refine k_newI hx hb (hts _ mmX2_init_aI) hK hP hD hS hA 3 (by decide) (by decide) (by decide) (Nat.le_of_ble_eq_true rfl) (Nat.le_of_ble_eq_true rfl) dX2_init_15 (fun q2 H hP hD hS => ?_)
  have hP : va_P G.1 vwCl [(a0, .inr (2, [.int 0, .ref q1, .null, .int 0, .int 0, .int 0, .int 0])), (q1, .inl (gB G, 250, .inl (fun _ => 0))), (q2, .inl (gI G, 3, .inl (fun _ => 0)))] H := hP
  have hD : va_D A [(a0, .inr (2, [.int 0, .ref q1, .null, .int 0, .int 0, .int 0, .int 0])), (q1, .inl (gB G, 250, .inl (fun _ => 0))), (q2, .inl (gI G, 3, .inl (fun _ => 0)))] := hD
  refine W.widen (k := 2) (n := 253) (by decide) (by decide) ?_
  refine va_putF (D := G.1) (ci := 2) (v := .ref q2) (ty := tyX2 2) (C := RX2) (T := TX2) (N := 7) hx hb hts iiX2_init_X2 tyX2 tyX2_ok nmX2 hown hK hP hD hS 0 rfl rfl 2 (by decide) (hts (Cond.fieldLink RX2 15 "BlindBells$Tale" "number" "[I") (by decide +kernel)) (fun _ h9 => h9) rfl hin rfl (by decide +kernel) rfl rfl (Nat.le_of_ble_eq_true rfl) dX2_init_17 (fun H locs hP hD hS => ?_)
  have hP : va_P G.1 vwCl [(a0, .inr (2, [.int 0, .ref q1, .ref q2, .int 0, .int 0, .int 0, .int 0])), (q1, .inl (gB G, 250, .inl (fun _ => 0))), (q2, .inl (gI G, 3, .inl (fun _ => 0)))] H := hP
  have hD : va_D A [(a0, .inr (2, [.int 0, .ref q1, .ref q2, .int 0, .int 0, .int 0, .int 0])), (q1, .inl (gB G, 250, .inl (fun _ => 0))), (q2, .inl (gI G, 3, .inl (fun _ => 0)))] := hD
  have hP9 : va_P G.1 vwCl ((fun (u : Nat → Nat) => wX2 G u 0 (fun _ => 0) (fun _ => 0) 0 0 0 0) (adr [a0, q1, q2])) H := hP
  have hD9 : va_D A ((fun (u : Nat → Nat) => wX2 G u 0 (fun _ => 0) (fun _ => 0) 0 0 0 0) (adr [a0, q1, q2])) := hD
  exact W.vret hx hb hr (fun t ht hW => ⟨⟨adr [a0, q1, q2], rfl, rfl, by rw [ht]; exact hP9, hD9⟩, hS.F ht⟩) hS.2.2 dX2_init_20 hlocks
theorem iiX3_init_X3 : ∀ w ∈ u_ws RX3 TX3 15, w ∈ wsX3_init := by decide +kernel
theorem mmX3_init_o1 : (Cond.methodLink RX3 3 objectInit) ∈ wsX3_init := by decide +kernel
theorem mmX3_init_o2 : (Cond.instanceMethod objectInit) ∈ wsX3_init := by decide +kernel
theorem mmX3_init_o3 : (Cond.code objectInit ⟨#[0xb1]⟩ 1 none) ∈ wsX3_init := by decide +kernel
theorem mmX3_init_aI : (Cond.arrayClass .int) ∈ wsX3_init := by decide +kernel
theorem hdX3_init : yX3_init.cls ≠ "java/lang/invoke/MethodHandle" ∧ yX3_init.cls ≠ "java/lang/invoke/VarHandle" ∧ (parseMethodDescriptor yX3_init.desc).map (fun d => d.parameters.length) = some 0 := by decide +kernel
abbrev rmX3_init : Room := { frames := 2, cells := 11, slots := 106, locals := 60 }
def nwV (u : (Nat → Int32) × (Nat → Int32) × (Nat → Int32) × (Nat → Int32) × (Nat → Int32)) : Prop := (∀ j, j < 6 → u.1 j = 0) ∧ (∀ j, j < 6 → u.2.1 j = nI j) ∧ (∀ j, j < 6 → u.2.2.1 j = nI j) ∧ (∀ j, j < 24 → u.2.2.2.1 j = 0) ∧ ∀ j, j < 6 → u.2.2.2.2 j = 0
set_option maxHeartbeats 4000000 in
set_option maxRecDepth 100000 in
theorem tX3_init (l : Launch) (G : GG) (a0 : Nat) : cMn l G yX3_init wsX3_init rmX3_init a0 3 [.int 0, .int 0, .int 0, .int 0, .null, .null, .null, .null, .null, .null, .null, .null, .null, .null, .null] (fun (u : (Nat → Nat) × (Nat → Int32) × (Nat → Int32) × (Nat → Int32) × (Nat → Int32) × (Nat → Int32)) => u.1 0 = a0 ∧ nwV u.2) (fun (u : (Nat → Nat) × (Nat → Int32) × (Nat → Int32) × (Nat → Int32) × (Nat → Int32) × (Nat → Int32)) => wX3 G u.1 4 0 0 0 u.2.1 u.2.2.1 u.2.2.2.1 u.2.2.2.2.1 u.2.2.2.2.2 (fun _ => 0) (fun _ => 0) (fun _ => 0) (fun _ => 0) (fun _ => 0) (fun _ => 0)) 11 106 := by
  intro sz
  refine met_ofN (y := yX3_init) (av := [.ref a0]) (cc := cX3_init) (nL := 1) (ret := none) (Qc := fun A9 => va_Qv (fun (u : (Nat → Nat) × (Nat → Int32) × (Nat → Int32) × (Nat → Int32) × (Nat → Int32) × (Nat → Int32)) => u.1 0 = a0 ∧ nwV u.2) (fun u t => va_P G.1 vwCl ((fun (u : (Nat → Nat) × (Nat → Int32) × (Nat → Int32) × (Nat → Int32) × (Nat → Int32) × (Nat → Int32)) => wX3 G u.1 4 0 0 0 u.2.1 u.2.2.1 u.2.2.2.1 u.2.2.2.2.1 u.2.2.2.2.2 (fun _ => 0) (fun _ => 0) (fun _ => 0) (fun _ => 0) (fun _ => 0) (fun _ => 0)) u) t.heap ∧ va_D A9 ((fun (u : (Nat → Nat) × (Nat → Int32) × (Nat → Int32) × (Nat → Int32) × (Nat → Int32) × (Nat → Int32)) => wX3 G u.1 4 0 0 0 u.2.1 u.2.2.1 u.2.2.2.1 u.2.2.2.2.1 u.2.2.2.2.2 (fun _ => 0) (fun _ => 0) (fun _ => 0) (fun _ => 0) (fun _ => 0) (fun _ => 0)) u)) A9) (by decide) rfl (Nat.le_of_ble_eq_true rfl) ?_
  intro p e s m args below meth c A ls C hin hAA hP hD hS hl
  obtain ⟨⟨hx, hb, hml, hown, hts⟩, hr, hlocks, hK, hN, hE, hA⟩ := id C
  have hl : lv_has ls 1 [(0, .ref a0)] := hl
  refine lv_aload_n hx hb dX3_init_0 rfl (lv_at hl 0 rfl) ?_
  refine W.objInit hx hb hown (hts _ mmX3_init_o1) (hts _ mmX3_init_o2) (hts _ mmX3_init_o3) rfl (by rw [hml]; exact hl.1) rfl dX3_init_1 (Nat.le_of_ble_eq_true rfl) (Nat.le_of_ble_eq_true rfl) ?_
  refine W.eq (g2 := F0 m 4 ls []) rfl ?_
  refine lv_aload_n hx hb dX3_init_4 rfl (lv_at hl 0 rfl) ?_
  refine lv_bipush (v := 6) hx hb dX3_init_5 (by decide) ?_
  refine k_newI hx hb (hts _ mmX3_init_aI) hK hP hD hS hA 6 (by decide) (by decide) (by decide) (Nat.le_of_ble_eq_true rfl) (Nat.le_of_ble_eq_true rfl) dX3_init_7 (fun q1 H hP hD hS => ?_)
  have hP : va_P G.1 vwCl [(a0, .inr (3, [.int 0, .int 0, .int 0, .int 0, .null, .null, .null, .null, .null, .null, .null, .null, .null, .null, .null])), (q1, .inl (gI G, 6, .inl (fun _ => 0)))] H := hP
  have hD : va_D A [(a0, .inr (3, [.int 0, .int 0, .int 0, .int 0, .null, .null, .null, .null, .null, .null, .null, .null, .null, .null, .null])), (q1, .inl (gI G, 6, .inl (fun _ => 0)))] := hD
  refine W.widen (k := 1) (n := 6) (by decide) (by decide) ?_
  refine va_putF (D := G.1) (ci := 3) (v := .ref q1) (ty := tyX3 4) (C := RX3) (T := TX3) (N := 15) hx hb hts iiX3_init_X3 tyX3 tyX3_ok nmX3 hown hK hP hD hS 0 rfl rfl 4 (by decide) (hts (Cond.fieldLink RX3 9 "BlindBells$Valley" "temper" "[I") (by decide +kernel)) (fun _ h9 => h9) rfl hin rfl (by decide +kernel) rfl rfl (Nat.le_of_ble_eq_true rfl) dX3_init_9 (fun H locs hP hD hS => ?_)
  have hP : va_P G.1 vwCl [(a0, .inr (3, [.int 0, .int 0, .int 0, .int 0, .ref q1, .null, .null, .null, .null, .null, .null, .null, .null, .null, .null])), (q1, .inl (gI G, 6, .inl (fun _ => 0)))] H := hP
  have hD : va_D A [(a0, .inr (3, [.int 0, .int 0, .int 0, .int 0, .ref q1, .null, .null, .null, .null, .null, .null, .null, .null, .null, .null])), (q1, .inl (gI G, 6, .inl (fun _ => 0)))] := hD
  refine lv_aload_n hx hb dX3_init_12 rfl (lv_at hl 0 rfl) ?_
  refine lv_bipush (v := 6) hx hb dX3_init_13 (by decide) ?_
  refine k_newI hx hb (hts _ mmX3_init_aI) hK hP hD hS hA 6 (by decide) (by decide) (by decide) (Nat.le_of_ble_eq_true rfl) (Nat.le_of_ble_eq_true rfl) dX3_init_15 (fun q2 H hP hD hS => ?_)
  have hP : va_P G.1 vwCl [(a0, .inr (3, [.int 0, .int 0, .int 0, .int 0, .ref q1, .null, .null, .null, .null, .null, .null, .null, .null, .null, .null])), (q1, .inl (gI G, 6, .inl (fun _ => 0))), (q2, .inl (gI G, 6, .inl (fun _ => 0)))] H := hP
  have hD : va_D A [(a0, .inr (3, [.int 0, .int 0, .int 0, .int 0, .ref q1, .null, .null, .null, .null, .null, .null, .null, .null, .null, .null])), (q1, .inl (gI G, 6, .inl (fun _ => 0))), (q2, .inl (gI G, 6, .inl (fun _ => 0)))] := hD
  refine W.widen (k := 2) (n := 12) (by decide) (by decide) ?_
  refine va_putF (D := G.1) (ci := 3) (v := .ref q2) (ty := tyX3 5) (C := RX3) (T := TX3) (N := 15) hx hb hts iiX3_init_X3 tyX3 tyX3_ok nmX3 hown hK hP hD hS 0 rfl rfl 5 (by decide) (hts (Cond.fieldLink RX3 15 "BlindBells$Valley" "friend" "[I") (by decide +kernel)) (fun _ h9 => h9) rfl hin rfl (by decide +kernel) rfl rfl (Nat.le_of_ble_eq_true rfl) dX3_init_17 (fun H locs hP hD hS => ?_)
  have hP : va_P G.1 vwCl [(a0, .inr (3, [.int 0, .int 0, .int 0, .int 0, .ref q1, .ref q2, .null, .null, .null, .null, .null, .null, .null, .null, .null])), (q1, .inl (gI G, 6, .inl (fun _ => 0))), (q2, .inl (gI G, 6, .inl (fun _ => 0)))] H := hP
  have hD : va_D A [(a0, .inr (3, [.int 0, .int 0, .int 0, .int 0, .ref q1, .ref q2, .null, .null, .null, .null, .null, .null, .null, .null, .null])), (q1, .inl (gI G, 6, .inl (fun _ => 0))), (q2, .inl (gI G, 6, .inl (fun _ => 0)))] := hD
  refine lv_aload_n hx hb dX3_init_20 rfl (lv_at hl 0 rfl) ?_
  refine lv_bipush (v := 6) hx hb dX3_init_21 (by decide) ?_
  refine k_newI hx hb (hts _ mmX3_init_aI) hK hP hD hS hA 6 (by decide) (by decide) (by decide) (Nat.le_of_ble_eq_true rfl) (Nat.le_of_ble_eq_true rfl) dX3_init_23 (fun q3 H hP hD hS => ?_)
  have hP : va_P G.1 vwCl [(a0, .inr (3, [.int 0, .int 0, .int 0, .int 0, .ref q1, .ref q2, .null, .null, .null, .null, .null, .null, .null, .null, .null])), (q1, .inl (gI G, 6, .inl (fun _ => 0))), (q2, .inl (gI G, 6, .inl (fun _ => 0))), (q3, .inl (gI G, 6, .inl (fun _ => 0)))] H := hP
  have hD : va_D A [(a0, .inr (3, [.int 0, .int 0, .int 0, .int 0, .ref q1, .ref q2, .null, .null, .null, .null, .null, .null, .null, .null, .null])), (q1, .inl (gI G, 6, .inl (fun _ => 0))), (q2, .inl (gI G, 6, .inl (fun _ => 0))), (q3, .inl (gI G, 6, .inl (fun _ => 0)))] := hD
  refine W.widen (k := 3) (n := 18) (by decide) (by decide) ?_
  refine va_putF (D := G.1) (ci := 3) (v := .ref q3) (ty := tyX3 6) (C := RX3) (T := TX3) (N := 15) hx hb hts iiX3_init_X3 tyX3 tyX3_ok nmX3 hown hK hP hD hS 0 rfl rfl 6 (by decide) (hts (Cond.fieldLink RX3 18 "BlindBells$Valley" "rope" "[I") (by decide +kernel)) (fun _ h9 => h9) rfl hin rfl (by decide +kernel) rfl rfl (Nat.le_of_ble_eq_true rfl) dX3_init_25 (fun H locs hP hD hS => ?_)
  have hP : va_P G.1 vwCl [(a0, .inr (3, [.int 0, .int 0, .int 0, .int 0, .ref q1, .ref q2, .ref q3, .null, .null, .null, .null, .null, .null, .null, .null])), (q1, .inl (gI G, 6, .inl (fun _ => 0))), (q2, .inl (gI G, 6, .inl (fun _ => 0))), (q3, .inl (gI G, 6, .inl (fun _ => 0)))] H := hP
  have hD : va_D A [(a0, .inr (3, [.int 0, .int 0, .int 0, .int 0, .ref q1, .ref q2, .ref q3, .null, .null, .null, .null, .null, .null, .null, .null])), (q1, .inl (gI G, 6, .inl (fun _ => 0))), (q2, .inl (gI G, 6, .inl (fun _ => 0))), (q3, .inl (gI G, 6, .inl (fun _ => 0)))] := hD
  refine lv_aload_n hx hb dX3_init_28 rfl (lv_at hl 0 rfl) ?_
  refine lv_bipush (v := 24) hx hb dX3_init_29 (by decide) ?_
  refine k_newI hx hb (hts _ mmX3_init_aI) hK hP hD hS hA 24 (by decide) (by decide) (by decide) (Nat.le_of_ble_eq_true rfl) (Nat.le_of_ble_eq_true rfl) dX3_init_31 (fun q4 H hP hD hS => ?_)
  have hP : va_P G.1 vwCl [(a0, .inr (3, [.int 0, .int 0, .int 0, .int 0, .ref q1, .ref q2, .ref q3, .null, .null, .null, .null, .null, .null, .null, .null])), (q1, .inl (gI G, 6, .inl (fun _ => 0))), (q2, .inl (gI G, 6, .inl (fun _ => 0))), (q3, .inl (gI G, 6, .inl (fun _ => 0))), (q4, .inl (gI G, 24, .inl (fun _ => 0)))] H := hP
  have hD : va_D A [(a0, .inr (3, [.int 0, .int 0, .int 0, .int 0, .ref q1, .ref q2, .ref q3, .null, .null, .null, .null, .null, .null, .null, .null])), (q1, .inl (gI G, 6, .inl (fun _ => 0))), (q2, .inl (gI G, 6, .inl (fun _ => 0))), (q3, .inl (gI G, 6, .inl (fun _ => 0))), (q4, .inl (gI G, 24, .inl (fun _ => 0)))] := hD
  refine W.widen (k := 4) (n := 42) (by decide) (by decide) ?_
  refine va_putF (D := G.1) (ci := 3) (v := .ref q4) (ty := tyX3 7) (C := RX3) (T := TX3) (N := 15) hx hb hts iiX3_init_X3 tyX3 tyX3_ok nmX3 hown hK hP hD hS 0 rfl rfl 7 (by decide) (hts (Cond.fieldLink RX3 21 "BlindBells$Valley" "hears" "[I") (by decide +kernel)) (fun _ h9 => h9) rfl hin rfl (by decide +kernel) rfl rfl (Nat.le_of_ble_eq_true rfl) dX3_init_33 (fun H locs hP hD hS => ?_)
  have hP : va_P G.1 vwCl [(a0, .inr (3, [.int 0, .int 0, .int 0, .int 0, .ref q1, .ref q2, .ref q3, .ref q4, .null, .null, .null, .null, .null, .null, .null])), (q1, .inl (gI G, 6, .inl (fun _ => 0))), (q2, .inl (gI G, 6, .inl (fun _ => 0))), (q3, .inl (gI G, 6, .inl (fun _ => 0))), (q4, .inl (gI G, 24, .inl (fun _ => 0)))] H := hP
  have hD : va_D A [(a0, .inr (3, [.int 0, .int 0, .int 0, .int 0, .ref q1, .ref q2, .ref q3, .ref q4, .null, .null, .null, .null, .null, .null, .null])), (q1, .inl (gI G, 6, .inl (fun _ => 0))), (q2, .inl (gI G, 6, .inl (fun _ => 0))), (q3, .inl (gI G, 6, .inl (fun _ => 0))), (q4, .inl (gI G, 24, .inl (fun _ => 0)))] := hD
  refine lv_aload_n hx hb dX3_init_36 rfl (lv_at hl 0 rfl) ?_
  refine lv_bipush (v := 6) hx hb dX3_init_37 (by decide) ?_
  refine k_newI hx hb (hts _ mmX3_init_aI) hK hP hD hS hA 6 (by decide) (by decide) (by decide) (Nat.le_of_ble_eq_true rfl) (Nat.le_of_ble_eq_true rfl) dX3_init_39 (fun q5 H hP hD hS => ?_)
  have hP : va_P G.1 vwCl [(a0, .inr (3, [.int 0, .int 0, .int 0, .int 0, .ref q1, .ref q2, .ref q3, .ref q4, .null, .null, .null, .null, .null, .null, .null])), (q1, .inl (gI G, 6, .inl (fun _ => 0))), (q2, .inl (gI G, 6, .inl (fun _ => 0))), (q3, .inl (gI G, 6, .inl (fun _ => 0))), (q4, .inl (gI G, 24, .inl (fun _ => 0))), (q5, .inl (gI G, 6, .inl (fun _ => 0)))] H := hP
  have hD : va_D A [(a0, .inr (3, [.int 0, .int 0, .int 0, .int 0, .ref q1, .ref q2, .ref q3, .ref q4, .null, .null, .null, .null, .null, .null, .null])), (q1, .inl (gI G, 6, .inl (fun _ => 0))), (q2, .inl (gI G, 6, .inl (fun _ => 0))), (q3, .inl (gI G, 6, .inl (fun _ => 0))), (q4, .inl (gI G, 24, .inl (fun _ => 0))), (q5, .inl (gI G, 6, .inl (fun _ => 0)))] := hD
  refine W.widen (k := 5) (n := 48) (by decide) (by decide) ?_
  refine va_putF (D := G.1) (ci := 3) (v := .ref q5) (ty := tyX3 8) (C := RX3) (T := TX3) (N := 15) hx hb hts iiX3_init_X3 tyX3 tyX3_ok nmX3 hown hK hP hD hS 0 rfl rfl 8 (by decide) (hts (Cond.fieldLink RX3 24 "BlindBells$Valley" "shut" "[I") (by decide +kernel)) (fun _ h9 => h9) rfl hin rfl (by decide +kernel) rfl rfl (Nat.le_of_ble_eq_true rfl) dX3_init_41 (fun H locs hP hD hS => ?_)
  have hP : va_P G.1 vwCl [(a0, .inr (3, [.int 0, .int 0, .int 0, .int 0, .ref q1, .ref q2, .ref q3, .ref q4, .ref q5, .null, .null, .null, .null, .null, .null])), (q1, .inl (gI G, 6, .inl (fun _ => 0))), (q2, .inl (gI G, 6, .inl (fun _ => 0))), (q3, .inl (gI G, 6, .inl (fun _ => 0))), (q4, .inl (gI G, 24, .inl (fun _ => 0))), (q5, .inl (gI G, 6, .inl (fun _ => 0)))] H := hP
  have hD : va_D A [(a0, .inr (3, [.int 0, .int 0, .int 0, .int 0, .ref q1, .ref q2, .ref q3, .ref q4, .ref q5, .null, .null, .null, .null, .null, .null])), (q1, .inl (gI G, 6, .inl (fun _ => 0))), (q2, .inl (gI G, 6, .inl (fun _ => 0))), (q3, .inl (gI G, 6, .inl (fun _ => 0))), (q4, .inl (gI G, 24, .inl (fun _ => 0))), (q5, .inl (gI G, 6, .inl (fun _ => 0)))] := hD
  refine lv_aload_n hx hb dX3_init_44 rfl (lv_at hl 0 rfl) ?_
  refine lv_bipush (v := 8) hx hb dX3_init_45 (by decide) ?_
  refine k_newI hx hb (hts _ mmX3_init_aI) hK hP hD hS hA 8 (by decide) (by decide) (by decide) (Nat.le_of_ble_eq_true rfl) (Nat.le_of_ble_eq_true rfl) dX3_init_47 (fun q6 H hP hD hS => ?_)
  have hP : va_P G.1 vwCl [(a0, .inr (3, [.int 0, .int 0, .int 0, .int 0, .ref q1, .ref q2, .ref q3, .ref q4, .ref q5, .null, .null, .null, .null, .null, .null])), (q1, .inl (gI G, 6, .inl (fun _ => 0))), (q2, .inl (gI G, 6, .inl (fun _ => 0))), (q3, .inl (gI G, 6, .inl (fun _ => 0))), (q4, .inl (gI G, 24, .inl (fun _ => 0))), (q5, .inl (gI G, 6, .inl (fun _ => 0))), (q6, .inl (gI G, 8, .inl (fun _ => 0)))] H := hP
  have hD : va_D A [(a0, .inr (3, [.int 0, .int 0, .int 0, .int 0, .ref q1, .ref q2, .ref q3, .ref q4, .ref q5, .null, .null, .null, .null, .null, .null])), (q1, .inl (gI G, 6, .inl (fun _ => 0))), (q2, .inl (gI G, 6, .inl (fun _ => 0))), (q3, .inl (gI G, 6, .inl (fun _ => 0))), (q4, .inl (gI G, 24, .inl (fun _ => 0))), (q5, .inl (gI G, 6, .inl (fun _ => 0))), (q6, .inl (gI G, 8, .inl (fun _ => 0)))] := hD
  refine W.widen (k := 6) (n := 56) (by decide) (by decide) ?_
  refine va_putF (D := G.1) (ci := 3) (v := .ref q6) (ty := tyX3 9) (C := RX3) (T := TX3) (N := 15) hx hb hts iiX3_init_X3 tyX3 tyX3_ok nmX3 hown hK hP hD hS 0 rfl rfl 9 (by decide) (hts (Cond.fieldLink RX3 27 "BlindBells$Valley" "woodBell" "[I") (by decide +kernel)) (fun _ h9 => h9) rfl hin rfl (by decide +kernel) rfl rfl (Nat.le_of_ble_eq_true rfl) dX3_init_49 (fun H locs hP hD hS => ?_)
  have hP : va_P G.1 vwCl [(a0, .inr (3, [.int 0, .int 0, .int 0, .int 0, .ref q1, .ref q2, .ref q3, .ref q4, .ref q5, .ref q6, .null, .null, .null, .null, .null])), (q1, .inl (gI G, 6, .inl (fun _ => 0))), (q2, .inl (gI G, 6, .inl (fun _ => 0))), (q3, .inl (gI G, 6, .inl (fun _ => 0))), (q4, .inl (gI G, 24, .inl (fun _ => 0))), (q5, .inl (gI G, 6, .inl (fun _ => 0))), (q6, .inl (gI G, 8, .inl (fun _ => 0)))] H := hP
  have hD : va_D A [(a0, .inr (3, [.int 0, .int 0, .int 0, .int 0, .ref q1, .ref q2, .ref q3, .ref q4, .ref q5, .ref q6, .null, .null, .null, .null, .null])), (q1, .inl (gI G, 6, .inl (fun _ => 0))), (q2, .inl (gI G, 6, .inl (fun _ => 0))), (q3, .inl (gI G, 6, .inl (fun _ => 0))), (q4, .inl (gI G, 24, .inl (fun _ => 0))), (q5, .inl (gI G, 6, .inl (fun _ => 0))), (q6, .inl (gI G, 8, .inl (fun _ => 0)))] := hD
  refine lv_aload_n hx hb dX3_init_52 rfl (lv_at hl 0 rfl) ?_
  refine lv_bipush (v := 8) hx hb dX3_init_53 (by decide) ?_
  refine k_newI hx hb (hts _ mmX3_init_aI) hK hP hD hS hA 8 (by decide) (by decide) (by decide) (Nat.le_of_ble_eq_true rfl) (Nat.le_of_ble_eq_true rfl) dX3_init_55 (fun q7 H hP hD hS => ?_)
  have hP : va_P G.1 vwCl [(a0, .inr (3, [.int 0, .int 0, .int 0, .int 0, .ref q1, .ref q2, .ref q3, .ref q4, .ref q5, .ref q6, .null, .null, .null, .null, .null])), (q1, .inl (gI G, 6, .inl (fun _ => 0))), (q2, .inl (gI G, 6, .inl (fun _ => 0))), (q3, .inl (gI G, 6, .inl (fun _ => 0))), (q4, .inl (gI G, 24, .inl (fun _ => 0))), (q5, .inl (gI G, 6, .inl (fun _ => 0))), (q6, .inl (gI G, 8, .inl (fun _ => 0))), (q7, .inl (gI G, 8, .inl (fun _ => 0)))] H := hP
  have hD : va_D A [(a0, .inr (3, [.int 0, .int 0, .int 0, .int 0, .ref q1, .ref q2, .ref q3, .ref q4, .ref q5, .ref q6, .null, .null, .null, .null, .null])), (q1, .inl (gI G, 6, .inl (fun _ => 0))), (q2, .inl (gI G, 6, .inl (fun _ => 0))), (q3, .inl (gI G, 6, .inl (fun _ => 0))), (q4, .inl (gI G, 24, .inl (fun _ => 0))), (q5, .inl (gI G, 6, .inl (fun _ => 0))), (q6, .inl (gI G, 8, .inl (fun _ => 0))), (q7, .inl (gI G, 8, .inl (fun _ => 0)))] := hD
  refine W.widen (k := 7) (n := 64) (by decide) (by decide) ?_
  refine va_putF (D := G.1) (ci := 3) (v := .ref q7) (ty := tyX3 10) (C := RX3) (T := TX3) (N := 15) hx hb hts iiX3_init_X3 tyX3 tyX3_ok nmX3 hown hK hP hD hS 0 rfl rfl 10 (by decide) (hts (Cond.fieldLink RX3 30 "BlindBells$Valley" "woodVillage" "[I") (by decide +kernel)) (fun _ h9 => h9) rfl hin rfl (by decide +kernel) rfl rfl (Nat.le_of_ble_eq_true rfl) dX3_init_57 (fun H locs hP hD hS => ?_)
  have hP : va_P G.1 vwCl [(a0, .inr (3, [.int 0, .int 0, .int 0, .int 0, .ref q1, .ref q2, .ref q3, .ref q4, .ref q5, .ref q6, .ref q7, .null, .null, .null, .null])), (q1, .inl (gI G, 6, .inl (fun _ => 0))), (q2, .inl (gI G, 6, .inl (fun _ => 0))), (q3, .inl (gI G, 6, .inl (fun _ => 0))), (q4, .inl (gI G, 24, .inl (fun _ => 0))), (q5, .inl (gI G, 6, .inl (fun _ => 0))), (q6, .inl (gI G, 8, .inl (fun _ => 0))), (q7, .inl (gI G, 8, .inl (fun _ => 0)))] H := hP
  have hD : va_D A [(a0, .inr (3, [.int 0, .int 0, .int 0, .int 0, .ref q1, .ref q2, .ref q3, .ref q4, .ref q5, .ref q6, .ref q7, .null, .null, .null, .null])), (q1, .inl (gI G, 6, .inl (fun _ => 0))), (q2, .inl (gI G, 6, .inl (fun _ => 0))), (q3, .inl (gI G, 6, .inl (fun _ => 0))), (q4, .inl (gI G, 24, .inl (fun _ => 0))), (q5, .inl (gI G, 6, .inl (fun _ => 0))), (q6, .inl (gI G, 8, .inl (fun _ => 0))), (q7, .inl (gI G, 8, .inl (fun _ => 0)))] := hD
  refine lv_aload_n hx hb dX3_init_60 rfl (lv_at hl 0 rfl) ?_
  refine lv_bipush (v := 12) hx hb dX3_init_61 (by decide) ?_
  refine k_newI hx hb (hts _ mmX3_init_aI) hK hP hD hS hA 12 (by decide) (by decide) (by decide) (Nat.le_of_ble_eq_true rfl) (Nat.le_of_ble_eq_true rfl) dX3_init_63 (fun q8 H hP hD hS => ?_)
  have hP : va_P G.1 vwCl [(a0, .inr (3, [.int 0, .int 0, .int 0, .int 0, .ref q1, .ref q2, .ref q3, .ref q4, .ref q5, .ref q6, .ref q7, .null, .null, .null, .null])), (q1, .inl (gI G, 6, .inl (fun _ => 0))), (q2, .inl (gI G, 6, .inl (fun _ => 0))), (q3, .inl (gI G, 6, .inl (fun _ => 0))), (q4, .inl (gI G, 24, .inl (fun _ => 0))), (q5, .inl (gI G, 6, .inl (fun _ => 0))), (q6, .inl (gI G, 8, .inl (fun _ => 0))), (q7, .inl (gI G, 8, .inl (fun _ => 0))), (q8, .inl (gI G, 12, .inl (fun _ => 0)))] H := hP
  have hD : va_D A [(a0, .inr (3, [.int 0, .int 0, .int 0, .int 0, .ref q1, .ref q2, .ref q3, .ref q4, .ref q5, .ref q6, .ref q7, .null, .null, .null, .null])), (q1, .inl (gI G, 6, .inl (fun _ => 0))), (q2, .inl (gI G, 6, .inl (fun _ => 0))), (q3, .inl (gI G, 6, .inl (fun _ => 0))), (q4, .inl (gI G, 24, .inl (fun _ => 0))), (q5, .inl (gI G, 6, .inl (fun _ => 0))), (q6, .inl (gI G, 8, .inl (fun _ => 0))), (q7, .inl (gI G, 8, .inl (fun _ => 0))), (q8, .inl (gI G, 12, .inl (fun _ => 0)))] := hD
  refine W.widen (k := 8) (n := 76) (by decide) (by decide) ?_
  refine va_putF (D := G.1) (ci := 3) (v := .ref q8) (ty := tyX3 11) (C := RX3) (T := TX3) (N := 15) hx hb hts iiX3_init_X3 tyX3 tyX3_ok nmX3 hown hK hP hD hS 0 rfl rfl 11 (by decide) (hts (Cond.fieldLink RX3 33 "BlindBells$Valley" "needVillage" "[I") (by decide +kernel)) (fun _ h9 => h9) rfl hin rfl (by decide +kernel) rfl rfl (Nat.le_of_ble_eq_true rfl) dX3_init_65 (fun H locs hP hD hS => ?_)
  have hP : va_P G.1 vwCl [(a0, .inr (3, [.int 0, .int 0, .int 0, .int 0, .ref q1, .ref q2, .ref q3, .ref q4, .ref q5, .ref q6, .ref q7, .ref q8, .null, .null, .null])), (q1, .inl (gI G, 6, .inl (fun _ => 0))), (q2, .inl (gI G, 6, .inl (fun _ => 0))), (q3, .inl (gI G, 6, .inl (fun _ => 0))), (q4, .inl (gI G, 24, .inl (fun _ => 0))), (q5, .inl (gI G, 6, .inl (fun _ => 0))), (q6, .inl (gI G, 8, .inl (fun _ => 0))), (q7, .inl (gI G, 8, .inl (fun _ => 0))), (q8, .inl (gI G, 12, .inl (fun _ => 0)))] H := hP
  have hD : va_D A [(a0, .inr (3, [.int 0, .int 0, .int 0, .int 0, .ref q1, .ref q2, .ref q3, .ref q4, .ref q5, .ref q6, .ref q7, .ref q8, .null, .null, .null])), (q1, .inl (gI G, 6, .inl (fun _ => 0))), (q2, .inl (gI G, 6, .inl (fun _ => 0))), (q3, .inl (gI G, 6, .inl (fun _ => 0))), (q4, .inl (gI G, 24, .inl (fun _ => 0))), (q5, .inl (gI G, 6, .inl (fun _ => 0))), (q6, .inl (gI G, 8, .inl (fun _ => 0))), (q7, .inl (gI G, 8, .inl (fun _ => 0))), (q8, .inl (gI G, 12, .inl (fun _ => 0)))] := hD
  refine lv_aload_n hx hb dX3_init_68 rfl (lv_at hl 0 rfl) ?_
  refine lv_bipush (v := 12) hx hb dX3_init_69 (by decide) ?_
  refine k_newI hx hb (hts _ mmX3_init_aI) hK hP hD hS hA 12 (by decide) (by decide) (by decide) (Nat.le_of_ble_eq_true rfl) (Nat.le_of_ble_eq_true rfl) dX3_init_71 (fun q9 H hP hD hS => ?_)
  have hP : va_P G.1 vwCl [(a0, .inr (3, [.int 0, .int 0, .int 0, .int 0, .ref q1, .ref q2, .ref q3, .ref q4, .ref q5, .ref q6, .ref q7, .ref q8, .null, .null, .null])), (q1, .inl (gI G, 6, .inl (fun _ => 0))), (q2, .inl (gI G, 6, .inl (fun _ => 0))), (q3, .inl (gI G, 6, .inl (fun _ => 0))), (q4, .inl (gI G, 24, .inl (fun _ => 0))), (q5, .inl (gI G, 6, .inl (fun _ => 0))), (q6, .inl (gI G, 8, .inl (fun _ => 0))), (q7, .inl (gI G, 8, .inl (fun _ => 0))), (q8, .inl (gI G, 12, .inl (fun _ => 0))), (q9, .inl (gI G, 12, .inl (fun _ => 0)))] H := hP
  have hD : va_D A [(a0, .inr (3, [.int 0, .int 0, .int 0, .int 0, .ref q1, .ref q2, .ref q3, .ref q4, .ref q5, .ref q6, .ref q7, .ref q8, .null, .null, .null])), (q1, .inl (gI G, 6, .inl (fun _ => 0))), (q2, .inl (gI G, 6, .inl (fun _ => 0))), (q3, .inl (gI G, 6, .inl (fun _ => 0))), (q4, .inl (gI G, 24, .inl (fun _ => 0))), (q5, .inl (gI G, 6, .inl (fun _ => 0))), (q6, .inl (gI G, 8, .inl (fun _ => 0))), (q7, .inl (gI G, 8, .inl (fun _ => 0))), (q8, .inl (gI G, 12, .inl (fun _ => 0))), (q9, .inl (gI G, 12, .inl (fun _ => 0)))] := hD
  refine W.widen (k := 9) (n := 88) (by decide) (by decide) ?_
  refine va_putF (D := G.1) (ci := 3) (v := .ref q9) (ty := tyX3 12) (C := RX3) (T := TX3) (N := 15) hx hb hts iiX3_init_X3 tyX3 tyX3_ok nmX3 hown hK hP hD hS 0 rfl rfl 12 (by decide) (hts (Cond.fieldLink RX3 36 "BlindBells$Valley" "needWind" "[I") (by decide +kernel)) (fun _ h9 => h9) rfl hin rfl (by decide +kernel) rfl rfl (Nat.le_of_ble_eq_true rfl) dX3_init_73 (fun H locs hP hD hS => ?_)
  have hP : va_P G.1 vwCl [(a0, .inr (3, [.int 0, .int 0, .int 0, .int 0, .ref q1, .ref q2, .ref q3, .ref q4, .ref q5, .ref q6, .ref q7, .ref q8, .ref q9, .null, .null])), (q1, .inl (gI G, 6, .inl (fun _ => 0))), (q2, .inl (gI G, 6, .inl (fun _ => 0))), (q3, .inl (gI G, 6, .inl (fun _ => 0))), (q4, .inl (gI G, 24, .inl (fun _ => 0))), (q5, .inl (gI G, 6, .inl (fun _ => 0))), (q6, .inl (gI G, 8, .inl (fun _ => 0))), (q7, .inl (gI G, 8, .inl (fun _ => 0))), (q8, .inl (gI G, 12, .inl (fun _ => 0))), (q9, .inl (gI G, 12, .inl (fun _ => 0)))] H := hP
  have hD : va_D A [(a0, .inr (3, [.int 0, .int 0, .int 0, .int 0, .ref q1, .ref q2, .ref q3, .ref q4, .ref q5, .ref q6, .ref q7, .ref q8, .ref q9, .null, .null])), (q1, .inl (gI G, 6, .inl (fun _ => 0))), (q2, .inl (gI G, 6, .inl (fun _ => 0))), (q3, .inl (gI G, 6, .inl (fun _ => 0))), (q4, .inl (gI G, 24, .inl (fun _ => 0))), (q5, .inl (gI G, 6, .inl (fun _ => 0))), (q6, .inl (gI G, 8, .inl (fun _ => 0))), (q7, .inl (gI G, 8, .inl (fun _ => 0))), (q8, .inl (gI G, 12, .inl (fun _ => 0))), (q9, .inl (gI G, 12, .inl (fun _ => 0)))] := hD
  refine lv_aload_n hx hb dX3_init_76 rfl (lv_at hl 0 rfl) ?_
  refine lv_bipush (v := 12) hx hb dX3_init_77 (by decide) ?_
  refine k_newI hx hb (hts _ mmX3_init_aI) hK hP hD hS hA 12 (by decide) (by decide) (by decide) (Nat.le_of_ble_eq_true rfl) (Nat.le_of_ble_eq_true rfl) dX3_init_79 (fun q10 H hP hD hS => ?_)
  have hP : va_P G.1 vwCl [(a0, .inr (3, [.int 0, .int 0, .int 0, .int 0, .ref q1, .ref q2, .ref q3, .ref q4, .ref q5, .ref q6, .ref q7, .ref q8, .ref q9, .null, .null])), (q1, .inl (gI G, 6, .inl (fun _ => 0))), (q2, .inl (gI G, 6, .inl (fun _ => 0))), (q3, .inl (gI G, 6, .inl (fun _ => 0))), (q4, .inl (gI G, 24, .inl (fun _ => 0))), (q5, .inl (gI G, 6, .inl (fun _ => 0))), (q6, .inl (gI G, 8, .inl (fun _ => 0))), (q7, .inl (gI G, 8, .inl (fun _ => 0))), (q8, .inl (gI G, 12, .inl (fun _ => 0))), (q9, .inl (gI G, 12, .inl (fun _ => 0))), (q10, .inl (gI G, 12, .inl (fun _ => 0)))] H := hP
  have hD : va_D A [(a0, .inr (3, [.int 0, .int 0, .int 0, .int 0, .ref q1, .ref q2, .ref q3, .ref q4, .ref q5, .ref q6, .ref q7, .ref q8, .ref q9, .null, .null])), (q1, .inl (gI G, 6, .inl (fun _ => 0))), (q2, .inl (gI G, 6, .inl (fun _ => 0))), (q3, .inl (gI G, 6, .inl (fun _ => 0))), (q4, .inl (gI G, 24, .inl (fun _ => 0))), (q5, .inl (gI G, 6, .inl (fun _ => 0))), (q6, .inl (gI G, 8, .inl (fun _ => 0))), (q7, .inl (gI G, 8, .inl (fun _ => 0))), (q8, .inl (gI G, 12, .inl (fun _ => 0))), (q9, .inl (gI G, 12, .inl (fun _ => 0))), (q10, .inl (gI G, 12, .inl (fun _ => 0)))] := hD
  refine W.widen (k := 10) (n := 100) (by decide) (by decide) ?_
  refine va_putF (D := G.1) (ci := 3) (v := .ref q10) (ty := tyX3 13) (C := RX3) (T := TX3) (N := 15) hx hb hts iiX3_init_X3 tyX3 tyX3_ok nmX3 hown hK hP hD hS 0 rfl rfl 13 (by decide) (hts (Cond.fieldLink RX3 39 "BlindBells$Valley" "needSeen" "[I") (by decide +kernel)) (fun _ h9 => h9) rfl hin rfl (by decide +kernel) rfl rfl (Nat.le_of_ble_eq_true rfl) dX3_init_81 (fun H locs hP hD hS => ?_)
  have hP : va_P G.1 vwCl [(a0, .inr (3, [.int 0, .int 0, .int 0, .int 0, .ref q1, .ref q2, .ref q3, .ref q4, .ref q5, .ref q6, .ref q7, .ref q8, .ref q9, .ref q10, .null])), (q1, .inl (gI G, 6, .inl (fun _ => 0))), (q2, .inl (gI G, 6, .inl (fun _ => 0))), (q3, .inl (gI G, 6, .inl (fun _ => 0))), (q4, .inl (gI G, 24, .inl (fun _ => 0))), (q5, .inl (gI G, 6, .inl (fun _ => 0))), (q6, .inl (gI G, 8, .inl (fun _ => 0))), (q7, .inl (gI G, 8, .inl (fun _ => 0))), (q8, .inl (gI G, 12, .inl (fun _ => 0))), (q9, .inl (gI G, 12, .inl (fun _ => 0))), (q10, .inl (gI G, 12, .inl (fun _ => 0)))] H := hP
  have hD : va_D A [(a0, .inr (3, [.int 0, .int 0, .int 0, .int 0, .ref q1, .ref q2, .ref q3, .ref q4, .ref q5, .ref q6, .ref q7, .ref q8, .ref q9, .ref q10, .null])), (q1, .inl (gI G, 6, .inl (fun _ => 0))), (q2, .inl (gI G, 6, .inl (fun _ => 0))), (q3, .inl (gI G, 6, .inl (fun _ => 0))), (q4, .inl (gI G, 24, .inl (fun _ => 0))), (q5, .inl (gI G, 6, .inl (fun _ => 0))), (q6, .inl (gI G, 8, .inl (fun _ => 0))), (q7, .inl (gI G, 8, .inl (fun _ => 0))), (q8, .inl (gI G, 12, .inl (fun _ => 0))), (q9, .inl (gI G, 12, .inl (fun _ => 0))), (q10, .inl (gI G, 12, .inl (fun _ => 0)))] := hD
  refine lv_aload_n hx hb dX3_init_84 rfl (lv_at hl 0 rfl) ?_
  refine lv_bipush (v := 6) hx hb dX3_init_85 (by decide) ?_
  refine k_newI hx hb (hts _ mmX3_init_aI) hK hP hD hS hA 6 (by decide) (by decide) (by decide) (Nat.le_of_ble_eq_true rfl) (Nat.le_of_ble_eq_true rfl) dX3_init_87 (fun q11 H hP hD hS => ?_)
  have hP : va_P G.1 vwCl [(a0, .inr (3, [.int 0, .int 0, .int 0, .int 0, .ref q1, .ref q2, .ref q3, .ref q4, .ref q5, .ref q6, .ref q7, .ref q8, .ref q9, .ref q10, .null])), (q1, .inl (gI G, 6, .inl (fun _ => 0))), (q2, .inl (gI G, 6, .inl (fun _ => 0))), (q3, .inl (gI G, 6, .inl (fun _ => 0))), (q4, .inl (gI G, 24, .inl (fun _ => 0))), (q5, .inl (gI G, 6, .inl (fun _ => 0))), (q6, .inl (gI G, 8, .inl (fun _ => 0))), (q7, .inl (gI G, 8, .inl (fun _ => 0))), (q8, .inl (gI G, 12, .inl (fun _ => 0))), (q9, .inl (gI G, 12, .inl (fun _ => 0))), (q10, .inl (gI G, 12, .inl (fun _ => 0))), (q11, .inl (gI G, 6, .inl (fun _ => 0)))] H := hP
  have hD : va_D A [(a0, .inr (3, [.int 0, .int 0, .int 0, .int 0, .ref q1, .ref q2, .ref q3, .ref q4, .ref q5, .ref q6, .ref q7, .ref q8, .ref q9, .ref q10, .null])), (q1, .inl (gI G, 6, .inl (fun _ => 0))), (q2, .inl (gI G, 6, .inl (fun _ => 0))), (q3, .inl (gI G, 6, .inl (fun _ => 0))), (q4, .inl (gI G, 24, .inl (fun _ => 0))), (q5, .inl (gI G, 6, .inl (fun _ => 0))), (q6, .inl (gI G, 8, .inl (fun _ => 0))), (q7, .inl (gI G, 8, .inl (fun _ => 0))), (q8, .inl (gI G, 12, .inl (fun _ => 0))), (q9, .inl (gI G, 12, .inl (fun _ => 0))), (q10, .inl (gI G, 12, .inl (fun _ => 0))), (q11, .inl (gI G, 6, .inl (fun _ => 0)))] := hD
  refine W.widen (k := 11) (n := 106) (by decide) (by decide) ?_
  refine va_putF (D := G.1) (ci := 3) (v := .ref q11) (ty := tyX3 14) (C := RX3) (T := TX3) (N := 15) hx hb hts iiX3_init_X3 tyX3 tyX3_ok nmX3 hown hK hP hD hS 0 rfl rfl 14 (by decide) (hts (Cond.fieldLink RX3 42 "BlindBells$Valley" "sign" "[I") (by decide +kernel)) (fun _ h9 => h9) rfl hin rfl (by decide +kernel) rfl rfl (Nat.le_of_ble_eq_true rfl) dX3_init_89 (fun H locs hP hD hS => ?_)
  have hP : va_P G.1 vwCl [(a0, .inr (3, [.int 0, .int 0, .int 0, .int 0, .ref q1, .ref q2, .ref q3, .ref q4, .ref q5, .ref q6, .ref q7, .ref q8, .ref q9, .ref q10, .ref q11])), (q1, .inl (gI G, 6, .inl (fun _ => 0))), (q2, .inl (gI G, 6, .inl (fun _ => 0))), (q3, .inl (gI G, 6, .inl (fun _ => 0))), (q4, .inl (gI G, 24, .inl (fun _ => 0))), (q5, .inl (gI G, 6, .inl (fun _ => 0))), (q6, .inl (gI G, 8, .inl (fun _ => 0))), (q7, .inl (gI G, 8, .inl (fun _ => 0))), (q8, .inl (gI G, 12, .inl (fun _ => 0))), (q9, .inl (gI G, 12, .inl (fun _ => 0))), (q10, .inl (gI G, 12, .inl (fun _ => 0))), (q11, .inl (gI G, 6, .inl (fun _ => 0)))] H := hP
  have hD : va_D A [(a0, .inr (3, [.int 0, .int 0, .int 0, .int 0, .ref q1, .ref q2, .ref q3, .ref q4, .ref q5, .ref q6, .ref q7, .ref q8, .ref q9, .ref q10, .ref q11])), (q1, .inl (gI G, 6, .inl (fun _ => 0))), (q2, .inl (gI G, 6, .inl (fun _ => 0))), (q3, .inl (gI G, 6, .inl (fun _ => 0))), (q4, .inl (gI G, 24, .inl (fun _ => 0))), (q5, .inl (gI G, 6, .inl (fun _ => 0))), (q6, .inl (gI G, 8, .inl (fun _ => 0))), (q7, .inl (gI G, 8, .inl (fun _ => 0))), (q8, .inl (gI G, 12, .inl (fun _ => 0))), (q9, .inl (gI G, 12, .inl (fun _ => 0))), (q10, .inl (gI G, 12, .inl (fun _ => 0))), (q11, .inl (gI G, 6, .inl (fun _ => 0)))] := hD
  refine lv_aload_n hx hb dX3_init_92 rfl (lv_at hl 0 rfl) ?_
  refine lv_iconst (v := 4) hx hb dX3_init_93 (by decide) ?_
  obtain ⟨te, fr, ro, he, sh, s1, s2, s3, s4, s5, s6⟩ := settle_ok 0 0 0 0 (fun _ => 0) (fun _ => 0) (fun _ => 0) (fun _ => 0) (fun _ => 0) (n := 4) (by decide) (by decide)
  have hP : va_P G.1 vwCl (flat [wX3 G (adr [a0, q1, q2, q3, q4, q5, q6, q7, q8, q9, q10, q11]) 0 0 0 0 (fun _ => 0) (fun _ => 0) (fun _ => 0) (fun _ => 0) (fun _ => 0) (fun _ => 0) (fun _ => 0) (fun _ => 0) (fun _ => 0) (fun _ => 0) (fun _ => 0)]) H := hP
  have hD : va_D A (flat [wX3 G (adr [a0, q1, q2, q3, q4, q5, q6, q7, q8, q9, q10, q11]) 0 0 0 0 (fun _ => 0) (fun _ => 0) (fun _ => 0) (fun _ => 0) (fun _ => 0) (fun _ => 0) (fun _ => 0) (fun _ => 0) (fun _ => 0) (fun _ => 0) (fun _ => 0)]) := hD
  refine bVi (Bs' := [wX3 G (adr [a0, q1, q2, q3, q4, q5, q6, q7, q8, q9, q10, q11]) 4 0 0 0 te fr ro he sh (fun _ => 0) (fun _ => 0) (fun _ => 0) (fun _ => 0) (fun _ => 0) (fun _ => 0)]) C hP hD hS (tX3_settle l G (adr [a0, q1, q2, q3, q4, q5, q6, q7, q8, q9, q10, q11]) 0 0 0 0 (fun _ => 0) (fun _ => 0) (fun _ => 0) (fun _ => 0) (fun _ => 0) (fun _ => 0) (fun _ => 0) (fun _ => 0) (fun _ => 0) (fun _ => 0) (fun _ => 0) 4 (1, 4, 0, 0, 0, te, fr, ro, he, sh) s1) gX3_init_X3_settle rfl ⟨rfl, rfl⟩ hdX3_settle ⟨Nat.le_of_ble_eq_true rfl, Nat.le_of_ble_eq_true rfl⟩ rfl hl.1 rfl (Nat.le_of_ble_eq_true rfl) ⟨Nat.le_of_ble_eq_true rfl, Nat.le_of_ble_eq_true rfl⟩ [0] rfl rfl rfl rfl rfl (ci := 3) (q0 := 0) rfl rfl rfl dX3_init_94 (fun H locs hP hD hS => ?_)
  refine lv_pop hx hb dX3_init_97 rfl ?_
  have hP9 : va_P G.1 vwCl ((fun (u : (Nat → Nat) × (Nat → Int32) × (Nat → Int32) × (Nat → Int32) × (Nat → Int32) × (Nat → Int32)) => wX3 G u.1 4 0 0 0 u.2.1 u.2.2.1 u.2.2.2.1 u.2.2.2.2.1 u.2.2.2.2.2 (fun _ => 0) (fun _ => 0) (fun _ => 0) (fun _ => 0) (fun _ => 0) (fun _ => 0)) ((adr [a0, q1, q2, q3, q4, q5, q6, q7, q8, q9, q10, q11], te, fr, ro, he, sh))) H := hP
  have hD9 : va_D A ((fun (u : (Nat → Nat) × (Nat → Int32) × (Nat → Int32) × (Nat → Int32) × (Nat → Int32) × (Nat → Int32)) => wX3 G u.1 4 0 0 0 u.2.1 u.2.2.1 u.2.2.2.1 u.2.2.2.2.1 u.2.2.2.2.2 (fun _ => 0) (fun _ => 0) (fun _ => 0) (fun _ => 0) (fun _ => 0) (fun _ => 0)) ((adr [a0, q1, q2, q3, q4, q5, q6, q7, q8, q9, q10, q11], te, fr, ro, he, sh))) := hD
  exact W.vret hx hb hr (fun t ht hW => ⟨⟨(adr [a0, q1, q2, q3, q4, q5, q6, q7, q8, q9, q10, q11], te, fr, ro, he, sh), rfl, ⟨rfl, s2, s3, s4, s5, s6⟩, by rw [ht]; exact hP9, hD9⟩, hS.F ht⟩) hS.2.2 dX3_init_98 hlocks
theorem iiX4_init_X4 : ∀ w ∈ u_ws RX4 TX4 4, w ∈ wsX4_init := by decide +kernel
theorem mmX4_init_o1 : (Cond.methodLink RX4 3 objectInit) ∈ wsX4_init := by decide +kernel
theorem mmX4_init_o2 : (Cond.instanceMethod objectInit) ∈ wsX4_init := by decide +kernel
theorem mmX4_init_o3 : (Cond.code objectInit ⟨#[0xb1]⟩ 1 none) ∈ wsX4_init := by decide +kernel
theorem mmX4_init_aI : (Cond.arrayClass .int) ∈ wsX4_init := by decide +kernel
theorem hdX4_init : yX4_init.cls ≠ "java/lang/invoke/MethodHandle" ∧ yX4_init.cls ≠ "java/lang/invoke/VarHandle" ∧ (parseMethodDescriptor yX4_init.desc).map (fun d => d.parameters.length) = some 0 := by decide +kernel
abbrev rmX4_init : Room := { frames := 1, cells := 4, slots := 96, locals := 20 }
set_option maxHeartbeats 4000000 in
set_option maxRecDepth 100000 in
theorem tX4_init (l : Launch) (G : GG) (a0 : Nat) : cMn l G yX4_init wsX4_init rmX4_init a0 4 [.null, .null, .null, .null] (fun (u : Nat → Nat) => u 0 = a0) (fun (u : Nat → Nat) => wX4 G u (fun _ => 0) (fun _ => 0) (fun _ => 0) (fun _ => 0)) 4 96 := by
  intro sz
  refine met_ofN (y := yX4_init) (av := [.ref a0]) (cc := cX4_init) (nL := 1) (ret := none) (Qc := fun A9 => va_Qv (fun (u : Nat → Nat) => u 0 = a0) (fun u t => va_P G.1 vwCl ((fun (u : Nat → Nat) => wX4 G u (fun _ => 0) (fun _ => 0) (fun _ => 0) (fun _ => 0)) u) t.heap ∧ va_D A9 ((fun (u : Nat → Nat) => wX4 G u (fun _ => 0) (fun _ => 0) (fun _ => 0) (fun _ => 0)) u)) A9) (by decide) rfl (Nat.le_of_ble_eq_true rfl) ?_
  intro p e s m args below meth c A ls C hin hAA hP hD hS hl
  obtain ⟨⟨hx, hb, hml, hown, hts⟩, hr, hlocks, hK, hN, hE, hA⟩ := id C
  have hl : lv_has ls 1 [(0, .ref a0)] := hl
  refine lv_aload_n hx hb dX4_init_0 rfl (lv_at hl 0 rfl) ?_
  refine W.objInit hx hb hown (hts _ mmX4_init_o1) (hts _ mmX4_init_o2) (hts _ mmX4_init_o3) rfl (by rw [hml]; exact hl.1) rfl dX4_init_1 (Nat.le_of_ble_eq_true rfl) (Nat.le_of_ble_eq_true rfl) ?_
  refine W.eq (g2 := F0 m 4 ls []) rfl ?_
  refine lv_aload_n hx hb dX4_init_4 rfl (lv_at hl 0 rfl) ?_
  refine lv_bipush (v := 12) hx hb dX4_init_5 (by decide) ?_
  refine k_newI hx hb (hts _ mmX4_init_aI) hK hP hD hS hA 12 (by decide) (by decide) (by decide) (Nat.le_of_ble_eq_true rfl) (Nat.le_of_ble_eq_true rfl) dX4_init_7 (fun q1 H hP hD hS => ?_)
  have hP : va_P G.1 vwCl [(a0, .inr (4, [.null, .null, .null, .null])), (q1, .inl (gI G, 12, .inl (fun _ => 0)))] H := hP
  have hD : va_D A [(a0, .inr (4, [.null, .null, .null, .null])), (q1, .inl (gI G, 12, .inl (fun _ => 0)))] := hD
  refine W.widen (k := 1) (n := 12) (by decide) (by decide) ?_
  refine va_putF (D := G.1) (ci := 4) (v := .ref q1) (ty := tyX4 0) (C := RX4) (T := TX4) (N := 4) hx hb hts iiX4_init_X4 tyX4 tyX4_ok nmX4 hown hK hP hD hS 0 rfl rfl 0 (by decide) (hts (Cond.fieldLink RX4 9 "BlindBells$ValleyRun" "due" "[I") (by decide +kernel)) (fun _ h9 => h9) rfl hin rfl (by decide +kernel) rfl rfl (Nat.le_of_ble_eq_true rfl) dX4_init_9 (fun H locs hP hD hS => ?_)
  have hP : va_P G.1 vwCl [(a0, .inr (4, [.ref q1, .null, .null, .null])), (q1, .inl (gI G, 12, .inl (fun _ => 0)))] H := hP
  have hD : va_D A [(a0, .inr (4, [.ref q1, .null, .null, .null])), (q1, .inl (gI G, 12, .inl (fun _ => 0)))] := hD
  refine lv_aload_n hx hb dX4_init_12 rfl (lv_at hl 0 rfl) ?_
  refine lv_bipush (v := 12) hx hb dX4_init_13 (by decide) ?_
  refine k_newI hx hb (hts _ mmX4_init_aI) hK hP hD hS hA 12 (by decide) (by decide) (by decide) (Nat.le_of_ble_eq_true rfl) (Nat.le_of_ble_eq_true rfl) dX4_init_15 (fun q2 H hP hD hS => ?_)
  have hP : va_P G.1 vwCl [(a0, .inr (4, [.ref q1, .null, .null, .null])), (q1, .inl (gI G, 12, .inl (fun _ => 0))), (q2, .inl (gI G, 12, .inl (fun _ => 0)))] H := hP
  have hD : va_D A [(a0, .inr (4, [.ref q1, .null, .null, .null])), (q1, .inl (gI G, 12, .inl (fun _ => 0))), (q2, .inl (gI G, 12, .inl (fun _ => 0)))] := hD
  refine W.widen (k := 2) (n := 24) (by decide) (by decide) ?_
  refine va_putF (D := G.1) (ci := 4) (v := .ref q2) (ty := tyX4 1) (C := RX4) (T := TX4) (N := 4) hx hb hts iiX4_init_X4 tyX4 tyX4_ok nmX4 hown hK hP hD hS 0 rfl rfl 1 (by decide) (hts (Cond.fieldLink RX4 15 "BlindBells$ValleyRun" "rang" "[I") (by decide +kernel)) (fun _ h9 => h9) rfl hin rfl (by decide +kernel) rfl rfl (Nat.le_of_ble_eq_true rfl) dX4_init_17 (fun H locs hP hD hS => ?_)
  have hP : va_P G.1 vwCl [(a0, .inr (4, [.ref q1, .ref q2, .null, .null])), (q1, .inl (gI G, 12, .inl (fun _ => 0))), (q2, .inl (gI G, 12, .inl (fun _ => 0)))] H := hP
  have hD : va_D A [(a0, .inr (4, [.ref q1, .ref q2, .null, .null])), (q1, .inl (gI G, 12, .inl (fun _ => 0))), (q2, .inl (gI G, 12, .inl (fun _ => 0)))] := hD
  refine lv_aload_n hx hb dX4_init_20 rfl (lv_at hl 0 rfl) ?_
  refine lv_bipush (v := 36) hx hb dX4_init_21 (by decide) ?_
  refine k_newI hx hb (hts _ mmX4_init_aI) hK hP hD hS hA 36 (by decide) (by decide) (by decide) (Nat.le_of_ble_eq_true rfl) (Nat.le_of_ble_eq_true rfl) dX4_init_23 (fun q3 H hP hD hS => ?_)
  have hP : va_P G.1 vwCl [(a0, .inr (4, [.ref q1, .ref q2, .null, .null])), (q1, .inl (gI G, 12, .inl (fun _ => 0))), (q2, .inl (gI G, 12, .inl (fun _ => 0))), (q3, .inl (gI G, 36, .inl (fun _ => 0)))] H := hP
  have hD : va_D A [(a0, .inr (4, [.ref q1, .ref q2, .null, .null])), (q1, .inl (gI G, 12, .inl (fun _ => 0))), (q2, .inl (gI G, 12, .inl (fun _ => 0))), (q3, .inl (gI G, 36, .inl (fun _ => 0)))] := hD
  refine W.widen (k := 3) (n := 60) (by decide) (by decide) ?_
  refine va_putF (D := G.1) (ci := 4) (v := .ref q3) (ty := tyX4 2) (C := RX4) (T := TX4) (N := 4) hx hb hts iiX4_init_X4 tyX4 tyX4_ok nmX4 hown hK hP hD hS 0 rfl rfl 2 (by decide) (hts (Cond.fieldLink RX4 18 "BlindBells$ValleyRun" "times" "[I") (by decide +kernel)) (fun _ h9 => h9) rfl hin rfl (by decide +kernel) rfl rfl (Nat.le_of_ble_eq_true rfl) dX4_init_25 (fun H locs hP hD hS => ?_)
  have hP : va_P G.1 vwCl [(a0, .inr (4, [.ref q1, .ref q2, .ref q3, .null])), (q1, .inl (gI G, 12, .inl (fun _ => 0))), (q2, .inl (gI G, 12, .inl (fun _ => 0))), (q3, .inl (gI G, 36, .inl (fun _ => 0)))] H := hP
  have hD : va_D A [(a0, .inr (4, [.ref q1, .ref q2, .ref q3, .null])), (q1, .inl (gI G, 12, .inl (fun _ => 0))), (q2, .inl (gI G, 12, .inl (fun _ => 0))), (q3, .inl (gI G, 36, .inl (fun _ => 0)))] := hD
  refine lv_aload_n hx hb dX4_init_28 rfl (lv_at hl 0 rfl) ?_
  refine lv_bipush (v := 36) hx hb dX4_init_29 (by decide) ?_
  refine k_newI hx hb (hts _ mmX4_init_aI) hK hP hD hS hA 36 (by decide) (by decide) (by decide) (Nat.le_of_ble_eq_true rfl) (Nat.le_of_ble_eq_true rfl) dX4_init_31 (fun q4 H hP hD hS => ?_)
  have hP : va_P G.1 vwCl [(a0, .inr (4, [.ref q1, .ref q2, .ref q3, .null])), (q1, .inl (gI G, 12, .inl (fun _ => 0))), (q2, .inl (gI G, 12, .inl (fun _ => 0))), (q3, .inl (gI G, 36, .inl (fun _ => 0))), (q4, .inl (gI G, 36, .inl (fun _ => 0)))] H := hP
  have hD : va_D A [(a0, .inr (4, [.ref q1, .ref q2, .ref q3, .null])), (q1, .inl (gI G, 12, .inl (fun _ => 0))), (q2, .inl (gI G, 12, .inl (fun _ => 0))), (q3, .inl (gI G, 36, .inl (fun _ => 0))), (q4, .inl (gI G, 36, .inl (fun _ => 0)))] := hD
  refine W.widen (k := 4) (n := 96) (by decide) (by decide) ?_
  refine va_putF (D := G.1) (ci := 4) (v := .ref q4) (ty := tyX4 3) (C := RX4) (T := TX4) (N := 4) hx hb hts iiX4_init_X4 tyX4 tyX4_ok nmX4 hown hK hP hD hS 0 rfl rfl 3 (by decide) (hts (Cond.fieldLink RX4 21 "BlindBells$ValleyRun" "last" "[I") (by decide +kernel)) (fun _ h9 => h9) rfl hin rfl (by decide +kernel) rfl rfl (Nat.le_of_ble_eq_true rfl) dX4_init_33 (fun H locs hP hD hS => ?_)
  have hP : va_P G.1 vwCl [(a0, .inr (4, [.ref q1, .ref q2, .ref q3, .ref q4])), (q1, .inl (gI G, 12, .inl (fun _ => 0))), (q2, .inl (gI G, 12, .inl (fun _ => 0))), (q3, .inl (gI G, 36, .inl (fun _ => 0))), (q4, .inl (gI G, 36, .inl (fun _ => 0)))] H := hP
  have hD : va_D A [(a0, .inr (4, [.ref q1, .ref q2, .ref q3, .ref q4])), (q1, .inl (gI G, 12, .inl (fun _ => 0))), (q2, .inl (gI G, 12, .inl (fun _ => 0))), (q3, .inl (gI G, 36, .inl (fun _ => 0))), (q4, .inl (gI G, 36, .inl (fun _ => 0)))] := hD
  have hP9 : va_P G.1 vwCl ((fun (u : Nat → Nat) => wX4 G u (fun _ => 0) (fun _ => 0) (fun _ => 0) (fun _ => 0)) (adr [a0, q1, q2, q3, q4])) H := hP
  have hD9 : va_D A ((fun (u : Nat → Nat) => wX4 G u (fun _ => 0) (fun _ => 0) (fun _ => 0) (fun _ => 0)) (adr [a0, q1, q2, q3, q4])) := hD
  exact W.vret hx hb hr (fun t ht hW => ⟨⟨adr [a0, q1, q2, q3, q4], rfl, rfl, by rw [ht]; exact hP9, hD9⟩, hS.F ht⟩) hS.2.2 dX4_init_36 hlocks
theorem iiX5_init_X5 : ∀ w ∈ u_ws RX5 TX5 1, w ∈ wsX5_init := by decide +kernel
theorem mmX5_init_o1 : (Cond.methodLink RX5 3 objectInit) ∈ wsX5_init := by decide +kernel
theorem mmX5_init_o2 : (Cond.instanceMethod objectInit) ∈ wsX5_init := by decide +kernel
theorem mmX5_init_o3 : (Cond.code objectInit ⟨#[0xb1]⟩ 1 none) ∈ wsX5_init := by decide +kernel
theorem mmX5_init_aI : (Cond.arrayClass .int) ∈ wsX5_init := by decide +kernel
theorem hdX5_init : yX5_init.cls ≠ "java/lang/invoke/MethodHandle" ∧ yX5_init.cls ≠ "java/lang/invoke/VarHandle" ∧ (parseMethodDescriptor yX5_init.desc).map (fun d => d.parameters.length) = some 0 := by decide +kernel
abbrev rmX5_init : Room := { frames := 1, cells := 1, slots := 36, locals := 20 }
set_option maxHeartbeats 4000000 in
set_option maxRecDepth 100000 in
theorem tX5_init (l : Launch) (G : GG) (a0 : Nat) : cMn l G yX5_init wsX5_init rmX5_init a0 5 [.null] (fun (u : Nat → Nat) => u 0 = a0) (fun (u : Nat → Nat) => wX5 G u (fun _ => 0)) 1 36 := by
  intro sz
  refine met_ofN (y := yX5_init) (av := [.ref a0]) (cc := cX5_init) (nL := 1) (ret := none) (Qc := fun A9 => va_Qv (fun (u : Nat → Nat) => u 0 = a0) (fun u t => va_P G.1 vwCl ((fun (u : Nat → Nat) => wX5 G u (fun _ => 0)) u) t.heap ∧ va_D A9 ((fun (u : Nat → Nat) => wX5 G u (fun _ => 0)) u)) A9) (by decide) rfl (Nat.le_of_ble_eq_true rfl) ?_
  intro p e s m args below meth c A ls C hin hAA hP hD hS hl
  obtain ⟨⟨hx, hb, hml, hown, hts⟩, hr, hlocks, hK, hN, hE, hA⟩ := id C
  have hl : lv_has ls 1 [(0, .ref a0)] := hl
  refine lv_aload_n hx hb dX5_init_0 rfl (lv_at hl 0 rfl) ?_
  refine W.objInit hx hb hown (hts _ mmX5_init_o1) (hts _ mmX5_init_o2) (hts _ mmX5_init_o3) rfl (by rw [hml]; exact hl.1) rfl dX5_init_1 (Nat.le_of_ble_eq_true rfl) (Nat.le_of_ble_eq_true rfl) ?_
  refine W.eq (g2 := F0 m 4 ls []) rfl ?_
  refine lv_aload_n hx hb dX5_init_4 rfl (lv_at hl 0 rfl) ?_
  refine lv_bipush (v := 36) hx hb dX5_init_5 (by decide) ?_
  refine k_newI hx hb (hts _ mmX5_init_aI) hK hP hD hS hA 36 (by decide) (by decide) (by decide) (Nat.le_of_ble_eq_true rfl) (Nat.le_of_ble_eq_true rfl) dX5_init_7 (fun q1 H hP hD hS => ?_)
  have hP : va_P G.1 vwCl [(a0, .inr (5, [.null])), (q1, .inl (gI G, 36, .inl (fun _ => 0)))] H := hP
  have hD : va_D A [(a0, .inr (5, [.null])), (q1, .inl (gI G, 36, .inl (fun _ => 0)))] := hD
  refine W.widen (k := 1) (n := 36) (by decide) (by decide) ?_
  refine va_putF (D := G.1) (ci := 5) (v := .ref q1) (ty := tyX5 0) (C := RX5) (T := TX5) (N := 1) hx hb hts iiX5_init_X5 tyX5 tyX5_ok nmX5 hown hK hP hD hS 0 rfl rfl 0 (by decide) (hts (Cond.fieldLink RX5 9 "BlindBells$WoodSearch" "between" "[I") (by decide +kernel)) (fun _ h9 => h9) rfl hin rfl (by decide +kernel) rfl rfl (Nat.le_of_ble_eq_true rfl) dX5_init_9 (fun H locs hP hD hS => ?_)
  have hP : va_P G.1 vwCl [(a0, .inr (5, [.ref q1])), (q1, .inl (gI G, 36, .inl (fun _ => 0)))] H := hP
  have hD : va_D A [(a0, .inr (5, [.ref q1])), (q1, .inl (gI G, 36, .inl (fun _ => 0)))] := hD
  have hP9 : va_P G.1 vwCl ((fun (u : Nat → Nat) => wX5 G u (fun _ => 0)) (adr [a0, q1])) H := hP
  have hD9 : va_D A ((fun (u : Nat → Nat) => wX5 G u (fun _ => 0)) (adr [a0, q1])) := hD
  exact W.vret hx hb hr (fun t ht hW => ⟨⟨adr [a0, q1], rfl, rfl, by rw [ht]; exact hP9, hD9⟩, hS.F ht⟩) hS.2.2 dX5_init_12 hlocks
theorem iiX7_init_X7 : ∀ w ∈ u_ws RX7 TX7 16, w ∈ wsX7_init := by decide +kernel
theorem mmX7_init_o1 : (Cond.methodLink RX7 1 objectInit) ∈ wsX7_init := by decide +kernel
theorem mmX7_init_o2 : (Cond.instanceMethod objectInit) ∈ wsX7_init := by decide +kernel
theorem mmX7_init_o3 : (Cond.code objectInit ⟨#[0xb1]⟩ 1 none) ∈ wsX7_init := by decide +kernel
theorem mmX7_init_aI : (Cond.arrayClass .int) ∈ wsX7_init := by decide +kernel
theorem mmX7_init_aZ : (Cond.arrayClass .boolean) ∈ wsX7_init := by decide +kernel
theorem hdX7_init : yX7_init.cls ≠ "java/lang/invoke/MethodHandle" ∧ yX7_init.cls ≠ "java/lang/invoke/VarHandle" ∧ (parseMethodDescriptor yX7_init.desc).map (fun d => d.parameters.length) = some 0 := by decide +kernel
abbrev rmX7_init : Room := { frames := 3, cells := 10, slots := 951, locals := 90 }
set_option maxHeartbeats 4000000 in
set_option maxRecDepth 100000 in
theorem tX7_init (l : Launch) (G : GG) (a0 : Nat) : cMn l G yX7_init wsX7_init rmX7_init a0 7 [.null, .null, .null, .null, .null, .int 0, .null, .null, .int 0, .int 0, .int 0, .int 0, .int 0, .null, .null, .null] (fun (u : (Nat → Nat) × (Nat → Int32)) => u.1 0 = a0 ∧ u.2 0 = nI 4 ∧ (∀ v, v < 4 → u.2 (10 + v) = nI v ∧ u.2 (16 + v) = nI v) ∧ ∀ j, j < 104 → j ≠ 0 → (j < 10 ∨ 22 ≤ j) → u.2 j = 0) (fun (u : (Nat → Nat) × (Nat → Int32)) => wX7 G u.1 u.2 (fun _ => 0) (fun _ => 0) (fun _ => 0) (fun _ => 0) 0 (fun _ => 0) (fun _ => 0) 0 0 0 0 0 (fun _ => 0) (fun _ => 0) (fun _ => 0)) 10 951 := by
  intro sz
  refine met_ofN (y := yX7_init) (av := [.ref a0]) (cc := cX7_init) (nL := 1) (ret := none) (Qc := fun A9 => va_Qv (fun (u : (Nat → Nat) × (Nat → Int32)) => u.1 0 = a0 ∧ u.2 0 = nI 4 ∧ (∀ v, v < 4 → u.2 (10 + v) = nI v ∧ u.2 (16 + v) = nI v) ∧ ∀ j, j < 104 → j ≠ 0 → (j < 10 ∨ 22 ≤ j) → u.2 j = 0) (fun u t => va_P G.1 vwCl ((fun (u : (Nat → Nat) × (Nat → Int32)) => wX7 G u.1 u.2 (fun _ => 0) (fun _ => 0) (fun _ => 0) (fun _ => 0) 0 (fun _ => 0) (fun _ => 0) 0 0 0 0 0 (fun _ => 0) (fun _ => 0) (fun _ => 0)) u) t.heap ∧ va_D A9 ((fun (u : (Nat → Nat) × (Nat → Int32)) => wX7 G u.1 u.2 (fun _ => 0) (fun _ => 0) (fun _ => 0) (fun _ => 0) 0 (fun _ => 0) (fun _ => 0) 0 0 0 0 0 (fun _ => 0) (fun _ => 0) (fun _ => 0)) u)) A9) (by decide) rfl (Nat.le_of_ble_eq_true rfl) ?_
  intro p e s m args below meth c A ls C hin hAA hP hD hS hl
  obtain ⟨⟨hx, hb, hml, hown, hts⟩, hr, hlocks, hK, hN, hE, hA⟩ := id C
  have hl : lv_has ls 1 [(0, .ref a0)] := hl
  refine lv_aload_n hx hb dX7_init_0 rfl (lv_at hl 0 rfl) ?_
  refine W.objInit hx hb hown (hts _ mmX7_init_o1) (hts _ mmX7_init_o2) (hts _ mmX7_init_o3) rfl (by rw [hml]; exact hl.1) rfl dX7_init_1 (Nat.le_of_ble_eq_true rfl) (Nat.le_of_ble_eq_true rfl) ?_
  refine W.eq (g2 := F0 m 4 ls []) rfl ?_
  refine lv_aload_n hx hb dX7_init_4 rfl (lv_at hl 0 rfl) ?_
  refine lv_bipush (v := 104) hx hb dX7_init_5 (by decide) ?_
  refine k_newI hx hb (hts _ mmX7_init_aI) hK hP hD hS hA 104 (by decide) (by decide) (by decide) (Nat.le_of_ble_eq_true rfl) (Nat.le_of_ble_eq_true rfl) dX7_init_7 (fun q1 H hP hD hS => ?_)
  have hP : va_P G.1 vwCl [(a0, .inr (7, [.null, .null, .null, .null, .null, .int 0, .null, .null, .int 0, .int 0, .int 0, .int 0, .int 0, .null, .null, .null])), (q1, .inl (gI G, 104, .inl (fun _ => 0)))] H := hP
  have hD : va_D A [(a0, .inr (7, [.null, .null, .null, .null, .null, .int 0, .null, .null, .int 0, .int 0, .int 0, .int 0, .int 0, .null, .null, .null])), (q1, .inl (gI G, 104, .inl (fun _ => 0)))] := hD
  refine W.widen (k := 1) (n := 104) (by decide) (by decide) ?_
  refine va_putF (D := G.1) (ci := 7) (v := .ref q1) (ty := tyX7 0) (C := RX7) (T := TX7) (N := 16) hx hb hts iiX7_init_X7 tyX7 tyX7_ok nmX7 hown hK hP hD hS 0 rfl rfl 0 (by decide) (hts (Cond.fieldLink RX7 7 "BlindBellsModel" "book" "[I") (by decide +kernel)) (fun _ h9 => h9) rfl hin rfl (by decide +kernel) rfl rfl (Nat.le_of_ble_eq_true rfl) dX7_init_9 (fun H locs hP hD hS => ?_)
  have hP : va_P G.1 vwCl [(a0, .inr (7, [.ref q1, .null, .null, .null, .null, .int 0, .null, .null, .int 0, .int 0, .int 0, .int 0, .int 0, .null, .null, .null])), (q1, .inl (gI G, 104, .inl (fun _ => 0)))] H := hP
  have hD : va_D A [(a0, .inr (7, [.ref q1, .null, .null, .null, .null, .int 0, .null, .null, .int 0, .int 0, .int 0, .int 0, .int 0, .null, .null, .null])), (q1, .inl (gI G, 104, .inl (fun _ => 0)))] := hD
  refine lv_aload_n hx hb dX7_init_12 rfl (lv_at hl 0 rfl) ?_
  refine lv_bipush (v := 104) hx hb dX7_init_13 (by decide) ?_
  refine k_newI hx hb (hts _ mmX7_init_aI) hK hP hD hS hA 104 (by decide) (by decide) (by decide) (Nat.le_of_ble_eq_true rfl) (Nat.le_of_ble_eq_true rfl) dX7_init_15 (fun q2 H hP hD hS => ?_)
  have hP : va_P G.1 vwCl [(a0, .inr (7, [.ref q1, .null, .null, .null, .null, .int 0, .null, .null, .int 0, .int 0, .int 0, .int 0, .int 0, .null, .null, .null])), (q1, .inl (gI G, 104, .inl (fun _ => 0))), (q2, .inl (gI G, 104, .inl (fun _ => 0)))] H := hP
  have hD : va_D A [(a0, .inr (7, [.ref q1, .null, .null, .null, .null, .int 0, .null, .null, .int 0, .int 0, .int 0, .int 0, .int 0, .null, .null, .null])), (q1, .inl (gI G, 104, .inl (fun _ => 0))), (q2, .inl (gI G, 104, .inl (fun _ => 0)))] := hD
  refine W.widen (k := 2) (n := 208) (by decide) (by decide) ?_
  refine va_putF (D := G.1) (ci := 7) (v := .ref q2) (ty := tyX7 1) (C := RX7) (T := TX7) (N := 16) hx hb hts iiX7_init_X7 tyX7 tyX7_ok nmX7 hown hK hP hD hS 0 rfl rfl 1 (by decide) (hts (Cond.fieldLink RX7 13 "BlindBellsModel" "spare" "[I") (by decide +kernel)) (fun _ h9 => h9) rfl hin rfl (by decide +kernel) rfl rfl (Nat.le_of_ble_eq_true rfl) dX7_init_17 (fun H locs hP hD hS => ?_)
  have hP : va_P G.1 vwCl [(a0, .inr (7, [.ref q1, .ref q2, .null, .null, .null, .int 0, .null, .null, .int 0, .int 0, .int 0, .int 0, .int 0, .null, .null, .null])), (q1, .inl (gI G, 104, .inl (fun _ => 0))), (q2, .inl (gI G, 104, .inl (fun _ => 0)))] H := hP
  have hD : va_D A [(a0, .inr (7, [.ref q1, .ref q2, .null, .null, .null, .int 0, .null, .null, .int 0, .int 0, .int 0, .int 0, .int 0, .null, .null, .null])), (q1, .inl (gI G, 104, .inl (fun _ => 0))), (q2, .inl (gI G, 104, .inl (fun _ => 0)))] := hD
  refine lv_aload_n hx hb dX7_init_20 rfl (lv_at hl 0 rfl) ?_
  refine lv_sipush (v := 208) hx hb dX7_init_21 (by decide) ?_
  refine k_newI hx hb (hts _ mmX7_init_aI) hK hP hD hS hA 208 (by decide) (by decide) (by decide) (Nat.le_of_ble_eq_true rfl) (Nat.le_of_ble_eq_true rfl) dX7_init_24 (fun q3 H hP hD hS => ?_)
  have hP : va_P G.1 vwCl [(a0, .inr (7, [.ref q1, .ref q2, .null, .null, .null, .int 0, .null, .null, .int 0, .int 0, .int 0, .int 0, .int 0, .null, .null, .null])), (q1, .inl (gI G, 104, .inl (fun _ => 0))), (q2, .inl (gI G, 104, .inl (fun _ => 0))), (q3, .inl (gI G, 208, .inl (fun _ => 0)))] H := hP
  have hD : va_D A [(a0, .inr (7, [.ref q1, .ref q2, .null, .null, .null, .int 0, .null, .null, .int 0, .int 0, .int 0, .int 0, .int 0, .null, .null, .null])), (q1, .inl (gI G, 104, .inl (fun _ => 0))), (q2, .inl (gI G, 104, .inl (fun _ => 0))), (q3, .inl (gI G, 208, .inl (fun _ => 0)))] := hD
  refine W.widen (k := 3) (n := 416) (by decide) (by decide) ?_
  refine va_putF (D := G.1) (ci := 7) (v := .ref q3) (ty := tyX7 2) (C := RX7) (T := TX7) (N := 16) hx hb hts iiX7_init_X7 tyX7 tyX7_ok nmX7 hown hK hP hD hS 0 rfl rfl 2 (by decide) (hts (Cond.fieldLink RX7 16 "BlindBellsModel" "images" "[I") (by decide +kernel)) (fun _ h9 => h9) rfl hin rfl (by decide +kernel) rfl rfl (Nat.le_of_ble_eq_true rfl) dX7_init_26 (fun H locs hP hD hS => ?_)
  have hP : va_P G.1 vwCl [(a0, .inr (7, [.ref q1, .ref q2, .ref q3, .null, .null, .int 0, .null, .null, .int 0, .int 0, .int 0, .int 0, .int 0, .null, .null, .null])), (q1, .inl (gI G, 104, .inl (fun _ => 0))), (q2, .inl (gI G, 104, .inl (fun _ => 0))), (q3, .inl (gI G, 208, .inl (fun _ => 0)))] H := hP
  have hD : va_D A [(a0, .inr (7, [.ref q1, .ref q2, .ref q3, .null, .null, .int 0, .null, .null, .int 0, .int 0, .int 0, .int 0, .int 0, .null, .null, .null])), (q1, .inl (gI G, 104, .inl (fun _ => 0))), (q2, .inl (gI G, 104, .inl (fun _ => 0))), (q3, .inl (gI G, 208, .inl (fun _ => 0)))] := hD
  refine lv_aload_n hx hb dX7_init_29 rfl (lv_at hl 0 rfl) ?_
  refine lv_iconst (v := 2) hx hb dX7_init_30 (by decide) ?_
  refine k_newZ hx hb (hts _ mmX7_init_aZ) hK hP hD hS hA 2 (by decide) (by decide) (by decide) (Nat.le_of_ble_eq_true rfl) (Nat.le_of_ble_eq_true rfl) dX7_init_31 (fun q4 H hP hD hS => ?_)
  have hP : va_P G.1 vwCl [(a0, .inr (7, [.ref q1, .ref q2, .ref q3, .null, .null, .int 0, .null, .null, .int 0, .int 0, .int 0, .int 0, .int 0, .null, .null, .null])), (q1, .inl (gI G, 104, .inl (fun _ => 0))), (q2, .inl (gI G, 104, .inl (fun _ => 0))), (q3, .inl (gI G, 208, .inl (fun _ => 0))), (q4, .inl (gZ G, 2, .inl (fun _ => 0)))] H := hP
  have hD : va_D A [(a0, .inr (7, [.ref q1, .ref q2, .ref q3, .null, .null, .int 0, .null, .null, .int 0, .int 0, .int 0, .int 0, .int 0, .null, .null, .null])), (q1, .inl (gI G, 104, .inl (fun _ => 0))), (q2, .inl (gI G, 104, .inl (fun _ => 0))), (q3, .inl (gI G, 208, .inl (fun _ => 0))), (q4, .inl (gZ G, 2, .inl (fun _ => 0)))] := hD
  refine W.widen (k := 4) (n := 418) (by decide) (by decide) ?_
  refine va_putF (D := G.1) (ci := 7) (v := .ref q4) (ty := tyX7 3) (C := RX7) (T := TX7) (N := 16) hx hb hts iiX7_init_X7 tyX7 tyX7_ok nmX7 hown hK hP hD hS 0 rfl rfl 3 (by decide) (hts (Cond.fieldLink RX7 19 "BlindBellsModel" "kept" "[Z") (by decide +kernel)) (fun _ h9 => h9) rfl hin rfl (by decide +kernel) rfl rfl (Nat.le_of_ble_eq_true rfl) dX7_init_33 (fun H locs hP hD hS => ?_)
  have hP : va_P G.1 vwCl [(a0, .inr (7, [.ref q1, .ref q2, .ref q3, .ref q4, .null, .int 0, .null, .null, .int 0, .int 0, .int 0, .int 0, .int 0, .null, .null, .null])), (q1, .inl (gI G, 104, .inl (fun _ => 0))), (q2, .inl (gI G, 104, .inl (fun _ => 0))), (q3, .inl (gI G, 208, .inl (fun _ => 0))), (q4, .inl (gZ G, 2, .inl (fun _ => 0)))] H := hP
  have hD : va_D A [(a0, .inr (7, [.ref q1, .ref q2, .ref q3, .ref q4, .null, .int 0, .null, .null, .int 0, .int 0, .int 0, .int 0, .int 0, .null, .null, .null])), (q1, .inl (gI G, 104, .inl (fun _ => 0))), (q2, .inl (gI G, 104, .inl (fun _ => 0))), (q3, .inl (gI G, 208, .inl (fun _ => 0))), (q4, .inl (gZ G, 2, .inl (fun _ => 0)))] := hD
  refine lv_aload_n hx hb dX7_init_36 rfl (lv_at hl 0 rfl) ?_
  refine lv_sipush (v := 250) hx hb dX7_init_37 (by decide) ?_
  refine k_newI hx hb (hts _ mmX7_init_aI) hK hP hD hS hA 250 (by decide) (by decide) (by decide) (Nat.le_of_ble_eq_true rfl) (Nat.le_of_ble_eq_true rfl) dX7_init_40 (fun q5 H hP hD hS => ?_)
  have hP : va_P G.1 vwCl [(a0, .inr (7, [.ref q1, .ref q2, .ref q3, .ref q4, .null, .int 0, .null, .null, .int 0, .int 0, .int 0, .int 0, .int 0, .null, .null, .null])), (q1, .inl (gI G, 104, .inl (fun _ => 0))), (q2, .inl (gI G, 104, .inl (fun _ => 0))), (q3, .inl (gI G, 208, .inl (fun _ => 0))), (q4, .inl (gZ G, 2, .inl (fun _ => 0))), (q5, .inl (gI G, 250, .inl (fun _ => 0)))] H := hP
  have hD : va_D A [(a0, .inr (7, [.ref q1, .ref q2, .ref q3, .ref q4, .null, .int 0, .null, .null, .int 0, .int 0, .int 0, .int 0, .int 0, .null, .null, .null])), (q1, .inl (gI G, 104, .inl (fun _ => 0))), (q2, .inl (gI G, 104, .inl (fun _ => 0))), (q3, .inl (gI G, 208, .inl (fun _ => 0))), (q4, .inl (gZ G, 2, .inl (fun _ => 0))), (q5, .inl (gI G, 250, .inl (fun _ => 0)))] := hD
  refine W.widen (k := 5) (n := 668) (by decide) (by decide) ?_
  refine va_putF (D := G.1) (ci := 7) (v := .ref q5) (ty := tyX7 4) (C := RX7) (T := TX7) (N := 16) hx hb hts iiX7_init_X7 tyX7 tyX7_ok nmX7 hown hK hP hD hS 0 rfl rfl 4 (by decide) (hts (Cond.fieldLink RX7 23 "BlindBellsModel" "text" "[I") (by decide +kernel)) (fun _ h9 => h9) rfl hin rfl (by decide +kernel) rfl rfl (Nat.le_of_ble_eq_true rfl) dX7_init_42 (fun H locs hP hD hS => ?_)
  have hP : va_P G.1 vwCl [(a0, .inr (7, [.ref q1, .ref q2, .ref q3, .ref q4, .ref q5, .int 0, .null, .null, .int 0, .int 0, .int 0, .int 0, .int 0, .null, .null, .null])), (q1, .inl (gI G, 104, .inl (fun _ => 0))), (q2, .inl (gI G, 104, .inl (fun _ => 0))), (q3, .inl (gI G, 208, .inl (fun _ => 0))), (q4, .inl (gZ G, 2, .inl (fun _ => 0))), (q5, .inl (gI G, 250, .inl (fun _ => 0)))] H := hP
  have hD : va_D A [(a0, .inr (7, [.ref q1, .ref q2, .ref q3, .ref q4, .ref q5, .int 0, .null, .null, .int 0, .int 0, .int 0, .int 0, .int 0, .null, .null, .null])), (q1, .inl (gI G, 104, .inl (fun _ => 0))), (q2, .inl (gI G, 104, .inl (fun _ => 0))), (q3, .inl (gI G, 208, .inl (fun _ => 0))), (q4, .inl (gZ G, 2, .inl (fun _ => 0))), (q5, .inl (gI G, 250, .inl (fun _ => 0)))] := hD
  refine lv_aload_n hx hb dX7_init_45 rfl (lv_at hl 0 rfl) ?_
  refine lv_iconst (v := 3) hx hb dX7_init_46 (by decide) ?_
  refine k_newI hx hb (hts _ mmX7_init_aI) hK hP hD hS hA 3 (by decide) (by decide) (by decide) (Nat.le_of_ble_eq_true rfl) (Nat.le_of_ble_eq_true rfl) dX7_init_47 (fun q6 H hP hD hS => ?_)
  have hP : va_P G.1 vwCl [(a0, .inr (7, [.ref q1, .ref q2, .ref q3, .ref q4, .ref q5, .int 0, .null, .null, .int 0, .int 0, .int 0, .int 0, .int 0, .null, .null, .null])), (q1, .inl (gI G, 104, .inl (fun _ => 0))), (q2, .inl (gI G, 104, .inl (fun _ => 0))), (q3, .inl (gI G, 208, .inl (fun _ => 0))), (q4, .inl (gZ G, 2, .inl (fun _ => 0))), (q5, .inl (gI G, 250, .inl (fun _ => 0))), (q6, .inl (gI G, 3, .inl (fun _ => 0)))] H := hP
  have hD : va_D A [(a0, .inr (7, [.ref q1, .ref q2, .ref q3, .ref q4, .ref q5, .int 0, .null, .null, .int 0, .int 0, .int 0, .int 0, .int 0, .null, .null, .null])), (q1, .inl (gI G, 104, .inl (fun _ => 0))), (q2, .inl (gI G, 104, .inl (fun _ => 0))), (q3, .inl (gI G, 208, .inl (fun _ => 0))), (q4, .inl (gZ G, 2, .inl (fun _ => 0))), (q5, .inl (gI G, 250, .inl (fun _ => 0))), (q6, .inl (gI G, 3, .inl (fun _ => 0)))] := hD
  refine W.widen (k := 6) (n := 671) (by decide) (by decide) ?_
  refine va_putF (D := G.1) (ci := 7) (v := .ref q6) (ty := tyX7 6) (C := RX7) (T := TX7) (N := 16) hx hb hts iiX7_init_X7 tyX7 tyX7_ok nmX7 hown hK hP hD hS 0 rfl rfl 6 (by decide) (hts (Cond.fieldLink RX7 26 "BlindBellsModel" "refused" "[I") (by decide +kernel)) (fun _ h9 => h9) rfl hin rfl (by decide +kernel) rfl rfl (Nat.le_of_ble_eq_true rfl) dX7_init_49 (fun H locs hP hD hS => ?_)
  have hP : va_P G.1 vwCl [(a0, .inr (7, [.ref q1, .ref q2, .ref q3, .ref q4, .ref q5, .int 0, .ref q6, .null, .int 0, .int 0, .int 0, .int 0, .int 0, .null, .null, .null])), (q1, .inl (gI G, 104, .inl (fun _ => 0))), (q2, .inl (gI G, 104, .inl (fun _ => 0))), (q3, .inl (gI G, 208, .inl (fun _ => 0))), (q4, .inl (gZ G, 2, .inl (fun _ => 0))), (q5, .inl (gI G, 250, .inl (fun _ => 0))), (q6, .inl (gI G, 3, .inl (fun _ => 0)))] H := hP
  have hD : va_D A [(a0, .inr (7, [.ref q1, .ref q2, .ref q3, .ref q4, .ref q5, .int 0, .ref q6, .null, .int 0, .int 0, .int 0, .int 0, .int 0, .null, .null, .null])), (q1, .inl (gI G, 104, .inl (fun _ => 0))), (q2, .inl (gI G, 104, .inl (fun _ => 0))), (q3, .inl (gI G, 208, .inl (fun _ => 0))), (q4, .inl (gZ G, 2, .inl (fun _ => 0))), (q5, .inl (gI G, 250, .inl (fun _ => 0))), (q6, .inl (gI G, 3, .inl (fun _ => 0)))] := hD
  refine lv_aload_n hx hb dX7_init_52 rfl (lv_at hl 0 rfl) ?_
  refine lv_sipush (v := 250) hx hb dX7_init_53 (by decide) ?_
  refine k_newI hx hb (hts _ mmX7_init_aI) hK hP hD hS hA 250 (by decide) (by decide) (by decide) (Nat.le_of_ble_eq_true rfl) (Nat.le_of_ble_eq_true rfl) dX7_init_56 (fun q7 H hP hD hS => ?_)
  have hP : va_P G.1 vwCl [(a0, .inr (7, [.ref q1, .ref q2, .ref q3, .ref q4, .ref q5, .int 0, .ref q6, .null, .int 0, .int 0, .int 0, .int 0, .int 0, .null, .null, .null])), (q1, .inl (gI G, 104, .inl (fun _ => 0))), (q2, .inl (gI G, 104, .inl (fun _ => 0))), (q3, .inl (gI G, 208, .inl (fun _ => 0))), (q4, .inl (gZ G, 2, .inl (fun _ => 0))), (q5, .inl (gI G, 250, .inl (fun _ => 0))), (q6, .inl (gI G, 3, .inl (fun _ => 0))), (q7, .inl (gI G, 250, .inl (fun _ => 0)))] H := hP
  have hD : va_D A [(a0, .inr (7, [.ref q1, .ref q2, .ref q3, .ref q4, .ref q5, .int 0, .ref q6, .null, .int 0, .int 0, .int 0, .int 0, .int 0, .null, .null, .null])), (q1, .inl (gI G, 104, .inl (fun _ => 0))), (q2, .inl (gI G, 104, .inl (fun _ => 0))), (q3, .inl (gI G, 208, .inl (fun _ => 0))), (q4, .inl (gZ G, 2, .inl (fun _ => 0))), (q5, .inl (gI G, 250, .inl (fun _ => 0))), (q6, .inl (gI G, 3, .inl (fun _ => 0))), (q7, .inl (gI G, 250, .inl (fun _ => 0)))] := hD
  refine W.widen (k := 7) (n := 921) (by decide) (by decide) ?_
  refine va_putF (D := G.1) (ci := 7) (v := .ref q7) (ty := tyX7 7) (C := RX7) (T := TX7) (N := 16) hx hb hts iiX7_init_X7 tyX7 tyX7_ok nmX7 hown hK hP hD hS 0 rfl rfl 7 (by decide) (hts (Cond.fieldLink RX7 29 "BlindBellsModel" "items" "[I") (by decide +kernel)) (fun _ h9 => h9) rfl hin rfl (by decide +kernel) rfl rfl (Nat.le_of_ble_eq_true rfl) dX7_init_58 (fun H locs hP hD hS => ?_)
  have hP : va_P G.1 vwCl [(a0, .inr (7, [.ref q1, .ref q2, .ref q3, .ref q4, .ref q5, .int 0, .ref q6, .ref q7, .int 0, .int 0, .int 0, .int 0, .int 0, .null, .null, .null])), (q1, .inl (gI G, 104, .inl (fun _ => 0))), (q2, .inl (gI G, 104, .inl (fun _ => 0))), (q3, .inl (gI G, 208, .inl (fun _ => 0))), (q4, .inl (gZ G, 2, .inl (fun _ => 0))), (q5, .inl (gI G, 250, .inl (fun _ => 0))), (q6, .inl (gI G, 3, .inl (fun _ => 0))), (q7, .inl (gI G, 250, .inl (fun _ => 0)))] H := hP
  have hD : va_D A [(a0, .inr (7, [.ref q1, .ref q2, .ref q3, .ref q4, .ref q5, .int 0, .ref q6, .ref q7, .int 0, .int 0, .int 0, .int 0, .int 0, .null, .null, .null])), (q1, .inl (gI G, 104, .inl (fun _ => 0))), (q2, .inl (gI G, 104, .inl (fun _ => 0))), (q3, .inl (gI G, 208, .inl (fun _ => 0))), (q4, .inl (gZ G, 2, .inl (fun _ => 0))), (q5, .inl (gI G, 250, .inl (fun _ => 0))), (q6, .inl (gI G, 3, .inl (fun _ => 0))), (q7, .inl (gI G, 250, .inl (fun _ => 0)))] := hD
  refine lv_aload_n hx hb dX7_init_61 rfl (lv_at hl 0 rfl) ?_
  refine lv_bipush (v := 12) hx hb dX7_init_62 (by decide) ?_
  refine k_newI hx hb (hts _ mmX7_init_aI) hK hP hD hS hA 12 (by decide) (by decide) (by decide) (Nat.le_of_ble_eq_true rfl) (Nat.le_of_ble_eq_true rfl) dX7_init_64 (fun q8 H hP hD hS => ?_)
  have hP : va_P G.1 vwCl [(a0, .inr (7, [.ref q1, .ref q2, .ref q3, .ref q4, .ref q5, .int 0, .ref q6, .ref q7, .int 0, .int 0, .int 0, .int 0, .int 0, .null, .null, .null])), (q1, .inl (gI G, 104, .inl (fun _ => 0))), (q2, .inl (gI G, 104, .inl (fun _ => 0))), (q3, .inl (gI G, 208, .inl (fun _ => 0))), (q4, .inl (gZ G, 2, .inl (fun _ => 0))), (q5, .inl (gI G, 250, .inl (fun _ => 0))), (q6, .inl (gI G, 3, .inl (fun _ => 0))), (q7, .inl (gI G, 250, .inl (fun _ => 0))), (q8, .inl (gI G, 12, .inl (fun _ => 0)))] H := hP
  have hD : va_D A [(a0, .inr (7, [.ref q1, .ref q2, .ref q3, .ref q4, .ref q5, .int 0, .ref q6, .ref q7, .int 0, .int 0, .int 0, .int 0, .int 0, .null, .null, .null])), (q1, .inl (gI G, 104, .inl (fun _ => 0))), (q2, .inl (gI G, 104, .inl (fun _ => 0))), (q3, .inl (gI G, 208, .inl (fun _ => 0))), (q4, .inl (gZ G, 2, .inl (fun _ => 0))), (q5, .inl (gI G, 250, .inl (fun _ => 0))), (q6, .inl (gI G, 3, .inl (fun _ => 0))), (q7, .inl (gI G, 250, .inl (fun _ => 0))), (q8, .inl (gI G, 12, .inl (fun _ => 0)))] := hD
  refine W.widen (k := 8) (n := 933) (by decide) (by decide) ?_
  refine va_putF (D := G.1) (ci := 7) (v := .ref q8) (ty := tyX7 13) (C := RX7) (T := TX7) (N := 16) hx hb hts iiX7_init_X7 tyX7 tyX7_ok nmX7 hown hK hP hD hS 0 rfl rfl 13 (by decide) (hts (Cond.fieldLink RX7 32 "BlindBellsModel" "due" "[I") (by decide +kernel)) (fun _ h9 => h9) rfl hin rfl (by decide +kernel) rfl rfl (Nat.le_of_ble_eq_true rfl) dX7_init_66 (fun H locs hP hD hS => ?_)
  have hP : va_P G.1 vwCl [(a0, .inr (7, [.ref q1, .ref q2, .ref q3, .ref q4, .ref q5, .int 0, .ref q6, .ref q7, .int 0, .int 0, .int 0, .int 0, .int 0, .ref q8, .null, .null])), (q1, .inl (gI G, 104, .inl (fun _ => 0))), (q2, .inl (gI G, 104, .inl (fun _ => 0))), (q3, .inl (gI G, 208, .inl (fun _ => 0))), (q4, .inl (gZ G, 2, .inl (fun _ => 0))), (q5, .inl (gI G, 250, .inl (fun _ => 0))), (q6, .inl (gI G, 3, .inl (fun _ => 0))), (q7, .inl (gI G, 250, .inl (fun _ => 0))), (q8, .inl (gI G, 12, .inl (fun _ => 0)))] H := hP
  have hD : va_D A [(a0, .inr (7, [.ref q1, .ref q2, .ref q3, .ref q4, .ref q5, .int 0, .ref q6, .ref q7, .int 0, .int 0, .int 0, .int 0, .int 0, .ref q8, .null, .null])), (q1, .inl (gI G, 104, .inl (fun _ => 0))), (q2, .inl (gI G, 104, .inl (fun _ => 0))), (q3, .inl (gI G, 208, .inl (fun _ => 0))), (q4, .inl (gZ G, 2, .inl (fun _ => 0))), (q5, .inl (gI G, 250, .inl (fun _ => 0))), (q6, .inl (gI G, 3, .inl (fun _ => 0))), (q7, .inl (gI G, 250, .inl (fun _ => 0))), (q8, .inl (gI G, 12, .inl (fun _ => 0)))] := hD
  refine lv_aload_n hx hb dX7_init_69 rfl (lv_at hl 0 rfl) ?_
  refine lv_bipush (v := 12) hx hb dX7_init_70 (by decide) ?_
  refine k_newI hx hb (hts _ mmX7_init_aI) hK hP hD hS hA 12 (by decide) (by decide) (by decide) (Nat.le_of_ble_eq_true rfl) (Nat.le_of_ble_eq_true rfl) dX7_init_72 (fun q9 H hP hD hS => ?_)
  have hP : va_P G.1 vwCl [(a0, .inr (7, [.ref q1, .ref q2, .ref q3, .ref q4, .ref q5, .int 0, .ref q6, .ref q7, .int 0, .int 0, .int 0, .int 0, .int 0, .ref q8, .null, .null])), (q1, .inl (gI G, 104, .inl (fun _ => 0))), (q2, .inl (gI G, 104, .inl (fun _ => 0))), (q3, .inl (gI G, 208, .inl (fun _ => 0))), (q4, .inl (gZ G, 2, .inl (fun _ => 0))), (q5, .inl (gI G, 250, .inl (fun _ => 0))), (q6, .inl (gI G, 3, .inl (fun _ => 0))), (q7, .inl (gI G, 250, .inl (fun _ => 0))), (q8, .inl (gI G, 12, .inl (fun _ => 0))), (q9, .inl (gI G, 12, .inl (fun _ => 0)))] H := hP
  have hD : va_D A [(a0, .inr (7, [.ref q1, .ref q2, .ref q3, .ref q4, .ref q5, .int 0, .ref q6, .ref q7, .int 0, .int 0, .int 0, .int 0, .int 0, .ref q8, .null, .null])), (q1, .inl (gI G, 104, .inl (fun _ => 0))), (q2, .inl (gI G, 104, .inl (fun _ => 0))), (q3, .inl (gI G, 208, .inl (fun _ => 0))), (q4, .inl (gZ G, 2, .inl (fun _ => 0))), (q5, .inl (gI G, 250, .inl (fun _ => 0))), (q6, .inl (gI G, 3, .inl (fun _ => 0))), (q7, .inl (gI G, 250, .inl (fun _ => 0))), (q8, .inl (gI G, 12, .inl (fun _ => 0))), (q9, .inl (gI G, 12, .inl (fun _ => 0)))] := hD
  refine W.widen (k := 9) (n := 945) (by decide) (by decide) ?_
  refine va_putF (D := G.1) (ci := 7) (v := .ref q9) (ty := tyX7 14) (C := RX7) (T := TX7) (N := 16) hx hb hts iiX7_init_X7 tyX7 tyX7_ok nmX7 hown hK hP hD hS 0 rfl rfl 14 (by decide) (hts (Cond.fieldLink RX7 35 "BlindBellsModel" "rung" "[I") (by decide +kernel)) (fun _ h9 => h9) rfl hin rfl (by decide +kernel) rfl rfl (Nat.le_of_ble_eq_true rfl) dX7_init_74 (fun H locs hP hD hS => ?_)
  have hP : va_P G.1 vwCl [(a0, .inr (7, [.ref q1, .ref q2, .ref q3, .ref q4, .ref q5, .int 0, .ref q6, .ref q7, .int 0, .int 0, .int 0, .int 0, .int 0, .ref q8, .ref q9, .null])), (q1, .inl (gI G, 104, .inl (fun _ => 0))), (q2, .inl (gI G, 104, .inl (fun _ => 0))), (q3, .inl (gI G, 208, .inl (fun _ => 0))), (q4, .inl (gZ G, 2, .inl (fun _ => 0))), (q5, .inl (gI G, 250, .inl (fun _ => 0))), (q6, .inl (gI G, 3, .inl (fun _ => 0))), (q7, .inl (gI G, 250, .inl (fun _ => 0))), (q8, .inl (gI G, 12, .inl (fun _ => 0))), (q9, .inl (gI G, 12, .inl (fun _ => 0)))] H := hP
  have hD : va_D A [(a0, .inr (7, [.ref q1, .ref q2, .ref q3, .ref q4, .ref q5, .int 0, .ref q6, .ref q7, .int 0, .int 0, .int 0, .int 0, .int 0, .ref q8, .ref q9, .null])), (q1, .inl (gI G, 104, .inl (fun _ => 0))), (q2, .inl (gI G, 104, .inl (fun _ => 0))), (q3, .inl (gI G, 208, .inl (fun _ => 0))), (q4, .inl (gZ G, 2, .inl (fun _ => 0))), (q5, .inl (gI G, 250, .inl (fun _ => 0))), (q6, .inl (gI G, 3, .inl (fun _ => 0))), (q7, .inl (gI G, 250, .inl (fun _ => 0))), (q8, .inl (gI G, 12, .inl (fun _ => 0))), (q9, .inl (gI G, 12, .inl (fun _ => 0)))] := hD
  refine lv_aload_n hx hb dX7_init_77 rfl (lv_at hl 0 rfl) ?_
  refine lv_bipush (v := 6) hx hb dX7_init_78 (by decide) ?_
  refine k_newI hx hb (hts _ mmX7_init_aI) hK hP hD hS hA 6 (by decide) (by decide) (by decide) (Nat.le_of_ble_eq_true rfl) (Nat.le_of_ble_eq_true rfl) dX7_init_80 (fun q10 H hP hD hS => ?_)
  have hP : va_P G.1 vwCl [(a0, .inr (7, [.ref q1, .ref q2, .ref q3, .ref q4, .ref q5, .int 0, .ref q6, .ref q7, .int 0, .int 0, .int 0, .int 0, .int 0, .ref q8, .ref q9, .null])), (q1, .inl (gI G, 104, .inl (fun _ => 0))), (q2, .inl (gI G, 104, .inl (fun _ => 0))), (q3, .inl (gI G, 208, .inl (fun _ => 0))), (q4, .inl (gZ G, 2, .inl (fun _ => 0))), (q5, .inl (gI G, 250, .inl (fun _ => 0))), (q6, .inl (gI G, 3, .inl (fun _ => 0))), (q7, .inl (gI G, 250, .inl (fun _ => 0))), (q8, .inl (gI G, 12, .inl (fun _ => 0))), (q9, .inl (gI G, 12, .inl (fun _ => 0))), (q10, .inl (gI G, 6, .inl (fun _ => 0)))] H := hP
  have hD : va_D A [(a0, .inr (7, [.ref q1, .ref q2, .ref q3, .ref q4, .ref q5, .int 0, .ref q6, .ref q7, .int 0, .int 0, .int 0, .int 0, .int 0, .ref q8, .ref q9, .null])), (q1, .inl (gI G, 104, .inl (fun _ => 0))), (q2, .inl (gI G, 104, .inl (fun _ => 0))), (q3, .inl (gI G, 208, .inl (fun _ => 0))), (q4, .inl (gZ G, 2, .inl (fun _ => 0))), (q5, .inl (gI G, 250, .inl (fun _ => 0))), (q6, .inl (gI G, 3, .inl (fun _ => 0))), (q7, .inl (gI G, 250, .inl (fun _ => 0))), (q8, .inl (gI G, 12, .inl (fun _ => 0))), (q9, .inl (gI G, 12, .inl (fun _ => 0))), (q10, .inl (gI G, 6, .inl (fun _ => 0)))] := hD
  refine W.widen (k := 10) (n := 951) (by decide) (by decide) ?_
  refine va_putF (D := G.1) (ci := 7) (v := .ref q10) (ty := tyX7 15) (C := RX7) (T := TX7) (N := 16) hx hb hts iiX7_init_X7 tyX7 tyX7_ok nmX7 hown hK hP hD hS 0 rfl rfl 15 (by decide) (hts (Cond.fieldLink RX7 38 "BlindBellsModel" "anywhere" "[I") (by decide +kernel)) (fun _ h9 => h9) rfl hin rfl (by decide +kernel) rfl rfl (Nat.le_of_ble_eq_true rfl) dX7_init_82 (fun H locs hP hD hS => ?_)
  have hP : va_P G.1 vwCl [(a0, .inr (7, [.ref q1, .ref q2, .ref q3, .ref q4, .ref q5, .int 0, .ref q6, .ref q7, .int 0, .int 0, .int 0, .int 0, .int 0, .ref q8, .ref q9, .ref q10])), (q1, .inl (gI G, 104, .inl (fun _ => 0))), (q2, .inl (gI G, 104, .inl (fun _ => 0))), (q3, .inl (gI G, 208, .inl (fun _ => 0))), (q4, .inl (gZ G, 2, .inl (fun _ => 0))), (q5, .inl (gI G, 250, .inl (fun _ => 0))), (q6, .inl (gI G, 3, .inl (fun _ => 0))), (q7, .inl (gI G, 250, .inl (fun _ => 0))), (q8, .inl (gI G, 12, .inl (fun _ => 0))), (q9, .inl (gI G, 12, .inl (fun _ => 0))), (q10, .inl (gI G, 6, .inl (fun _ => 0)))] H := hP
  have hD : va_D A [(a0, .inr (7, [.ref q1, .ref q2, .ref q3, .ref q4, .ref q5, .int 0, .ref q6, .ref q7, .int 0, .int 0, .int 0, .int 0, .int 0, .ref q8, .ref q9, .ref q10])), (q1, .inl (gI G, 104, .inl (fun _ => 0))), (q2, .inl (gI G, 104, .inl (fun _ => 0))), (q3, .inl (gI G, 208, .inl (fun _ => 0))), (q4, .inl (gZ G, 2, .inl (fun _ => 0))), (q5, .inl (gI G, 250, .inl (fun _ => 0))), (q6, .inl (gI G, 3, .inl (fun _ => 0))), (q7, .inl (gI G, 250, .inl (fun _ => 0))), (q8, .inl (gI G, 12, .inl (fun _ => 0))), (q9, .inl (gI G, 12, .inl (fun _ => 0))), (q10, .inl (gI G, 6, .inl (fun _ => 0)))] := hD
  refine lv_aload_n hx hb dX7_init_85 rfl (lv_at hl 0 rfl) ?_
  refine lv_iconst (v := 4) hx hb dX7_init_86 (by decide) ?_
  obtain ⟨bk, s1, s2, s3, s4⟩ := begins_ok (fun _ => 0) (n := 4) (by decide) (by decide)
  have hP : va_P G.1 vwCl (flat [wX7 G (adr [a0, q1, q2, q3, q4, q5, q6, q7, q8, q9, q10]) (fun _ => 0) (fun _ => 0) (fun _ => 0) (fun _ => 0) (fun _ => 0) 0 (fun _ => 0) (fun _ => 0) 0 0 0 0 0 (fun _ => 0) (fun _ => 0) (fun _ => 0)]) H := hP
  have hD : va_D A (flat [wX7 G (adr [a0, q1, q2, q3, q4, q5, q6, q7, q8, q9, q10]) (fun _ => 0) (fun _ => 0) (fun _ => 0) (fun _ => 0) (fun _ => 0) 0 (fun _ => 0) (fun _ => 0) 0 0 0 0 0 (fun _ => 0) (fun _ => 0) (fun _ => 0)]) := hD
  refine bVv (Bs' := [wX7 G (adr [a0, q1, q2, q3, q4, q5, q6, q7, q8, q9, q10]) bk (fun _ => 0) (fun _ => 0) (fun _ => 0) (fun _ => 0) 0 (fun _ => 0) (fun _ => 0) 0 0 0 0 0 (fun _ => 0) (fun _ => 0) (fun _ => 0)]) C hP hD hS (tX7_begins l G (adr [a0, q1, q2, q3, q4, q5, q6, q7, q8, q9, q10]) (fun _ => 0) (fun _ => 0) (fun _ => 0) (fun _ => 0) (fun _ => 0) 0 (fun _ => 0) (fun _ => 0) 0 0 0 0 0 (fun _ => 0) (fun _ => 0) (fun _ => 0) 4 bk s1) gX7_init_X7_begins rfl ⟨rfl, rfl⟩ hdX7_begins ⟨Nat.le_of_ble_eq_true rfl, Nat.le_of_ble_eq_true rfl⟩ rfl hl.1 rfl (Nat.le_of_ble_eq_true rfl) ⟨Nat.le_of_ble_eq_true rfl, Nat.le_of_ble_eq_true rfl⟩ [0] rfl rfl rfl rfl rfl (ci := 7) (q0 := 0) rfl rfl rfl dX7_init_87 (fun H locs hP hD hS => ?_)
  have hP9 : va_P G.1 vwCl ((fun (u : (Nat → Nat) × (Nat → Int32)) => wX7 G u.1 u.2 (fun _ => 0) (fun _ => 0) (fun _ => 0) (fun _ => 0) 0 (fun _ => 0) (fun _ => 0) 0 0 0 0 0 (fun _ => 0) (fun _ => 0) (fun _ => 0)) ((adr [a0, q1, q2, q3, q4, q5, q6, q7, q8, q9, q10], bk))) H := hP
  have hD9 : va_D A ((fun (u : (Nat → Nat) × (Nat → Int32)) => wX7 G u.1 u.2 (fun _ => 0) (fun _ => 0) (fun _ => 0) (fun _ => 0) 0 (fun _ => 0) (fun _ => 0) 0 0 0 0 0 (fun _ => 0) (fun _ => 0) (fun _ => 0)) ((adr [a0, q1, q2, q3, q4, q5, q6, q7, q8, q9, q10], bk))) := hD
  exact W.vret hx hb hr (fun t ht hW => ⟨⟨(adr [a0, q1, q2, q3, q4, q5, q6, q7, q8, q9, q10], bk), rfl, ⟨rfl, s2, s3, s4⟩, by rw [ht]; exact hP9, hD9⟩, hS.F ht⟩) hS.2.2 dX7_init_90 hlocks
