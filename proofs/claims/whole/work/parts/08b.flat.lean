/-! worlds as lists of bundles: calls by bundles -/
def flat : List va_W → va_W
  | [] => []
  | b :: bs => b ++ flat bs
theorem mem_flat {q : Nat × va_E} : ∀ {Bs : List va_W}, q ∈ flat Bs ↔ ∃ B ∈ Bs, q ∈ B
  | [] => by simp [flat]
  | b :: bs => by
    show q ∈ b ++ flat bs ↔ _
    rw [List.mem_append, mem_flat (Bs := bs)]
    simp
theorem P_mem {D : va_G} {cl : List vw_C} {ws : va_W} {H : Heap} : va_P D cl ws H ↔ ∀ q ∈ ws, va_at D cl q H :=
  ⟨fun h q hq => by obtain ⟨k, hk⟩ := List.mem_iff_getElem?.mp hq; exact h k q hk, fun h k q hk => h q (List.mem_of_getElem? hk)⟩
theorem D_app {A : Nat → Prop} {a b : va_W} (h : va_D A (a ++ b)) : va_D A a ∧ va_D A b ∧ ∀ p ∈ a, ∀ q ∈ b, p.1 ≠ q.1 := by
  have la : ∀ (i : Nat) (p : Nat × va_E), a[i]? = some p → (a ++ b)[i]? = some p := fun i p hi => by
    rw [List.getElem?_append_left (List.getElem?_eq_some_iff.mp hi).1]; exact hi
  have lb : ∀ (i : Nat) (p : Nat × va_E), b[i]? = some p → (a ++ b)[a.length + i]? = some p := fun i p hi => by
    rw [List.getElem?_append_right (Nat.le_add_right _ _), Nat.add_sub_cancel_left]; exact hi
  refine ⟨⟨fun i j p q hi hj e => h.1 i j p q (la i p hi) (la j q hj) e, fun k q hk => h.2 k q (la k q hk)⟩, ⟨fun i j p q hi hj e => ?_, fun k q hk => h.2 _ q (lb k q hk)⟩, fun p hp q hq e => ?_⟩
  · have := h.1 _ _ p q (lb i p hi) (lb j q hj) e; omega
  · obtain ⟨i, hi⟩ := List.mem_iff_getElem?.mp hp
    obtain ⟨j, hj⟩ := List.mem_iff_getElem?.mp hq
    have := h.1 _ _ p q (la i p hi) (lb j q hj) e
    have := (List.getElem?_eq_some_iff.mp hi).1
    omega
theorem D_bundle {A : Nat → Prop} : ∀ {Bs : List va_W}, va_D A (flat Bs) → ∀ B ∈ Bs, va_D A B
  | [], _, B, hB => by cases hB
  | b :: bs, h, B, hB => by
    obtain ⟨h1, h2, -⟩ := D_app (a := b) (b := flat bs) h
    rcases List.mem_cons.mp hB with rfl | hB
    · exact h1
    · exact D_bundle h2 B hB
theorem D_disj {A : Nat → Prop} : ∀ {Bs : List va_W}, va_D A (flat Bs) → ∀ (i j : Nat) (B C : va_W), Bs[i]? = some B → Bs[j]? = some C → i ≠ j → ∀ p ∈ B, ∀ q ∈ C, p.1 ≠ q.1
  | [], _, i, j, B, C, hi, _, _ => by simp at hi
  | b :: bs, h, i, j, B, C, hi, hj, hij => by
    obtain ⟨h1, h2, h3⟩ := D_app (a := b) (b := flat bs) h
    intro p hp q hq
    match i, j, hi, hj, hij with
    | 0, 0, _, _, hij => exact absurd rfl hij
    | 0, j + 1, hi, hj, _ =>
      cases hi
      exact h3 p hp q (mem_flat.mpr ⟨C, List.mem_of_getElem? hj, hq⟩)
    | i + 1, 0, hi, hj, _ =>
      cases hj
      exact fun e => h3 q hq p (mem_flat.mpr ⟨B, List.mem_of_getElem? hi, hp⟩) e.symm
    | i + 1, j + 1, hi, hj, hij => exact D_disj h2 i j B C hi hj (by omega) p hp q hq
theorem D_addr {A : Nat → Prop} {w1 w2 : va_W} (e : w1.map Prod.fst = w2.map Prod.fst) (h : va_D A w1) : va_D A w2 := by
  have key : ∀ (i : Nat) (p : Nat × va_E), w2[i]? = some p → ∃ q, w1[i]? = some q ∧ q.1 = p.1 := by
    intro i p hi
    have h1 : (w2.map Prod.fst)[i]? = some p.1 := by rw [List.getElem?_map, hi]; rfl
    rw [← e, List.getElem?_map] at h1
    cases hq : w1[i]? with
    | none => rw [hq] at h1; cases h1
    | some q => rw [hq] at h1; exact ⟨q, rfl, Option.some.inj h1⟩
  refine ⟨fun i j p q hi hj hpq => ?_, fun k q hk => ?_⟩
  · obtain ⟨p', h1, h2⟩ := key i p hi
    obtain ⟨q', h3, h4⟩ := key j q hj
    exact h.1 i j p' q' h1 h3 (by rw [h2, h4]; exact hpq)
  · obtain ⟨q', h1, h2⟩ := key k q hk
    rw [← h2]; exact h.2 k q' h1
/-- the bundles Cs are those of Bs at the places is -/
theorem pick_D {A : Nat → Prop} {Bs : List va_W} (hD : va_D A (flat Bs)) : ∀ (is : List Nat) (Cs : List va_W), va_nd is = true → is.map (fun i => Bs[i]?) = Cs.map some → va_D A (flat Cs) ∧ ∀ q ∈ flat Cs, ∃ i ∈ is, ∃ B, Bs[i]? = some B ∧ q ∈ B
  | [], [], _, _ => ⟨⟨fun i j p q h => by simp [flat] at h, fun k q h => by simp [flat] at h⟩, fun q h => by simp [flat] at h⟩
  | [], _ :: _, _, h => by simp at h
  | _ :: _, [], _, h => by simp at h
  | i :: is, C :: Cs, hn, h => by
    simp only [List.map_cons, List.cons.injEq] at h
    obtain ⟨h1, h2⟩ := h
    have hn2 : i ∉ is ∧ va_nd is = true := by
      simp only [va_nd, Bool.and_eq_true] at hn
      refine ⟨fun hm => ?_, hn.2⟩
      have := hn.1
      simp_all
    obtain ⟨d1, d2⟩ := pick_D hD is Cs hn2.2 h2
    refine ⟨va_D.app (D_bundle hD C (List.mem_of_getElem? h1)) d1 (fun a b p q ha hb e => ?_), fun q hq => ?_⟩
    · obtain ⟨j, hj, B, hB, hqB⟩ := d2 q (List.mem_of_getElem? hb)
      have hij : i ≠ j := fun z => hn2.1 (z ▸ hj)
      exact D_disj hD i j C B h1 hB hij p (List.mem_of_getElem? ha) q hqB e
    · rcases List.mem_append.mp hq with h3 | h3
      · exact ⟨i, List.mem_cons_self, C, h1, h3⟩
      · obtain ⟨j, hj, B, hB⟩ := d2 q h3
        exact ⟨j, List.mem_cons_of_mem _ hj, B, hB⟩
def setB : List va_W → List Nat → List va_W → List va_W
  | Bs, i :: is, x :: xs => setB (Bs.set i x) is xs
  | Bs, _, _ => Bs
theorem setB_mem : ∀ (is : List Nat) (xs Bs : List va_W), is.length = xs.length → ∀ B ∈ setB Bs is xs, B ∈ xs ∨ ∃ k, k ∉ is ∧ Bs[k]? = some B
  | [], [], Bs, _, B, h => by
    obtain ⟨k, hk⟩ := List.mem_iff_getElem?.mp h
    exact Or.inr ⟨k, by simp, hk⟩
  | [], _ :: _, _, h, _, _ => by simp at h
  | _ :: _, [], _, h, _, _ => by simp at h
  | i :: is, x :: xs, Bs, h, B, hB => by
    rcases setB_mem is xs (Bs.set i x) (by simpa using h) B hB with h1 | ⟨k, hk, h1⟩
    · exact Or.inl (List.mem_cons_of_mem _ h1)
    · by_cases e : i = k
      · subst e
        have hlen : i < Bs.length := by
          have := (List.getElem?_eq_some_iff.mp h1).1
          simpa using this
        rw [List.getElem?_set_self hlen] at h1
        cases h1
        exact Or.inl List.mem_cons_self
      · rw [List.getElem?_set_ne e] at h1
        exact Or.inr ⟨k, by simp only [List.mem_cons, not_or]; exact ⟨fun z => e z.symm, hk⟩, h1⟩
theorem joinB {D : va_G} {cl : List vw_C} {A0 : Nat → Prop} {Bs Cs C1 : List va_W} {H H1 : Heap} (hP : va_P D cl (flat Bs) H) (hD : va_D A0 (flat Bs)) (isB : List Nat) (hC : isB.map (fun i => Bs[i]?) = Cs.map some) (hlen : isB.length = C1.length)
    (hk : ∀ q : Nat, q < H.size → ¬ va_A (flat Cs) H.size q → H1[q]? = H[q]?) (hP1 : va_P D cl (flat C1) H1) : va_P D cl (flat (setB Bs isB C1)) H1 := by
  refine P_mem.mpr (fun q hq => ?_)
  obtain ⟨B, hB, hqB⟩ := mem_flat.mp hq
  rcases setB_mem isB C1 Bs hlen B hB with h | ⟨k, hk1, h⟩
  · exact P_mem.mp hP1 q (mem_flat.mpr ⟨B, h, hqB⟩)
  · have hat := P_mem.mp hP q (mem_flat.mpr ⟨B, List.mem_of_getElem? h, hqB⟩)
    refine hat.kept (hk q.1 hat.lt (fun hA => ?_))
    rcases hA with ⟨k2, e2, h3⟩ | h3
    · obtain ⟨C, hCm, hqC⟩ := mem_flat.mp (List.mem_of_getElem? h3)
      obtain ⟨j, hj⟩ := List.mem_iff_getElem?.mp hCm
      have h4 : (isB.map (fun i => Bs[i]?))[j]? = some (some C) := by rw [hC, List.getElem?_map, hj]; rfl
      rw [List.getElem?_map] at h4
      cases hi : isB[j]? with
      | none => rw [hi] at h4; cases h4
      | some i =>
        rw [hi] at h4
        have h5 : Bs[i]? = some C := Option.some.inj h4
        have hne : k ≠ i := fun z => hk1 (z ▸ List.mem_of_getElem? hi)
        exact D_disj hD k i B C h h5 hne q hqB (q.1, e2) hqC rfl
    · exact absurd hat.lt (by omega)
section LIBB
variable {p : Program} {l : Launch} {e : Env} {R : Room} {s : State} {m : MethodId} {args : Array Value} {below : List Frame} {meth : Method} {c : Code} {H : Heap} {locs : List Loc} {cells slots : Nat} {Q : State → Prop}
variable {cc : ByteArray} {nL : Nat} {Ts : List Cond} {own : String} {ret : Option FieldType} {G : GG} {A : Nat → Prop} {pc : Nat} {ls : Array Slot}
theorem freeB {A0 : Nat → Prop} {Bs Cs : List va_W} {H0 H : Heap} {locs : List Loc} (hD : va_D A0 (flat Bs)) (hS : va_S A0 H0 H locs) (hA : ∀ q, H0.size ≤ q → A0 q) (isB : List Nat) (hn : va_nd isB = true) (hC : isB.map (fun i => Bs[i]?) = Cs.map some) : ∀ q, va_A (flat Cs) H.size q → A0 q := by
  intro q hq
  rcases hq with ⟨k, e, h⟩ | h
  · exact (pick_D hD isB Cs hn hC).1.2 k (q, e) h
  · exact hA q (Nat.le_trans hS.1 h)
theorem preB_of {av : List Value} {Bs Cs : List va_W} (hK : va_K G.1 vwCl (tyG G) s) (hN : nwA s) (hE : stA G A s) (hA : ∀ q : Nat, s.heap.size ≤ q → A q) (hP : va_P G.1 vwCl (flat Bs) H) (hD : va_D A (flat Bs)) (hS : va_S A s.heap H locs) (isB : List Nat) (hn : va_nd isB = true) (hC : isB.map (fun i => Bs[i]?) = Cs.map some) : PreS s H (va_Pc av (cPre G (flat Cs) H.size)) av := by
  have hF := freeB hD hS hA isB hn hC
  obtain ⟨hDc, hm⟩ := pick_D hD isB Cs hn hC
  have hPc : va_P G.1 vwCl (flat Cs) H := P_mem.mpr (fun q hq => by
    obtain ⟨i, -, B, hB, hqB⟩ := hm q hq
    exact P_mem.mp hP q (mem_flat.mpr ⟨B, List.mem_of_getElem? hB, hqB⟩))
  exact ⟨fb_cPre, fun U hU hW => ⟨rfl, by rw [hU], by rw [hU]; exact hPc, va_K.moved hW.alike hK, hDc.weaken (fun _ _ _ _ => trivial), nwA.warm hW hN, stA.go hS hF hU hW hE⟩⟩
theorem bci {Bs Cs C1 Bs' : List va_W} {r : Int32} {rest st0 : List Value} {a : Array Value} (C : Cx p m c cc nL s args Ts own meth ret G A) (hP : va_P G.1 vwCl (flat Bs) H) (hD : va_D A (flat Bs)) (hS : va_S A s.heap H locs) (isB : List Nat) (hnd : va_nd isB = true) (hC : isB.map (fun i => Bs[i]?) = Cs.map some) (hlen : isB.length = C1.length) (hset : setB Bs isB C1 = Bs') (hadr : (flat Bs).map Prod.fst = (flat Bs').map Prod.fst)
    (hr : va_Run p l e R s m args below meth c H locs cells slots 0 0 (F0 m pc ls st0) rest (QI G (va_A (flat Cs) H.size) r (flat C1) a) (va_A (flat Cs) H.size))
    (kk : ∀ (H1 : Heap) (locs1 : List Loc), va_P G.1 vwCl (flat Bs') H1 → va_D A (flat Bs') → va_S A s.heap H1 locs1 → W p l e R s m args below meth c H1 locs1 cells slots Q (F0 m (pc + 3) ls (.int r :: rest))) : W p l e R s m args below meth c H locs cells slots Q (F0 m pc ls st0) := by
  obtain ⟨-, -, -, -, -, -, hA⟩ := C
  have hF := freeB hD hS hA isB hnd hC
  refine va_calli hr hS (fun q _ h => hF q h) hF (fun r1 u t H1 locs1 ht hvm hw hB hz1 hk1 hS1 => ?_)
  have hw : r1 = r := hw
  subst hw
  have hP1 : va_P G.1 vwCl (flat C1) H1 := by have h := hB; unfold cEnd at h; rw [ht] at h; exact h
  have hP2 := joinB hP hD isB hC hlen hk1 hP1
  rw [hset] at hP2
  exact kk H1 locs1 hP2 (D_addr hadr hD) hS1
theorem bcl {Bs Cs C1 Bs' : List va_W} {r : Int64} {rest st0 : List Value} {a : Array Value} (C : Cx p m c cc nL s args Ts own meth ret G A) (hP : va_P G.1 vwCl (flat Bs) H) (hD : va_D A (flat Bs)) (hS : va_S A s.heap H locs) (isB : List Nat) (hnd : va_nd isB = true) (hC : isB.map (fun i => Bs[i]?) = Cs.map some) (hlen : isB.length = C1.length) (hset : setB Bs isB C1 = Bs') (hadr : (flat Bs).map Prod.fst = (flat Bs').map Prod.fst)
    (hr : va_Run p l e R s m args below meth c H locs cells slots 0 0 (F0 m pc ls st0) rest (QL G (va_A (flat Cs) H.size) r (flat C1) a) (va_A (flat Cs) H.size))
    (kk : ∀ (H1 : Heap) (locs1 : List Loc), va_P G.1 vwCl (flat Bs') H1 → va_D A (flat Bs') → va_S A s.heap H1 locs1 → W p l e R s m args below meth c H1 locs1 cells slots Q (F0 m (pc + 3) ls (.long r :: rest))) : W p l e R s m args below meth c H locs cells slots Q (F0 m pc ls st0) := by
  obtain ⟨-, -, -, -, -, -, hA⟩ := C
  have hF := freeB hD hS hA isB hnd hC
  refine va_calll hr hS (fun q _ h => hF q h) hF (fun r1 u t H1 locs1 ht hvm hw hB hz1 hk1 hS1 => ?_)
  have hw : r1 = r := hw
  subst hw
  have hP1 : va_P G.1 vwCl (flat C1) H1 := by have h := hB; unfold cEnd at h; rw [ht] at h; exact h
  have hP2 := joinB hP hD isB hC hlen hk1 hP1
  rw [hset] at hP2
  exact kk H1 locs1 hP2 (D_addr hadr hD) hS1
theorem bcv {Bs Cs C1 Bs' : List va_W} {rest st0 : List Value} {a : Array Value} (C : Cx p m c cc nL s args Ts own meth ret G A) (hP : va_P G.1 vwCl (flat Bs) H) (hD : va_D A (flat Bs)) (hS : va_S A s.heap H locs) (isB : List Nat) (hnd : va_nd isB = true) (hC : isB.map (fun i => Bs[i]?) = Cs.map some) (hlen : isB.length = C1.length) (hset : setB Bs isB C1 = Bs') (hadr : (flat Bs).map Prod.fst = (flat Bs').map Prod.fst)
    (hr : va_Run p l e R s m args below meth c H locs cells slots 0 0 (F0 m pc ls st0) rest (QV G (va_A (flat Cs) H.size) (flat C1) a) (va_A (flat Cs) H.size))
    (kk : ∀ (H1 : Heap) (locs1 : List Loc), va_P G.1 vwCl (flat Bs') H1 → va_D A (flat Bs') → va_S A s.heap H1 locs1 → W p l e R s m args below meth c H1 locs1 cells slots Q (F0 m (pc + 3) ls (rest))) : W p l e R s m args below meth c H locs cells slots Q (F0 m pc ls st0) := by
  obtain ⟨-, -, -, -, -, -, hA⟩ := C
  have hF := freeB hD hS hA isB hnd hC
  refine va_callv hr hS (fun q _ h => hF q h) hF (fun u t H1 locs1 ht hvm hw hB hz1 hk1 hS1 => ?_)
  skip
  have hP1 : va_P G.1 vwCl (flat C1) H1 := by have h := hB; unfold cEnd at h; rw [ht] at h; exact h
  have hP2 := joinB hP hD isB hC hlen hk1 hP1
  rw [hset] at hP2
  exact kk H1 locs1 hP2 (D_addr hadr hD) hS1
theorem bVi {y : MethodName} {wds wds' : List Cond} {rm : Room} {index maxL n : Nat} {bytes : ByteArray} {rt : Option FieldType} {As rest st0 : List Value} {Bs Cs C1 Bs' : List va_W} {r : Int32} {C0 : String} {b : Nat} {q0 ci : Nat} {q : vw_C} {fs : List Value} (C : Cx p m c cc nL s args Ts own meth ret G A) (hP : va_P G.1 vwCl (flat Bs) H) (hD : va_D A (flat Bs)) (hS : va_S A s.heap H locs) (hM : cMi l G y wds rm (.ref b :: As) (flat Cs) r (flat C1)) (hG : GoodIn Ts (wsV own index C0 y wds)) (hw : wds = Cond.code y bytes maxL rt :: wds') (hrm : rm.cells = 0 ∧ rm.slots = 0) (hd : y.cls = C0 ∧ y.cls ≠ "java/lang/invoke/MethodHandle" ∧ y.cls ≠ "java/lang/invoke/VarHandle" ∧ (parseMethodDescriptor y.desc).map (fun d => d.parameters.length) = some n) (hR : rm.frames + 1 ≤ R.frames ∧ 8 + (maxL + 11) + rm.locals ≤ R.locals) (hn : As.length = n) (hsz : ls.size = nL) (hst : st0 = As.reverse ++ .ref b :: rest) (hW : (rest.map fun v => v.category).sum ≤ 8) (hcs : cells + 0 ≤ R.cells ∧ slots + 0 ≤ R.slots) (isB : List Nat) (hnd : va_nd isB = true) (hC : isB.map (fun i => Bs[i]?) = Cs.map some) (hlen : isB.length = C1.length) (hset : setB Bs isB C1 = Bs') (hadr : (flat Bs).map Prod.fst = (flat Bs').map Prod.fst) (hc : vwCl[ci]? = some q) (hq : q.1 = C0) (he : (flat Bs)[q0]? = some (b, .inr (ci, fs))) (hdg : decode cc pc = .ok (.invokevirtual index, 3))
    (kk : ∀ (H1 : Heap) (locs1 : List Loc), va_P G.1 vwCl (flat Bs') H1 → va_D A (flat Bs') → va_S A s.heap H1 locs1 → W p l e R s m args below meth c H1 locs1 cells slots Q (F0 m (pc + 3) ls (.int r :: rest))) : W p l e R s m args below meth c H locs cells slots Q (F0 m pc ls st0) := by
  obtain ⟨S, -, -, hK, hN, hE, hA⟩ := id C
  have hpre := preB_of (av := (.ref b :: As)) hK hN hE hA hP hD hS isB hnd hC
  have hrv : ∃ cell : Cell, H[b]? = some cell ∧ cell.vm.isStatics = false ∧ s.vm.findClass C0 = some cell.cls := by rw [← hq]; exact va_recv hK hP hc he
  refine bci (C1 := C1) C hP hD hS isB hnd hC hlen hset hadr (va_runV S (hM H.size) (cwV n S.2.2.2.2 hG hw hrm.1 hrm.2 hd hR) ⟨hpre.1, hrv, hpre.2⟩ rfl hn hsz hst (lv_room hW) hdg hcs) kk
theorem bVl {y : MethodName} {wds wds' : List Cond} {rm : Room} {index maxL n : Nat} {bytes : ByteArray} {rt : Option FieldType} {As rest st0 : List Value} {Bs Cs C1 Bs' : List va_W} {r : Int64} {C0 : String} {b : Nat} {q0 ci : Nat} {q : vw_C} {fs : List Value} (C : Cx p m c cc nL s args Ts own meth ret G A) (hP : va_P G.1 vwCl (flat Bs) H) (hD : va_D A (flat Bs)) (hS : va_S A s.heap H locs) (hM : cMl l G y wds rm (.ref b :: As) (flat Cs) r (flat C1)) (hG : GoodIn Ts (wsV own index C0 y wds)) (hw : wds = Cond.code y bytes maxL rt :: wds') (hrm : rm.cells = 0 ∧ rm.slots = 0) (hd : y.cls = C0 ∧ y.cls ≠ "java/lang/invoke/MethodHandle" ∧ y.cls ≠ "java/lang/invoke/VarHandle" ∧ (parseMethodDescriptor y.desc).map (fun d => d.parameters.length) = some n) (hR : rm.frames + 1 ≤ R.frames ∧ 8 + (maxL + 11) + rm.locals ≤ R.locals) (hn : As.length = n) (hsz : ls.size = nL) (hst : st0 = As.reverse ++ .ref b :: rest) (hW : (rest.map fun v => v.category).sum ≤ 8) (hcs : cells + 0 ≤ R.cells ∧ slots + 0 ≤ R.slots) (isB : List Nat) (hnd : va_nd isB = true) (hC : isB.map (fun i => Bs[i]?) = Cs.map some) (hlen : isB.length = C1.length) (hset : setB Bs isB C1 = Bs') (hadr : (flat Bs).map Prod.fst = (flat Bs').map Prod.fst) (hc : vwCl[ci]? = some q) (hq : q.1 = C0) (he : (flat Bs)[q0]? = some (b, .inr (ci, fs))) (hdg : decode cc pc = .ok (.invokevirtual index, 3))
    (kk : ∀ (H1 : Heap) (locs1 : List Loc), va_P G.1 vwCl (flat Bs') H1 → va_D A (flat Bs') → va_S A s.heap H1 locs1 → W p l e R s m args below meth c H1 locs1 cells slots Q (F0 m (pc + 3) ls (.long r :: rest))) : W p l e R s m args below meth c H locs cells slots Q (F0 m pc ls st0) := by
  obtain ⟨S, -, -, hK, hN, hE, hA⟩ := id C
  have hpre := preB_of (av := (.ref b :: As)) hK hN hE hA hP hD hS isB hnd hC
  have hrv : ∃ cell : Cell, H[b]? = some cell ∧ cell.vm.isStatics = false ∧ s.vm.findClass C0 = some cell.cls := by rw [← hq]; exact va_recv hK hP hc he
  refine bcl (C1 := C1) C hP hD hS isB hnd hC hlen hset hadr (va_runV S (hM H.size) (cwV n S.2.2.2.2 hG hw hrm.1 hrm.2 hd hR) ⟨hpre.1, hrv, hpre.2⟩ rfl hn hsz hst (lv_room hW) hdg hcs) kk
theorem bVv {y : MethodName} {wds wds' : List Cond} {rm : Room} {index maxL n : Nat} {bytes : ByteArray} {rt : Option FieldType} {As rest st0 : List Value} {Bs Cs C1 Bs' : List va_W} {C0 : String} {b : Nat} {q0 ci : Nat} {q : vw_C} {fs : List Value} (C : Cx p m c cc nL s args Ts own meth ret G A) (hP : va_P G.1 vwCl (flat Bs) H) (hD : va_D A (flat Bs)) (hS : va_S A s.heap H locs) (hM : cMv l G y wds rm (.ref b :: As) (flat Cs) (flat C1)) (hG : GoodIn Ts (wsV own index C0 y wds)) (hw : wds = Cond.code y bytes maxL rt :: wds') (hrm : rm.cells = 0 ∧ rm.slots = 0) (hd : y.cls = C0 ∧ y.cls ≠ "java/lang/invoke/MethodHandle" ∧ y.cls ≠ "java/lang/invoke/VarHandle" ∧ (parseMethodDescriptor y.desc).map (fun d => d.parameters.length) = some n) (hR : rm.frames + 1 ≤ R.frames ∧ 8 + (maxL + 11) + rm.locals ≤ R.locals) (hn : As.length = n) (hsz : ls.size = nL) (hst : st0 = As.reverse ++ .ref b :: rest) (hW : (rest.map fun v => v.category).sum ≤ 8) (hcs : cells + 0 ≤ R.cells ∧ slots + 0 ≤ R.slots) (isB : List Nat) (hnd : va_nd isB = true) (hC : isB.map (fun i => Bs[i]?) = Cs.map some) (hlen : isB.length = C1.length) (hset : setB Bs isB C1 = Bs') (hadr : (flat Bs).map Prod.fst = (flat Bs').map Prod.fst) (hc : vwCl[ci]? = some q) (hq : q.1 = C0) (he : (flat Bs)[q0]? = some (b, .inr (ci, fs))) (hdg : decode cc pc = .ok (.invokevirtual index, 3))
    (kk : ∀ (H1 : Heap) (locs1 : List Loc), va_P G.1 vwCl (flat Bs') H1 → va_D A (flat Bs') → va_S A s.heap H1 locs1 → W p l e R s m args below meth c H1 locs1 cells slots Q (F0 m (pc + 3) ls (rest))) : W p l e R s m args below meth c H locs cells slots Q (F0 m pc ls st0) := by
  obtain ⟨S, -, -, hK, hN, hE, hA⟩ := id C
  have hpre := preB_of (av := (.ref b :: As)) hK hN hE hA hP hD hS isB hnd hC
  have hrv : ∃ cell : Cell, H[b]? = some cell ∧ cell.vm.isStatics = false ∧ s.vm.findClass C0 = some cell.cls := by rw [← hq]; exact va_recv hK hP hc he
  refine bcv (C1 := C1) C hP hD hS isB hnd hC hlen hset hadr (va_runV S (hM H.size) (cwV n S.2.2.2.2 hG hw hrm.1 hrm.2 hd hR) ⟨hpre.1, hrv, hpre.2⟩ rfl hn hsz hst (lv_room hW) hdg hcs) kk
theorem bSi {y : MethodName} {wds wds' : List Cond} {rm : Room} {index maxL n : Nat} {bytes : ByteArray} {rt : Option FieldType} {As rest st0 : List Value} {Bs Cs C1 Bs' : List va_W} {r : Int32} (C : Cx p m c cc nL s args Ts own meth ret G A) (hP : va_P G.1 vwCl (flat Bs) H) (hD : va_D A (flat Bs)) (hS : va_S A s.heap H locs) (hM : cMi l G y wds rm As (flat Cs) r (flat C1)) (hG : GoodIn Ts (va_wsS own index y wds)) (hw : wds = Cond.code y bytes maxL rt :: wds') (hrm : rm.cells = 0 ∧ rm.slots = 0) (hd : y.cls ≠ "java/lang/invoke/MethodHandle" ∧ y.cls ≠ "java/lang/invoke/VarHandle" ∧ (parseMethodDescriptor y.desc).map (fun d => d.parameters.length) = some n) (hR : rm.frames + 1 ≤ R.frames ∧ 8 + (maxL + 11) + rm.locals ≤ R.locals) (hn : As.length = n) (hsz : ls.size = nL) (hst : st0 = As.reverse ++ rest) (hW : (rest.map fun v => v.category).sum ≤ 8) (hcs : cells + 0 ≤ R.cells ∧ slots + 0 ≤ R.slots) (isB : List Nat) (hnd : va_nd isB = true) (hC : isB.map (fun i => Bs[i]?) = Cs.map some) (hlen : isB.length = C1.length) (hset : setB Bs isB C1 = Bs') (hadr : (flat Bs).map Prod.fst = (flat Bs').map Prod.fst) (hdg : decode cc pc = .ok (.invokestatic index, 3))
    (kk : ∀ (H1 : Heap) (locs1 : List Loc), va_P G.1 vwCl (flat Bs') H1 → va_D A (flat Bs') → va_S A s.heap H1 locs1 → W p l e R s m args below meth c H1 locs1 cells slots Q (F0 m (pc + 3) ls (.int r :: rest))) : W p l e R s m args below meth c H locs cells slots Q (F0 m pc ls st0) := by
  obtain ⟨S, -, -, hK, hN, hE, hA⟩ := id C
  have hpre := preB_of (av := As) hK hN hE hA hP hD hS isB hnd hC
  refine bci (C1 := C1) C hP hD hS isB hnd hC hlen hset hadr (va_runS S (hM H.size) (va_cwS n S.2.2.2.2 hG hw hrm.1 hrm.2 hd hR) hpre rfl hn hsz hst (lv_room hW) hdg hcs) kk
theorem bSl {y : MethodName} {wds wds' : List Cond} {rm : Room} {index maxL n : Nat} {bytes : ByteArray} {rt : Option FieldType} {As rest st0 : List Value} {Bs Cs C1 Bs' : List va_W} {r : Int64} (C : Cx p m c cc nL s args Ts own meth ret G A) (hP : va_P G.1 vwCl (flat Bs) H) (hD : va_D A (flat Bs)) (hS : va_S A s.heap H locs) (hM : cMl l G y wds rm As (flat Cs) r (flat C1)) (hG : GoodIn Ts (va_wsS own index y wds)) (hw : wds = Cond.code y bytes maxL rt :: wds') (hrm : rm.cells = 0 ∧ rm.slots = 0) (hd : y.cls ≠ "java/lang/invoke/MethodHandle" ∧ y.cls ≠ "java/lang/invoke/VarHandle" ∧ (parseMethodDescriptor y.desc).map (fun d => d.parameters.length) = some n) (hR : rm.frames + 1 ≤ R.frames ∧ 8 + (maxL + 11) + rm.locals ≤ R.locals) (hn : As.length = n) (hsz : ls.size = nL) (hst : st0 = As.reverse ++ rest) (hW : (rest.map fun v => v.category).sum ≤ 8) (hcs : cells + 0 ≤ R.cells ∧ slots + 0 ≤ R.slots) (isB : List Nat) (hnd : va_nd isB = true) (hC : isB.map (fun i => Bs[i]?) = Cs.map some) (hlen : isB.length = C1.length) (hset : setB Bs isB C1 = Bs') (hadr : (flat Bs).map Prod.fst = (flat Bs').map Prod.fst) (hdg : decode cc pc = .ok (.invokestatic index, 3))
    (kk : ∀ (H1 : Heap) (locs1 : List Loc), va_P G.1 vwCl (flat Bs') H1 → va_D A (flat Bs') → va_S A s.heap H1 locs1 → W p l e R s m args below meth c H1 locs1 cells slots Q (F0 m (pc + 3) ls (.long r :: rest))) : W p l e R s m args below meth c H locs cells slots Q (F0 m pc ls st0) := by
  obtain ⟨S, -, -, hK, hN, hE, hA⟩ := id C
  have hpre := preB_of (av := As) hK hN hE hA hP hD hS isB hnd hC
  refine bcl (C1 := C1) C hP hD hS isB hnd hC hlen hset hadr (va_runS S (hM H.size) (va_cwS n S.2.2.2.2 hG hw hrm.1 hrm.2 hd hR) hpre rfl hn hsz hst (lv_room hW) hdg hcs) kk
theorem bSv {y : MethodName} {wds wds' : List Cond} {rm : Room} {index maxL n : Nat} {bytes : ByteArray} {rt : Option FieldType} {As rest st0 : List Value} {Bs Cs C1 Bs' : List va_W} (C : Cx p m c cc nL s args Ts own meth ret G A) (hP : va_P G.1 vwCl (flat Bs) H) (hD : va_D A (flat Bs)) (hS : va_S A s.heap H locs) (hM : cMv l G y wds rm As (flat Cs) (flat C1)) (hG : GoodIn Ts (va_wsS own index y wds)) (hw : wds = Cond.code y bytes maxL rt :: wds') (hrm : rm.cells = 0 ∧ rm.slots = 0) (hd : y.cls ≠ "java/lang/invoke/MethodHandle" ∧ y.cls ≠ "java/lang/invoke/VarHandle" ∧ (parseMethodDescriptor y.desc).map (fun d => d.parameters.length) = some n) (hR : rm.frames + 1 ≤ R.frames ∧ 8 + (maxL + 11) + rm.locals ≤ R.locals) (hn : As.length = n) (hsz : ls.size = nL) (hst : st0 = As.reverse ++ rest) (hW : (rest.map fun v => v.category).sum ≤ 8) (hcs : cells + 0 ≤ R.cells ∧ slots + 0 ≤ R.slots) (isB : List Nat) (hnd : va_nd isB = true) (hC : isB.map (fun i => Bs[i]?) = Cs.map some) (hlen : isB.length = C1.length) (hset : setB Bs isB C1 = Bs') (hadr : (flat Bs).map Prod.fst = (flat Bs').map Prod.fst) (hdg : decode cc pc = .ok (.invokestatic index, 3))
    (kk : ∀ (H1 : Heap) (locs1 : List Loc), va_P G.1 vwCl (flat Bs') H1 → va_D A (flat Bs') → va_S A s.heap H1 locs1 → W p l e R s m args below meth c H1 locs1 cells slots Q (F0 m (pc + 3) ls (rest))) : W p l e R s m args below meth c H locs cells slots Q (F0 m pc ls st0) := by
  obtain ⟨S, -, -, hK, hN, hE, hA⟩ := id C
  have hpre := preB_of (av := As) hK hN hE hA hP hD hS isB hnd hC
  refine bcv (C1 := C1) C hP hD hS isB hnd hC hlen hset hadr (va_runS S (hM H.size) (va_cwS n S.2.2.2.2 hG hw hrm.1 hrm.2 hd hR) hpre rfl hn hsz hst (lv_room hW) hdg hcs) kk
theorem bNi {y : MethodName} {wds wds' : List Cond} {rm : Room} {index maxL n : Nat} {bytes : ByteArray} {rt : Option FieldType} {As rest st0 : List Value} {Bs Cs C1 Bs' : List va_W} {r : Int32} {host : String} (C : Cx p m c cc nL s args Ts own meth ret G A) (hP : va_P G.1 vwCl (flat Bs) H) (hD : va_D A (flat Bs)) (hS : va_S A s.heap H locs) (hM : cMi l G y wds rm As (flat Cs) r (flat C1)) (hG : GoodIn Ts wds) (hlk : va_Nw (.methodLinkNest own index y host) s) (hst1 : (Cond.static y).before args s = true) (hini : (Cond.initialized y.cls).before args s = true) (hw : wds = Cond.code y bytes maxL rt :: wds') (hrm : rm.cells = 0 ∧ rm.slots = 0) (hd : y.cls ≠ "java/lang/invoke/MethodHandle" ∧ y.cls ≠ "java/lang/invoke/VarHandle" ∧ (parseMethodDescriptor y.desc).map (fun d => d.parameters.length) = some n) (hR : rm.frames + 1 ≤ R.frames ∧ 8 + (maxL + 11) + rm.locals ≤ R.locals) (hn : As.length = n) (hsz : ls.size = nL) (hst : st0 = As.reverse ++ rest) (hW : (rest.map fun v => v.category).sum ≤ 8) (hcs : cells + 0 ≤ R.cells ∧ slots + 0 ≤ R.slots) (isB : List Nat) (hnd : va_nd isB = true) (hC : isB.map (fun i => Bs[i]?) = Cs.map some) (hlen : isB.length = C1.length) (hset : setB Bs isB C1 = Bs') (hadr : (flat Bs).map Prod.fst = (flat Bs').map Prod.fst) (hdg : decode cc pc = .ok (.invokestatic index, 3))
    (kk : ∀ (H1 : Heap) (locs1 : List Loc), va_P G.1 vwCl (flat Bs') H1 → va_D A (flat Bs') → va_S A s.heap H1 locs1 → W p l e R s m args below meth c H1 locs1 cells slots Q (F0 m (pc + 3) ls (.int r :: rest))) : W p l e R s m args below meth c H locs cells slots Q (F0 m pc ls st0) := by
  obtain ⟨S, -, -, hK, hN, hE, hA⟩ := id C
  have hpre := preB_of (av := As) hK hN hE hA hP hD hS isB hnd hC
  refine bci (C1 := C1) C hP hD hS isB hnd hC hlen hset hadr (va_runSN S (hM H.size) ⟨va_cnB n S.2.2.2.2 hG hw hrm.1 hrm.2 hlk hini hd hR, hst1, trivial⟩ hpre rfl hn hsz hst (lv_room hW) hdg hcs) kk
theorem bNl {y : MethodName} {wds wds' : List Cond} {rm : Room} {index maxL n : Nat} {bytes : ByteArray} {rt : Option FieldType} {As rest st0 : List Value} {Bs Cs C1 Bs' : List va_W} {r : Int64} {host : String} (C : Cx p m c cc nL s args Ts own meth ret G A) (hP : va_P G.1 vwCl (flat Bs) H) (hD : va_D A (flat Bs)) (hS : va_S A s.heap H locs) (hM : cMl l G y wds rm As (flat Cs) r (flat C1)) (hG : GoodIn Ts wds) (hlk : va_Nw (.methodLinkNest own index y host) s) (hst1 : (Cond.static y).before args s = true) (hini : (Cond.initialized y.cls).before args s = true) (hw : wds = Cond.code y bytes maxL rt :: wds') (hrm : rm.cells = 0 ∧ rm.slots = 0) (hd : y.cls ≠ "java/lang/invoke/MethodHandle" ∧ y.cls ≠ "java/lang/invoke/VarHandle" ∧ (parseMethodDescriptor y.desc).map (fun d => d.parameters.length) = some n) (hR : rm.frames + 1 ≤ R.frames ∧ 8 + (maxL + 11) + rm.locals ≤ R.locals) (hn : As.length = n) (hsz : ls.size = nL) (hst : st0 = As.reverse ++ rest) (hW : (rest.map fun v => v.category).sum ≤ 8) (hcs : cells + 0 ≤ R.cells ∧ slots + 0 ≤ R.slots) (isB : List Nat) (hnd : va_nd isB = true) (hC : isB.map (fun i => Bs[i]?) = Cs.map some) (hlen : isB.length = C1.length) (hset : setB Bs isB C1 = Bs') (hadr : (flat Bs).map Prod.fst = (flat Bs').map Prod.fst) (hdg : decode cc pc = .ok (.invokestatic index, 3))
    (kk : ∀ (H1 : Heap) (locs1 : List Loc), va_P G.1 vwCl (flat Bs') H1 → va_D A (flat Bs') → va_S A s.heap H1 locs1 → W p l e R s m args below meth c H1 locs1 cells slots Q (F0 m (pc + 3) ls (.long r :: rest))) : W p l e R s m args below meth c H locs cells slots Q (F0 m pc ls st0) := by
  obtain ⟨S, -, -, hK, hN, hE, hA⟩ := id C
  have hpre := preB_of (av := As) hK hN hE hA hP hD hS isB hnd hC
  refine bcl (C1 := C1) C hP hD hS isB hnd hC hlen hset hadr (va_runSN S (hM H.size) ⟨va_cnB n S.2.2.2.2 hG hw hrm.1 hrm.2 hlk hini hd hR, hst1, trivial⟩ hpre rfl hn hsz hst (lv_room hW) hdg hcs) kk
theorem bNv {y : MethodName} {wds wds' : List Cond} {rm : Room} {index maxL n : Nat} {bytes : ByteArray} {rt : Option FieldType} {As rest st0 : List Value} {Bs Cs C1 Bs' : List va_W} {host : String} (C : Cx p m c cc nL s args Ts own meth ret G A) (hP : va_P G.1 vwCl (flat Bs) H) (hD : va_D A (flat Bs)) (hS : va_S A s.heap H locs) (hM : cMv l G y wds rm As (flat Cs) (flat C1)) (hG : GoodIn Ts wds) (hlk : va_Nw (.methodLinkNest own index y host) s) (hst1 : (Cond.static y).before args s = true) (hini : (Cond.initialized y.cls).before args s = true) (hw : wds = Cond.code y bytes maxL rt :: wds') (hrm : rm.cells = 0 ∧ rm.slots = 0) (hd : y.cls ≠ "java/lang/invoke/MethodHandle" ∧ y.cls ≠ "java/lang/invoke/VarHandle" ∧ (parseMethodDescriptor y.desc).map (fun d => d.parameters.length) = some n) (hR : rm.frames + 1 ≤ R.frames ∧ 8 + (maxL + 11) + rm.locals ≤ R.locals) (hn : As.length = n) (hsz : ls.size = nL) (hst : st0 = As.reverse ++ rest) (hW : (rest.map fun v => v.category).sum ≤ 8) (hcs : cells + 0 ≤ R.cells ∧ slots + 0 ≤ R.slots) (isB : List Nat) (hnd : va_nd isB = true) (hC : isB.map (fun i => Bs[i]?) = Cs.map some) (hlen : isB.length = C1.length) (hset : setB Bs isB C1 = Bs') (hadr : (flat Bs).map Prod.fst = (flat Bs').map Prod.fst) (hdg : decode cc pc = .ok (.invokestatic index, 3))
    (kk : ∀ (H1 : Heap) (locs1 : List Loc), va_P G.1 vwCl (flat Bs') H1 → va_D A (flat Bs') → va_S A s.heap H1 locs1 → W p l e R s m args below meth c H1 locs1 cells slots Q (F0 m (pc + 3) ls (rest))) : W p l e R s m args below meth c H locs cells slots Q (F0 m pc ls st0) := by
  obtain ⟨S, -, -, hK, hN, hE, hA⟩ := id C
  have hpre := preB_of (av := As) hK hN hE hA hP hD hS isB hnd hC
  refine bcv (C1 := C1) C hP hD hS isB hnd hC hlen hset hadr (va_runSN S (hM H.size) ⟨va_cnB n S.2.2.2.2 hG hw hrm.1 hrm.2 hlk hini hd hR, hst1, trivial⟩ hpre rfl hn hsz hst (lv_room hW) hdg hcs) kk
theorem setB_same : ∀ (is : List Nat) (Cs Bs : List va_W), is.map (fun i => Bs[i]?) = Cs.map some → setB Bs is Cs = Bs
  | [], [], _, _ => rfl
  | [], _ :: _, _, h => by simp at h
  | _ :: _, [], _, h => by simp at h
  | i :: is, x :: xs, Bs, h => by
    simp only [List.map_cons, List.cons.injEq] at h
    obtain ⟨h2, h3⟩ := h
    have e : Bs.set i x = Bs := by
      apply List.ext_getElem?
      intro j
      by_cases hj : i = j
      · subst hj
        rw [List.getElem?_set_self (List.getElem?_eq_some_iff.mp h2).1, h2]
      · rw [List.getElem?_set_ne hj]
    show setB (Bs.set i x) is xs = Bs
    rw [e]
    exact setB_same is xs Bs h3
end LIBB
