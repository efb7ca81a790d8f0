/-! What the constructors need beside their cells: the six String constants, two statics, the links of the nest, an array class. -/
def sLen : List Nat := [4, 4, 4, 2, 6, 5]
def sByt : List (List Int32) := [[119, 111, 114, 100], [112, 97, 105, 114], [114, 117, 108, 101], [111, 114], [108, 101, 110, 103, 116, 104], [116, 117, 114, 110, 115]]
def sK : Nat → Nat := fun i => match i with
  | 0 => 9
  | 1 => 17
  | 2 => 19
  | 3 => 21
  | 4 => 23
  | _ => 25
def sTx : Nat → String := fun i => match i with
  | 0 => "word"
  | 1 => "pair"
  | 2 => "rule"
  | 3 => "or"
  | 4 => "length"
  | _ => "turns"
def sNo : Nat → String := fun i => match i with
  | 7 => RX2
  | _ => RX10
def sNi : Nat → Nat := fun i => match i with
  | 0 => 15
  | 1 => 39
  | 2 => 46
  | 3 => 53
  | 4 => 60
  | 5 => 67
  | 6 => 80
  | _ => 11
def sNy : Nat → MethodName := fun i => match i with
  | 0 => yX2_init
  | 1 => yX1_init
  | 2 => yX5_init
  | 3 => yX7_init
  | 4 => yX3_init
  | 5 => yX9_init
  | 6 => yX6_init
  | _ => yX8_init
def sE (ad av : Nat → Nat) (A : Nat → Prop) (U : State) (H : Heap) : Prop :=
  vk_S 6 sLen sByt ad av A U H ∧ (va_Z RJ0 "COMPACT_STRINGS" "Z" (.int 1) A U H ∧ va_Zq RJ3 "SIOOBE_FORMATTER" "Ljava/util/function/BiFunction;" A U H ∧ va_AO RX1 U) ∧ (∀ i : Nat, i < 6 → vk_R RX8 (sK i) (sTx i) (ad i) U) ∧ ∀ i : Nat, i < 8 → va_Nw (.methodLinkNest (sNo i) (sNi i) (sNy i) "GuildCharter") U
theorem sE_at {ad av : Nat → Nat} {A B : Nat → Prop} {s U : State} {H : Heap} {locs : List Loc} (h : sE ad av A s s.heap) (hS : va_S A s.heap H locs) (hAB : ∀ q, B q → A q) (hU : U.heap = H) (hW : s.WarmedH U.vm) : sE ad av B U U.heap := by
  subst hU
  obtain ⟨h1, ⟨h2, h3, h4⟩, h5, h6⟩ := h
  exact ⟨((h1.moved hW.alike).kept hS.2.1).narrow hAB, ⟨((h2.moved hW.alike).kept hS.2.1).narrow hAB, ((h3.moved hW.alike).kept hS.2.1).narrow hAB, h4.moved hW.alike⟩, fun i hi => (h5 i hi).warm hW, fun i hi => (h6 i hi).warmM hW⟩
theorem sE_same {ad av : Nat → Nat} {A : Nat → Prop} {u U : State} (hv : U.vm = u.vm) (hh : U.heap = u.heap) (h : sE ad av A u u.heap) : sE ad av A U U.heap := by
  obtain ⟨h1, ⟨h2, h3, h4⟩, h5, h6⟩ := h
  have ha : u.vm.Alike U.vm := by rw [hv]; exact Vm.Alike.refl u.vm
  rw [hh]
  exact ⟨h1.moved ha, ⟨h2.moved ha, h3.moved ha, h4.moved ha⟩, fun i hi => (h5 i hi).same hv, fun i hi => (h6 i hi).same rfl hv.symm⟩
def cpreX (ad av : Nat → Nat) (D : va_G) (tys : List (ClassId × FieldType)) (ws : va_W) (sz : Nat) (U : State) : Prop := cpre D tys ws sz U ∧ sE ad av (va_A ws sz) U U.heap
def CIX (l : Launch) (y : MethodName) (w : List Cond) (rm : Room) (D : va_G) (tys : List (ClassId × FieldType)) (al : List Value) (ws : va_W) (w1 : (Nat → Nat) → va_W) (v : Int32) (ad av : Nat → Nat) : Prop := ∀ sz : Nat, Met l y w rm (va_Pc al (cpreX ad av D tys ws sz)) (qi D w1 v (va_A ws sz)) rm.cells rm.slots (va_A ws sz)
def CLX (l : Launch) (y : MethodName) (w : List Cond) (rm : Room) (D : va_G) (tys : List (ClassId × FieldType)) (al : List Value) (ws : va_W) (w1 : (Nat → Nat) → va_W) (v : Int64) (ad av : Nat → Nat) : Prop := ∀ sz : Nat, Met l y w rm (va_Pc al (cpreX ad av D tys ws sz)) (ql D w1 v (va_A ws sz)) rm.cells rm.slots (va_A ws sz)
def CVX (l : Launch) (y : MethodName) (w : List Cond) (rm : Room) (D : va_G) (tys : List (ClassId × FieldType)) (al : List Value) (ws : va_W) (w1 : (Nat → Nat) → va_W) (ad av : Nat → Nat) : Prop := ∀ sz : Nat, Met l y w rm (va_Pc al (cpreX ad av D tys ws sz)) (qv D w1 (va_A ws sz)) rm.cells rm.slots (va_A ws sz)
theorem preX_blind {ad av : Nat → Nat} {al : List Value} {D : va_G} {tys : List (ClassId × FieldType)} {ws : va_W} {sz : Nat} : FrameBlind (va_Pc al (cpreX ad av D tys ws sz)) := fun a U g mk q => by
  obtain ⟨q0, ⟨q1, qP, qK, qD⟩, qE⟩ := q
  exact ⟨q0, ⟨q1, qP, va_K.moved (u := U) (U := U.calling g mk a) (Vm.Alike.refl U.vm) qK, qD⟩, sE_same (u := U) (U := U.calling g mk a) rfl rfl qE⟩
theorem ctx_open {l : Launch} {y : MethodName} {w w' : List Cond} {rm : Room} {D : va_G} {tys : List (ClassId × FieldType)} {al : List Value} {ws : va_W} {ad av : Nat → Nat} {Qf : (Nat → Prop) → Array Value → State → Outcome → State → Prop} {cc : ByteArray} {maxL : Nat} {ret : Option FieldType} {mc ms sz : Nat}
    (hy : plainName y.cls = true) (hw : w = Cond.code y cc maxL ret :: w') (hn : (lg_sl al).length ≤ maxL)
    (body : ∀ (p : Program) (e : Env) (s : State) (m : MethodId) (below : List Frame) (meth : Method) (c : Code) (ls : Array Slot) (A : Nat → Prop), p.tables.exec = Jvm.exec → c.code = cc → meth.sig.returnType = ret → c.maxLocals = maxL → (∀ x ∈ w, x.before al.toArray s = true) → s.vm.findClass y.cls = some m.cls → meth.locks = false → meth.name = y.name →
      va_P D vwCl ws s.heap → va_K D vwCl tys s → va_D A ws → (∀ q : Nat, s.heap.size ≤ q → A q) → va_S A s.heap s.heap [] → lv_has ls maxL (lv_args 0 al) → sE ad av A s s.heap → W p l e rm s m al.toArray below meth c s.heap [] 0 0 (MQ below (Qf A) al.toArray s mc ms A) (F0 m 0 ls [])) :
    Met l y w rm (va_Pc al (cpreX ad av D tys ws sz)) (Qf (va_A ws sz)) mc ms (va_A ws sz) := by
  refine Met.ofW (cc := cc) (maxL := maxL) (ret := ret) hy hw ?_
  intro p e s m args below meth c s₁ B hml hv
  obtain ⟨rfl, ⟨hsz, hP, hK, hD0⟩, hE⟩ := hv
  have hx := B.exec
  have hb := B.bytes
  have hr := B.returns
  have hts := atoms_spec (ws := w) B.pre
  have hown : s.vm.findClass y.cls = some m.cls := findClass_of_methodNamed B.named
  have hlocks := B.notSynchronized
  have hin : meth.name = y.name := (name_of_methodNamed B.named B.method).1
  subst hsz
  have hD := hD0.self (sz := s.heap.size)
  have hA : ∀ q : Nat, s.heap.size ≤ q → va_A ws s.heap.size q := fun q h => Or.inr h
  have hl := lv_entry al (n := maxL) hn
  rw [lg_entry_eq]
  exact body p e s m below meth c _ (va_A ws s.heap.size) hx hb hr hml hts hown hlocks hin hP hK hD hA va_S.rf hl hE
theorem k_two {D : va_G} {cl : List vw_C} {tys : List (ClassId × FieldType)} {U : State} {t0 : Nat} {c0 cA : ClassId} {C : String} (h1 : tys[t0]? = some (c0, .object C)) (h : va_K D cl (tys ++ [(cA, .object C)]) U) : cA = c0 := by
  obtain ⟨-, -, -, -, -, e1⟩ := (h.2 t0 (c0, .object C) (by rw [List.getElem?_append_left (List.getElem?_eq_some_iff.mp h1).1]; exact h1)).2
  obtain ⟨-, -, -, -, -, e2⟩ := (h.2 tys.length (cA, .object C) (by simp)).2
  rw [e1] at e2
  exact (Option.some.inj e2).symm
section
variable {p : Program} {l : Launch} {e : Env} {R : Room} {s : State} {m : MethodId} {args : Array Value} {below : List Frame} {meth : Method} {c : Code} {H : Heap} {locs : List Loc} {cells slots : Nat} {Q : State → Prop} {cc : ByteArray} {pc nL : Nat} {ls : Array Slot} {rest : List Value} {D : va_G} {tys : List (ClassId × FieldType)} {ws : va_W} {A : Nat → Prop}
  {own : String} {Ts : List Cond} {y : MethodName} {w : List Cond} {rm : Room} {As st0 : List Value} {wc wr : va_W} {w1 : (Nat → Nat) → va_W} {index maxL n : Nat} {bytes : ByteArray} {ret : Option FieldType} {C : String} {ci b : Nat} {fs : List Value} {q : vw_C} {ad av : Nat → Nat}
theorem my_newq {H0 : Heap} {cl : List vw_C} (hexec : p.tables.exec = Jvm.exec) (hb : c.code = cc) (hown : s.vm.findClass own = some m.cls) (hclink : (Cond.classLink own index C).before args s = true) (hover : va_AO C s) (hK : va_K D cl tys s) (hP : va_P D cl ws H) (hD : va_D A ws) (hS : va_S A H0 H locs) (hA : ∀ q, H0.size ≤ q → A q)
    (t0 : Nat) {c0 : ClassId} (ht : tys[t0]? = some (c0, .object C)) {n : Int32} {N' : Nat} (hn : ¬ n < 0) (hN : n.toNatClampNeg = N') (hbytes : N' * 4 ≤ 536870912) (hcells : cells + 1 ≤ R.cells) (hslots : slots + N' ≤ R.slots) (hdg : decode cc pc = .ok (.anewarray index, 3))
    (kk : ∀ (q : Nat) (H1 : Heap), va_P D cl (ws ++ [(q, .inl (c0, N', .inr (.inr (.inr (.inr (fun _ => none))))))]) H1 → va_D A (ws ++ [(q, .inl (c0, N', .inr (.inr (.inr (.inr (fun _ => none))))))]) → va_S A H0 H1 locs →
      W p l e R s m args below meth c H1 locs (cells + 1) (slots + N') Q (F0 m (pc + 3) ls (.ref q :: rest))) : W p l e R s m args below meth c H locs cells slots Q (F0 m pc ls (.int n :: rest)) := by
  refine va_newq hexec hb hown hclink hover hK hP hD hS hA hn hN hbytes hcells hslots hdg (fun q cA H1 hK1 hP1 hD1 hS1 => ?_)
  obtain rfl := k_two ht hK1
  exact kk q H1 hP1 hD1 hS1
theorem preSX_of (hE : sE ad av A s s.heap) (hK : va_K D vwCl tys s) (hP : va_P D vwCl ws H) (hD : va_D A ws) (hS : va_S A s.heap H locs) (hA : ∀ q, s.heap.size ≤ q → A q) (isC : List Nat) (hC : isC.map (fun i => ws[i]?) = wc.map some) (hnC : va_nd isC = true) : PreS s H (va_Pc As (cpreX ad av D tys wc H.size)) As :=
  ⟨preX_blind, fun U hU hW => ⟨rfl, ⟨by rw [hU], by rw [hU]; exact P_of_map hP hC, va_K.moved hW.alike hK, nd_of_sub hD hnC hC⟩, sE_at hE hS (va_free (wc := wc) hD hS hA isC hC) hU hW⟩⟩
theorem call_lSX {v : Int64} (S : CallFix p m c cc nL s args Ts own) (hM : CLX l y w rm D tys As wc w1 v ad av) (cw : CallB R s args own index y bytes maxL ret w rm rm.cells rm.slots n ∧ (Cond.static y).before args s = true) (hE : sE ad av A s s.heap) (hK : va_K D vwCl tys s) (hP : va_P D vwCl ws H) (hD : va_D A ws) (hS : va_S A s.heap H locs) (hA : ∀ q, s.heap.size ≤ q → A q) (isC isR : List Nat) (hC : isC.map (fun i => ws[i]?) = wc.map some) (hR : isR.map (fun i => ws[i]?) = wr.map some) (hnC : va_nd isC = true) (hnR : va_nd isR = true) (hdis : ∀ i ∈ isR, i ∉ isC)
    (hls : ls.size = nL) (hroom : (rest.map fun v => v.category).sum ≤ 8) (hlen : As.length = n) (hst : st0 = As.reverse ++ rest) (hdg : decode cc pc = .ok (.invokestatic index, 3)) (hf : cells + rm.cells ≤ R.cells ∧ slots + rm.slots ≤ R.slots)
    (kk : ∀ (u : Nat → Nat) (H1 : Heap) (locs1 : List Loc), va_P D vwCl (wr ++ w1 u) H1 → va_D A (wr ++ w1 u) → va_S A s.heap H1 locs1 → W p l e R s m args below meth c H1 locs1 (cells + rm.cells) (slots + rm.slots) Q (F0 m (pc + 3) ls (.long v :: rest))) : W p l e R s m args below meth c H locs cells slots Q (F0 m pc ls st0) := by
  have hFc := va_free (wc := wc) hD hS hA isC hC
  refine va_calll (va_runS S (hM H.size) cw (preSX_of hE hK hP hD hS hA isC hC hnC) rfl hlen hls hst (lv_room hroom) hdg hf) hS (fun q _ h => hFc q h) hFc (fun r u t H1 locs ht hvm hw hB hz1 hk1 hS => ?_)
  subst hw
  obtain ⟨hP1, hD1⟩ := hB
  rw [ht] at hP1
  obtain ⟨hP2, hD2⟩ := va_join hP hD isC isR hC hR hnR hdis hk1 hFc hP1 hD1
  exact kk u H1 locs hP2 hD2 hS
theorem call_iSX {v : Int32} (S : CallFix p m c cc nL s args Ts own) (hM : CIX l y w rm D tys As wc w1 v ad av) (cw : CallB R s args own index y bytes maxL ret w rm rm.cells rm.slots n ∧ (Cond.static y).before args s = true) (hE : sE ad av A s s.heap) (hK : va_K D vwCl tys s) (hP : va_P D vwCl ws H) (hD : va_D A ws) (hS : va_S A s.heap H locs) (hA : ∀ q, s.heap.size ≤ q → A q) (isC isR : List Nat) (hC : isC.map (fun i => ws[i]?) = wc.map some) (hR : isR.map (fun i => ws[i]?) = wr.map some) (hnC : va_nd isC = true) (hnR : va_nd isR = true) (hdis : ∀ i ∈ isR, i ∉ isC)
    (hls : ls.size = nL) (hroom : (rest.map fun v => v.category).sum ≤ 8) (hlen : As.length = n) (hst : st0 = As.reverse ++ rest) (hdg : decode cc pc = .ok (.invokestatic index, 3)) (hf : cells + rm.cells ≤ R.cells ∧ slots + rm.slots ≤ R.slots)
    (kk : ∀ (u : Nat → Nat) (H1 : Heap) (locs1 : List Loc), va_P D vwCl (wr ++ w1 u) H1 → va_D A (wr ++ w1 u) → va_S A s.heap H1 locs1 → W p l e R s m args below meth c H1 locs1 (cells + rm.cells) (slots + rm.slots) Q (F0 m (pc + 3) ls (.int v :: rest))) : W p l e R s m args below meth c H locs cells slots Q (F0 m pc ls st0) := by
  have hFc := va_free (wc := wc) hD hS hA isC hC
  refine va_calli (va_runS S (hM H.size) cw (preSX_of hE hK hP hD hS hA isC hC hnC) rfl hlen hls hst (lv_room hroom) hdg hf) hS (fun q _ h => hFc q h) hFc (fun r u t H1 locs ht hvm hw hB hz1 hk1 hS => ?_)
  subst hw
  obtain ⟨hP1, hD1⟩ := hB
  rw [ht] at hP1
  obtain ⟨hP2, hD2⟩ := va_join hP hD isC isR hC hR hnR hdis hk1 hFc hP1 hD1
  exact kk u H1 locs hP2 hD2 hS
theorem call_vSX (S : CallFix p m c cc nL s args Ts own) (hM : CVX l y w rm D tys As wc w1 ad av) (cw : CallB R s args own index y bytes maxL ret w rm rm.cells rm.slots n ∧ (Cond.static y).before args s = true) (hE : sE ad av A s s.heap) (hK : va_K D vwCl tys s) (hP : va_P D vwCl ws H) (hD : va_D A ws) (hS : va_S A s.heap H locs) (hA : ∀ q, s.heap.size ≤ q → A q) (isC isR : List Nat) (hC : isC.map (fun i => ws[i]?) = wc.map some) (hR : isR.map (fun i => ws[i]?) = wr.map some) (hnC : va_nd isC = true) (hnR : va_nd isR = true) (hdis : ∀ i ∈ isR, i ∉ isC)
    (hls : ls.size = nL) (hroom : (rest.map fun v => v.category).sum ≤ 8) (hlen : As.length = n) (hst : st0 = As.reverse ++ rest) (hdg : decode cc pc = .ok (.invokestatic index, 3)) (hf : cells + rm.cells ≤ R.cells ∧ slots + rm.slots ≤ R.slots)
    (kk : ∀ (u : Nat → Nat) (H1 : Heap) (locs1 : List Loc), va_P D vwCl (wr ++ w1 u) H1 → va_D A (wr ++ w1 u) → va_S A s.heap H1 locs1 → W p l e R s m args below meth c H1 locs1 (cells + rm.cells) (slots + rm.slots) Q (F0 m (pc + 3) ls rest)) : W p l e R s m args below meth c H locs cells slots Q (F0 m pc ls st0) := by
  have hFc := va_free (wc := wc) hD hS hA isC hC
  refine va_callv (va_runS S (hM H.size) cw (preSX_of hE hK hP hD hS hA isC hC hnC) rfl hlen hls hst (lv_room hroom) hdg hf) hS (fun q _ h => hFc q h) hFc (fun u t H1 locs ht hvm hw hB hz1 hk1 hS => ?_)
  obtain ⟨hP1, hD1⟩ := hB
  rw [ht] at hP1
  obtain ⟨hP2, hD2⟩ := va_join hP hD isC isR hC hR hnR hdis hk1 hFc hP1 hD1
  exact kk u H1 locs hP2 hD2 hS
theorem call_vIX (S : CallFix p m c cc nL s args Ts own) (hM : CVX l y w rm D tys (.ref b :: As) wc w1 ad av) (cw : CallB R s args own index y bytes maxL none w rm rm.cells rm.slots n ∧ y.name = "<init>" ∧ (Cond.instanceMethod y).before args s = true) (hE : sE ad av A s s.heap) (hK : va_K D vwCl tys s) (hP : va_P D vwCl ws H) (hD : va_D A ws) (hS : va_S A s.heap H locs) (hA : ∀ q, s.heap.size ≤ q → A q) (isC isR : List Nat) (hC : isC.map (fun i => ws[i]?) = wc.map some) (hR : isR.map (fun i => ws[i]?) = wr.map some) (hnC : va_nd isC = true) (hnR : va_nd isR = true) (hdis : ∀ i ∈ isR, i ∉ isC)
    (hls : ls.size = nL) (hroom : (rest.map fun v => v.category).sum ≤ 8) (hlen : As.length = n) (hst : st0 = As.reverse ++ .ref b :: rest) (hdg : decode cc pc = .ok (.invokespecial index, 3)) (hf : cells + rm.cells ≤ R.cells ∧ slots + rm.slots ≤ R.slots)
    (kk : ∀ (u : Nat → Nat) (H1 : Heap) (locs1 : List Loc), va_P D vwCl (wr ++ w1 u) H1 → va_D A (wr ++ w1 u) → va_S A s.heap H1 locs1 → W p l e R s m args below meth c H1 locs1 (cells + rm.cells) (slots + rm.slots) Q (F0 m (pc + 3) ls rest)) : W p l e R s m args below meth c H locs cells slots Q (F0 m pc ls st0) := by
  have hFc := va_free (wc := wc) hD hS hA isC hC
  refine va_callv (va_runI S (hM H.size) cw (preSX_of hE hK hP hD hS hA isC hC hnC) rfl hlen hls hst (lv_room hroom) hdg hf) hS (fun q _ h => hFc q h) hFc (fun u t H1 locs ht hvm hw hB hz1 hk1 hS => ?_)
  obtain ⟨hP1, hD1⟩ := hB
  rw [ht] at hP1
  obtain ⟨hP2, hD2⟩ := va_join hP hD isC isR hC hR hnR hdis hk1 hFc hP1 hD1
  exact kk u H1 locs hP2 hD2 hS
theorem call_vINX {host : String} (S : CallFix p m c cc nL s args Ts own) (hM : CVX l y w rm D tys (.ref b :: As) wc w1 ad av) (cw : va_CN R s args own index y host bytes maxL none w rm rm.cells rm.slots n ∧ y.name = "<init>" ∧ (Cond.instanceMethod y).before args s = true) (hE : sE ad av A s s.heap) (hK : va_K D vwCl tys s) (hP : va_P D vwCl ws H) (hD : va_D A ws) (hS : va_S A s.heap H locs) (hA : ∀ q, s.heap.size ≤ q → A q) (isC isR : List Nat) (hC : isC.map (fun i => ws[i]?) = wc.map some) (hR : isR.map (fun i => ws[i]?) = wr.map some) (hnC : va_nd isC = true) (hnR : va_nd isR = true) (hdis : ∀ i ∈ isR, i ∉ isC)
    (hls : ls.size = nL) (hroom : (rest.map fun v => v.category).sum ≤ 8) (hlen : As.length = n) (hst : st0 = As.reverse ++ .ref b :: rest) (hdg : decode cc pc = .ok (.invokespecial index, 3)) (hf : cells + rm.cells ≤ R.cells ∧ slots + rm.slots ≤ R.slots)
    (kk : ∀ (u : Nat → Nat) (H1 : Heap) (locs1 : List Loc), va_P D vwCl (wr ++ w1 u) H1 → va_D A (wr ++ w1 u) → va_S A s.heap H1 locs1 → W p l e R s m args below meth c H1 locs1 (cells + rm.cells) (slots + rm.slots) Q (F0 m (pc + 3) ls rest)) : W p l e R s m args below meth c H locs cells slots Q (F0 m pc ls st0) := by
  have hFc := va_free (wc := wc) hD hS hA isC hC
  refine va_callv (va_runIN S (hM H.size) cw (preSX_of hE hK hP hD hS hA isC hC hnC) rfl hlen hls hst (lv_room hroom) hdg hf) hS (fun q _ h => hFc q h) hFc (fun u t H1 locs ht hvm hw hB hz1 hk1 hS => ?_)
  obtain ⟨hP1, hD1⟩ := hB
  rw [ht] at hP1
  obtain ⟨hP2, hD2⟩ := va_join hP hD isC isR hC hR hnR hdis hk1 hFc hP1 hD1
  exact kk u H1 locs hP2 hD2 hS
/-- a call on a String constant -/
theorem call_iVX {v : Int32} {i : Nat} (hi : i < 6) (S : CallFix p m c cc nL s args Ts own) (hM : CIX l y w rm D tys (.ref (ad i) :: As) [] w1 v ad av) (cw : CallW R s args own RJ0 index y bytes maxL ret w rm rm.cells rm.slots n) (hE : sE ad av A s s.heap) (hK : va_K D vwCl tys s) (hP : va_P D vwCl ws H) (hD : va_D A ws) (hS : va_S A s.heap H locs) (hA : ∀ q, s.heap.size ≤ q → A q) (isR : List Nat) (hR : isR.map (fun i => ws[i]?) = wr.map some) (hnR : va_nd isR = true)
    (hls : ls.size = nL) (hroom : (rest.map fun v => v.category).sum ≤ 8) (hlen : As.length = n) (hst : st0 = As.reverse ++ .ref (ad i) :: rest) (hdg : decode cc pc = .ok (.invokevirtual index, 3)) (hf : cells + rm.cells ≤ R.cells ∧ slots + rm.slots ≤ R.slots)
    (kk : ∀ (u : Nat → Nat) (H1 : Heap) (locs1 : List Loc), va_P D vwCl (wr ++ w1 u) H1 → va_D A (wr ++ w1 u) → va_S A s.heap H1 locs1 → W p l e R s m args below meth c H1 locs1 (cells + rm.cells) (slots + rm.slots) Q (F0 m (pc + 3) ls (.int v :: rest))) : W p l e R s m args below meth c H locs cells slots Q (F0 m pc ls st0) := by
  have hFc := va_free (wc := []) hD hS hA [] rfl
  have hpre : PreV s H RJ0 (ad i) (va_Pc (.ref (ad i) :: As) (cpreX ad av D tys [] H.size)) As :=
    ⟨preX_blind, vk_recv hE.1 hi hS, (preSX_of (As := .ref (ad i) :: As) hE hK hP hD hS hA [] rfl rfl).2⟩
  refine va_calli (va_runV S (hM H.size) cw hpre rfl hlen hls hst (lv_room hroom) hdg hf) hS (fun q _ h => hFc q h) hFc (fun r u t H1 locs ht hvm hw hB hz1 hk1 hS => ?_)
  subst hw
  obtain ⟨hP1, hD1⟩ := hB
  rw [ht] at hP1
  obtain ⟨hP2, hD2⟩ := va_join hP hD [] isR rfl hR hnR (fun _ _ h => by cases h) hk1 hFc hP1 hD1
  exact kk u H1 locs hP2 hD2 hS
end
