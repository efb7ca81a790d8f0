/-! The words of the contracts: a world of cells before, a world behind, the answer. -/
abbrev tyL (cB cI cJ cZ cO : ClassId) : List (ClassId × FieldType) := [(cB, .byte), (cI, .int), (cJ, .long), (cZ, .boolean), (cO, .object "GuildCharter$Image")]
def cpre (D : va_G) (tys : List (ClassId × FieldType)) (ws : va_W) (sz : Nat) (U : State) : Prop := U.heap.size = sz ∧ va_P D vwCl ws U.heap ∧ va_K D vwCl tys U ∧ va_D (fun _ => True) ws
def cpost (D : va_G) (A : Nat → Prop) (w1 : (Nat → Nat) → va_W) (u : Nat → Nat) (t : State) : Prop := va_P D vwCl (w1 u) t.heap ∧ va_D A (w1 u)
abbrev qi (D : va_G) (w1 : (Nat → Nat) → va_W) (v : Int32) (A : Nat → Prop) := va_Qi (fun r (_ : Nat → Nat) => r = v) (cpost D A w1) A
abbrev ql (D : va_G) (w1 : (Nat → Nat) → va_W) (v : Int64) (A : Nat → Prop) := va_Ql (fun r (_ : Nat → Nat) => r = v) (cpost D A w1) A
abbrev qv (D : va_G) (w1 : (Nat → Nat) → va_W) (A : Nat → Prop) := va_Qv (fun (_ : Nat → Nat) => True) (cpost D A w1) A
abbrev qr (D : va_G) (w1 : (Nat → Nat) → va_W) (v : Nat) (A : Nat → Prop) := va_Qr (fun (_ : Nat → Nat) => True) (fun u a t => a = v ∧ cpost D A w1 u t) A
def CI (l : Launch) (y : MethodName) (w : List Cond) (rm : Room) (D : va_G) (tys : List (ClassId × FieldType)) (av : List Value) (ws : va_W) (w1 : (Nat → Nat) → va_W) (v : Int32) : Prop := ∀ sz : Nat, Met l y w rm (va_Pc av (cpre D tys ws sz)) (qi D w1 v (va_A ws sz)) rm.cells rm.slots (va_A ws sz)
def CL (l : Launch) (y : MethodName) (w : List Cond) (rm : Room) (D : va_G) (tys : List (ClassId × FieldType)) (av : List Value) (ws : va_W) (w1 : (Nat → Nat) → va_W) (v : Int64) : Prop := ∀ sz : Nat, Met l y w rm (va_Pc av (cpre D tys ws sz)) (ql D w1 v (va_A ws sz)) rm.cells rm.slots (va_A ws sz)
def CV (l : Launch) (y : MethodName) (w : List Cond) (rm : Room) (D : va_G) (tys : List (ClassId × FieldType)) (av : List Value) (ws : va_W) (w1 : (Nat → Nat) → va_W) : Prop := ∀ sz : Nat, Met l y w rm (va_Pc av (cpre D tys ws sz)) (qv D w1 (va_A ws sz)) rm.cells rm.slots (va_A ws sz)
def CR (l : Launch) (y : MethodName) (w : List Cond) (rm : Room) (D : va_G) (tys : List (ClassId × FieldType)) (av : List Value) (ws : va_W) (w1 : (Nat → Nat) → va_W) (v : Nat) : Prop := ∀ sz : Nat, Met l y w rm (va_Pc av (cpre D tys ws sz)) (qr D w1 v (va_A ws sz)) rm.cells rm.slots (va_A ws sz)
theorem vin (i : Int32) (n : Nat) (h : decide (¬ (i < 0 ∨ n ≤ i.toNatClampNeg)) = true) : vp_in i n := by
  unfold vp_in
  exact of_decide_eq_true h
theorem nlt {a b : Nat} (h : Nat.blt a b = true) : a < b := Nat.le_of_ble_eq_true h
def ixp (i : Int32) (k n : Nat) : Prop := vp_in i n ∧ i.toNatClampNeg = k
/-- the opening of a contract's proof -/
theorem ct_open {l : Launch} {y : MethodName} {w w' : List Cond} {rm : Room} {D : va_G} {tys : List (ClassId × FieldType)} {av : List Value} {ws : va_W} {Qf : (Nat → Prop) → Array Value → State → Outcome → State → Prop} {cc : ByteArray} {maxL : Nat} {ret : Option FieldType} {mc ms sz : Nat}
    (hy : plainName y.cls = true) (hw : w = Cond.code y cc maxL ret :: w') (hn : (lg_sl av).length ≤ maxL)
    (body : ∀ (p : Program) (e : Env) (s : State) (m : MethodId) (below : List Frame) (meth : Method) (c : Code) (ls : Array Slot) (A : Nat → Prop), p.tables.exec = Jvm.exec → c.code = cc → meth.sig.returnType = ret → c.maxLocals = maxL → (∀ x ∈ w, x.before av.toArray s = true) → s.vm.findClass y.cls = some m.cls → meth.locks = false → meth.name = y.name →
      va_P D vwCl ws s.heap → va_K D vwCl tys s → va_D A ws → (∀ q : Nat, s.heap.size ≤ q → A q) → va_S A s.heap s.heap [] → lv_has ls maxL (lv_args 0 av) → W p l e rm s m av.toArray below meth c s.heap [] 0 0 (MQ below (Qf A) av.toArray s mc ms A) (F0 m 0 ls [])) :
    Met l y w rm (va_Pc av (cpre D tys ws sz)) (Qf (va_A ws sz)) mc ms (va_A ws sz) := by
  refine Met.ofW (cc := cc) (maxL := maxL) (ret := ret) hy hw ?_
  intro p e s m args below meth c s₁ B hml hv
  obtain ⟨rfl, hsz, hP, hK, hD0⟩ := hv
  have hx := B.exec
  have hb := B.bytes
  have hr := B.returns
  have hts := atoms_spec (ws := w) B.pre
  have hown : s.vm.findClass y.cls = some m.cls := findClass_of_methodNamed B.named
  have hlocks := B.notSynchronized
  have hin : meth.name = y.name := (name_of_methodNamed B.named B.method).1
  subst hsz
  have hD := hD0.self (sz := s.heap.size)
  have hA : ∀ q : Nat, s.heap.size ≤ q → va_A ws s.heap.size q := fun q h => Or.inr h
  have hl := lv_entry av (n := maxL) hn
  rw [lg_entry_eq]
  exact body p e s m below meth c _ (va_A ws s.heap.size) hx hb hr hml hts hown hlocks hin hP hK hD hA va_S.rf hl
section
variable {p : Program} {l : Launch} {e : Env} {R : Room} {s : State} {m : MethodId} {args : Array Value} {below : List Frame} {meth : Method} {c : Code} {H : Heap} {locs : List Loc} {cells slots : Nat} {Q : State → Prop} {cc : ByteArray} {pc : Nat} {ls : Array Slot} {rest : List Value} {D : va_G} {cl : List vw_C} {tys : List (ClassId × FieldType)} {ws : va_W} {A : Nat → Prop} {H0 : Heap} {a : Nat}
theorem tpv {x v : Value} (h : x = v) (k : W p l e R s m args below meth c H locs cells slots Q (F0 m pc ls (v :: rest))) : W p l e R s m args below meth c H locs cells slots Q (F0 m pc ls (x :: rest)) := by
  rw [h]; exact k
theorem set_same {ws : va_W} {q0 : Nat} {x : Nat × va_E} (h : ws[q0]? = some x) : ws.set q0 x = ws := by
  apply List.ext_getElem?
  intro i
  by_cases hi : q0 = i
  · subst hi
    rw [List.getElem?_set_self (List.getElem?_eq_some_iff.mp h).1, h]
  · rw [List.getElem?_set_ne hi]
theorem upd_same {f : Nat → Int32} {i : Nat} {x : Int32} (h : f i = x) : upd f i x = f := by
  funext j
  show (if j = i then x else f j) = f j
  split
  · next e => rw [e, h]
  · rfl
theorem updL_same {f : Nat → Int64} {i : Nat} {x : Int64} (h : f i = x) : vp_updL f i x = f := by
  funext j
  show (if j = i then x else f j) = f j
  split
  · next e => rw [e, h]
  · rfl
theorem va_iastS (hexec : p.tables.exec = Jvm.exec) (hb : c.code = cc) (hK : va_K D cl tys s) (hP : va_P D cl ws H) (hD : va_D A ws) (hS : va_S A H0 H locs) (q0 t0 : Nat) {cA : ClassId} {n : Nat} {f : Nat → Int32} (ha : ws[q0]? = some (a, .inl (cA, n, .inl f))) (ht : tys[t0]? = some (cA, .int)) {i : Int32} {x : Int32} (hin : vp_in i n) (hsame : f i.toNatClampNeg = x) (hdg : decode cc pc = .ok (.iastore, 1))
    (kk : ∀ (H1 : Heap) (locs1 : List Loc), va_P D cl ws H1 → va_D A ws → va_S A H0 H1 locs1 → W p l e R s m args below meth c H1 locs1 cells slots Q (F0 m (pc + 1) ls rest)) : W p l e R s m args below meth c H locs cells slots Q (F0 m pc ls (.int x :: .int i :: .ref a :: rest)) := by
  refine va_iast hexec hb hK hP hD hS q0 t0 ha ht hin hdg (fun H1 locs1 h1 h2 h3 => ?_)
  rw [upd_same hsame, set_same ha] at h1
  exact kk H1 locs1 h1 hD h3
theorem va_zastS (hexec : p.tables.exec = Jvm.exec) (hb : c.code = cc) (hK : va_K D cl tys s) (hP : va_P D cl ws H) (hD : va_D A ws) (hS : va_S A H0 H locs) (q0 t0 : Nat) {cA : ClassId} {n : Nat} {f : Nat → Int32} (ha : ws[q0]? = some (a, .inl (cA, n, .inl f))) (ht : tys[t0]? = some (cA, .boolean)) {i : Int32} {x : Int32} (hin : vp_in i n) (hsame : f i.toNatClampNeg = vp_nar .boolean x) (hdg : decode cc pc = .ok (.bastore, 1))
    (kk : ∀ (H1 : Heap) (locs1 : List Loc), va_P D cl ws H1 → va_D A ws → va_S A H0 H1 locs1 → W p l e R s m args below meth c H1 locs1 cells slots Q (F0 m (pc + 1) ls rest)) : W p l e R s m args below meth c H locs cells slots Q (F0 m pc ls (.int x :: .int i :: .ref a :: rest)) := by
  refine va_zast hexec hb hK hP hD hS q0 t0 ha ht hin hdg (fun H1 locs1 h1 h2 h3 => ?_)
  rw [upd_same hsame, set_same ha] at h1
  exact kk H1 locs1 h1 hD h3
theorem va_lastS (hexec : p.tables.exec = Jvm.exec) (hb : c.code = cc) (hK : va_K D cl tys s) (hP : va_P D cl ws H) (hD : va_D A ws) (hS : va_S A H0 H locs) (q0 t0 : Nat) {cA : ClassId} {n : Nat} {f : Nat → Int64} (ha : ws[q0]? = some (a, .inl (cA, n, .inr (.inl f)))) (ht : tys[t0]? = some (cA, .long)) {i : Int32} {x : Int64} (hin : vp_in i n) (hsame : f i.toNatClampNeg = x) (hdg : decode cc pc = .ok (.lastore, 1))
    (kk : ∀ (H1 : Heap) (locs1 : List Loc), va_P D cl ws H1 → va_D A ws → va_S A H0 H1 locs1 → W p l e R s m args below meth c H1 locs1 cells slots Q (F0 m (pc + 1) ls rest)) : W p l e R s m args below meth c H locs cells slots Q (F0 m pc ls (.long x :: .int i :: .ref a :: rest)) := by
  refine va_last hexec hb hK hP hD hS q0 t0 ha ht hin hdg (fun H1 locs1 h1 h2 h3 => ?_)
  rw [updL_same hsame, set_same ha] at h1
  exact kk H1 locs1 h1 hD h3
theorem tpi {x v : Int32} (h : x = v) (k : W p l e R s m args below meth c H locs cells slots Q (F0 m pc ls (.int v :: rest))) : W p l e R s m args below meth c H locs cells slots Q (F0 m pc ls (.int x :: rest)) := by
  rw [h]; exact k
theorem tpl {x v : Int64} (h : x = v) (k : W p l e R s m args below meth c H locs cells slots Q (F0 m pc ls (.long v :: rest))) : W p l e R s m args below meth c H locs cells slots Q (F0 m pc ls (.long x :: rest)) := by
  rw [h]; exact k
theorem my_iald {v : Int32} (hexec : p.tables.exec = Jvm.exec) (hb : c.code = cc) (hK : va_K D cl tys s) (hP : va_P D cl ws H) (q0 t0 : Nat) {cA : ClassId} {n k : Nat} {f : Nat → Int32} (ha : ws[q0]? = some (a, .inl (cA, n, .inl f))) (ht : tys[t0]? = some (cA, .int)) {i : Int32} (hin : ixp i k n) (hv : f k = v) (hdg : decode cc pc = .ok (.iaload, 1))
    (kk : W p l e R s m args below meth c H locs cells slots Q (F0 m (pc + 1) ls (.int v :: rest))) : W p l e R s m args below meth c H locs cells slots Q (F0 m pc ls (.int i :: .ref a :: rest)) := by
  refine va_iald hexec hb hK hP q0 t0 ha ht hin.1 hdg ?_
  rw [hin.2, hv]; exact kk
theorem my_bald {v : Int32} (hexec : p.tables.exec = Jvm.exec) (hb : c.code = cc) (hK : va_K D cl tys s) (hP : va_P D cl ws H) (q0 t0 : Nat) {cA : ClassId} {n k : Nat} {f : Nat → Int32} (ha : ws[q0]? = some (a, .inl (cA, n, .inl f))) (ht : tys[t0]? = some (cA, .byte)) {i : Int32} (hin : ixp i k n) (hv : f k = v) (hdg : decode cc pc = .ok (.baload, 1))
    (kk : W p l e R s m args below meth c H locs cells slots Q (F0 m (pc + 1) ls (.int v :: rest))) : W p l e R s m args below meth c H locs cells slots Q (F0 m pc ls (.int i :: .ref a :: rest)) := by
  refine va_bald hexec hb hK hP q0 t0 ha ht hin.1 hdg ?_
  rw [hin.2, hv]; exact kk
theorem my_zald {v : Int32} (hexec : p.tables.exec = Jvm.exec) (hb : c.code = cc) (hK : va_K D cl tys s) (hP : va_P D cl ws H) (q0 t0 : Nat) {cA : ClassId} {n k : Nat} {f : Nat → Int32} (ha : ws[q0]? = some (a, .inl (cA, n, .inl f))) (ht : tys[t0]? = some (cA, .boolean)) {i : Int32} (hin : ixp i k n) (hv : f k = v) (hdg : decode cc pc = .ok (.baload, 1))
    (kk : W p l e R s m args below meth c H locs cells slots Q (F0 m (pc + 1) ls (.int v :: rest))) : W p l e R s m args below meth c H locs cells slots Q (F0 m pc ls (.int i :: .ref a :: rest)) := by
  refine va_zald hexec hb hK hP q0 t0 ha ht hin.1 hdg ?_
  rw [hin.2, hv]; exact kk
theorem my_lald {v : Int64} (hexec : p.tables.exec = Jvm.exec) (hb : c.code = cc) (hK : va_K D cl tys s) (hP : va_P D cl ws H) (q0 t0 : Nat) {cA : ClassId} {n k : Nat} {f : Nat → Int64} (ha : ws[q0]? = some (a, .inl (cA, n, .inr (.inl f)))) (ht : tys[t0]? = some (cA, .long)) {i : Int32} (hin : ixp i k n) (hv : f k = v) (hdg : decode cc pc = .ok (.laload, 1))
    (kk : W p l e R s m args below meth c H locs cells slots Q (F0 m (pc + 1) ls (.long v :: rest))) : W p l e R s m args below meth c H locs cells slots Q (F0 m pc ls (.int i :: .ref a :: rest)) := by
  refine va_lald hexec hb hK hP q0 t0 ha ht hin.1 hdg ?_
  rw [hin.2, hv]; exact kk
theorem my_aldq {v : Nat} (hexec : p.tables.exec = Jvm.exec) (hb : c.code = cc) (hK : va_K D cl tys s) (hP : va_P D cl ws H) (q0 t0 : Nat) {cA : ClassId} {C : String} {n k : Nat} {f : Nat → Option Nat} (ha : ws[q0]? = some (a, .inl (cA, n, .inr (.inr (.inr (.inr f)))))) (ht : tys[t0]? = some (cA, .object C)) {i : Int32} (hin : ixp i k n) (hv : f k = some v) (hdg : decode cc pc = .ok (.aaload, 1))
    (kk : W p l e R s m args below meth c H locs cells slots Q (F0 m (pc + 1) ls (.ref v :: rest))) : W p l e R s m args below meth c H locs cells slots Q (F0 m pc ls (.int i :: .ref a :: rest)) := by
  refine va_aldq hexec hb hK hP q0 t0 ha ht hin.1 hdg ?_
  rw [hin.2, hv]; exact kk
theorem my_iast (hexec : p.tables.exec = Jvm.exec) (hb : c.code = cc) (hK : va_K D cl tys s) (hP : va_P D cl ws H) (hD : va_D A ws) (hS : va_S A H0 H locs) (q0 t0 : Nat) {cA : ClassId} {n k : Nat} {f : Nat → Int32} (ha : ws[q0]? = some (a, .inl (cA, n, .inl f))) (ht : tys[t0]? = some (cA, .int)) {i x : Int32} (hin : ixp i k n) (hdg : decode cc pc = .ok (.iastore, 1))
    (kk : ∀ (H1 : Heap) (locs1 : List Loc), va_P D cl (ws.set q0 (a, .inl (cA, n, .inl (upd f k x)))) H1 → va_D A (ws.set q0 (a, .inl (cA, n, .inl (upd f k x)))) → va_S A H0 H1 locs1 → W p l e R s m args below meth c H1 locs1 cells slots Q (F0 m (pc + 1) ls rest)) : W p l e R s m args below meth c H locs cells slots Q (F0 m pc ls (.int x :: .int i :: .ref a :: rest)) := by
  refine va_iast hexec hb hK hP hD hS q0 t0 ha ht hin.1 hdg (fun H1 locs1 h1 h2 h3 => ?_)
  rw [hin.2] at h1 h2
  exact kk H1 locs1 h1 h2 h3
theorem my_bast (hexec : p.tables.exec = Jvm.exec) (hb : c.code = cc) (hK : va_K D cl tys s) (hP : va_P D cl ws H) (hD : va_D A ws) (hS : va_S A H0 H locs) (q0 t0 : Nat) {cA : ClassId} {n k : Nat} {f : Nat → Int32} (ha : ws[q0]? = some (a, .inl (cA, n, .inl f))) (ht : tys[t0]? = some (cA, .byte)) {i x x' : Int32} (hin : ixp i k n) (hz : vp_nar .byte x = x') (hdg : decode cc pc = .ok (.bastore, 1))
    (kk : ∀ (H1 : Heap) (locs1 : List Loc), va_P D cl (ws.set q0 (a, .inl (cA, n, .inl (upd f k x')))) H1 → va_D A (ws.set q0 (a, .inl (cA, n, .inl (upd f k x')))) → va_S A H0 H1 locs1 → W p l e R s m args below meth c H1 locs1 cells slots Q (F0 m (pc + 1) ls rest)) : W p l e R s m args below meth c H locs cells slots Q (F0 m pc ls (.int x :: .int i :: .ref a :: rest)) := by
  refine va_bast hexec hb hK hP hD hS q0 t0 ha ht hin.1 hdg (fun H1 locs1 h1 h2 h3 => ?_)
  rw [hin.2, hz] at h1 h2
  exact kk H1 locs1 h1 h2 h3
theorem my_zast (hexec : p.tables.exec = Jvm.exec) (hb : c.code = cc) (hK : va_K D cl tys s) (hP : va_P D cl ws H) (hD : va_D A ws) (hS : va_S A H0 H locs) (q0 t0 : Nat) {cA : ClassId} {n k : Nat} {f : Nat → Int32} (ha : ws[q0]? = some (a, .inl (cA, n, .inl f))) (ht : tys[t0]? = some (cA, .boolean)) {i x x' : Int32} (hin : ixp i k n) (hz : vp_nar .boolean x = x') (hdg : decode cc pc = .ok (.bastore, 1))
    (kk : ∀ (H1 : Heap) (locs1 : List Loc), va_P D cl (ws.set q0 (a, .inl (cA, n, .inl (upd f k x')))) H1 → va_D A (ws.set q0 (a, .inl (cA, n, .inl (upd f k x')))) → va_S A H0 H1 locs1 → W p l e R s m args below meth c H1 locs1 cells slots Q (F0 m (pc + 1) ls rest)) : W p l e R s m args below meth c H locs cells slots Q (F0 m pc ls (.int x :: .int i :: .ref a :: rest)) := by
  refine va_zast hexec hb hK hP hD hS q0 t0 ha ht hin.1 hdg (fun H1 locs1 h1 h2 h3 => ?_)
  rw [hin.2, hz] at h1 h2
  exact kk H1 locs1 h1 h2 h3
theorem my_last (hexec : p.tables.exec = Jvm.exec) (hb : c.code = cc) (hK : va_K D cl tys s) (hP : va_P D cl ws H) (hD : va_D A ws) (hS : va_S A H0 H locs) (q0 t0 : Nat) {cA : ClassId} {n k : Nat} {f : Nat → Int64} (ha : ws[q0]? = some (a, .inl (cA, n, .inr (.inl f)))) (ht : tys[t0]? = some (cA, .long)) {i : Int32} {x : Int64} (hin : ixp i k n) (hdg : decode cc pc = .ok (.lastore, 1))
    (kk : ∀ (H1 : Heap) (locs1 : List Loc), va_P D cl (ws.set q0 (a, .inl (cA, n, .inr (.inl (vp_updL f k x))))) H1 → va_D A (ws.set q0 (a, .inl (cA, n, .inr (.inl (vp_updL f k x))))) → va_S A H0 H1 locs1 → W p l e R s m args below meth c H1 locs1 cells slots Q (F0 m (pc + 1) ls rest)) : W p l e R s m args below meth c H locs cells slots Q (F0 m pc ls (.long x :: .int i :: .ref a :: rest)) := by
  refine va_last hexec hb hK hP hD hS q0 t0 ha ht hin.1 hdg (fun H1 locs1 h1 h2 h3 => ?_)
  rw [hin.2] at h1 h2
  exact kk H1 locs1 h1 h2 h3
theorem my_astq (hexec : p.tables.exec = Jvm.exec) (hb : c.code = cc) (hK : va_K D cl tys s) (hP : va_P D cl ws H) (hD : va_D A ws) (hS : va_S A H0 H locs) (q0 t0 qk ci : Nat) {cA : ClassId} {r : vw_C} {n k v : Nat} {vs : List Value} {f : Nat → Option Nat} (ha : ws[q0]? = some (a, .inl (cA, n, .inr (.inr (.inr (.inr f)))))) (ht : tys[t0]? = some (cA, .object r.1)) (hv : ws[qk]? = some (v, .inr (ci, vs))) (hc : cl[ci]? = some r) {i : Int32} (hin : ixp i k n) (hdg : decode cc pc = .ok (.aastore, 1))
    (kk : ∀ (H1 : Heap) (locs1 : List Loc), va_P D cl (ws.set q0 (a, .inl (cA, n, .inr (.inr (.inr (.inr (va_up f k (some v)))))))) H1 → va_D A (ws.set q0 (a, .inl (cA, n, .inr (.inr (.inr (.inr (va_up f k (some v)))))))) → va_S A H0 H1 locs1 → W p l e R s m args below meth c H1 locs1 cells slots Q (F0 m (pc + 1) ls rest)) : W p l e R s m args below meth c H locs cells slots Q (F0 m pc ls (.ref v :: .int i :: .ref a :: rest)) := by
  refine va_astq hexec hb hK hP hD hS q0 t0 qk ci ha ht hv hc hin.1 hdg (fun H1 locs1 h1 h2 h3 => ?_)
  rw [hin.2] at h1 h2
  exact kk H1 locs1 h1 h2 h3
theorem my_iastS (hexec : p.tables.exec = Jvm.exec) (hb : c.code = cc) (hK : va_K D cl tys s) (hP : va_P D cl ws H) (hD : va_D A ws) (hS : va_S A H0 H locs) (q0 t0 : Nat) {cA : ClassId} {n k : Nat} {f : Nat → Int32} (ha : ws[q0]? = some (a, .inl (cA, n, .inl f))) (ht : tys[t0]? = some (cA, .int)) {i x : Int32} (hin : ixp i k n) (hsame : f k = x) (hdg : decode cc pc = .ok (.iastore, 1))
    (kk : ∀ (H1 : Heap) (locs1 : List Loc), va_P D cl ws H1 → va_D A ws → va_S A H0 H1 locs1 → W p l e R s m args below meth c H1 locs1 cells slots Q (F0 m (pc + 1) ls rest)) : W p l e R s m args below meth c H locs cells slots Q (F0 m pc ls (.int x :: .int i :: .ref a :: rest)) := va_iastS hexec hb hK hP hD hS q0 t0 ha ht hin.1 (by rw [hin.2]; exact hsame) hdg kk
theorem my_zastS (hexec : p.tables.exec = Jvm.exec) (hb : c.code = cc) (hK : va_K D cl tys s) (hP : va_P D cl ws H) (hD : va_D A ws) (hS : va_S A H0 H locs) (q0 t0 : Nat) {cA : ClassId} {n k : Nat} {f : Nat → Int32} (ha : ws[q0]? = some (a, .inl (cA, n, .inl f))) (ht : tys[t0]? = some (cA, .boolean)) {i x x' : Int32} (hin : ixp i k n) (hz : vp_nar .boolean x = x') (hsame : f k = x') (hdg : decode cc pc = .ok (.bastore, 1))
    (kk : ∀ (H1 : Heap) (locs1 : List Loc), va_P D cl ws H1 → va_D A ws → va_S A H0 H1 locs1 → W p l e R s m args below meth c H1 locs1 cells slots Q (F0 m (pc + 1) ls rest)) : W p l e R s m args below meth c H locs cells slots Q (F0 m pc ls (.int x :: .int i :: .ref a :: rest)) := va_zastS hexec hb hK hP hD hS q0 t0 ha ht hin.1 (by rw [hin.2, hz]; exact hsame) hdg kk
theorem my_lastS (hexec : p.tables.exec = Jvm.exec) (hb : c.code = cc) (hK : va_K D cl tys s) (hP : va_P D cl ws H) (hD : va_D A ws) (hS : va_S A H0 H locs) (q0 t0 : Nat) {cA : ClassId} {n k : Nat} {f : Nat → Int64} (ha : ws[q0]? = some (a, .inl (cA, n, .inr (.inl f)))) (ht : tys[t0]? = some (cA, .long)) {i : Int32} {x : Int64} (hin : ixp i k n) (hsame : f k = x) (hdg : decode cc pc = .ok (.lastore, 1))
    (kk : ∀ (H1 : Heap) (locs1 : List Loc), va_P D cl ws H1 → va_D A ws → va_S A H0 H1 locs1 → W p l e R s m args below meth c H1 locs1 cells slots Q (F0 m (pc + 1) ls rest)) : W p l e R s m args below meth c H locs cells slots Q (F0 m pc ls (.long x :: .int i :: .ref a :: rest)) := va_lastS hexec hb hK hP hD hS q0 t0 ha ht hin.1 (by rw [hin.2]; exact hsame) hdg kk
/-- the array class of a primitive kind is one -/
theorem k_one {D : va_G} {cl : List vw_C} {tys : List (ClassId × FieldType)} {U : State} {t0 : Nat} {c0 cA : ClassId} {ty : FieldType} (hp : ∀ C, ty ≠ .object C) (h1 : tys[t0]? = some (c0, ty)) (h : va_K D cl (tys ++ [(cA, ty)]) U) : cA = c0 := by
  have e1 := (h.2 t0 (c0, ty) (by rw [List.getElem?_append_left (List.getElem?_eq_some_iff.mp h1).1]; exact h1)).2
  have e2 := (h.2 tys.length (cA, ty) (by simp)).2
  cases ty with
  | object C => exact absurd rfl (hp C)
  | _ =>
    simp only [va_RA] at e1 e2
    rw [e1] at e2
    exact (Option.some.inj e2).symm
theorem my_newa (hexec : p.tables.exec = Jvm.exec) (hb : c.code = cc) {atype : ArrayType} (harr : (Cond.arrayClass (newarray.typeOf atype)).before args s = true) {ty : FieldType} (hty : newarray.typeOf atype = ty) (hK : va_K D cl tys s) (hP : va_P D cl ws H) (hD : va_D A ws) (hS : va_S A H0 H locs) (hA : ∀ q, H0.size ≤ q → A q)
    (t0 : Nat) {c0 : ClassId} (ht : tys[t0]? = some (c0, ty)) (hpr : ∀ C, ty ≠ .object C) {n : Int32} {N' : Nat} {a0 : vp_A} (ha : ∀ cA : ClassId, vp_cell cA a0 = arrV cA N' (fun _ => defaultValue ty)) (hn : ¬ n < 0) (hN : n.toNatClampNeg = N') (hbytes : N' * componentBytes ty ≤ 536870912) (hcells : cells + 1 ≤ R.cells) (hslots : slots + N' ≤ R.slots) (hdg : decode cc pc = .ok (.newarray atype, 2))
    (kk : ∀ (q : Nat) (H1 : Heap), va_P D cl (ws ++ [(q, .inl (c0, a0))]) H1 → va_D A (ws ++ [(q, .inl (c0, a0))]) → va_S A H0 H1 locs →
      W p l e R s m args below meth c H1 locs (cells + 1) (slots + N') Q (F0 m (pc + 2) ls (.ref q :: rest))) : W p l e R s m args below meth c H locs cells slots Q (F0 m pc ls (.int n :: rest)) := by
  refine va_newa hexec hb harr hty hK hP hD hS hA ha hn hN hbytes hcells hslots hdg (fun q cA H1 hK1 hP1 hD1 hS1 => ?_)
  obtain rfl := k_one hpr ht hK1
  exact kk q H1 hP1 hD1 hS1
end
section
variable {p : Program} {l : Launch} {e : Env} {R : Room} {s : State} {m : MethodId} {args : Array Value} {below : List Frame} {meth : Method} {c : Code} {H : Heap} {locs : List Loc} {cells slots : Nat} {cc : ByteArray} {pc : Nat} {ls : Array Slot} {D : va_G} {A : Nat → Prop} {w1 : (Nat → Nat) → va_W} {u : Nat → Nat}
theorem ret_i {v : Int32} (hx : p.tables.exec = Jvm.exec) (hb : c.code = cc) (hr : meth.sig.returnType = some .int) (hlocks : meth.locks = false) (hS : va_S A s.heap H locs) (hP : va_P D vwCl (w1 u) H) (hD : va_D A (w1 u)) (hdg : decode cc pc = .ok (.ireturn, 1)) : W p l e R s m args below meth c H locs cells slots (MQ below (qi D w1 v A) args s cells slots A) (F0 m pc ls [.int v]) :=
  W.iret hx hb hr (fun t ht _ => ⟨⟨v, u, rfl, rfl, by rw [ht]; exact hP, hD⟩, hS.F ht⟩) hS.2.2 hdg hlocks
theorem ret_z {v : Int32} (hx : p.tables.exec = Jvm.exec) (hb : c.code = cc) (hr : meth.sig.returnType = some .boolean) (hn : narrow .boolean (.int v) = .int v) (hlocks : meth.locks = false) (hS : va_S A s.heap H locs) (hP : va_P D vwCl (w1 u) H) (hD : va_D A (w1 u)) (hdg : decode cc pc = .ok (.ireturn, 1)) : W p l e R s m args below meth c H locs cells slots (MQ below (qi D w1 v A) args s cells slots A) (F0 m pc ls [.int v]) :=
  W.zret hx hb hr hn (fun t ht _ => ⟨⟨v, u, rfl, rfl, by rw [ht]; exact hP, hD⟩, hS.F ht⟩) hS.2.2 hdg hlocks
theorem ret_l {v : Int64} (hx : p.tables.exec = Jvm.exec) (hb : c.code = cc) (hr : meth.sig.returnType = some .long) (hlocks : meth.locks = false) (hS : va_S A s.heap H locs) (hP : va_P D vwCl (w1 u) H) (hD : va_D A (w1 u)) (hdg : decode cc pc = .ok (.lreturn, 1)) : W p l e R s m args below meth c H locs cells slots (MQ below (ql D w1 v A) args s cells slots A) (F0 m pc ls [.long v]) :=
  W.lret hx hb hr (fun t ht _ => ⟨⟨v, u, rfl, rfl, by rw [ht]; exact hP, hD⟩, hS.F ht⟩) hS.2.2 hdg hlocks
theorem ret_v (hx : p.tables.exec = Jvm.exec) (hb : c.code = cc) (hr : meth.sig.returnType = none) (hlocks : meth.locks = false) (hS : va_S A s.heap H locs) (hP : va_P D vwCl (w1 u) H) (hD : va_D A (w1 u)) (hdg : decode cc pc = .ok (.return_, 1)) : W p l e R s m args below meth c H locs cells slots (MQ below (qv D w1 A) args s cells slots A) (F0 m pc ls []) :=
  W.vret hx hb hr (fun t ht _ => ⟨⟨u, rfl, trivial, by rw [ht]; exact hP, hD⟩, hS.F ht⟩) hS.2.2 hdg hlocks
theorem ret_r {v : Nat} {C : String} (hx : p.tables.exec = Jvm.exec) (hb : c.code = cc) (hr : meth.sig.returnType = some (.object C)) (hlocks : meth.locks = false) (hS : va_S A s.heap H locs) (hP : va_P D vwCl (w1 u) H) (hD : va_D A (w1 u)) (hdg : decode cc pc = .ok (.areturn, 1)) : W p l e R s m args below meth c H locs cells slots (MQ below (qr D w1 v A) args s cells slots A) (F0 m pc ls [.ref v]) :=
  W.aret hx hb hr (Or.inl ⟨C, rfl⟩) (Or.inr ⟨v, rfl⟩) (fun t ht _ => ⟨⟨u, v, rfl, trivial, rfl, by rw [ht]; exact hP, hD⟩, hS.F ht⟩) hS.2.2 hdg hlocks
end
theorem pre_blind {av : List Value} {D : va_G} {tys : List (ClassId × FieldType)} {ws : va_W} {sz : Nat} : FrameBlind (va_Pc av (cpre D tys ws sz)) := fun a U g mk q => by
  obtain ⟨q0, q1, qP, qK, qD⟩ := q
  exact ⟨q0, q1, qP, va_K.moved (u := U) (U := U.calling g mk a) (Vm.Alike.refl U.vm) qK, qD⟩
theorem nd_of_sub {isC : List Nat} {ws wc : va_W} {A : Nat → Prop} (hD : va_D A ws) (hn : va_nd isC = true) (hC : isC.map (fun i => ws[i]?) = wc.map some) : va_D (fun _ => True) wc := (hD.sub isC hn hC).weaken (fun _ _ _ _ => trivial)
theorem P_of_map {isC : List Nat} {ws wc : va_W} {D : va_G} {cl : List vw_C} {H : Heap} (hP : va_P D cl ws H) (hC : isC.map (fun i => ws[i]?) = wc.map some) : va_P D cl wc H := by
  intro k q hk
  have h1 : (isC.map (fun i => ws[i]?))[k]? = some (some q) := by rw [hC, List.getElem?_map, hk]; rfl
  rw [List.getElem?_map] at h1
  cases hi : isC[k]? with
  | none => rw [hi] at h1; cases h1
  | some i => rw [hi] at h1; exact hP i q (Option.some.inj h1)
section
variable {p : Program} {l : Launch} {e : Env} {R : Room} {s : State} {m : MethodId} {args : Array Value} {below : List Frame} {meth : Method} {c : Code} {H : Heap} {locs : List Loc} {cells slots : Nat} {Q : State → Prop} {cc : ByteArray} {pc nL : Nat} {ls : Array Slot} {rest : List Value} {D : va_G} {tys : List (ClassId × FieldType)} {ws : va_W} {A : Nat → Prop} {H0 : Heap}
  {own : String} {Ts : List Cond} {y : MethodName} {w : List Cond} {rm : Room} {As st0 : List Value} {wc wr : va_W} {w1 : (Nat → Nat) → va_W} {index maxL n : Nat} {bytes : ByteArray} {ret : Option FieldType} {C : String} {ci b : Nat} {fs : List Value} {q : vw_C}
theorem preV_of (hK : va_K D vwCl tys s) (hP : va_P D vwCl ws H) (hD : va_D A ws) (isC : List Nat) (hC : isC.map (fun i => ws[i]?) = wc.map some) (hnC : va_nd isC = true) (hcl : vwCl[ci]? = some q) (hq : q.1 = C) (hrec : wc[0]? = some (b, .inr (ci, fs))) : PreV s H C b (va_Pc (.ref b :: As) (cpre D tys wc H.size)) As := by
  have hPc := P_of_map hP hC
  subst hq
  exact ⟨pre_blind, va_recv hK hPc hcl hrec, fun U hU hW => ⟨rfl, by rw [hU], by rw [hU]; exact hPc, va_K.moved hW.alike hK, nd_of_sub hD hnC hC⟩⟩
theorem preS_of (hK : va_K D vwCl tys s) (hP : va_P D vwCl ws H) (hD : va_D A ws) (isC : List Nat) (hC : isC.map (fun i => ws[i]?) = wc.map some) (hnC : va_nd isC = true) : PreS s H (va_Pc As (cpre D tys wc H.size)) As :=
  ⟨pre_blind, fun U hU hW => ⟨rfl, by rw [hU], by rw [hU]; exact P_of_map hP hC, va_K.moved hW.alike hK, nd_of_sub hD hnC hC⟩⟩
theorem call_iV {v : Int32} (S : CallFix p m c cc nL s args Ts own) (hM : CI l y w rm D tys (.ref b :: As) wc w1 v) (cw : CallW R s args own C index y bytes maxL ret w rm rm.cells rm.slots n) (hK : va_K D vwCl tys s) (hP : va_P D vwCl ws H) (hD : va_D A ws) (hS : va_S A H0 H locs) (hA : ∀ q, H0.size ≤ q → A q) (isC isR : List Nat) (hC : isC.map (fun i => ws[i]?) = wc.map some) (hR : isR.map (fun i => ws[i]?) = wr.map some) (hnC : va_nd isC = true) (hnR : va_nd isR = true) (hdis : ∀ i ∈ isR, i ∉ isC) (hcl : vwCl[ci]? = some q) (hq : q.1 = C) (hrec : wc[0]? = some (b, .inr (ci, fs)))
    (hls : ls.size = nL) (hroom : (rest.map fun v => v.category).sum ≤ 8) (hlen : As.length = n) (hst : st0 = As.reverse ++ .ref b :: rest) (hdg : decode cc pc = .ok (.invokevirtual index, 3)) (hf : cells + rm.cells ≤ R.cells ∧ slots + rm.slots ≤ R.slots)
    (kk : ∀ (u : Nat → Nat) (H1 : Heap) (locs1 : List Loc), va_P D vwCl (wr ++ w1 u) H1 → va_D A (wr ++ w1 u) → va_S A H0 H1 locs1 → W p l e R s m args below meth c H1 locs1 (cells + rm.cells) (slots + rm.slots) Q (F0 m (pc + 3) ls (.int v :: rest))) : W p l e R s m args below meth c H locs cells slots Q (F0 m pc ls st0) := by
  have hFc := va_free (wc := wc) hD hS hA isC hC
  refine va_calli (va_runV S (hM H.size) cw (preV_of hK hP hD isC hC hnC hcl hq hrec) rfl hlen hls hst (lv_room hroom) hdg hf) hS (fun q _ h => hFc q h) hFc (fun r u t H1 locs ht hvm hw hB hz1 hk1 hS => ?_)
  subst hw
  obtain ⟨hP1, hD1⟩ := hB
  rw [ht] at hP1
  obtain ⟨hP2, hD2⟩ := va_join hP hD isC isR hC hR hnR hdis hk1 hFc hP1 hD1
  exact kk u H1 locs hP2 hD2 hS
theorem call_lV {v : Int64} (S : CallFix p m c cc nL s args Ts own) (hM : CL l y w rm D tys (.ref b :: As) wc w1 v) (cw : CallW R s args own C index y bytes maxL ret w rm rm.cells rm.slots n) (hK : va_K D vwCl tys s) (hP : va_P D vwCl ws H) (hD : va_D A ws) (hS : va_S A H0 H locs) (hA : ∀ q, H0.size ≤ q → A q) (isC isR : List Nat) (hC : isC.map (fun i => ws[i]?) = wc.map some) (hR : isR.map (fun i => ws[i]?) = wr.map some) (hnC : va_nd isC = true) (hnR : va_nd isR = true) (hdis : ∀ i ∈ isR, i ∉ isC) (hcl : vwCl[ci]? = some q) (hq : q.1 = C) (hrec : wc[0]? = some (b, .inr (ci, fs)))
    (hls : ls.size = nL) (hroom : (rest.map fun v => v.category).sum ≤ 8) (hlen : As.length = n) (hst : st0 = As.reverse ++ .ref b :: rest) (hdg : decode cc pc = .ok (.invokevirtual index, 3)) (hf : cells + rm.cells ≤ R.cells ∧ slots + rm.slots ≤ R.slots)
    (kk : ∀ (u : Nat → Nat) (H1 : Heap) (locs1 : List Loc), va_P D vwCl (wr ++ w1 u) H1 → va_D A (wr ++ w1 u) → va_S A H0 H1 locs1 → W p l e R s m args below meth c H1 locs1 (cells + rm.cells) (slots + rm.slots) Q (F0 m (pc + 3) ls (.long v :: rest))) : W p l e R s m args below meth c H locs cells slots Q (F0 m pc ls st0) := by
  have hFc := va_free (wc := wc) hD hS hA isC hC
  refine va_calll (va_runV S (hM H.size) cw (preV_of hK hP hD isC hC hnC hcl hq hrec) rfl hlen hls hst (lv_room hroom) hdg hf) hS (fun q _ h => hFc q h) hFc (fun r u t H1 locs ht hvm hw hB hz1 hk1 hS => ?_)
  subst hw
  obtain ⟨hP1, hD1⟩ := hB
  rw [ht] at hP1
  obtain ⟨hP2, hD2⟩ := va_join hP hD isC isR hC hR hnR hdis hk1 hFc hP1 hD1
  exact kk u H1 locs hP2 hD2 hS
theorem call_vV (S : CallFix p m c cc nL s args Ts own) (hM : CV l y w rm D tys (.ref b :: As) wc w1) (cw : CallW R s args own C index y bytes maxL ret w rm rm.cells rm.slots n) (hK : va_K D vwCl tys s) (hP : va_P D vwCl ws H) (hD : va_D A ws) (hS : va_S A H0 H locs) (hA : ∀ q, H0.size ≤ q → A q) (isC isR : List Nat) (hC : isC.map (fun i => ws[i]?) = wc.map some) (hR : isR.map (fun i => ws[i]?) = wr.map some) (hnC : va_nd isC = true) (hnR : va_nd isR = true) (hdis : ∀ i ∈ isR, i ∉ isC) (hcl : vwCl[ci]? = some q) (hq : q.1 = C) (hrec : wc[0]? = some (b, .inr (ci, fs)))
    (hls : ls.size = nL) (hroom : (rest.map fun v => v.category).sum ≤ 8) (hlen : As.length = n) (hst : st0 = As.reverse ++ .ref b :: rest) (hdg : decode cc pc = .ok (.invokevirtual index, 3)) (hf : cells + rm.cells ≤ R.cells ∧ slots + rm.slots ≤ R.slots)
    (kk : ∀ (u : Nat → Nat) (H1 : Heap) (locs1 : List Loc), va_P D vwCl (wr ++ w1 u) H1 → va_D A (wr ++ w1 u) → va_S A H0 H1 locs1 → W p l e R s m args below meth c H1 locs1 (cells + rm.cells) (slots + rm.slots) Q (F0 m (pc + 3) ls rest)) : W p l e R s m args below meth c H locs cells slots Q (F0 m pc ls st0) := by
  have hFc := va_free (wc := wc) hD hS hA isC hC
  refine va_callv (va_runV S (hM H.size) cw (preV_of hK hP hD isC hC hnC hcl hq hrec) rfl hlen hls hst (lv_room hroom) hdg hf) hS (fun q _ h => hFc q h) hFc (fun u t H1 locs ht hvm hw hB hz1 hk1 hS => ?_)
  obtain ⟨hP1, hD1⟩ := hB
  rw [ht] at hP1
  obtain ⟨hP2, hD2⟩ := va_join hP hD isC isR hC hR hnR hdis hk1 hFc hP1 hD1
  exact kk u H1 locs hP2 hD2 hS
theorem call_rV {v : Nat} (S : CallFix p m c cc nL s args Ts own) (hM : CR l y w rm D tys (.ref b :: As) wc w1 v) (cw : CallW R s args own C index y bytes maxL ret w rm rm.cells rm.slots n) (hK : va_K D vwCl tys s) (hP : va_P D vwCl ws H) (hD : va_D A ws) (hS : va_S A H0 H locs) (hA : ∀ q, H0.size ≤ q → A q) (isC isR : List Nat) (hC : isC.map (fun i => ws[i]?) = wc.map some) (hR : isR.map (fun i => ws[i]?) = wr.map some) (hnC : va_nd isC = true) (hnR : va_nd isR = true) (hdis : ∀ i ∈ isR, i ∉ isC) (hcl : vwCl[ci]? = some q) (hq : q.1 = C) (hrec : wc[0]? = some (b, .inr (ci, fs)))
    (hls : ls.size = nL) (hroom : (rest.map fun v => v.category).sum ≤ 8) (hlen : As.length = n) (hst : st0 = As.reverse ++ .ref b :: rest) (hdg : decode cc pc = .ok (.invokevirtual index, 3)) (hf : cells + rm.cells ≤ R.cells ∧ slots + rm.slots ≤ R.slots)
    (kk : ∀ (u : Nat → Nat) (H1 : Heap) (locs1 : List Loc), va_P D vwCl (wr ++ w1 u) H1 → va_D A (wr ++ w1 u) → va_S A H0 H1 locs1 → W p l e R s m args below meth c H1 locs1 (cells + rm.cells) (slots + rm.slots) Q (F0 m (pc + 3) ls (.ref v :: rest))) : W p l e R s m args below meth c H locs cells slots Q (F0 m pc ls st0) := by
  have hFc := va_free (wc := wc) hD hS hA isC hC
  refine va_callr (va_runV S (hM H.size) cw (preV_of hK hP hD isC hC hnC hcl hq hrec) rfl hlen hls hst (lv_room hroom) hdg hf) hS (fun q _ h => hFc q h) hFc (fun u ra t H1 locs ht hvm hw hB hz1 hk1 hS => ?_)
  obtain ⟨hra, hP1, hD1⟩ := hB
  subst hra
  rw [ht] at hP1
  obtain ⟨hP2, hD2⟩ := va_join hP hD isC isR hC hR hnR hdis hk1 hFc hP1 hD1
  exact kk u H1 locs hP2 hD2 hS
theorem call_iS {v : Int32} (S : CallFix p m c cc nL s args Ts own) (hM : CI l y w rm D tys As wc w1 v) (cw : CallB R s args own index y bytes maxL ret w rm rm.cells rm.slots n ∧ (Cond.static y).before args s = true) (hK : va_K D vwCl tys s) (hP : va_P D vwCl ws H) (hD : va_D A ws) (hS : va_S A H0 H locs) (hA : ∀ q, H0.size ≤ q → A q) (isC isR : List Nat) (hC : isC.map (fun i => ws[i]?) = wc.map some) (hR : isR.map (fun i => ws[i]?) = wr.map some) (hnC : va_nd isC = true) (hnR : va_nd isR = true) (hdis : ∀ i ∈ isR, i ∉ isC)
    (hls : ls.size = nL) (hroom : (rest.map fun v => v.category).sum ≤ 8) (hlen : As.length = n) (hst : st0 = As.reverse ++ rest) (hdg : decode cc pc = .ok (.invokestatic index, 3)) (hf : cells + rm.cells ≤ R.cells ∧ slots + rm.slots ≤ R.slots)
    (kk : ∀ (u : Nat → Nat) (H1 : Heap) (locs1 : List Loc), va_P D vwCl (wr ++ w1 u) H1 → va_D A (wr ++ w1 u) → va_S A H0 H1 locs1 → W p l e R s m args below meth c H1 locs1 (cells + rm.cells) (slots + rm.slots) Q (F0 m (pc + 3) ls (.int v :: rest))) : W p l e R s m args below meth c H locs cells slots Q (F0 m pc ls st0) := by
  have hFc := va_free (wc := wc) hD hS hA isC hC
  refine va_calli (va_runS S (hM H.size) cw (preS_of hK hP hD isC hC hnC) rfl hlen hls hst (lv_room hroom) hdg hf) hS (fun q _ h => hFc q h) hFc (fun r u t H1 locs ht hvm hw hB hz1 hk1 hS => ?_)
  subst hw
  obtain ⟨hP1, hD1⟩ := hB
  rw [ht] at hP1
  obtain ⟨hP2, hD2⟩ := va_join hP hD isC isR hC hR hnR hdis hk1 hFc hP1 hD1
  exact kk u H1 locs hP2 hD2 hS
theorem call_vS (S : CallFix p m c cc nL s args Ts own) (hM : CV l y w rm D tys As wc w1) (cw : CallB R s args own index y bytes maxL ret w rm rm.cells rm.slots n ∧ (Cond.static y).before args s = true) (hK : va_K D vwCl tys s) (hP : va_P D vwCl ws H) (hD : va_D A ws) (hS : va_S A H0 H locs) (hA : ∀ q, H0.size ≤ q → A q) (isC isR : List Nat) (hC : isC.map (fun i => ws[i]?) = wc.map some) (hR : isR.map (fun i => ws[i]?) = wr.map some) (hnC : va_nd isC = true) (hnR : va_nd isR = true) (hdis : ∀ i ∈ isR, i ∉ isC)
    (hls : ls.size = nL) (hroom : (rest.map fun v => v.category).sum ≤ 8) (hlen : As.length = n) (hst : st0 = As.reverse ++ rest) (hdg : decode cc pc = .ok (.invokestatic index, 3)) (hf : cells + rm.cells ≤ R.cells ∧ slots + rm.slots ≤ R.slots)
    (kk : ∀ (u : Nat → Nat) (H1 : Heap) (locs1 : List Loc), va_P D vwCl (wr ++ w1 u) H1 → va_D A (wr ++ w1 u) → va_S A H0 H1 locs1 → W p l e R s m args below meth c H1 locs1 (cells + rm.cells) (slots + rm.slots) Q (F0 m (pc + 3) ls rest)) : W p l e R s m args below meth c H locs cells slots Q (F0 m pc ls st0) := by
  have hFc := va_free (wc := wc) hD hS hA isC hC
  refine va_callv (va_runS S (hM H.size) cw (preS_of hK hP hD isC hC hnC) rfl hlen hls hst (lv_room hroom) hdg hf) hS (fun q _ h => hFc q h) hFc (fun u t H1 locs ht hvm hw hB hz1 hk1 hS => ?_)
  obtain ⟨hP1, hD1⟩ := hB
  rw [ht] at hP1
  obtain ⟨hP2, hD2⟩ := va_join hP hD isC isR hC hR hnR hdis hk1 hFc hP1 hD1
  exact kk u H1 locs hP2 hD2 hS
theorem call_vI (S : CallFix p m c cc nL s args Ts own) (hM : CV l y w rm D tys (.ref b :: As) wc w1) (cw : CallB R s args own index y bytes maxL none w rm rm.cells rm.slots n ∧ y.name = "<init>" ∧ (Cond.instanceMethod y).before args s = true) (hK : va_K D vwCl tys s) (hP : va_P D vwCl ws H) (hD : va_D A ws) (hS : va_S A H0 H locs) (hA : ∀ q, H0.size ≤ q → A q) (isC isR : List Nat) (hC : isC.map (fun i => ws[i]?) = wc.map some) (hR : isR.map (fun i => ws[i]?) = wr.map some) (hnC : va_nd isC = true) (hnR : va_nd isR = true) (hdis : ∀ i ∈ isR, i ∉ isC)
    (hls : ls.size = nL) (hroom : (rest.map fun v => v.category).sum ≤ 8) (hlen : As.length = n) (hst : st0 = As.reverse ++ .ref b :: rest) (hdg : decode cc pc = .ok (.invokespecial index, 3)) (hf : cells + rm.cells ≤ R.cells ∧ slots + rm.slots ≤ R.slots)
    (kk : ∀ (u : Nat → Nat) (H1 : Heap) (locs1 : List Loc), va_P D vwCl (wr ++ w1 u) H1 → va_D A (wr ++ w1 u) → va_S A H0 H1 locs1 → W p l e R s m args below meth c H1 locs1 (cells + rm.cells) (slots + rm.slots) Q (F0 m (pc + 3) ls rest)) : W p l e R s m args below meth c H locs cells slots Q (F0 m pc ls st0) := by
  have hFc := va_free (wc := wc) hD hS hA isC hC
  refine va_callv (va_runI S (hM H.size) cw (preS_of hK hP hD isC hC hnC) rfl hlen hls hst (lv_room hroom) hdg hf) hS (fun q _ h => hFc q h) hFc (fun u t H1 locs ht hvm hw hB hz1 hk1 hS => ?_)
  obtain ⟨hP1, hD1⟩ := hB
  rw [ht] at hP1
  obtain ⟨hP2, hD2⟩ := va_join hP hD isC isR hC hR hnR hdis hk1 hFc hP1 hD1
  exact kk u H1 locs hP2 hD2 hS
theorem call_vIN {host : String} (S : CallFix p m c cc nL s args Ts own) (hM : CV l y w rm D tys (.ref b :: As) wc w1) (cw : va_CN R s args own index y host bytes maxL none w rm rm.cells rm.slots n ∧ y.name = "<init>" ∧ (Cond.instanceMethod y).before args s = true) (hK : va_K D vwCl tys s) (hP : va_P D vwCl ws H) (hD : va_D A ws) (hS : va_S A H0 H locs) (hA : ∀ q, H0.size ≤ q → A q) (isC isR : List Nat) (hC : isC.map (fun i => ws[i]?) = wc.map some) (hR : isR.map (fun i => ws[i]?) = wr.map some) (hnC : va_nd isC = true) (hnR : va_nd isR = true) (hdis : ∀ i ∈ isR, i ∉ isC)
    (hls : ls.size = nL) (hroom : (rest.map fun v => v.category).sum ≤ 8) (hlen : As.length = n) (hst : st0 = As.reverse ++ .ref b :: rest) (hdg : decode cc pc = .ok (.invokespecial index, 3)) (hf : cells + rm.cells ≤ R.cells ∧ slots + rm.slots ≤ R.slots)
    (kk : ∀ (u : Nat → Nat) (H1 : Heap) (locs1 : List Loc), va_P D vwCl (wr ++ w1 u) H1 → va_D A (wr ++ w1 u) → va_S A H0 H1 locs1 → W p l e R s m args below meth c H1 locs1 (cells + rm.cells) (slots + rm.slots) Q (F0 m (pc + 3) ls rest)) : W p l e R s m args below meth c H locs cells slots Q (F0 m pc ls st0) := by
  have hFc := va_free (wc := wc) hD hS hA isC hC
  refine va_callv (va_runIN S (hM H.size) cw (preS_of hK hP hD isC hC hnC) rfl hlen hls hst (lv_room hroom) hdg hf) hS (fun q _ h => hFc q h) hFc (fun u t H1 locs ht hvm hw hB hz1 hk1 hS => ?_)
  obtain ⟨hP1, hD1⟩ := hB
  rw [ht] at hP1
  obtain ⟨hP2, hD2⟩ := va_join hP hD isC isR hC hR hnR hdis hk1 hFc hP1 hD1
  exact kk u H1 locs hP2 hD2 hS
end

abbrev fX (r : Nat → Nat) : List Value := [.ref (r 1), .int 0, .ref (r 2), .ref (r 18), .ref (r 28), .ref (r 38), .ref (r 45), .ref (r 55), .ref (r 58), .ref (r 61), .ref (r 65), .ref (r 70), .ref (r 75), .int 0, .ref (r 80), .ref (r 86), .int 0, .ref (r 87)]
abbrev fM (n : Nat → Nat) : List Value := [.ref (n 1), .ref (n 2), .int 0, .int 0, .int 0, .int (-1), .int 0, .int 0, .int 0, .int 0, .long 0, .ref (n 3), .ref (n 4), .ref (n 5), .ref (n 6), .ref (n 7), .ref (n 8), .ref (n 9), .ref (n 10), .ref (n 11), .ref (n 12), .ref (n 13), .ref (n 14), .ref (n 15), .ref (n 16), .ref (n 17), .ref (n 18), .ref (n 19), .ref (n 20), .int 0, .int 0, .ref (n 21), .ref (n 22), .ref (n 23), .ref (n 24), .ref (n 25), .ref (n 26), .ref (n 27), .ref (n 28), .int 0, .ref (n 29), .ref (n 30), .int 0, .int 0, .ref (n 31), .ref (n 32), .ref (n 33), .ref (n 34), .int 0, .int 0, .int 0, .long 0, .ref (n 35), .ref (n 36), .int (-1), .int 0, .int 0, .int 0, .ref (n 37), .int 0, .ref (n 38), .ref (n 39), .ref (n 40), .ref (n 41), .ref (n 42), .ref (n 43), .int 0, .int 0, .ref (n 44), .ref (n 45), .ref (n 46)]
theorem dfX0 : ∀ j, j < 9 → defaultValue (tyX0 j) = vp_V [.null, .int 0, .null, .null, .null, .null, .null, .int 0, .int 0] j := by decide +kernel
theorem dfX1 : ∀ j, j < 4 → defaultValue (tyX1 j) = vp_V [.int 0, .null, .int 0, .null] j := by decide +kernel
theorem dfX2 : ∀ j, j < 4 → defaultValue (tyX2 j) = vp_V [.null, .null, .null, .null] j := by decide +kernel
theorem dfX3 : ∀ j, j < 9 → defaultValue (tyX3 j) = vp_V [.null, .null, .null, .int 0, .int 0, .int 0, .int 0, .int 0, .int 0] j := by decide +kernel
theorem dfX4 : ∀ j, j < 16 → defaultValue (tyX4 j) = vp_V [.int 0, .null, .null, .int 0, .null, .null, .int 0, .null, .null, .int 0, .null, .null, .int 0, .int 0, .int 0, .null] j := by decide +kernel
theorem dfX5 : ∀ j, j < 2 → defaultValue (tyX5 j) = vp_V [.null, .null] j := by decide +kernel
theorem dfX6 : ∀ j, j < 7 → defaultValue (tyX6 j) = vp_V [.int 0, .int 0, .null, .null, .null, .null, .null] j := by decide +kernel
theorem dfX7 : ∀ j, j < 3 → defaultValue (tyX7 j) = vp_V [.null, .int 0, .null] j := by decide +kernel
theorem dfX8 : ∀ j, j < 10 → defaultValue (tyX8 j) = vp_V [.null, .null, .int 0, .int 0, .int 0, .int 0, .long 0, .int 0, .int 0, .int 0] j := by decide +kernel
theorem dfX9 : ∀ j, j < 11 → defaultValue (tyX9 j) = vp_V [.int 0, .int 0, .null, .null, .null, .null, .int 0, .int 0, .int 0, .int 0, .int 0] j := by decide +kernel
theorem dfX10 : ∀ j, j < 18 → defaultValue (tyX10 j) = vp_V [.null, .int 0, .null, .null, .null, .null, .null, .null, .null, .null, .null, .null, .null, .int 0, .null, .null, .int 0, .null] j := by decide +kernel
theorem dfX11 : ∀ j, j < 71 → defaultValue (tyX11 j) = vp_V [.null, .null, .int 0, .int 0, .int 0, .int 0, .int 0, .int 0, .int 0, .int 0, .long 0, .null, .null, .null, .null, .null, .null, .null, .null, .null, .null, .null, .null, .null, .null, .null, .null, .null, .null, .int 0, .int 0, .null, .null, .null, .null, .null, .null, .null, .null, .int 0, .null, .null, .int 0, .int 0, .null, .null, .null, .null, .int 0, .int 0, .int 0, .long 0, .null, .null, .int 0, .int 0, .int 0, .int 0, .null, .int 0, .null, .null, .null, .null, .null, .null, .int 0, .int 0, .null, .null, .null] j := by decide +kernel
theorem z0 : (Int16.ofInt 1600).toInt32 = 1600 := by decide +kernel
theorem z1 : ¬ (1600 : Int32) < 0 := by decide +kernel
theorem z2 : (1600 : Int32).toNatClampNeg = 1600 := by decide +kernel
theorem z3 : 1600 * componentBytes .byte ≤ 536870912 := by decide +kernel
theorem z4 : (Int8.ofInt 6).toInt32 = 6 := by decide +kernel
theorem z5 : ¬ (6 : Int32) < 0 := by decide +kernel
theorem z6 : (6 : Int32).toNatClampNeg = 6 := by decide +kernel
theorem z7 : 6 * componentBytes .long ≤ 536870912 := by decide +kernel
theorem z8 : Int32.ofInt 0 = 0 := by decide +kernel
theorem z9 : ¬ (4 : Int32) ≤ 0 := by decide +kernel
theorem z10 : ((9 : Nat) : Int) + 23 = ((32 : Nat) : Int) := by decide +kernel
theorem z11 : Int32.ofInt 5 = 5 := by decide +kernel
theorem z12 : (0 : Int64) <<< ((5 : Int32).toInt64 &&& 63) = 0 := by decide +kernel
theorem z13 : (Int8.ofInt 96).toInt32 = 96 := by decide +kernel
theorem z14 : (119 : Int32) - 96 = 23 := by decide +kernel
theorem z15 : (23 : Int32).toInt64 = 23 := by decide +kernel
theorem z16 : (0 : Int64) ||| 23 = 23 := by decide +kernel
theorem z17 : (0 : Int32) + Int32.ofInt 1 = 1 := by decide +kernel
theorem z18 : ((29 : Nat) : Int) + (-25) = ((4 : Nat) : Int) := by decide +kernel
theorem z19 : ¬ (4 : Int32) ≤ 1 := by decide +kernel
theorem z20 : (23 : Int64) <<< ((5 : Int32).toInt64 &&& 63) = 736 := by decide +kernel
theorem z21 : (111 : Int32) - 96 = 15 := by decide +kernel
theorem z22 : (15 : Int32).toInt64 = 15 := by decide +kernel
theorem z23 : (736 : Int64) ||| 15 = 751 := by decide +kernel
theorem z24 : (1 : Int32) + Int32.ofInt 1 = 2 := by decide +kernel
theorem z25 : ¬ (4 : Int32) ≤ 2 := by decide +kernel
theorem z26 : (751 : Int64) <<< ((5 : Int32).toInt64 &&& 63) = 24032 := by decide +kernel
theorem z27 : (114 : Int32) - 96 = 18 := by decide +kernel
theorem z28 : (18 : Int32).toInt64 = 18 := by decide +kernel
theorem z29 : (24032 : Int64) ||| 18 = 24050 := by decide +kernel
theorem z30 : (2 : Int32) + Int32.ofInt 1 = 3 := by decide +kernel
theorem z31 : ¬ (4 : Int32) ≤ 3 := by decide +kernel
theorem z32 : (24050 : Int64) <<< ((5 : Int32).toInt64 &&& 63) = 769600 := by decide +kernel
theorem z33 : (100 : Int32) - 96 = 4 := by decide +kernel
theorem z34 : (4 : Int32).toInt64 = 4 := by decide +kernel
theorem z35 : (769600 : Int64) ||| 4 = 769604 := by decide +kernel
theorem z36 : (3 : Int32) + Int32.ofInt 1 = 4 := by decide +kernel
theorem z37 : (4 : Int32) ≤ 4 := by decide +kernel
theorem z38 : ixp 0 0 6 := ⟨vin _ _ (by decide +kernel), by decide +kernel⟩
theorem z39 : Int32.ofInt 1 = 1 := by decide +kernel
theorem z40 : (112 : Int32) - 96 = 16 := by decide +kernel
theorem z41 : (16 : Int32).toInt64 = 16 := by decide +kernel
theorem z42 : (0 : Int64) ||| 16 = 16 := by decide +kernel
theorem z43 : (16 : Int64) <<< ((5 : Int32).toInt64 &&& 63) = 512 := by decide +kernel
theorem z44 : (97 : Int32) - 96 = 1 := by decide +kernel
theorem z45 : (1 : Int32).toInt64 = 1 := by decide +kernel
theorem z46 : (512 : Int64) ||| 1 = 513 := by decide +kernel
theorem z47 : (513 : Int64) <<< ((5 : Int32).toInt64 &&& 63) = 16416 := by decide +kernel
theorem z48 : (105 : Int32) - 96 = 9 := by decide +kernel
theorem z49 : (9 : Int32).toInt64 = 9 := by decide +kernel
theorem z50 : (16416 : Int64) ||| 9 = 16425 := by decide +kernel
theorem z51 : (16425 : Int64) <<< ((5 : Int32).toInt64 &&& 63) = 525600 := by decide +kernel
theorem z52 : (525600 : Int64) ||| 18 = 525618 := by decide +kernel
theorem z53 : ixp 1 1 6 := ⟨vin _ _ (by decide +kernel), by decide +kernel⟩
theorem z54 : Int32.ofInt 2 = 2 := by decide +kernel
theorem z55 : (0 : Int64) ||| 18 = 18 := by decide +kernel
theorem z56 : (18 : Int64) <<< ((5 : Int32).toInt64 &&& 63) = 576 := by decide +kernel
theorem z57 : (117 : Int32) - 96 = 21 := by decide +kernel
theorem z58 : (21 : Int32).toInt64 = 21 := by decide +kernel
theorem z59 : (576 : Int64) ||| 21 = 597 := by decide +kernel
theorem z60 : (597 : Int64) <<< ((5 : Int32).toInt64 &&& 63) = 19104 := by decide +kernel
theorem z61 : (108 : Int32) - 96 = 12 := by decide +kernel
theorem z62 : (12 : Int32).toInt64 = 12 := by decide +kernel
theorem z63 : (19104 : Int64) ||| 12 = 19116 := by decide +kernel
theorem z64 : (19116 : Int64) <<< ((5 : Int32).toInt64 &&& 63) = 611712 := by decide +kernel
theorem z65 : (101 : Int32) - 96 = 5 := by decide +kernel
theorem z66 : (5 : Int32).toInt64 = 5 := by decide +kernel
theorem z67 : (611712 : Int64) ||| 5 = 611717 := by decide +kernel
theorem z68 : ixp 2 2 6 := ⟨vin _ _ (by decide +kernel), by decide +kernel⟩
theorem z69 : Int32.ofInt 3 = 3 := by decide +kernel
theorem z70 : ¬ (2 : Int32) ≤ 0 := by decide +kernel
theorem z71 : (0 : Int64) ||| 15 = 15 := by decide +kernel
theorem z72 : ¬ (2 : Int32) ≤ 1 := by decide +kernel
theorem z73 : (15 : Int64) <<< ((5 : Int32).toInt64 &&& 63) = 480 := by decide +kernel
theorem z74 : (480 : Int64) ||| 18 = 498 := by decide +kernel
theorem z75 : (2 : Int32) ≤ 2 := by decide +kernel
theorem z76 : ixp 3 3 6 := ⟨vin _ _ (by decide +kernel), by decide +kernel⟩
theorem z77 : Int32.ofInt 4 = 4 := by decide +kernel
theorem z78 : ¬ (6 : Int32) ≤ 0 := by decide +kernel
theorem z79 : (0 : Int64) ||| 12 = 12 := by decide +kernel
theorem z80 : ¬ (6 : Int32) ≤ 1 := by decide +kernel
theorem z81 : (12 : Int64) <<< ((5 : Int32).toInt64 &&& 63) = 384 := by decide +kernel
theorem z82 : (384 : Int64) ||| 5 = 389 := by decide +kernel
theorem z83 : ¬ (6 : Int32) ≤ 2 := by decide +kernel
theorem z84 : (389 : Int64) <<< ((5 : Int32).toInt64 &&& 63) = 12448 := by decide +kernel
theorem z85 : (110 : Int32) - 96 = 14 := by decide +kernel
theorem z86 : (14 : Int32).toInt64 = 14 := by decide +kernel
theorem z87 : (12448 : Int64) ||| 14 = 12462 := by decide +kernel
theorem z88 : ¬ (6 : Int32) ≤ 3 := by decide +kernel
theorem z89 : (12462 : Int64) <<< ((5 : Int32).toInt64 &&& 63) = 398784 := by decide +kernel
theorem z90 : (103 : Int32) - 96 = 7 := by decide +kernel
theorem z91 : (7 : Int32).toInt64 = 7 := by decide +kernel
theorem z92 : (398784 : Int64) ||| 7 = 398791 := by decide +kernel
theorem z93 : ¬ (6 : Int32) ≤ 4 := by decide +kernel
theorem z94 : (398791 : Int64) <<< ((5 : Int32).toInt64 &&& 63) = 12761312 := by decide +kernel
theorem z95 : (116 : Int32) - 96 = 20 := by decide +kernel
theorem z96 : (20 : Int32).toInt64 = 20 := by decide +kernel
theorem z97 : (12761312 : Int64) ||| 20 = 12761332 := by decide +kernel
theorem z98 : (4 : Int32) + Int32.ofInt 1 = 5 := by decide +kernel
theorem z99 : ¬ (6 : Int32) ≤ 5 := by decide +kernel
theorem z100 : (12761332 : Int64) <<< ((5 : Int32).toInt64 &&& 63) = 408362624 := by decide +kernel
theorem z101 : (104 : Int32) - 96 = 8 := by decide +kernel
theorem z102 : (8 : Int32).toInt64 = 8 := by decide +kernel
theorem z103 : (408362624 : Int64) ||| 8 = 408362632 := by decide +kernel
theorem z104 : (5 : Int32) + Int32.ofInt 1 = 6 := by decide +kernel
theorem z105 : (6 : Int32) ≤ 6 := by decide +kernel
theorem z106 : ixp 4 4 6 := ⟨vin _ _ (by decide +kernel), by decide +kernel⟩
theorem z107 : ¬ (5 : Int32) ≤ 0 := by decide +kernel
theorem z108 : (0 : Int64) ||| 20 = 20 := by decide +kernel
theorem z109 : ¬ (5 : Int32) ≤ 1 := by decide +kernel
theorem z110 : (20 : Int64) <<< ((5 : Int32).toInt64 &&& 63) = 640 := by decide +kernel
theorem z111 : (640 : Int64) ||| 21 = 661 := by decide +kernel
theorem z112 : ¬ (5 : Int32) ≤ 2 := by decide +kernel
theorem z113 : (661 : Int64) <<< ((5 : Int32).toInt64 &&& 63) = 21152 := by decide +kernel
theorem z114 : (21152 : Int64) ||| 18 = 21170 := by decide +kernel
theorem z115 : ¬ (5 : Int32) ≤ 3 := by decide +kernel
theorem z116 : (21170 : Int64) <<< ((5 : Int32).toInt64 &&& 63) = 677440 := by decide +kernel
theorem z117 : (677440 : Int64) ||| 14 = 677454 := by decide +kernel
theorem z118 : ¬ (5 : Int32) ≤ 4 := by decide +kernel
theorem z119 : (677454 : Int64) <<< ((5 : Int32).toInt64 &&& 63) = 21678528 := by decide +kernel
theorem z120 : (115 : Int32) - 96 = 19 := by decide +kernel
theorem z121 : (19 : Int32).toInt64 = 19 := by decide +kernel
theorem z122 : (21678528 : Int64) ||| 19 = 21678547 := by decide +kernel
theorem z123 : (5 : Int32) ≤ 5 := by decide +kernel
theorem z124 : ixp 5 5 6 := ⟨vin _ _ (by decide +kernel), by decide +kernel⟩
theorem z125 : ¬ (0 : Int32) < 0 := by decide +kernel
theorem z126 : (0 : Int32).toNatClampNeg = 0 := by decide +kernel
theorem z127 : 0 * componentBytes .byte ≤ 536870912 := by decide +kernel
theorem z128 : Int32.ofInt (-1) = (-1) := by decide +kernel
theorem z129 : yX8_packed.cls ≠ "java/lang/invoke/MethodHandle" ∧ yX8_packed.cls ≠ "java/lang/invoke/VarHandle" ∧ (parseMethodDescriptor yX8_packed.desc).map (fun d => d.parameters.length) = some 1 := by decide +kernel
theorem z130 : (Int8.ofInt 8).toInt32 = 8 := by decide +kernel
theorem z131 : ¬ (8 : Int32) < 0 := by decide +kernel
theorem z132 : (8 : Int32).toNatClampNeg = 8 := by decide +kernel
theorem z133 : 8 * componentBytes .long ≤ 536870912 := by decide +kernel
theorem z134 : (Int8.ofInt 24).toInt32 = 24 := by decide +kernel
theorem z135 : ¬ (24 : Int32) < 0 := by decide +kernel
theorem z136 : (24 : Int32).toNatClampNeg = 24 := by decide +kernel
theorem z137 : 24 * componentBytes .int ≤ 536870912 := by decide +kernel
theorem z138 : (Int8.ofInt 64).toInt32 = 64 := by decide +kernel
theorem z139 : ¬ (64 : Int32) < 0 := by decide +kernel
theorem z140 : (64 : Int32).toNatClampNeg = 64 := by decide +kernel
theorem z141 : 64 * componentBytes .boolean ≤ 536870912 := by decide +kernel
theorem z142 : (Int16.ofInt 192).toInt32 = 192 := by decide +kernel
theorem z143 : ¬ (192 : Int32) < 0 := by decide +kernel
theorem z144 : (192 : Int32).toNatClampNeg = 192 := by decide +kernel
theorem z145 : 192 * componentBytes .int ≤ 536870912 := by decide +kernel
theorem z146 : (Int8.ofInt 9).toInt32 = 9 := by decide +kernel
theorem z147 : ¬ (9 : Int32) < 0 := by decide +kernel
theorem z148 : (9 : Int32).toNatClampNeg = 9 := by decide +kernel
theorem z149 : 9 * componentBytes .int ≤ 536870912 := by decide +kernel
theorem z150 : ¬ (96 : Int32) < 0 := by decide +kernel
theorem z151 : (96 : Int32).toNatClampNeg = 96 := by decide +kernel
theorem z152 : 96 * componentBytes .int ≤ 536870912 := by decide +kernel
theorem z153 : 6 * componentBytes .int ≤ 536870912 := by decide +kernel
theorem z154 : 96 * componentBytes .long ≤ 536870912 := by decide +kernel
theorem z155 : yX8_init.cls ≠ "java/lang/invoke/MethodHandle" ∧ yX8_init.cls ≠ "java/lang/invoke/VarHandle" ∧ (parseMethodDescriptor yX8_init.desc).map (fun d => d.parameters.length) = some 0 := by decide +kernel
theorem z156 : yX4_init.cls ≠ "java/lang/invoke/MethodHandle" ∧ yX4_init.cls ≠ "java/lang/invoke/VarHandle" ∧ (parseMethodDescriptor yX4_init.desc).map (fun d => d.parameters.length) = some 0 := by decide +kernel
theorem z157 : (Int8.ofInt 40).toInt32 = 40 := by decide +kernel
theorem z158 : ¬ (40 : Int32) < 0 := by decide +kernel
theorem z159 : (40 : Int32).toNatClampNeg = 40 := by decide +kernel
theorem z160 : 40 * componentBytes .boolean ≤ 536870912 := by decide +kernel
theorem z161 : 40 * componentBytes .int ≤ 536870912 := by decide +kernel
theorem z162 : ((7 : Nat) : Int) + 13 = ((20 : Nat) : Int) := by decide +kernel
theorem z163 : ((17 : Nat) : Int) + (-12) = ((5 : Nat) : Int) := by decide +kernel
theorem z164 : yJ7_fill_53178.cls ≠ "java/lang/invoke/MethodHandle" ∧ yJ7_fill_53178.cls ≠ "java/lang/invoke/VarHandle" ∧ (parseMethodDescriptor yJ7_fill_53178.desc).map (fun d => d.parameters.length) = some 2 := by decide +kernel
theorem z165 : ixp 0 0 3 := ⟨vin _ _ (by decide +kernel), by decide +kernel⟩
theorem z166 : ixp 1 1 3 := ⟨vin _ _ (by decide +kernel), by decide +kernel⟩
theorem z167 : ixp 2 2 3 := ⟨vin _ _ (by decide +kernel), by decide +kernel⟩
theorem z168 : (Int8.ofInt 112).toInt32 = 112 := by decide +kernel
theorem z169 : ¬ (112 : Int32) < 0 := by decide +kernel
theorem z170 : (112 : Int32).toNatClampNeg = 112 := by decide +kernel
theorem z171 : 112 * componentBytes .long ≤ 536870912 := by decide +kernel
theorem z172 : (Int16.ofInt 784).toInt32 = 784 := by decide +kernel
theorem z173 : ¬ (784 : Int32) < 0 := by decide +kernel
theorem z174 : (784 : Int32).toNatClampNeg = 784 := by decide +kernel
theorem z175 : 784 * componentBytes .int ≤ 536870912 := by decide +kernel
theorem z176 : (Int16.ofInt 3000).toInt32 = 3000 := by decide +kernel
theorem z177 : ¬ (3000 : Int32) < 0 := by decide +kernel
theorem z178 : (3000 : Int32).toNatClampNeg = 3000 := by decide +kernel
theorem z179 : 3000 * componentBytes .int ≤ 536870912 := by decide +kernel
theorem z180 : (Int16.ofInt 9000).toInt32 = 9000 := by decide +kernel
theorem z181 : ¬ (9000 : Int32) < 0 := by decide +kernel
theorem z182 : (9000 : Int32).toNatClampNeg = 9000 := by decide +kernel
theorem z183 : 9000 * componentBytes .int ≤ 536870912 := by decide +kernel
theorem z184 : (Int8.ofInt 30).toInt32 = 30 := by decide +kernel
theorem z185 : ¬ (30 : Int32) < 0 := by decide +kernel
theorem z186 : (30 : Int32).toNatClampNeg = 30 := by decide +kernel
theorem z187 : 30 * componentBytes .int ≤ 536870912 := by decide +kernel
theorem z188 : 30 * componentBytes .boolean ≤ 536870912 := by decide +kernel
theorem z189 : (Int8.ofInt 16).toInt32 = 16 := by decide +kernel
theorem z190 : ¬ (16 : Int32) < 0 := by decide +kernel
theorem z191 : (16 : Int32).toNatClampNeg = 16 := by decide +kernel
theorem z192 : 16 * componentBytes .int ≤ 536870912 := by decide +kernel
theorem z193 : (Int16.ofInt 1620).toInt32 = 1620 := by decide +kernel
theorem z194 : ¬ (1620 : Int32) < 0 := by decide +kernel
theorem z195 : (1620 : Int32).toNatClampNeg = 1620 := by decide +kernel
theorem z196 : 1620 * componentBytes .byte ≤ 536870912 := by decide +kernel
theorem z197 : ¬ (2 : Int32) < 0 := by decide +kernel
theorem z198 : (2 : Int32).toNatClampNeg = 2 := by decide +kernel
theorem z199 : 2 * componentBytes .int ≤ 536870912 := by decide +kernel
theorem z200 : (Int8.ofInt 12).toInt32 = 12 := by decide +kernel
theorem z201 : ¬ (12 : Int32) < 0 := by decide +kernel
theorem z202 : (12 : Int32).toNatClampNeg = 12 := by decide +kernel
theorem z203 : 12 * componentBytes .int ≤ 536870912 := by decide +kernel
theorem z204 : (Int8.ofInt 48).toInt32 = 48 := by decide +kernel
theorem z205 : ¬ (48 : Int32) < 0 := by decide +kernel
theorem z206 : (48 : Int32).toNatClampNeg = 48 := by decide +kernel
theorem z207 : 48 * componentBytes .int ≤ 536870912 := by decide +kernel
theorem z208 : (Int16.ofInt 384).toInt32 = 384 := by decide +kernel
theorem z209 : ¬ (384 : Int32) < 0 := by decide +kernel
theorem z210 : (384 : Int32).toNatClampNeg = 384 := by decide +kernel
theorem z211 : 384 * componentBytes .int ≤ 536870912 := by decide +kernel
theorem z212 : (Int16.ofInt 128).toInt32 = 128 := by decide +kernel
theorem z213 : ¬ (128 : Int32) < 0 := by decide +kernel
theorem z214 : (128 : Int32).toNatClampNeg = 128 := by decide +kernel
theorem z215 : 128 * componentBytes .boolean ≤ 536870912 := by decide +kernel
theorem z216 : 2 * componentBytes .boolean ≤ 536870912 := by decide +kernel
theorem z217 : 16 * componentBytes .long ≤ 536870912 := by decide +kernel
theorem z218 : 192 * componentBytes .long ≤ 536870912 := by decide +kernel
theorem z219 : (Int8.ofInt 56).toInt32 = 56 := by decide +kernel
theorem z220 : ¬ (56 : Int32) < 0 := by decide +kernel
theorem z221 : (56 : Int32).toNatClampNeg = 56 := by decide +kernel
theorem z222 : 56 * componentBytes .int ≤ 536870912 := by decide +kernel
theorem z223 : (Int16.ofInt 448).toInt32 = 448 := by decide +kernel
theorem z224 : ¬ (448 : Int32) < 0 := by decide +kernel
theorem z225 : (448 : Int32).toNatClampNeg = 448 := by decide +kernel
theorem z226 : 448 * componentBytes .long ≤ 536870912 := by decide +kernel
theorem z227 : (Int8.ofInt 7).toInt32 = 7 := by decide +kernel
theorem z228 : ¬ (7 : Int32) < 0 := by decide +kernel
theorem z229 : (7 : Int32).toNatClampNeg = 7 := by decide +kernel
theorem z230 : 7 * componentBytes .long ≤ 536870912 := by decide +kernel
theorem z231 : (Int16.ofInt 3001).toInt32 = 3001 := by decide +kernel
theorem z232 : ¬ (3001 : Int32) < 0 := by decide +kernel
theorem z233 : (3001 : Int32).toNatClampNeg = 3001 := by decide +kernel
theorem z234 : 3001 * componentBytes .int ≤ 536870912 := by decide +kernel
theorem z235 : (Int16.ofInt 9003).toInt32 = 9003 := by decide +kernel
theorem z236 : ¬ (9003 : Int32) < 0 := by decide +kernel
theorem z237 : (9003 : Int32).toNatClampNeg = 9003 := by decide +kernel
theorem z238 : 9003 * componentBytes .int ≤ 536870912 := by decide +kernel
theorem z239 : 7 * componentBytes .int ≤ 536870912 := by decide +kernel
theorem z240 : 8 * componentBytes .int ≤ 536870912 := by decide +kernel
theorem z241 : ¬ (3 : Int32) < 0 := by decide +kernel
theorem z242 : (3 : Int32).toNatClampNeg = 3 := by decide +kernel
theorem z243 : 3 * componentBytes .int ≤ 536870912 := by decide +kernel
theorem z244 : (Int8.ofInt 18).toInt32 = 18 := by decide +kernel
theorem z245 : ¬ (18 : Int32) < 0 := by decide +kernel
theorem z246 : (18 : Int32).toNatClampNeg = 18 := by decide +kernel
theorem z247 : 18 * componentBytes .int ≤ 536870912 := by decide +kernel
theorem z248 : ixp 0 0 2 := ⟨vin _ _ (by decide +kernel), by decide +kernel⟩
theorem z249 : vp_nar .boolean 0 = 0 := by decide +kernel
theorem z250 : (64 : Int32) * 0 = 0 := by decide +kernel
theorem z251 : (0 : Int32) + 64 = 64 := by decide +kernel
theorem z252 : ¬ (64 : Int32) ≤ 0 := by decide +kernel
theorem z253 : ((89 : Nat) : Int) + 16 = ((105 : Nat) : Int) := by decide +kernel
theorem z254 : ixp 0 0 128 := ⟨vin _ _ (by decide +kernel), by decide +kernel⟩
theorem z255 : ((102 : Nat) : Int) + (-24) = ((78 : Nat) : Int) := by decide +kernel
theorem z256 : ¬ (64 : Int32) ≤ 1 := by decide +kernel
theorem z257 : ixp 1 1 128 := ⟨vin _ _ (by decide +kernel), by decide +kernel⟩
theorem z258 : ¬ (64 : Int32) ≤ 2 := by decide +kernel
theorem z259 : ixp 2 2 128 := ⟨vin _ _ (by decide +kernel), by decide +kernel⟩
theorem z260 : ¬ (64 : Int32) ≤ 3 := by decide +kernel
theorem z261 : ixp 3 3 128 := ⟨vin _ _ (by decide +kernel), by decide +kernel⟩
theorem z262 : ¬ (64 : Int32) ≤ 4 := by decide +kernel
theorem z263 : ixp 4 4 128 := ⟨vin _ _ (by decide +kernel), by decide +kernel⟩
theorem z264 : ¬ (64 : Int32) ≤ 5 := by decide +kernel
theorem z265 : ixp 5 5 128 := ⟨vin _ _ (by decide +kernel), by decide +kernel⟩
theorem z266 : ¬ (64 : Int32) ≤ 6 := by decide +kernel
theorem z267 : ixp 6 6 128 := ⟨vin _ _ (by decide +kernel), by decide +kernel⟩
theorem z268 : (6 : Int32) + Int32.ofInt 1 = 7 := by decide +kernel
theorem z269 : ¬ (64 : Int32) ≤ 7 := by decide +kernel
theorem z270 : ixp 7 7 128 := ⟨vin _ _ (by decide +kernel), by decide +kernel⟩
theorem z271 : (7 : Int32) + Int32.ofInt 1 = 8 := by decide +kernel
theorem z272 : ¬ (64 : Int32) ≤ 8 := by decide +kernel
theorem z273 : ixp 8 8 128 := ⟨vin _ _ (by decide +kernel), by decide +kernel⟩
theorem z274 : (8 : Int32) + Int32.ofInt 1 = 9 := by decide +kernel
theorem z275 : ¬ (64 : Int32) ≤ 9 := by decide +kernel
theorem z276 : ixp 9 9 128 := ⟨vin _ _ (by decide +kernel), by decide +kernel⟩
theorem z277 : (9 : Int32) + Int32.ofInt 1 = 10 := by decide +kernel
theorem z278 : ¬ (64 : Int32) ≤ 10 := by decide +kernel
theorem z279 : ixp 10 10 128 := ⟨vin _ _ (by decide +kernel), by decide +kernel⟩
theorem z280 : (10 : Int32) + Int32.ofInt 1 = 11 := by decide +kernel
theorem z281 : ¬ (64 : Int32) ≤ 11 := by decide +kernel
theorem z282 : ixp 11 11 128 := ⟨vin _ _ (by decide +kernel), by decide +kernel⟩
theorem z283 : (11 : Int32) + Int32.ofInt 1 = 12 := by decide +kernel
theorem z284 : ¬ (64 : Int32) ≤ 12 := by decide +kernel
theorem z285 : ixp 12 12 128 := ⟨vin _ _ (by decide +kernel), by decide +kernel⟩
theorem z286 : (12 : Int32) + Int32.ofInt 1 = 13 := by decide +kernel
theorem z287 : ¬ (64 : Int32) ≤ 13 := by decide +kernel
theorem z288 : ixp 13 13 128 := ⟨vin _ _ (by decide +kernel), by decide +kernel⟩
theorem z289 : (13 : Int32) + Int32.ofInt 1 = 14 := by decide +kernel
theorem z290 : ¬ (64 : Int32) ≤ 14 := by decide +kernel
theorem z291 : ixp 14 14 128 := ⟨vin _ _ (by decide +kernel), by decide +kernel⟩
theorem z292 : (14 : Int32) + Int32.ofInt 1 = 15 := by decide +kernel
theorem z293 : ¬ (64 : Int32) ≤ 15 := by decide +kernel
theorem z294 : ixp 15 15 128 := ⟨vin _ _ (by decide +kernel), by decide +kernel⟩
theorem z295 : (15 : Int32) + Int32.ofInt 1 = 16 := by decide +kernel
theorem z296 : ¬ (64 : Int32) ≤ 16 := by decide +kernel
theorem z297 : ixp 16 16 128 := ⟨vin _ _ (by decide +kernel), by decide +kernel⟩
theorem z298 : (16 : Int32) + Int32.ofInt 1 = 17 := by decide +kernel
theorem z299 : ¬ (64 : Int32) ≤ 17 := by decide +kernel
theorem z300 : ixp 17 17 128 := ⟨vin _ _ (by decide +kernel), by decide +kernel⟩
theorem z301 : (17 : Int32) + Int32.ofInt 1 = 18 := by decide +kernel
theorem z302 : ¬ (64 : Int32) ≤ 18 := by decide +kernel
theorem z303 : ixp 18 18 128 := ⟨vin _ _ (by decide +kernel), by decide +kernel⟩
theorem z304 : (18 : Int32) + Int32.ofInt 1 = 19 := by decide +kernel
theorem z305 : ¬ (64 : Int32) ≤ 19 := by decide +kernel
theorem z306 : ixp 19 19 128 := ⟨vin _ _ (by decide +kernel), by decide +kernel⟩
theorem z307 : (19 : Int32) + Int32.ofInt 1 = 20 := by decide +kernel
theorem z308 : ¬ (64 : Int32) ≤ 20 := by decide +kernel
theorem z309 : ixp 20 20 128 := ⟨vin _ _ (by decide +kernel), by decide +kernel⟩
theorem z310 : (20 : Int32) + Int32.ofInt 1 = 21 := by decide +kernel
theorem z311 : ¬ (64 : Int32) ≤ 21 := by decide +kernel
theorem z312 : ixp 21 21 128 := ⟨vin _ _ (by decide +kernel), by decide +kernel⟩
theorem z313 : (21 : Int32) + Int32.ofInt 1 = 22 := by decide +kernel
theorem z314 : ¬ (64 : Int32) ≤ 22 := by decide +kernel
theorem z315 : ixp 22 22 128 := ⟨vin _ _ (by decide +kernel), by decide +kernel⟩
theorem z316 : (22 : Int32) + Int32.ofInt 1 = 23 := by decide +kernel
theorem z317 : ¬ (64 : Int32) ≤ 23 := by decide +kernel
theorem z318 : ixp 23 23 128 := ⟨vin _ _ (by decide +kernel), by decide +kernel⟩
theorem z319 : (23 : Int32) + Int32.ofInt 1 = 24 := by decide +kernel
theorem z320 : ¬ (64 : Int32) ≤ 24 := by decide +kernel
theorem z321 : ixp 24 24 128 := ⟨vin _ _ (by decide +kernel), by decide +kernel⟩
theorem z322 : (24 : Int32) + Int32.ofInt 1 = 25 := by decide +kernel
theorem z323 : ¬ (64 : Int32) ≤ 25 := by decide +kernel
theorem z324 : ixp 25 25 128 := ⟨vin _ _ (by decide +kernel), by decide +kernel⟩
theorem z325 : (25 : Int32) + Int32.ofInt 1 = 26 := by decide +kernel
theorem z326 : ¬ (64 : Int32) ≤ 26 := by decide +kernel
theorem z327 : ixp 26 26 128 := ⟨vin _ _ (by decide +kernel), by decide +kernel⟩
theorem z328 : (26 : Int32) + Int32.ofInt 1 = 27 := by decide +kernel
theorem z329 : ¬ (64 : Int32) ≤ 27 := by decide +kernel
theorem z330 : ixp 27 27 128 := ⟨vin _ _ (by decide +kernel), by decide +kernel⟩
theorem z331 : (27 : Int32) + Int32.ofInt 1 = 28 := by decide +kernel
theorem z332 : ¬ (64 : Int32) ≤ 28 := by decide +kernel
theorem z333 : ixp 28 28 128 := ⟨vin _ _ (by decide +kernel), by decide +kernel⟩
theorem z334 : (28 : Int32) + Int32.ofInt 1 = 29 := by decide +kernel
theorem z335 : ¬ (64 : Int32) ≤ 29 := by decide +kernel
theorem z336 : ixp 29 29 128 := ⟨vin _ _ (by decide +kernel), by decide +kernel⟩
theorem z337 : (29 : Int32) + Int32.ofInt 1 = 30 := by decide +kernel
theorem z338 : ¬ (64 : Int32) ≤ 30 := by decide +kernel
theorem z339 : ixp 30 30 128 := ⟨vin _ _ (by decide +kernel), by decide +kernel⟩
theorem z340 : (30 : Int32) + Int32.ofInt 1 = 31 := by decide +kernel
theorem z341 : ¬ (64 : Int32) ≤ 31 := by decide +kernel
theorem z342 : ixp 31 31 128 := ⟨vin _ _ (by decide +kernel), by decide +kernel⟩
theorem z343 : (31 : Int32) + Int32.ofInt 1 = 32 := by decide +kernel
theorem z344 : ¬ (64 : Int32) ≤ 32 := by decide +kernel
theorem z345 : ixp 32 32 128 := ⟨vin _ _ (by decide +kernel), by decide +kernel⟩
theorem z346 : (32 : Int32) + Int32.ofInt 1 = 33 := by decide +kernel
theorem z347 : ¬ (64 : Int32) ≤ 33 := by decide +kernel
theorem z348 : ixp 33 33 128 := ⟨vin _ _ (by decide +kernel), by decide +kernel⟩
theorem z349 : (33 : Int32) + Int32.ofInt 1 = 34 := by decide +kernel
theorem z350 : ¬ (64 : Int32) ≤ 34 := by decide +kernel
theorem z351 : ixp 34 34 128 := ⟨vin _ _ (by decide +kernel), by decide +kernel⟩
theorem z352 : (34 : Int32) + Int32.ofInt 1 = 35 := by decide +kernel
theorem z353 : ¬ (64 : Int32) ≤ 35 := by decide +kernel
theorem z354 : ixp 35 35 128 := ⟨vin _ _ (by decide +kernel), by decide +kernel⟩
theorem z355 : (35 : Int32) + Int32.ofInt 1 = 36 := by decide +kernel
theorem z356 : ¬ (64 : Int32) ≤ 36 := by decide +kernel
theorem z357 : ixp 36 36 128 := ⟨vin _ _ (by decide +kernel), by decide +kernel⟩
theorem z358 : (36 : Int32) + Int32.ofInt 1 = 37 := by decide +kernel
theorem z359 : ¬ (64 : Int32) ≤ 37 := by decide +kernel
theorem z360 : ixp 37 37 128 := ⟨vin _ _ (by decide +kernel), by decide +kernel⟩
theorem z361 : (37 : Int32) + Int32.ofInt 1 = 38 := by decide +kernel
theorem z362 : ¬ (64 : Int32) ≤ 38 := by decide +kernel
theorem z363 : ixp 38 38 128 := ⟨vin _ _ (by decide +kernel), by decide +kernel⟩
theorem z364 : (38 : Int32) + Int32.ofInt 1 = 39 := by decide +kernel
theorem z365 : ¬ (64 : Int32) ≤ 39 := by decide +kernel
theorem z366 : ixp 39 39 128 := ⟨vin _ _ (by decide +kernel), by decide +kernel⟩
theorem z367 : (39 : Int32) + Int32.ofInt 1 = 40 := by decide +kernel
theorem z368 : ¬ (64 : Int32) ≤ 40 := by decide +kernel
theorem z369 : ixp 40 40 128 := ⟨vin _ _ (by decide +kernel), by decide +kernel⟩
theorem z370 : (40 : Int32) + Int32.ofInt 1 = 41 := by decide +kernel
theorem z371 : ¬ (64 : Int32) ≤ 41 := by decide +kernel
theorem z372 : ixp 41 41 128 := ⟨vin _ _ (by decide +kernel), by decide +kernel⟩
theorem z373 : (41 : Int32) + Int32.ofInt 1 = 42 := by decide +kernel
theorem z374 : ¬ (64 : Int32) ≤ 42 := by decide +kernel
theorem z375 : ixp 42 42 128 := ⟨vin _ _ (by decide +kernel), by decide +kernel⟩
theorem z376 : (42 : Int32) + Int32.ofInt 1 = 43 := by decide +kernel
theorem z377 : ¬ (64 : Int32) ≤ 43 := by decide +kernel
theorem z378 : ixp 43 43 128 := ⟨vin _ _ (by decide +kernel), by decide +kernel⟩
theorem z379 : (43 : Int32) + Int32.ofInt 1 = 44 := by decide +kernel
theorem z380 : ¬ (64 : Int32) ≤ 44 := by decide +kernel
theorem z381 : ixp 44 44 128 := ⟨vin _ _ (by decide +kernel), by decide +kernel⟩
theorem z382 : (44 : Int32) + Int32.ofInt 1 = 45 := by decide +kernel
theorem z383 : ¬ (64 : Int32) ≤ 45 := by decide +kernel
theorem z384 : ixp 45 45 128 := ⟨vin _ _ (by decide +kernel), by decide +kernel⟩
theorem z385 : (45 : Int32) + Int32.ofInt 1 = 46 := by decide +kernel
theorem z386 : ¬ (64 : Int32) ≤ 46 := by decide +kernel
theorem z387 : ixp 46 46 128 := ⟨vin _ _ (by decide +kernel), by decide +kernel⟩
theorem z388 : (46 : Int32) + Int32.ofInt 1 = 47 := by decide +kernel
theorem z389 : ¬ (64 : Int32) ≤ 47 := by decide +kernel
theorem z390 : ixp 47 47 128 := ⟨vin _ _ (by decide +kernel), by decide +kernel⟩
theorem z391 : (47 : Int32) + Int32.ofInt 1 = 48 := by decide +kernel
theorem z392 : ¬ (64 : Int32) ≤ 48 := by decide +kernel
theorem z393 : ixp 48 48 128 := ⟨vin _ _ (by decide +kernel), by decide +kernel⟩
theorem z394 : (48 : Int32) + Int32.ofInt 1 = 49 := by decide +kernel
theorem z395 : ¬ (64 : Int32) ≤ 49 := by decide +kernel
theorem z396 : ixp 49 49 128 := ⟨vin _ _ (by decide +kernel), by decide +kernel⟩
theorem z397 : (49 : Int32) + Int32.ofInt 1 = 50 := by decide +kernel
theorem z398 : ¬ (64 : Int32) ≤ 50 := by decide +kernel
theorem z399 : ixp 50 50 128 := ⟨vin _ _ (by decide +kernel), by decide +kernel⟩
theorem z400 : (50 : Int32) + Int32.ofInt 1 = 51 := by decide +kernel
theorem z401 : ¬ (64 : Int32) ≤ 51 := by decide +kernel
theorem z402 : ixp 51 51 128 := ⟨vin _ _ (by decide +kernel), by decide +kernel⟩
theorem z403 : (51 : Int32) + Int32.ofInt 1 = 52 := by decide +kernel
theorem z404 : ¬ (64 : Int32) ≤ 52 := by decide +kernel
theorem z405 : ixp 52 52 128 := ⟨vin _ _ (by decide +kernel), by decide +kernel⟩
theorem z406 : (52 : Int32) + Int32.ofInt 1 = 53 := by decide +kernel
theorem z407 : ¬ (64 : Int32) ≤ 53 := by decide +kernel
theorem z408 : ixp 53 53 128 := ⟨vin _ _ (by decide +kernel), by decide +kernel⟩
theorem z409 : (53 : Int32) + Int32.ofInt 1 = 54 := by decide +kernel
theorem z410 : ¬ (64 : Int32) ≤ 54 := by decide +kernel
theorem z411 : ixp 54 54 128 := ⟨vin _ _ (by decide +kernel), by decide +kernel⟩
theorem z412 : (54 : Int32) + Int32.ofInt 1 = 55 := by decide +kernel
theorem z413 : ¬ (64 : Int32) ≤ 55 := by decide +kernel
theorem z414 : ixp 55 55 128 := ⟨vin _ _ (by decide +kernel), by decide +kernel⟩
theorem z415 : (55 : Int32) + Int32.ofInt 1 = 56 := by decide +kernel
theorem z416 : ¬ (64 : Int32) ≤ 56 := by decide +kernel
theorem z417 : ixp 56 56 128 := ⟨vin _ _ (by decide +kernel), by decide +kernel⟩
theorem z418 : (56 : Int32) + Int32.ofInt 1 = 57 := by decide +kernel
theorem z419 : ¬ (64 : Int32) ≤ 57 := by decide +kernel
theorem z420 : ixp 57 57 128 := ⟨vin _ _ (by decide +kernel), by decide +kernel⟩
theorem z421 : (57 : Int32) + Int32.ofInt 1 = 58 := by decide +kernel
theorem z422 : ¬ (64 : Int32) ≤ 58 := by decide +kernel
theorem z423 : ixp 58 58 128 := ⟨vin _ _ (by decide +kernel), by decide +kernel⟩
theorem z424 : (58 : Int32) + Int32.ofInt 1 = 59 := by decide +kernel
theorem z425 : ¬ (64 : Int32) ≤ 59 := by decide +kernel
theorem z426 : ixp 59 59 128 := ⟨vin _ _ (by decide +kernel), by decide +kernel⟩
theorem z427 : (59 : Int32) + Int32.ofInt 1 = 60 := by decide +kernel
theorem z428 : ¬ (64 : Int32) ≤ 60 := by decide +kernel
theorem z429 : ixp 60 60 128 := ⟨vin _ _ (by decide +kernel), by decide +kernel⟩
theorem z430 : (60 : Int32) + Int32.ofInt 1 = 61 := by decide +kernel
theorem z431 : ¬ (64 : Int32) ≤ 61 := by decide +kernel
theorem z432 : ixp 61 61 128 := ⟨vin _ _ (by decide +kernel), by decide +kernel⟩
theorem z433 : (61 : Int32) + Int32.ofInt 1 = 62 := by decide +kernel
theorem z434 : ¬ (64 : Int32) ≤ 62 := by decide +kernel
theorem z435 : ixp 62 62 128 := ⟨vin _ _ (by decide +kernel), by decide +kernel⟩
theorem z436 : (62 : Int32) + Int32.ofInt 1 = 63 := by decide +kernel
theorem z437 : ¬ (64 : Int32) ≤ 63 := by decide +kernel
theorem z438 : ixp 63 63 128 := ⟨vin _ _ (by decide +kernel), by decide +kernel⟩
theorem z439 : (63 : Int32) + Int32.ofInt 1 = 64 := by decide +kernel
theorem z440 : (64 : Int32) ≤ 64 := by decide +kernel
theorem z441 : ((20 : Nat) : Int) + 20 = ((40 : Nat) : Int) := by decide +kernel
theorem z442 : ((9 : Nat) : Int) + 9 = ((18 : Nat) : Int) := by decide +kernel
theorem z443 : ¬ (3 : Int32) = 0 := by decide +kernel
theorem z444 : (0 : Int32) - 0 / 3 * 3 = 0 := by decide +kernel
theorem z445 : ((15 : Nat) : Int) + 27 = ((42 : Nat) : Int) := by decide +kernel
theorem z446 : ((37 : Nat) : Int) + (-20) = ((17 : Nat) : Int) := by decide +kernel
theorem z447 : (1 : Int32) - 1 / 3 * 3 = 1 := by decide +kernel
theorem z448 : (2 : Int32) - 2 / 3 * 3 = 2 := by decide +kernel
theorem z449 : (3 : Int32) - 3 / 3 * 3 = 0 := by decide +kernel
theorem z450 : (4 : Int32) - 4 / 3 * 3 = 1 := by decide +kernel
theorem z451 : (5 : Int32) - 5 / 3 * 3 = 2 := by decide +kernel
theorem z452 : yX11_toldTurn.cls ≠ "java/lang/invoke/MethodHandle" ∧ yX11_toldTurn.cls ≠ "java/lang/invoke/VarHandle" ∧ (parseMethodDescriptor yX11_toldTurn.desc).map (fun d => d.parameters.length) = some 1 := by decide +kernel
theorem z453 : ¬ (3 : Int32) ≤ 0 := by decide +kernel
theorem z454 : ((422 : Nat) : Int) + 16 = ((438 : Nat) : Int) := by decide +kernel
theorem z455 : ((435 : Nat) : Int) + (-15) = ((420 : Nat) : Int) := by decide +kernel
theorem z456 : ¬ (3 : Int32) ≤ 1 := by decide +kernel
theorem z457 : ¬ (3 : Int32) ≤ 2 := by decide +kernel
theorem z458 : (3 : Int32) ≤ 3 := by decide +kernel
theorem z459 : (Int8.ofInt 20).toInt32 = 20 := by decide +kernel
theorem z460 : (0 : Int32) + 20 = 20 := by decide +kernel
theorem z461 : (20 : Int32) ≤ 1600 := by decide +kernel
theorem z462 : ((10 : Nat) : Int) + 5 = ((15 : Nat) : Int) := by decide +kernel
theorem z463 : ((4 : Nat) : Int) + 42 = ((46 : Nat) : Int) := by decide +kernel
theorem z464 : ¬ (1600 : Int32) ≤ 0 := by decide +kernel
theorem z465 : ((14 : Nat) : Int) + 26 = ((40 : Nat) : Int) := by decide +kernel
theorem z466 : ixp 0 0 1600 := ⟨vin _ _ (by decide +kernel), by decide +kernel⟩
theorem z467 : (0 : Int32) + 1 = 1 := by decide +kernel
theorem z468 : (24 : Int32) + Int32.ofInt (-8) = 16 := by decide +kernel
theorem z469 : ((43 : Nat) : Int) + (-40) = ((3 : Nat) : Int) := by decide +kernel
theorem z470 : ¬ (1600 : Int32) ≤ 1 := by decide +kernel
theorem z471 : ixp 1 1 1600 := ⟨vin _ _ (by decide +kernel), by decide +kernel⟩
theorem z472 : (1 : Int32) + 1 = 2 := by decide +kernel
theorem z473 : (16 : Int32) + Int32.ofInt (-8) = 8 := by decide +kernel
theorem z474 : ¬ (1600 : Int32) ≤ 2 := by decide +kernel
theorem z475 : ixp 2 2 1600 := ⟨vin _ _ (by decide +kernel), by decide +kernel⟩
theorem z476 : (2 : Int32) + 1 = 3 := by decide +kernel
theorem z477 : (8 : Int32) + Int32.ofInt (-8) = 0 := by decide +kernel
theorem z478 : ¬ (1600 : Int32) ≤ 3 := by decide +kernel
theorem z479 : ixp 3 3 1600 := ⟨vin _ _ (by decide +kernel), by decide +kernel⟩
theorem z480 : (3 : Int32) + 1 = 4 := by decide +kernel
theorem z481 : (0 : Int32) + Int32.ofInt (-8) = (-8) := by decide +kernel
theorem z482 : ((-8) : Int32) < 0 := by decide +kernel
theorem z483 : ¬ (1600 : Int32) ≤ 4 := by decide +kernel
theorem z484 : ixp 4 4 1600 := ⟨vin _ _ (by decide +kernel), by decide +kernel⟩
theorem z485 : (4 : Int32) + 1 = 5 := by decide +kernel
theorem z486 : ¬ (1600 : Int32) ≤ 5 := by decide +kernel
theorem z487 : ixp 5 5 1600 := ⟨vin _ _ (by decide +kernel), by decide +kernel⟩
theorem z488 : (5 : Int32) + 1 = 6 := by decide +kernel
theorem z489 : ¬ (1600 : Int32) ≤ 6 := by decide +kernel
theorem z490 : ixp 6 6 1600 := ⟨vin _ _ (by decide +kernel), by decide +kernel⟩
theorem z491 : (6 : Int32) + 1 = 7 := by decide +kernel
theorem z492 : ¬ (1600 : Int32) ≤ 7 := by decide +kernel
theorem z493 : ixp 7 7 1600 := ⟨vin _ _ (by decide +kernel), by decide +kernel⟩
theorem z494 : (7 : Int32) + 1 = 8 := by decide +kernel
theorem z495 : ¬ (1600 : Int32) ≤ 8 := by decide +kernel
theorem z496 : ixp 8 8 1600 := ⟨vin _ _ (by decide +kernel), by decide +kernel⟩
theorem z497 : (8 : Int32) + 1 = 9 := by decide +kernel
theorem z498 : ¬ (1600 : Int32) ≤ 9 := by decide +kernel
theorem z499 : ixp 9 9 1600 := ⟨vin _ _ (by decide +kernel), by decide +kernel⟩
theorem z500 : (9 : Int32) + 1 = 10 := by decide +kernel
theorem z501 : ¬ (1600 : Int32) ≤ 10 := by decide +kernel
theorem z502 : ixp 10 10 1600 := ⟨vin _ _ (by decide +kernel), by decide +kernel⟩
theorem z503 : (10 : Int32) + 1 = 11 := by decide +kernel
theorem z504 : ¬ (1600 : Int32) ≤ 11 := by decide +kernel
theorem z505 : ixp 11 11 1600 := ⟨vin _ _ (by decide +kernel), by decide +kernel⟩
theorem z506 : (11 : Int32) + 1 = 12 := by decide +kernel
theorem z507 : ¬ (1600 : Int32) ≤ 12 := by decide +kernel
theorem z508 : ixp 12 12 1600 := ⟨vin _ _ (by decide +kernel), by decide +kernel⟩
theorem z509 : (12 : Int32) + 1 = 13 := by decide +kernel
theorem z510 : ¬ (1600 : Int32) ≤ 13 := by decide +kernel
theorem z511 : ixp 13 13 1600 := ⟨vin _ _ (by decide +kernel), by decide +kernel⟩
theorem z512 : (13 : Int32) + 1 = 14 := by decide +kernel
theorem z513 : ¬ (1600 : Int32) ≤ 14 := by decide +kernel
theorem z514 : ixp 14 14 1600 := ⟨vin _ _ (by decide +kernel), by decide +kernel⟩
theorem z515 : (14 : Int32) + 1 = 15 := by decide +kernel
theorem z516 : ¬ (1600 : Int32) ≤ 15 := by decide +kernel
theorem z517 : ixp 15 15 1600 := ⟨vin _ _ (by decide +kernel), by decide +kernel⟩
theorem z518 : (15 : Int32) + 1 = 16 := by decide +kernel
theorem z519 : ¬ (1600 : Int32) ≤ 16 := by decide +kernel
theorem z520 : ixp 16 16 1600 := ⟨vin _ _ (by decide +kernel), by decide +kernel⟩
theorem z521 : (16 : Int32) + 1 = 17 := by decide +kernel
theorem z522 : ¬ (1600 : Int32) ≤ 17 := by decide +kernel
theorem z523 : ixp 17 17 1600 := ⟨vin _ _ (by decide +kernel), by decide +kernel⟩
theorem z524 : (17 : Int32) + 1 = 18 := by decide +kernel
theorem z525 : ¬ (1600 : Int32) ≤ 18 := by decide +kernel
theorem z526 : ixp 18 18 1600 := ⟨vin _ _ (by decide +kernel), by decide +kernel⟩
theorem z527 : (18 : Int32) + 1 = 19 := by decide +kernel
theorem z528 : ¬ (1600 : Int32) ≤ 19 := by decide +kernel
theorem z529 : ixp 19 19 1600 := ⟨vin _ _ (by decide +kernel), by decide +kernel⟩
theorem z530 : (19 : Int32) + 1 = 20 := by decide +kernel
theorem z531 : yX10_tapeNumber.cls ≠ "java/lang/invoke/MethodHandle" ∧ yX10_tapeNumber.cls ≠ "java/lang/invoke/VarHandle" ∧ (parseMethodDescriptor yX10_tapeNumber.desc).map (fun d => d.parameters.length) = some 1 := by decide +kernel
theorem z532 : ¬ (20 : Int32) ≤ 0 := by decide +kernel
theorem z533 : ((22 : Nat) : Int) + 83 = ((105 : Nat) : Int) := by decide +kernel
theorem z534 : ((28 : Nat) : Int) + 7 = ((35 : Nat) : Int) := by decide +kernel
theorem z535 : ((32 : Nat) : Int) + 39 = ((71 : Nat) : Int) := by decide +kernel
theorem z536 : (0 : Int32) + 0 = 0 := by decide +kernel
theorem z537 : (0 : Int32) &&& 3 = 0 := by decide +kernel
theorem z538 : (8 : Int32) * 0 = 0 := by decide +kernel
theorem z539 : (24 : Int32) - 0 = 24 := by decide +kernel
theorem z540 : ixp 0 0 1620 := ⟨vin _ _ (by decide +kernel), by decide +kernel⟩
theorem z541 : ((102 : Nat) : Int) + (-84) = ((18 : Nat) : Int) := by decide +kernel
theorem z542 : ¬ (20 : Int32) ≤ 1 := by decide +kernel
theorem z543 : (1 : Int32) &&& 3 = 1 := by decide +kernel
theorem z544 : (8 : Int32) * 1 = 8 := by decide +kernel
theorem z545 : (24 : Int32) - 8 = 16 := by decide +kernel
theorem z546 : ixp 1 1 1620 := ⟨vin _ _ (by decide +kernel), by decide +kernel⟩
theorem z547 : ¬ (20 : Int32) ≤ 2 := by decide +kernel
theorem z548 : (0 : Int32) + 2 = 2 := by decide +kernel
theorem z549 : (2 : Int32) &&& 3 = 2 := by decide +kernel
theorem z550 : (8 : Int32) * 2 = 16 := by decide +kernel
theorem z551 : (24 : Int32) - 16 = 8 := by decide +kernel
theorem z552 : ixp 2 2 1620 := ⟨vin _ _ (by decide +kernel), by decide +kernel⟩
theorem z553 : ¬ (20 : Int32) ≤ 3 := by decide +kernel
theorem z554 : (0 : Int32) + 3 = 3 := by decide +kernel
theorem z555 : (3 : Int32) &&& 3 = 3 := by decide +kernel
theorem z556 : (8 : Int32) * 3 = 24 := by decide +kernel
theorem z557 : (24 : Int32) - 24 = 0 := by decide +kernel
theorem z558 : ixp 3 3 1620 := ⟨vin _ _ (by decide +kernel), by decide +kernel⟩
theorem z559 : ¬ (20 : Int32) ≤ 4 := by decide +kernel
theorem z560 : ¬ (8 : Int32) ≤ 4 := by decide +kernel
theorem z561 : ((39 : Nat) : Int) + 7 = ((46 : Nat) : Int) := by decide +kernel
theorem z562 : ((43 : Nat) : Int) + 28 = ((71 : Nat) : Int) := by decide +kernel
theorem z563 : (0 : Int32) + 4 = 4 := by decide +kernel
theorem z564 : (4 : Int32) &&& 3 = 0 := by decide +kernel
theorem z565 : ixp 4 4 1620 := ⟨vin _ _ (by decide +kernel), by decide +kernel⟩
theorem z566 : ¬ (20 : Int32) ≤ 5 := by decide +kernel
theorem z567 : (4 : Int32) ≤ 5 := by decide +kernel
theorem z568 : ¬ (8 : Int32) ≤ 5 := by decide +kernel
theorem z569 : (0 : Int32) + 5 = 5 := by decide +kernel
theorem z570 : (5 : Int32) &&& 3 = 1 := by decide +kernel
theorem z571 : ixp 5 5 1620 := ⟨vin _ _ (by decide +kernel), by decide +kernel⟩
theorem z572 : ¬ (20 : Int32) ≤ 6 := by decide +kernel
theorem z573 : (4 : Int32) ≤ 6 := by decide +kernel
theorem z574 : ¬ (8 : Int32) ≤ 6 := by decide +kernel
theorem z575 : (0 : Int32) + 6 = 6 := by decide +kernel
theorem z576 : (6 : Int32) &&& 3 = 2 := by decide +kernel
theorem z577 : ixp 6 6 1620 := ⟨vin _ _ (by decide +kernel), by decide +kernel⟩
theorem z578 : ¬ (20 : Int32) ≤ 7 := by decide +kernel
theorem z579 : (4 : Int32) ≤ 7 := by decide +kernel
theorem z580 : ¬ (8 : Int32) ≤ 7 := by decide +kernel
theorem z581 : (0 : Int32) + 7 = 7 := by decide +kernel
theorem z582 : (7 : Int32) &&& 3 = 3 := by decide +kernel
theorem z583 : ixp 7 7 1620 := ⟨vin _ _ (by decide +kernel), by decide +kernel⟩
theorem z584 : ¬ (20 : Int32) ≤ 8 := by decide +kernel
theorem z585 : (4 : Int32) ≤ 8 := by decide +kernel
theorem z586 : (8 : Int32) ≤ 8 := by decide +kernel
theorem z587 : ¬ (12 : Int32) ≤ 8 := by decide +kernel
theorem z588 : ((50 : Nat) : Int) + 7 = ((57 : Nat) : Int) := by decide +kernel
theorem z589 : ((54 : Nat) : Int) + 17 = ((71 : Nat) : Int) := by decide +kernel
theorem z590 : (0 : Int32) + 8 = 8 := by decide +kernel
theorem z591 : (8 : Int32) &&& 3 = 0 := by decide +kernel
theorem z592 : ixp 8 8 1620 := ⟨vin _ _ (by decide +kernel), by decide +kernel⟩
theorem z593 : ¬ (20 : Int32) ≤ 9 := by decide +kernel
theorem z594 : (4 : Int32) ≤ 9 := by decide +kernel
theorem z595 : (8 : Int32) ≤ 9 := by decide +kernel
theorem z596 : ¬ (12 : Int32) ≤ 9 := by decide +kernel
theorem z597 : (0 : Int32) + 9 = 9 := by decide +kernel
theorem z598 : (9 : Int32) &&& 3 = 1 := by decide +kernel
theorem z599 : ixp 9 9 1620 := ⟨vin _ _ (by decide +kernel), by decide +kernel⟩
theorem z600 : ¬ (20 : Int32) ≤ 10 := by decide +kernel
theorem z601 : (4 : Int32) ≤ 10 := by decide +kernel
theorem z602 : (8 : Int32) ≤ 10 := by decide +kernel
theorem z603 : ¬ (12 : Int32) ≤ 10 := by decide +kernel
theorem z604 : (0 : Int32) + 10 = 10 := by decide +kernel
theorem z605 : (10 : Int32) &&& 3 = 2 := by decide +kernel
theorem z606 : ixp 10 10 1620 := ⟨vin _ _ (by decide +kernel), by decide +kernel⟩
theorem z607 : ¬ (20 : Int32) ≤ 11 := by decide +kernel
theorem z608 : (4 : Int32) ≤ 11 := by decide +kernel
theorem z609 : (8 : Int32) ≤ 11 := by decide +kernel
theorem z610 : ¬ (12 : Int32) ≤ 11 := by decide +kernel
theorem z611 : (0 : Int32) + 11 = 11 := by decide +kernel
theorem z612 : (11 : Int32) &&& 3 = 3 := by decide +kernel
theorem z613 : ixp 11 11 1620 := ⟨vin _ _ (by decide +kernel), by decide +kernel⟩
theorem z614 : ¬ (20 : Int32) ≤ 12 := by decide +kernel
theorem z615 : (4 : Int32) ≤ 12 := by decide +kernel
theorem z616 : (8 : Int32) ≤ 12 := by decide +kernel
theorem z617 : (12 : Int32) ≤ 12 := by decide +kernel
theorem z618 : ¬ (16 : Int32) ≤ 12 := by decide +kernel
theorem z619 : ((61 : Nat) : Int) + 8 = ((69 : Nat) : Int) := by decide +kernel
theorem z620 : ((66 : Nat) : Int) + 5 = ((71 : Nat) : Int) := by decide +kernel
theorem z621 : (0 : Int32) + 12 = 12 := by decide +kernel
theorem z622 : (12 : Int32) &&& 3 = 0 := by decide +kernel
theorem z623 : ixp 12 12 1620 := ⟨vin _ _ (by decide +kernel), by decide +kernel⟩
theorem z624 : ¬ (20 : Int32) ≤ 13 := by decide +kernel
theorem z625 : (4 : Int32) ≤ 13 := by decide +kernel
theorem z626 : (8 : Int32) ≤ 13 := by decide +kernel
theorem z627 : (12 : Int32) ≤ 13 := by decide +kernel
theorem z628 : ¬ (16 : Int32) ≤ 13 := by decide +kernel
theorem z629 : (0 : Int32) + 13 = 13 := by decide +kernel
theorem z630 : (13 : Int32) &&& 3 = 1 := by decide +kernel
theorem z631 : ixp 13 13 1620 := ⟨vin _ _ (by decide +kernel), by decide +kernel⟩
theorem z632 : ¬ (20 : Int32) ≤ 14 := by decide +kernel
theorem z633 : (4 : Int32) ≤ 14 := by decide +kernel
theorem z634 : (8 : Int32) ≤ 14 := by decide +kernel
theorem z635 : (12 : Int32) ≤ 14 := by decide +kernel
theorem z636 : ¬ (16 : Int32) ≤ 14 := by decide +kernel
theorem z637 : (0 : Int32) + 14 = 14 := by decide +kernel
theorem z638 : (14 : Int32) &&& 3 = 2 := by decide +kernel
theorem z639 : ixp 14 14 1620 := ⟨vin _ _ (by decide +kernel), by decide +kernel⟩
theorem z640 : ¬ (20 : Int32) ≤ 15 := by decide +kernel
theorem z641 : (4 : Int32) ≤ 15 := by decide +kernel
theorem z642 : (8 : Int32) ≤ 15 := by decide +kernel
theorem z643 : (12 : Int32) ≤ 15 := by decide +kernel
theorem z644 : ¬ (16 : Int32) ≤ 15 := by decide +kernel
theorem z645 : (0 : Int32) + 15 = 15 := by decide +kernel
theorem z646 : (15 : Int32) &&& 3 = 3 := by decide +kernel
theorem z647 : ixp 15 15 1620 := ⟨vin _ _ (by decide +kernel), by decide +kernel⟩
theorem z648 : ¬ (20 : Int32) ≤ 16 := by decide +kernel
theorem z649 : (4 : Int32) ≤ 16 := by decide +kernel
theorem z650 : (8 : Int32) ≤ 16 := by decide +kernel
theorem z651 : (12 : Int32) ≤ 16 := by decide +kernel
theorem z652 : (16 : Int32) ≤ 16 := by decide +kernel
theorem z653 : (0 : Int32) + 16 = 16 := by decide +kernel
theorem z654 : (16 : Int32) &&& 3 = 0 := by decide +kernel
theorem z655 : ixp 16 16 1620 := ⟨vin _ _ (by decide +kernel), by decide +kernel⟩
theorem z656 : ¬ (20 : Int32) ≤ 17 := by decide +kernel
theorem z657 : (4 : Int32) ≤ 17 := by decide +kernel
theorem z658 : (8 : Int32) ≤ 17 := by decide +kernel
theorem z659 : (12 : Int32) ≤ 17 := by decide +kernel
theorem z660 : (16 : Int32) ≤ 17 := by decide +kernel
theorem z661 : (0 : Int32) + 17 = 17 := by decide +kernel
theorem z662 : (17 : Int32) &&& 3 = 1 := by decide +kernel
theorem z663 : ixp 17 17 1620 := ⟨vin _ _ (by decide +kernel), by decide +kernel⟩
theorem z664 : ¬ (20 : Int32) ≤ 18 := by decide +kernel
theorem z665 : (4 : Int32) ≤ 18 := by decide +kernel
theorem z666 : (8 : Int32) ≤ 18 := by decide +kernel
theorem z667 : (12 : Int32) ≤ 18 := by decide +kernel
theorem z668 : (16 : Int32) ≤ 18 := by decide +kernel
theorem z669 : (0 : Int32) + 18 = 18 := by decide +kernel
theorem z670 : (18 : Int32) &&& 3 = 2 := by decide +kernel
theorem z671 : ixp 18 18 1620 := ⟨vin _ _ (by decide +kernel), by decide +kernel⟩
theorem z672 : ¬ (20 : Int32) ≤ 19 := by decide +kernel
theorem z673 : (4 : Int32) ≤ 19 := by decide +kernel
theorem z674 : (8 : Int32) ≤ 19 := by decide +kernel
theorem z675 : (12 : Int32) ≤ 19 := by decide +kernel
theorem z676 : (16 : Int32) ≤ 19 := by decide +kernel
theorem z677 : (0 : Int32) + 19 = 19 := by decide +kernel
theorem z678 : (19 : Int32) &&& 3 = 3 := by decide +kernel
theorem z679 : ixp 19 19 1620 := ⟨vin _ _ (by decide +kernel), by decide +kernel⟩
theorem z680 : (20 : Int32) ≤ 20 := by decide +kernel
theorem z681 : ((1 : Nat) : Int) + 11 = ((12 : Nat) : Int) := by decide +kernel
theorem z682 : (0 : Int32) ≤ 0 := by decide +kernel
theorem z683 : ((9 : Nat) : Int) + 5 = ((14 : Nat) : Int) := by decide +kernel
theorem z684 : ¬ (192 : Int32) ≤ 0 := by decide +kernel
theorem z685 : ixp 0 0 192 := ⟨vin _ _ (by decide +kernel), by decide +kernel⟩
theorem z686 : ¬ (192 : Int32) ≤ 1 := by decide +kernel
theorem z687 : ixp 1 1 192 := ⟨vin _ _ (by decide +kernel), by decide +kernel⟩
theorem z688 : ¬ (192 : Int32) ≤ 2 := by decide +kernel
theorem z689 : ixp 2 2 192 := ⟨vin _ _ (by decide +kernel), by decide +kernel⟩
theorem z690 : ¬ (192 : Int32) ≤ 3 := by decide +kernel
theorem z691 : ixp 3 3 192 := ⟨vin _ _ (by decide +kernel), by decide +kernel⟩
theorem z692 : ¬ (192 : Int32) ≤ 4 := by decide +kernel
theorem z693 : ixp 4 4 192 := ⟨vin _ _ (by decide +kernel), by decide +kernel⟩
theorem z694 : ¬ (192 : Int32) ≤ 5 := by decide +kernel
theorem z695 : ixp 5 5 192 := ⟨vin _ _ (by decide +kernel), by decide +kernel⟩
theorem z696 : ¬ (192 : Int32) ≤ 6 := by decide +kernel
theorem z697 : ixp 6 6 192 := ⟨vin _ _ (by decide +kernel), by decide +kernel⟩
theorem z698 : ¬ (192 : Int32) ≤ 7 := by decide +kernel
theorem z699 : ixp 7 7 192 := ⟨vin _ _ (by decide +kernel), by decide +kernel⟩
theorem z700 : ¬ (192 : Int32) ≤ 8 := by decide +kernel
theorem z701 : ixp 8 8 192 := ⟨vin _ _ (by decide +kernel), by decide +kernel⟩
theorem z702 : ¬ (192 : Int32) ≤ 9 := by decide +kernel
theorem z703 : ixp 9 9 192 := ⟨vin _ _ (by decide +kernel), by decide +kernel⟩
theorem z704 : ¬ (192 : Int32) ≤ 10 := by decide +kernel
theorem z705 : ixp 10 10 192 := ⟨vin _ _ (by decide +kernel), by decide +kernel⟩
theorem z706 : ¬ (192 : Int32) ≤ 11 := by decide +kernel
theorem z707 : ixp 11 11 192 := ⟨vin _ _ (by decide +kernel), by decide +kernel⟩
theorem z708 : ¬ (192 : Int32) ≤ 12 := by decide +kernel
theorem z709 : ixp 12 12 192 := ⟨vin _ _ (by decide +kernel), by decide +kernel⟩
theorem z710 : ¬ (192 : Int32) ≤ 13 := by decide +kernel
theorem z711 : ixp 13 13 192 := ⟨vin _ _ (by decide +kernel), by decide +kernel⟩
theorem z712 : ¬ (192 : Int32) ≤ 14 := by decide +kernel
theorem z713 : ixp 14 14 192 := ⟨vin _ _ (by decide +kernel), by decide +kernel⟩
theorem z714 : ¬ (192 : Int32) ≤ 15 := by decide +kernel
theorem z715 : ixp 15 15 192 := ⟨vin _ _ (by decide +kernel), by decide +kernel⟩
theorem z716 : ¬ (192 : Int32) ≤ 16 := by decide +kernel
theorem z717 : ixp 16 16 192 := ⟨vin _ _ (by decide +kernel), by decide +kernel⟩
theorem z718 : ¬ (192 : Int32) ≤ 17 := by decide +kernel
theorem z719 : ixp 17 17 192 := ⟨vin _ _ (by decide +kernel), by decide +kernel⟩
theorem z720 : ¬ (192 : Int32) ≤ 18 := by decide +kernel
theorem z721 : ixp 18 18 192 := ⟨vin _ _ (by decide +kernel), by decide +kernel⟩
theorem z722 : ¬ (192 : Int32) ≤ 19 := by decide +kernel
theorem z723 : ixp 19 19 192 := ⟨vin _ _ (by decide +kernel), by decide +kernel⟩
theorem z724 : ¬ (192 : Int32) ≤ 20 := by decide +kernel
theorem z725 : ixp 20 20 192 := ⟨vin _ _ (by decide +kernel), by decide +kernel⟩
theorem z726 : ¬ (192 : Int32) ≤ 21 := by decide +kernel
theorem z727 : ixp 21 21 192 := ⟨vin _ _ (by decide +kernel), by decide +kernel⟩
theorem z728 : ¬ (192 : Int32) ≤ 22 := by decide +kernel
theorem z729 : ixp 22 22 192 := ⟨vin _ _ (by decide +kernel), by decide +kernel⟩
theorem z730 : ¬ (192 : Int32) ≤ 23 := by decide +kernel
theorem z731 : ixp 23 23 192 := ⟨vin _ _ (by decide +kernel), by decide +kernel⟩
theorem z732 : ¬ (192 : Int32) ≤ 24 := by decide +kernel
theorem z733 : ixp 24 24 192 := ⟨vin _ _ (by decide +kernel), by decide +kernel⟩
theorem z734 : ¬ (192 : Int32) ≤ 25 := by decide +kernel
theorem z735 : ixp 25 25 192 := ⟨vin _ _ (by decide +kernel), by decide +kernel⟩
theorem z736 : ¬ (192 : Int32) ≤ 26 := by decide +kernel
theorem z737 : ixp 26 26 192 := ⟨vin _ _ (by decide +kernel), by decide +kernel⟩
theorem z738 : ¬ (192 : Int32) ≤ 27 := by decide +kernel
theorem z739 : ixp 27 27 192 := ⟨vin _ _ (by decide +kernel), by decide +kernel⟩
theorem z740 : ¬ (192 : Int32) ≤ 28 := by decide +kernel
theorem z741 : ixp 28 28 192 := ⟨vin _ _ (by decide +kernel), by decide +kernel⟩
theorem z742 : ¬ (192 : Int32) ≤ 29 := by decide +kernel
theorem z743 : ixp 29 29 192 := ⟨vin _ _ (by decide +kernel), by decide +kernel⟩
theorem z744 : ¬ (192 : Int32) ≤ 30 := by decide +kernel
theorem z745 : ixp 30 30 192 := ⟨vin _ _ (by decide +kernel), by decide +kernel⟩
theorem z746 : ¬ (192 : Int32) ≤ 31 := by decide +kernel
theorem z747 : ixp 31 31 192 := ⟨vin _ _ (by decide +kernel), by decide +kernel⟩
theorem z748 : ¬ (192 : Int32) ≤ 32 := by decide +kernel
theorem z749 : ixp 32 32 192 := ⟨vin _ _ (by decide +kernel), by decide +kernel⟩
theorem z750 : ¬ (192 : Int32) ≤ 33 := by decide +kernel
theorem z751 : ixp 33 33 192 := ⟨vin _ _ (by decide +kernel), by decide +kernel⟩
theorem z752 : ¬ (192 : Int32) ≤ 34 := by decide +kernel
theorem z753 : ixp 34 34 192 := ⟨vin _ _ (by decide +kernel), by decide +kernel⟩
theorem z754 : ¬ (192 : Int32) ≤ 35 := by decide +kernel
theorem z755 : ixp 35 35 192 := ⟨vin _ _ (by decide +kernel), by decide +kernel⟩
theorem z756 : ¬ (192 : Int32) ≤ 36 := by decide +kernel
theorem z757 : ixp 36 36 192 := ⟨vin _ _ (by decide +kernel), by decide +kernel⟩
theorem z758 : ¬ (192 : Int32) ≤ 37 := by decide +kernel
theorem z759 : ixp 37 37 192 := ⟨vin _ _ (by decide +kernel), by decide +kernel⟩
theorem z760 : ¬ (192 : Int32) ≤ 38 := by decide +kernel
theorem z761 : ixp 38 38 192 := ⟨vin _ _ (by decide +kernel), by decide +kernel⟩
theorem z762 : ¬ (192 : Int32) ≤ 39 := by decide +kernel
theorem z763 : ixp 39 39 192 := ⟨vin _ _ (by decide +kernel), by decide +kernel⟩
theorem z764 : ¬ (192 : Int32) ≤ 40 := by decide +kernel
theorem z765 : ixp 40 40 192 := ⟨vin _ _ (by decide +kernel), by decide +kernel⟩
theorem z766 : ¬ (192 : Int32) ≤ 41 := by decide +kernel
theorem z767 : ixp 41 41 192 := ⟨vin _ _ (by decide +kernel), by decide +kernel⟩
theorem z768 : ¬ (192 : Int32) ≤ 42 := by decide +kernel
theorem z769 : ixp 42 42 192 := ⟨vin _ _ (by decide +kernel), by decide +kernel⟩
theorem z770 : ¬ (192 : Int32) ≤ 43 := by decide +kernel
theorem z771 : ixp 43 43 192 := ⟨vin _ _ (by decide +kernel), by decide +kernel⟩
theorem z772 : ¬ (192 : Int32) ≤ 44 := by decide +kernel
theorem z773 : ixp 44 44 192 := ⟨vin _ _ (by decide +kernel), by decide +kernel⟩
theorem z774 : ¬ (192 : Int32) ≤ 45 := by decide +kernel
theorem z775 : ixp 45 45 192 := ⟨vin _ _ (by decide +kernel), by decide +kernel⟩
theorem z776 : ¬ (192 : Int32) ≤ 46 := by decide +kernel
theorem z777 : ixp 46 46 192 := ⟨vin _ _ (by decide +kernel), by decide +kernel⟩
theorem z778 : ¬ (192 : Int32) ≤ 47 := by decide +kernel
theorem z779 : ixp 47 47 192 := ⟨vin _ _ (by decide +kernel), by decide +kernel⟩
theorem z780 : ¬ (192 : Int32) ≤ 48 := by decide +kernel
theorem z781 : ixp 48 48 192 := ⟨vin _ _ (by decide +kernel), by decide +kernel⟩
theorem z782 : ¬ (192 : Int32) ≤ 49 := by decide +kernel
theorem z783 : ixp 49 49 192 := ⟨vin _ _ (by decide +kernel), by decide +kernel⟩
theorem z784 : ¬ (192 : Int32) ≤ 50 := by decide +kernel
theorem z785 : ixp 50 50 192 := ⟨vin _ _ (by decide +kernel), by decide +kernel⟩
theorem z786 : ¬ (192 : Int32) ≤ 51 := by decide +kernel
theorem z787 : ixp 51 51 192 := ⟨vin _ _ (by decide +kernel), by decide +kernel⟩
theorem z788 : ¬ (192 : Int32) ≤ 52 := by decide +kernel
theorem z789 : ixp 52 52 192 := ⟨vin _ _ (by decide +kernel), by decide +kernel⟩
theorem z790 : ¬ (192 : Int32) ≤ 53 := by decide +kernel
theorem z791 : ixp 53 53 192 := ⟨vin _ _ (by decide +kernel), by decide +kernel⟩
theorem z792 : ¬ (192 : Int32) ≤ 54 := by decide +kernel
theorem z793 : ixp 54 54 192 := ⟨vin _ _ (by decide +kernel), by decide +kernel⟩
theorem z794 : ¬ (192 : Int32) ≤ 55 := by decide +kernel
theorem z795 : ixp 55 55 192 := ⟨vin _ _ (by decide +kernel), by decide +kernel⟩
theorem z796 : ¬ (192 : Int32) ≤ 56 := by decide +kernel
theorem z797 : ixp 56 56 192 := ⟨vin _ _ (by decide +kernel), by decide +kernel⟩
theorem z798 : ¬ (192 : Int32) ≤ 57 := by decide +kernel
theorem z799 : ixp 57 57 192 := ⟨vin _ _ (by decide +kernel), by decide +kernel⟩
theorem z800 : ¬ (192 : Int32) ≤ 58 := by decide +kernel
theorem z801 : ixp 58 58 192 := ⟨vin _ _ (by decide +kernel), by decide +kernel⟩
theorem z802 : ¬ (192 : Int32) ≤ 59 := by decide +kernel
theorem z803 : ixp 59 59 192 := ⟨vin _ _ (by decide +kernel), by decide +kernel⟩
theorem z804 : ¬ (192 : Int32) ≤ 60 := by decide +kernel
theorem z805 : ixp 60 60 192 := ⟨vin _ _ (by decide +kernel), by decide +kernel⟩
theorem z806 : ¬ (192 : Int32) ≤ 61 := by decide +kernel
theorem z807 : ixp 61 61 192 := ⟨vin _ _ (by decide +kernel), by decide +kernel⟩
theorem z808 : ¬ (192 : Int32) ≤ 62 := by decide +kernel
theorem z809 : ixp 62 62 192 := ⟨vin _ _ (by decide +kernel), by decide +kernel⟩
theorem z810 : ¬ (192 : Int32) ≤ 63 := by decide +kernel
theorem z811 : ixp 63 63 192 := ⟨vin _ _ (by decide +kernel), by decide +kernel⟩
theorem z812 : ¬ (192 : Int32) ≤ 64 := by decide +kernel
theorem z813 : ixp 64 64 192 := ⟨vin _ _ (by decide +kernel), by decide +kernel⟩
theorem z814 : (64 : Int32) + Int32.ofInt 1 = 65 := by decide +kernel
theorem z815 : ¬ (192 : Int32) ≤ 65 := by decide +kernel
theorem z816 : ixp 65 65 192 := ⟨vin _ _ (by decide +kernel), by decide +kernel⟩
theorem z817 : (65 : Int32) + Int32.ofInt 1 = 66 := by decide +kernel
theorem z818 : ¬ (192 : Int32) ≤ 66 := by decide +kernel
theorem z819 : ixp 66 66 192 := ⟨vin _ _ (by decide +kernel), by decide +kernel⟩
theorem z820 : (66 : Int32) + Int32.ofInt 1 = 67 := by decide +kernel
theorem z821 : ¬ (192 : Int32) ≤ 67 := by decide +kernel
theorem z822 : ixp 67 67 192 := ⟨vin _ _ (by decide +kernel), by decide +kernel⟩
theorem z823 : (67 : Int32) + Int32.ofInt 1 = 68 := by decide +kernel
theorem z824 : ¬ (192 : Int32) ≤ 68 := by decide +kernel
theorem z825 : ixp 68 68 192 := ⟨vin _ _ (by decide +kernel), by decide +kernel⟩
theorem z826 : (68 : Int32) + Int32.ofInt 1 = 69 := by decide +kernel
theorem z827 : ¬ (192 : Int32) ≤ 69 := by decide +kernel
theorem z828 : ixp 69 69 192 := ⟨vin _ _ (by decide +kernel), by decide +kernel⟩
theorem z829 : (69 : Int32) + Int32.ofInt 1 = 70 := by decide +kernel
theorem z830 : ¬ (192 : Int32) ≤ 70 := by decide +kernel
theorem z831 : ixp 70 70 192 := ⟨vin _ _ (by decide +kernel), by decide +kernel⟩
theorem z832 : (70 : Int32) + Int32.ofInt 1 = 71 := by decide +kernel
theorem z833 : ¬ (192 : Int32) ≤ 71 := by decide +kernel
theorem z834 : ixp 71 71 192 := ⟨vin _ _ (by decide +kernel), by decide +kernel⟩
theorem z835 : (71 : Int32) + Int32.ofInt 1 = 72 := by decide +kernel
theorem z836 : ¬ (192 : Int32) ≤ 72 := by decide +kernel
theorem z837 : ixp 72 72 192 := ⟨vin _ _ (by decide +kernel), by decide +kernel⟩
theorem z838 : (72 : Int32) + Int32.ofInt 1 = 73 := by decide +kernel
theorem z839 : ¬ (192 : Int32) ≤ 73 := by decide +kernel
theorem z840 : ixp 73 73 192 := ⟨vin _ _ (by decide +kernel), by decide +kernel⟩
theorem z841 : (73 : Int32) + Int32.ofInt 1 = 74 := by decide +kernel
theorem z842 : ¬ (192 : Int32) ≤ 74 := by decide +kernel
theorem z843 : ixp 74 74 192 := ⟨vin _ _ (by decide +kernel), by decide +kernel⟩
theorem z844 : (74 : Int32) + Int32.ofInt 1 = 75 := by decide +kernel
theorem z845 : ¬ (192 : Int32) ≤ 75 := by decide +kernel
theorem z846 : ixp 75 75 192 := ⟨vin _ _ (by decide +kernel), by decide +kernel⟩
theorem z847 : (75 : Int32) + Int32.ofInt 1 = 76 := by decide +kernel
theorem z848 : ¬ (192 : Int32) ≤ 76 := by decide +kernel
theorem z849 : ixp 76 76 192 := ⟨vin _ _ (by decide +kernel), by decide +kernel⟩
theorem z850 : (76 : Int32) + Int32.ofInt 1 = 77 := by decide +kernel
theorem z851 : ¬ (192 : Int32) ≤ 77 := by decide +kernel
theorem z852 : ixp 77 77 192 := ⟨vin _ _ (by decide +kernel), by decide +kernel⟩
theorem z853 : (77 : Int32) + Int32.ofInt 1 = 78 := by decide +kernel
theorem z854 : ¬ (192 : Int32) ≤ 78 := by decide +kernel
theorem z855 : ixp 78 78 192 := ⟨vin _ _ (by decide +kernel), by decide +kernel⟩
theorem z856 : (78 : Int32) + Int32.ofInt 1 = 79 := by decide +kernel
theorem z857 : ¬ (192 : Int32) ≤ 79 := by decide +kernel
theorem z858 : ixp 79 79 192 := ⟨vin _ _ (by decide +kernel), by decide +kernel⟩
theorem z859 : (79 : Int32) + Int32.ofInt 1 = 80 := by decide +kernel
theorem z860 : ¬ (192 : Int32) ≤ 80 := by decide +kernel
theorem z861 : ixp 80 80 192 := ⟨vin _ _ (by decide +kernel), by decide +kernel⟩
theorem z862 : (80 : Int32) + Int32.ofInt 1 = 81 := by decide +kernel
theorem z863 : ¬ (192 : Int32) ≤ 81 := by decide +kernel
theorem z864 : ixp 81 81 192 := ⟨vin _ _ (by decide +kernel), by decide +kernel⟩
theorem z865 : (81 : Int32) + Int32.ofInt 1 = 82 := by decide +kernel
theorem z866 : ¬ (192 : Int32) ≤ 82 := by decide +kernel
theorem z867 : ixp 82 82 192 := ⟨vin _ _ (by decide +kernel), by decide +kernel⟩
theorem z868 : (82 : Int32) + Int32.ofInt 1 = 83 := by decide +kernel
theorem z869 : ¬ (192 : Int32) ≤ 83 := by decide +kernel
theorem z870 : ixp 83 83 192 := ⟨vin _ _ (by decide +kernel), by decide +kernel⟩
theorem z871 : (83 : Int32) + Int32.ofInt 1 = 84 := by decide +kernel
theorem z872 : ¬ (192 : Int32) ≤ 84 := by decide +kernel
theorem z873 : ixp 84 84 192 := ⟨vin _ _ (by decide +kernel), by decide +kernel⟩
theorem z874 : (84 : Int32) + Int32.ofInt 1 = 85 := by decide +kernel
theorem z875 : ¬ (192 : Int32) ≤ 85 := by decide +kernel
theorem z876 : ixp 85 85 192 := ⟨vin _ _ (by decide +kernel), by decide +kernel⟩
theorem z877 : (85 : Int32) + Int32.ofInt 1 = 86 := by decide +kernel
theorem z878 : ¬ (192 : Int32) ≤ 86 := by decide +kernel
theorem z879 : ixp 86 86 192 := ⟨vin _ _ (by decide +kernel), by decide +kernel⟩
theorem z880 : (86 : Int32) + Int32.ofInt 1 = 87 := by decide +kernel
theorem z881 : ¬ (192 : Int32) ≤ 87 := by decide +kernel
theorem z882 : ixp 87 87 192 := ⟨vin _ _ (by decide +kernel), by decide +kernel⟩
theorem z883 : (87 : Int32) + Int32.ofInt 1 = 88 := by decide +kernel
theorem z884 : ¬ (192 : Int32) ≤ 88 := by decide +kernel
theorem z885 : ixp 88 88 192 := ⟨vin _ _ (by decide +kernel), by decide +kernel⟩
theorem z886 : (88 : Int32) + Int32.ofInt 1 = 89 := by decide +kernel
theorem z887 : ¬ (192 : Int32) ≤ 89 := by decide +kernel
theorem z888 : ixp 89 89 192 := ⟨vin _ _ (by decide +kernel), by decide +kernel⟩
theorem z889 : (89 : Int32) + Int32.ofInt 1 = 90 := by decide +kernel
theorem z890 : ¬ (192 : Int32) ≤ 90 := by decide +kernel
theorem z891 : ixp 90 90 192 := ⟨vin _ _ (by decide +kernel), by decide +kernel⟩
theorem z892 : (90 : Int32) + Int32.ofInt 1 = 91 := by decide +kernel
theorem z893 : ¬ (192 : Int32) ≤ 91 := by decide +kernel
theorem z894 : ixp 91 91 192 := ⟨vin _ _ (by decide +kernel), by decide +kernel⟩
theorem z895 : (91 : Int32) + Int32.ofInt 1 = 92 := by decide +kernel
theorem z896 : ¬ (192 : Int32) ≤ 92 := by decide +kernel
theorem z897 : ixp 92 92 192 := ⟨vin _ _ (by decide +kernel), by decide +kernel⟩
theorem z898 : (92 : Int32) + Int32.ofInt 1 = 93 := by decide +kernel
theorem z899 : ¬ (192 : Int32) ≤ 93 := by decide +kernel
theorem z900 : ixp 93 93 192 := ⟨vin _ _ (by decide +kernel), by decide +kernel⟩
theorem z901 : (93 : Int32) + Int32.ofInt 1 = 94 := by decide +kernel
theorem z902 : ¬ (192 : Int32) ≤ 94 := by decide +kernel
theorem z903 : ixp 94 94 192 := ⟨vin _ _ (by decide +kernel), by decide +kernel⟩
theorem z904 : (94 : Int32) + Int32.ofInt 1 = 95 := by decide +kernel
theorem z905 : ¬ (192 : Int32) ≤ 95 := by decide +kernel
theorem z906 : ixp 95 95 192 := ⟨vin _ _ (by decide +kernel), by decide +kernel⟩
theorem z907 : (95 : Int32) + Int32.ofInt 1 = 96 := by decide +kernel
theorem z908 : ¬ (192 : Int32) ≤ 96 := by decide +kernel
theorem z909 : ixp 96 96 192 := ⟨vin _ _ (by decide +kernel), by decide +kernel⟩
theorem z910 : (96 : Int32) + Int32.ofInt 1 = 97 := by decide +kernel
theorem z911 : ¬ (192 : Int32) ≤ 97 := by decide +kernel
theorem z912 : ixp 97 97 192 := ⟨vin _ _ (by decide +kernel), by decide +kernel⟩
theorem z913 : (97 : Int32) + Int32.ofInt 1 = 98 := by decide +kernel
theorem z914 : ¬ (192 : Int32) ≤ 98 := by decide +kernel
theorem z915 : ixp 98 98 192 := ⟨vin _ _ (by decide +kernel), by decide +kernel⟩
theorem z916 : (98 : Int32) + Int32.ofInt 1 = 99 := by decide +kernel
theorem z917 : ¬ (192 : Int32) ≤ 99 := by decide +kernel
theorem z918 : ixp 99 99 192 := ⟨vin _ _ (by decide +kernel), by decide +kernel⟩
theorem z919 : (99 : Int32) + Int32.ofInt 1 = 100 := by decide +kernel
theorem z920 : ¬ (192 : Int32) ≤ 100 := by decide +kernel
theorem z921 : ixp 100 100 192 := ⟨vin _ _ (by decide +kernel), by decide +kernel⟩
theorem z922 : (100 : Int32) + Int32.ofInt 1 = 101 := by decide +kernel
theorem z923 : ¬ (192 : Int32) ≤ 101 := by decide +kernel
theorem z924 : ixp 101 101 192 := ⟨vin _ _ (by decide +kernel), by decide +kernel⟩
theorem z925 : (101 : Int32) + Int32.ofInt 1 = 102 := by decide +kernel
theorem z926 : ¬ (192 : Int32) ≤ 102 := by decide +kernel
theorem z927 : ixp 102 102 192 := ⟨vin _ _ (by decide +kernel), by decide +kernel⟩
theorem z928 : (102 : Int32) + Int32.ofInt 1 = 103 := by decide +kernel
theorem z929 : ¬ (192 : Int32) ≤ 103 := by decide +kernel
theorem z930 : ixp 103 103 192 := ⟨vin _ _ (by decide +kernel), by decide +kernel⟩
theorem z931 : (103 : Int32) + Int32.ofInt 1 = 104 := by decide +kernel
theorem z932 : ¬ (192 : Int32) ≤ 104 := by decide +kernel
theorem z933 : ixp 104 104 192 := ⟨vin _ _ (by decide +kernel), by decide +kernel⟩
theorem z934 : (104 : Int32) + Int32.ofInt 1 = 105 := by decide +kernel
theorem z935 : ¬ (192 : Int32) ≤ 105 := by decide +kernel
theorem z936 : ixp 105 105 192 := ⟨vin _ _ (by decide +kernel), by decide +kernel⟩
theorem z937 : (105 : Int32) + Int32.ofInt 1 = 106 := by decide +kernel
theorem z938 : ¬ (192 : Int32) ≤ 106 := by decide +kernel
theorem z939 : ixp 106 106 192 := ⟨vin _ _ (by decide +kernel), by decide +kernel⟩
theorem z940 : (106 : Int32) + Int32.ofInt 1 = 107 := by decide +kernel
theorem z941 : ¬ (192 : Int32) ≤ 107 := by decide +kernel
theorem z942 : ixp 107 107 192 := ⟨vin _ _ (by decide +kernel), by decide +kernel⟩
theorem z943 : (107 : Int32) + Int32.ofInt 1 = 108 := by decide +kernel
theorem z944 : ¬ (192 : Int32) ≤ 108 := by decide +kernel
theorem z945 : ixp 108 108 192 := ⟨vin _ _ (by decide +kernel), by decide +kernel⟩
theorem z946 : (108 : Int32) + Int32.ofInt 1 = 109 := by decide +kernel
theorem z947 : ¬ (192 : Int32) ≤ 109 := by decide +kernel
theorem z948 : ixp 109 109 192 := ⟨vin _ _ (by decide +kernel), by decide +kernel⟩
theorem z949 : (109 : Int32) + Int32.ofInt 1 = 110 := by decide +kernel
theorem z950 : ¬ (192 : Int32) ≤ 110 := by decide +kernel
theorem z951 : ixp 110 110 192 := ⟨vin _ _ (by decide +kernel), by decide +kernel⟩
theorem z952 : (110 : Int32) + Int32.ofInt 1 = 111 := by decide +kernel
theorem z953 : ¬ (192 : Int32) ≤ 111 := by decide +kernel
theorem z954 : ixp 111 111 192 := ⟨vin _ _ (by decide +kernel), by decide +kernel⟩
theorem z955 : (111 : Int32) + Int32.ofInt 1 = 112 := by decide +kernel
theorem z956 : ¬ (192 : Int32) ≤ 112 := by decide +kernel
theorem z957 : ixp 112 112 192 := ⟨vin _ _ (by decide +kernel), by decide +kernel⟩
theorem z958 : (112 : Int32) + Int32.ofInt 1 = 113 := by decide +kernel
theorem z959 : ¬ (192 : Int32) ≤ 113 := by decide +kernel
theorem z960 : ixp 113 113 192 := ⟨vin _ _ (by decide +kernel), by decide +kernel⟩
theorem z961 : (113 : Int32) + Int32.ofInt 1 = 114 := by decide +kernel
theorem z962 : ¬ (192 : Int32) ≤ 114 := by decide +kernel
theorem z963 : ixp 114 114 192 := ⟨vin _ _ (by decide +kernel), by decide +kernel⟩
theorem z964 : (114 : Int32) + Int32.ofInt 1 = 115 := by decide +kernel
theorem z965 : ¬ (192 : Int32) ≤ 115 := by decide +kernel
theorem z966 : ixp 115 115 192 := ⟨vin _ _ (by decide +kernel), by decide +kernel⟩
theorem z967 : (115 : Int32) + Int32.ofInt 1 = 116 := by decide +kernel
theorem z968 : ¬ (192 : Int32) ≤ 116 := by decide +kernel
theorem z969 : ixp 116 116 192 := ⟨vin _ _ (by decide +kernel), by decide +kernel⟩
theorem z970 : (116 : Int32) + Int32.ofInt 1 = 117 := by decide +kernel
theorem z971 : ¬ (192 : Int32) ≤ 117 := by decide +kernel
theorem z972 : ixp 117 117 192 := ⟨vin _ _ (by decide +kernel), by decide +kernel⟩
theorem z973 : (117 : Int32) + Int32.ofInt 1 = 118 := by decide +kernel
theorem z974 : ¬ (192 : Int32) ≤ 118 := by decide +kernel
theorem z975 : ixp 118 118 192 := ⟨vin _ _ (by decide +kernel), by decide +kernel⟩
theorem z976 : (118 : Int32) + Int32.ofInt 1 = 119 := by decide +kernel
theorem z977 : ¬ (192 : Int32) ≤ 119 := by decide +kernel
theorem z978 : ixp 119 119 192 := ⟨vin _ _ (by decide +kernel), by decide +kernel⟩
theorem z979 : (119 : Int32) + Int32.ofInt 1 = 120 := by decide +kernel
theorem z980 : ¬ (192 : Int32) ≤ 120 := by decide +kernel
theorem z981 : ixp 120 120 192 := ⟨vin _ _ (by decide +kernel), by decide +kernel⟩
theorem z982 : (120 : Int32) + Int32.ofInt 1 = 121 := by decide +kernel
theorem z983 : ¬ (192 : Int32) ≤ 121 := by decide +kernel
theorem z984 : ixp 121 121 192 := ⟨vin _ _ (by decide +kernel), by decide +kernel⟩
theorem z985 : (121 : Int32) + Int32.ofInt 1 = 122 := by decide +kernel
theorem z986 : ¬ (192 : Int32) ≤ 122 := by decide +kernel
theorem z987 : ixp 122 122 192 := ⟨vin _ _ (by decide +kernel), by decide +kernel⟩
theorem z988 : (122 : Int32) + Int32.ofInt 1 = 123 := by decide +kernel
theorem z989 : ¬ (192 : Int32) ≤ 123 := by decide +kernel
theorem z990 : ixp 123 123 192 := ⟨vin _ _ (by decide +kernel), by decide +kernel⟩
theorem z991 : (123 : Int32) + Int32.ofInt 1 = 124 := by decide +kernel
theorem z992 : ¬ (192 : Int32) ≤ 124 := by decide +kernel
theorem z993 : ixp 124 124 192 := ⟨vin _ _ (by decide +kernel), by decide +kernel⟩
theorem z994 : (124 : Int32) + Int32.ofInt 1 = 125 := by decide +kernel
theorem z995 : ¬ (192 : Int32) ≤ 125 := by decide +kernel
theorem z996 : ixp 125 125 192 := ⟨vin _ _ (by decide +kernel), by decide +kernel⟩
theorem z997 : (125 : Int32) + Int32.ofInt 1 = 126 := by decide +kernel
theorem z998 : ¬ (192 : Int32) ≤ 126 := by decide +kernel
theorem z999 : ixp 126 126 192 := ⟨vin _ _ (by decide +kernel), by decide +kernel⟩
theorem z1000 : (126 : Int32) + Int32.ofInt 1 = 127 := by decide +kernel
theorem z1001 : ¬ (192 : Int32) ≤ 127 := by decide +kernel
theorem z1002 : ixp 127 127 192 := ⟨vin _ _ (by decide +kernel), by decide +kernel⟩
theorem z1003 : (127 : Int32) + Int32.ofInt 1 = 128 := by decide +kernel
theorem z1004 : ¬ (192 : Int32) ≤ 128 := by decide +kernel
theorem z1005 : ixp 128 128 192 := ⟨vin _ _ (by decide +kernel), by decide +kernel⟩
theorem z1006 : (128 : Int32) + Int32.ofInt 1 = 129 := by decide +kernel
theorem z1007 : ¬ (192 : Int32) ≤ 129 := by decide +kernel
theorem z1008 : ixp 129 129 192 := ⟨vin _ _ (by decide +kernel), by decide +kernel⟩
theorem z1009 : (129 : Int32) + Int32.ofInt 1 = 130 := by decide +kernel
theorem z1010 : ¬ (192 : Int32) ≤ 130 := by decide +kernel
theorem z1011 : ixp 130 130 192 := ⟨vin _ _ (by decide +kernel), by decide +kernel⟩
theorem z1012 : (130 : Int32) + Int32.ofInt 1 = 131 := by decide +kernel
theorem z1013 : ¬ (192 : Int32) ≤ 131 := by decide +kernel
theorem z1014 : ixp 131 131 192 := ⟨vin _ _ (by decide +kernel), by decide +kernel⟩
theorem z1015 : (131 : Int32) + Int32.ofInt 1 = 132 := by decide +kernel
theorem z1016 : ¬ (192 : Int32) ≤ 132 := by decide +kernel
theorem z1017 : ixp 132 132 192 := ⟨vin _ _ (by decide +kernel), by decide +kernel⟩
theorem z1018 : (132 : Int32) + Int32.ofInt 1 = 133 := by decide +kernel
theorem z1019 : ¬ (192 : Int32) ≤ 133 := by decide +kernel
theorem z1020 : ixp 133 133 192 := ⟨vin _ _ (by decide +kernel), by decide +kernel⟩
theorem z1021 : (133 : Int32) + Int32.ofInt 1 = 134 := by decide +kernel
theorem z1022 : ¬ (192 : Int32) ≤ 134 := by decide +kernel
theorem z1023 : ixp 134 134 192 := ⟨vin _ _ (by decide +kernel), by decide +kernel⟩
theorem z1024 : (134 : Int32) + Int32.ofInt 1 = 135 := by decide +kernel
theorem z1025 : ¬ (192 : Int32) ≤ 135 := by decide +kernel
theorem z1026 : ixp 135 135 192 := ⟨vin _ _ (by decide +kernel), by decide +kernel⟩
theorem z1027 : (135 : Int32) + Int32.ofInt 1 = 136 := by decide +kernel
theorem z1028 : ¬ (192 : Int32) ≤ 136 := by decide +kernel
theorem z1029 : ixp 136 136 192 := ⟨vin _ _ (by decide +kernel), by decide +kernel⟩
theorem z1030 : (136 : Int32) + Int32.ofInt 1 = 137 := by decide +kernel
theorem z1031 : ¬ (192 : Int32) ≤ 137 := by decide +kernel
theorem z1032 : ixp 137 137 192 := ⟨vin _ _ (by decide +kernel), by decide +kernel⟩
theorem z1033 : (137 : Int32) + Int32.ofInt 1 = 138 := by decide +kernel
theorem z1034 : ¬ (192 : Int32) ≤ 138 := by decide +kernel
theorem z1035 : ixp 138 138 192 := ⟨vin _ _ (by decide +kernel), by decide +kernel⟩
theorem z1036 : (138 : Int32) + Int32.ofInt 1 = 139 := by decide +kernel
theorem z1037 : ¬ (192 : Int32) ≤ 139 := by decide +kernel
theorem z1038 : ixp 139 139 192 := ⟨vin _ _ (by decide +kernel), by decide +kernel⟩
theorem z1039 : (139 : Int32) + Int32.ofInt 1 = 140 := by decide +kernel
theorem z1040 : ¬ (192 : Int32) ≤ 140 := by decide +kernel
theorem z1041 : ixp 140 140 192 := ⟨vin _ _ (by decide +kernel), by decide +kernel⟩
theorem z1042 : (140 : Int32) + Int32.ofInt 1 = 141 := by decide +kernel
theorem z1043 : ¬ (192 : Int32) ≤ 141 := by decide +kernel
theorem z1044 : ixp 141 141 192 := ⟨vin _ _ (by decide +kernel), by decide +kernel⟩
theorem z1045 : (141 : Int32) + Int32.ofInt 1 = 142 := by decide +kernel
theorem z1046 : ¬ (192 : Int32) ≤ 142 := by decide +kernel
theorem z1047 : ixp 142 142 192 := ⟨vin _ _ (by decide +kernel), by decide +kernel⟩
theorem z1048 : (142 : Int32) + Int32.ofInt 1 = 143 := by decide +kernel
theorem z1049 : ¬ (192 : Int32) ≤ 143 := by decide +kernel
theorem z1050 : ixp 143 143 192 := ⟨vin _ _ (by decide +kernel), by decide +kernel⟩
theorem z1051 : (143 : Int32) + Int32.ofInt 1 = 144 := by decide +kernel
theorem z1052 : ¬ (192 : Int32) ≤ 144 := by decide +kernel
theorem z1053 : ixp 144 144 192 := ⟨vin _ _ (by decide +kernel), by decide +kernel⟩
theorem z1054 : (144 : Int32) + Int32.ofInt 1 = 145 := by decide +kernel
theorem z1055 : ¬ (192 : Int32) ≤ 145 := by decide +kernel
theorem z1056 : ixp 145 145 192 := ⟨vin _ _ (by decide +kernel), by decide +kernel⟩
theorem z1057 : (145 : Int32) + Int32.ofInt 1 = 146 := by decide +kernel
theorem z1058 : ¬ (192 : Int32) ≤ 146 := by decide +kernel
theorem z1059 : ixp 146 146 192 := ⟨vin _ _ (by decide +kernel), by decide +kernel⟩
theorem z1060 : (146 : Int32) + Int32.ofInt 1 = 147 := by decide +kernel
theorem z1061 : ¬ (192 : Int32) ≤ 147 := by decide +kernel
theorem z1062 : ixp 147 147 192 := ⟨vin _ _ (by decide +kernel), by decide +kernel⟩
theorem z1063 : (147 : Int32) + Int32.ofInt 1 = 148 := by decide +kernel
theorem z1064 : ¬ (192 : Int32) ≤ 148 := by decide +kernel
theorem z1065 : ixp 148 148 192 := ⟨vin _ _ (by decide +kernel), by decide +kernel⟩
theorem z1066 : (148 : Int32) + Int32.ofInt 1 = 149 := by decide +kernel
theorem z1067 : ¬ (192 : Int32) ≤ 149 := by decide +kernel
theorem z1068 : ixp 149 149 192 := ⟨vin _ _ (by decide +kernel), by decide +kernel⟩
theorem z1069 : (149 : Int32) + Int32.ofInt 1 = 150 := by decide +kernel
theorem z1070 : ¬ (192 : Int32) ≤ 150 := by decide +kernel
theorem z1071 : ixp 150 150 192 := ⟨vin _ _ (by decide +kernel), by decide +kernel⟩
theorem z1072 : (150 : Int32) + Int32.ofInt 1 = 151 := by decide +kernel
theorem z1073 : ¬ (192 : Int32) ≤ 151 := by decide +kernel
theorem z1074 : ixp 151 151 192 := ⟨vin _ _ (by decide +kernel), by decide +kernel⟩
theorem z1075 : (151 : Int32) + Int32.ofInt 1 = 152 := by decide +kernel
theorem z1076 : ¬ (192 : Int32) ≤ 152 := by decide +kernel
theorem z1077 : ixp 152 152 192 := ⟨vin _ _ (by decide +kernel), by decide +kernel⟩
theorem z1078 : (152 : Int32) + Int32.ofInt 1 = 153 := by decide +kernel
theorem z1079 : ¬ (192 : Int32) ≤ 153 := by decide +kernel
theorem z1080 : ixp 153 153 192 := ⟨vin _ _ (by decide +kernel), by decide +kernel⟩
theorem z1081 : (153 : Int32) + Int32.ofInt 1 = 154 := by decide +kernel
theorem z1082 : ¬ (192 : Int32) ≤ 154 := by decide +kernel
theorem z1083 : ixp 154 154 192 := ⟨vin _ _ (by decide +kernel), by decide +kernel⟩
theorem z1084 : (154 : Int32) + Int32.ofInt 1 = 155 := by decide +kernel
theorem z1085 : ¬ (192 : Int32) ≤ 155 := by decide +kernel
theorem z1086 : ixp 155 155 192 := ⟨vin _ _ (by decide +kernel), by decide +kernel⟩
theorem z1087 : (155 : Int32) + Int32.ofInt 1 = 156 := by decide +kernel
theorem z1088 : ¬ (192 : Int32) ≤ 156 := by decide +kernel
theorem z1089 : ixp 156 156 192 := ⟨vin _ _ (by decide +kernel), by decide +kernel⟩
theorem z1090 : (156 : Int32) + Int32.ofInt 1 = 157 := by decide +kernel
theorem z1091 : ¬ (192 : Int32) ≤ 157 := by decide +kernel
theorem z1092 : ixp 157 157 192 := ⟨vin _ _ (by decide +kernel), by decide +kernel⟩
theorem z1093 : (157 : Int32) + Int32.ofInt 1 = 158 := by decide +kernel
theorem z1094 : ¬ (192 : Int32) ≤ 158 := by decide +kernel
theorem z1095 : ixp 158 158 192 := ⟨vin _ _ (by decide +kernel), by decide +kernel⟩
theorem z1096 : (158 : Int32) + Int32.ofInt 1 = 159 := by decide +kernel
theorem z1097 : ¬ (192 : Int32) ≤ 159 := by decide +kernel
theorem z1098 : ixp 159 159 192 := ⟨vin _ _ (by decide +kernel), by decide +kernel⟩
theorem z1099 : (159 : Int32) + Int32.ofInt 1 = 160 := by decide +kernel
theorem z1100 : ¬ (192 : Int32) ≤ 160 := by decide +kernel
theorem z1101 : ixp 160 160 192 := ⟨vin _ _ (by decide +kernel), by decide +kernel⟩
theorem z1102 : (160 : Int32) + Int32.ofInt 1 = 161 := by decide +kernel
theorem z1103 : ¬ (192 : Int32) ≤ 161 := by decide +kernel
theorem z1104 : ixp 161 161 192 := ⟨vin _ _ (by decide +kernel), by decide +kernel⟩
theorem z1105 : (161 : Int32) + Int32.ofInt 1 = 162 := by decide +kernel
theorem z1106 : ¬ (192 : Int32) ≤ 162 := by decide +kernel
theorem z1107 : ixp 162 162 192 := ⟨vin _ _ (by decide +kernel), by decide +kernel⟩
theorem z1108 : (162 : Int32) + Int32.ofInt 1 = 163 := by decide +kernel
theorem z1109 : ¬ (192 : Int32) ≤ 163 := by decide +kernel
theorem z1110 : ixp 163 163 192 := ⟨vin _ _ (by decide +kernel), by decide +kernel⟩
theorem z1111 : (163 : Int32) + Int32.ofInt 1 = 164 := by decide +kernel
theorem z1112 : ¬ (192 : Int32) ≤ 164 := by decide +kernel
theorem z1113 : ixp 164 164 192 := ⟨vin _ _ (by decide +kernel), by decide +kernel⟩
theorem z1114 : (164 : Int32) + Int32.ofInt 1 = 165 := by decide +kernel
theorem z1115 : ¬ (192 : Int32) ≤ 165 := by decide +kernel
theorem z1116 : ixp 165 165 192 := ⟨vin _ _ (by decide +kernel), by decide +kernel⟩
theorem z1117 : (165 : Int32) + Int32.ofInt 1 = 166 := by decide +kernel
theorem z1118 : ¬ (192 : Int32) ≤ 166 := by decide +kernel
theorem z1119 : ixp 166 166 192 := ⟨vin _ _ (by decide +kernel), by decide +kernel⟩
theorem z1120 : (166 : Int32) + Int32.ofInt 1 = 167 := by decide +kernel
theorem z1121 : ¬ (192 : Int32) ≤ 167 := by decide +kernel
theorem z1122 : ixp 167 167 192 := ⟨vin _ _ (by decide +kernel), by decide +kernel⟩
theorem z1123 : (167 : Int32) + Int32.ofInt 1 = 168 := by decide +kernel
theorem z1124 : ¬ (192 : Int32) ≤ 168 := by decide +kernel
theorem z1125 : ixp 168 168 192 := ⟨vin _ _ (by decide +kernel), by decide +kernel⟩
theorem z1126 : (168 : Int32) + Int32.ofInt 1 = 169 := by decide +kernel
theorem z1127 : ¬ (192 : Int32) ≤ 169 := by decide +kernel
theorem z1128 : ixp 169 169 192 := ⟨vin _ _ (by decide +kernel), by decide +kernel⟩
theorem z1129 : (169 : Int32) + Int32.ofInt 1 = 170 := by decide +kernel
theorem z1130 : ¬ (192 : Int32) ≤ 170 := by decide +kernel
theorem z1131 : ixp 170 170 192 := ⟨vin _ _ (by decide +kernel), by decide +kernel⟩
theorem z1132 : (170 : Int32) + Int32.ofInt 1 = 171 := by decide +kernel
theorem z1133 : ¬ (192 : Int32) ≤ 171 := by decide +kernel
theorem z1134 : ixp 171 171 192 := ⟨vin _ _ (by decide +kernel), by decide +kernel⟩
theorem z1135 : (171 : Int32) + Int32.ofInt 1 = 172 := by decide +kernel
theorem z1136 : ¬ (192 : Int32) ≤ 172 := by decide +kernel
theorem z1137 : ixp 172 172 192 := ⟨vin _ _ (by decide +kernel), by decide +kernel⟩
theorem z1138 : (172 : Int32) + Int32.ofInt 1 = 173 := by decide +kernel
theorem z1139 : ¬ (192 : Int32) ≤ 173 := by decide +kernel
theorem z1140 : ixp 173 173 192 := ⟨vin _ _ (by decide +kernel), by decide +kernel⟩
theorem z1141 : (173 : Int32) + Int32.ofInt 1 = 174 := by decide +kernel
theorem z1142 : ¬ (192 : Int32) ≤ 174 := by decide +kernel
theorem z1143 : ixp 174 174 192 := ⟨vin _ _ (by decide +kernel), by decide +kernel⟩
theorem z1144 : (174 : Int32) + Int32.ofInt 1 = 175 := by decide +kernel
theorem z1145 : ¬ (192 : Int32) ≤ 175 := by decide +kernel
theorem z1146 : ixp 175 175 192 := ⟨vin _ _ (by decide +kernel), by decide +kernel⟩
theorem z1147 : (175 : Int32) + Int32.ofInt 1 = 176 := by decide +kernel
theorem z1148 : ¬ (192 : Int32) ≤ 176 := by decide +kernel
theorem z1149 : ixp 176 176 192 := ⟨vin _ _ (by decide +kernel), by decide +kernel⟩
theorem z1150 : (176 : Int32) + Int32.ofInt 1 = 177 := by decide +kernel
theorem z1151 : ¬ (192 : Int32) ≤ 177 := by decide +kernel
theorem z1152 : ixp 177 177 192 := ⟨vin _ _ (by decide +kernel), by decide +kernel⟩
theorem z1153 : (177 : Int32) + Int32.ofInt 1 = 178 := by decide +kernel
theorem z1154 : ¬ (192 : Int32) ≤ 178 := by decide +kernel
theorem z1155 : ixp 178 178 192 := ⟨vin _ _ (by decide +kernel), by decide +kernel⟩
theorem z1156 : (178 : Int32) + Int32.ofInt 1 = 179 := by decide +kernel
theorem z1157 : ¬ (192 : Int32) ≤ 179 := by decide +kernel
theorem z1158 : ixp 179 179 192 := ⟨vin _ _ (by decide +kernel), by decide +kernel⟩
theorem z1159 : (179 : Int32) + Int32.ofInt 1 = 180 := by decide +kernel
theorem z1160 : ¬ (192 : Int32) ≤ 180 := by decide +kernel
theorem z1161 : ixp 180 180 192 := ⟨vin _ _ (by decide +kernel), by decide +kernel⟩
theorem z1162 : (180 : Int32) + Int32.ofInt 1 = 181 := by decide +kernel
theorem z1163 : ¬ (192 : Int32) ≤ 181 := by decide +kernel
theorem z1164 : ixp 181 181 192 := ⟨vin _ _ (by decide +kernel), by decide +kernel⟩
theorem z1165 : (181 : Int32) + Int32.ofInt 1 = 182 := by decide +kernel
theorem z1166 : ¬ (192 : Int32) ≤ 182 := by decide +kernel
theorem z1167 : ixp 182 182 192 := ⟨vin _ _ (by decide +kernel), by decide +kernel⟩
theorem z1168 : (182 : Int32) + Int32.ofInt 1 = 183 := by decide +kernel
theorem z1169 : ¬ (192 : Int32) ≤ 183 := by decide +kernel
theorem z1170 : ixp 183 183 192 := ⟨vin _ _ (by decide +kernel), by decide +kernel⟩
theorem z1171 : (183 : Int32) + Int32.ofInt 1 = 184 := by decide +kernel
theorem z1172 : ¬ (192 : Int32) ≤ 184 := by decide +kernel
theorem z1173 : ixp 184 184 192 := ⟨vin _ _ (by decide +kernel), by decide +kernel⟩
theorem z1174 : (184 : Int32) + Int32.ofInt 1 = 185 := by decide +kernel
theorem z1175 : ¬ (192 : Int32) ≤ 185 := by decide +kernel
theorem z1176 : ixp 185 185 192 := ⟨vin _ _ (by decide +kernel), by decide +kernel⟩
theorem z1177 : (185 : Int32) + Int32.ofInt 1 = 186 := by decide +kernel
theorem z1178 : ¬ (192 : Int32) ≤ 186 := by decide +kernel
theorem z1179 : ixp 186 186 192 := ⟨vin _ _ (by decide +kernel), by decide +kernel⟩
theorem z1180 : (186 : Int32) + Int32.ofInt 1 = 187 := by decide +kernel
theorem z1181 : ¬ (192 : Int32) ≤ 187 := by decide +kernel
theorem z1182 : ixp 187 187 192 := ⟨vin _ _ (by decide +kernel), by decide +kernel⟩
theorem z1183 : (187 : Int32) + Int32.ofInt 1 = 188 := by decide +kernel
theorem z1184 : ¬ (192 : Int32) ≤ 188 := by decide +kernel
theorem z1185 : ixp 188 188 192 := ⟨vin _ _ (by decide +kernel), by decide +kernel⟩
theorem z1186 : (188 : Int32) + Int32.ofInt 1 = 189 := by decide +kernel
theorem z1187 : ¬ (192 : Int32) ≤ 189 := by decide +kernel
theorem z1188 : ixp 189 189 192 := ⟨vin _ _ (by decide +kernel), by decide +kernel⟩
theorem z1189 : (189 : Int32) + Int32.ofInt 1 = 190 := by decide +kernel
theorem z1190 : ¬ (192 : Int32) ≤ 190 := by decide +kernel
theorem z1191 : ixp 190 190 192 := ⟨vin _ _ (by decide +kernel), by decide +kernel⟩
theorem z1192 : (190 : Int32) + Int32.ofInt 1 = 191 := by decide +kernel
theorem z1193 : ¬ (192 : Int32) ≤ 191 := by decide +kernel
theorem z1194 : ixp 191 191 192 := ⟨vin _ _ (by decide +kernel), by decide +kernel⟩
theorem z1195 : (191 : Int32) + Int32.ofInt 1 = 192 := by decide +kernel
theorem z1196 : (192 : Int32) ≤ 192 := by decide +kernel
theorem z1197 : ((26 : Nat) : Int) + 16 = ((42 : Nat) : Int) := by decide +kernel
theorem z1198 : ixp 0 0 64 := ⟨vin _ _ (by decide +kernel), by decide +kernel⟩
theorem z1199 : ((39 : Nat) : Int) + (-19) = ((20 : Nat) : Int) := by decide +kernel
theorem z1200 : ixp 1 1 64 := ⟨vin _ _ (by decide +kernel), by decide +kernel⟩
theorem z1201 : ixp 2 2 64 := ⟨vin _ _ (by decide +kernel), by decide +kernel⟩
theorem z1202 : ixp 3 3 64 := ⟨vin _ _ (by decide +kernel), by decide +kernel⟩
theorem z1203 : ixp 4 4 64 := ⟨vin _ _ (by decide +kernel), by decide +kernel⟩
theorem z1204 : ixp 5 5 64 := ⟨vin _ _ (by decide +kernel), by decide +kernel⟩
theorem z1205 : ixp 6 6 64 := ⟨vin _ _ (by decide +kernel), by decide +kernel⟩
theorem z1206 : ixp 7 7 64 := ⟨vin _ _ (by decide +kernel), by decide +kernel⟩
theorem z1207 : ixp 8 8 64 := ⟨vin _ _ (by decide +kernel), by decide +kernel⟩
theorem z1208 : ixp 9 9 64 := ⟨vin _ _ (by decide +kernel), by decide +kernel⟩
theorem z1209 : ixp 10 10 64 := ⟨vin _ _ (by decide +kernel), by decide +kernel⟩
theorem z1210 : ixp 11 11 64 := ⟨vin _ _ (by decide +kernel), by decide +kernel⟩
theorem z1211 : ixp 12 12 64 := ⟨vin _ _ (by decide +kernel), by decide +kernel⟩
theorem z1212 : ixp 13 13 64 := ⟨vin _ _ (by decide +kernel), by decide +kernel⟩
theorem z1213 : ixp 14 14 64 := ⟨vin _ _ (by decide +kernel), by decide +kernel⟩
theorem z1214 : ixp 15 15 64 := ⟨vin _ _ (by decide +kernel), by decide +kernel⟩
theorem z1215 : ixp 16 16 64 := ⟨vin _ _ (by decide +kernel), by decide +kernel⟩
theorem z1216 : ixp 17 17 64 := ⟨vin _ _ (by decide +kernel), by decide +kernel⟩
theorem z1217 : ixp 18 18 64 := ⟨vin _ _ (by decide +kernel), by decide +kernel⟩
theorem z1218 : ixp 19 19 64 := ⟨vin _ _ (by decide +kernel), by decide +kernel⟩
theorem z1219 : ixp 20 20 64 := ⟨vin _ _ (by decide +kernel), by decide +kernel⟩
theorem z1220 : ixp 21 21 64 := ⟨vin _ _ (by decide +kernel), by decide +kernel⟩
theorem z1221 : ixp 22 22 64 := ⟨vin _ _ (by decide +kernel), by decide +kernel⟩
theorem z1222 : ixp 23 23 64 := ⟨vin _ _ (by decide +kernel), by decide +kernel⟩
theorem z1223 : ixp 24 24 64 := ⟨vin _ _ (by decide +kernel), by decide +kernel⟩
theorem z1224 : ixp 25 25 64 := ⟨vin _ _ (by decide +kernel), by decide +kernel⟩
theorem z1225 : ixp 26 26 64 := ⟨vin _ _ (by decide +kernel), by decide +kernel⟩
theorem z1226 : ixp 27 27 64 := ⟨vin _ _ (by decide +kernel), by decide +kernel⟩
theorem z1227 : ixp 28 28 64 := ⟨vin _ _ (by decide +kernel), by decide +kernel⟩
theorem z1228 : ixp 29 29 64 := ⟨vin _ _ (by decide +kernel), by decide +kernel⟩
theorem z1229 : ixp 30 30 64 := ⟨vin _ _ (by decide +kernel), by decide +kernel⟩
theorem z1230 : ixp 31 31 64 := ⟨vin _ _ (by decide +kernel), by decide +kernel⟩
theorem z1231 : ixp 32 32 64 := ⟨vin _ _ (by decide +kernel), by decide +kernel⟩
theorem z1232 : ixp 33 33 64 := ⟨vin _ _ (by decide +kernel), by decide +kernel⟩
theorem z1233 : ixp 34 34 64 := ⟨vin _ _ (by decide +kernel), by decide +kernel⟩
theorem z1234 : ixp 35 35 64 := ⟨vin _ _ (by decide +kernel), by decide +kernel⟩
theorem z1235 : ixp 36 36 64 := ⟨vin _ _ (by decide +kernel), by decide +kernel⟩
theorem z1236 : ixp 37 37 64 := ⟨vin _ _ (by decide +kernel), by decide +kernel⟩
theorem z1237 : ixp 38 38 64 := ⟨vin _ _ (by decide +kernel), by decide +kernel⟩
theorem z1238 : ixp 39 39 64 := ⟨vin _ _ (by decide +kernel), by decide +kernel⟩
theorem z1239 : ixp 40 40 64 := ⟨vin _ _ (by decide +kernel), by decide +kernel⟩
theorem z1240 : ixp 41 41 64 := ⟨vin _ _ (by decide +kernel), by decide +kernel⟩
theorem z1241 : ixp 42 42 64 := ⟨vin _ _ (by decide +kernel), by decide +kernel⟩
theorem z1242 : ixp 43 43 64 := ⟨vin _ _ (by decide +kernel), by decide +kernel⟩
theorem z1243 : ixp 44 44 64 := ⟨vin _ _ (by decide +kernel), by decide +kernel⟩
theorem z1244 : ixp 45 45 64 := ⟨vin _ _ (by decide +kernel), by decide +kernel⟩
theorem z1245 : ixp 46 46 64 := ⟨vin _ _ (by decide +kernel), by decide +kernel⟩
theorem z1246 : ixp 47 47 64 := ⟨vin _ _ (by decide +kernel), by decide +kernel⟩
theorem z1247 : ixp 48 48 64 := ⟨vin _ _ (by decide +kernel), by decide +kernel⟩
theorem z1248 : ixp 49 49 64 := ⟨vin _ _ (by decide +kernel), by decide +kernel⟩
theorem z1249 : ixp 50 50 64 := ⟨vin _ _ (by decide +kernel), by decide +kernel⟩
theorem z1250 : ixp 51 51 64 := ⟨vin _ _ (by decide +kernel), by decide +kernel⟩
theorem z1251 : ixp 52 52 64 := ⟨vin _ _ (by decide +kernel), by decide +kernel⟩
theorem z1252 : ixp 53 53 64 := ⟨vin _ _ (by decide +kernel), by decide +kernel⟩
theorem z1253 : ixp 54 54 64 := ⟨vin _ _ (by decide +kernel), by decide +kernel⟩
theorem z1254 : ixp 55 55 64 := ⟨vin _ _ (by decide +kernel), by decide +kernel⟩
theorem z1255 : ixp 56 56 64 := ⟨vin _ _ (by decide +kernel), by decide +kernel⟩
theorem z1256 : ixp 57 57 64 := ⟨vin _ _ (by decide +kernel), by decide +kernel⟩
theorem z1257 : ixp 58 58 64 := ⟨vin _ _ (by decide +kernel), by decide +kernel⟩
theorem z1258 : ixp 59 59 64 := ⟨vin _ _ (by decide +kernel), by decide +kernel⟩
theorem z1259 : ixp 60 60 64 := ⟨vin _ _ (by decide +kernel), by decide +kernel⟩
theorem z1260 : ixp 61 61 64 := ⟨vin _ _ (by decide +kernel), by decide +kernel⟩
theorem z1261 : ixp 62 62 64 := ⟨vin _ _ (by decide +kernel), by decide +kernel⟩
theorem z1262 : ixp 63 63 64 := ⟨vin _ _ (by decide +kernel), by decide +kernel⟩
theorem z1263 : ixp 0 0 9 := ⟨vin _ _ (by decide +kernel), by decide +kernel⟩
theorem z1264 : ((16 : Nat) : Int) + 44 = ((60 : Nat) : Int) := by decide +kernel
theorem z1265 : ((76 : Nat) : Int) + 15 = ((91 : Nat) : Int) := by decide +kernel
theorem z1266 : ((101 : Nat) : Int) + 11 = ((112 : Nat) : Int) := by decide +kernel
theorem z1267 : ((109 : Nat) : Int) + 76 = ((185 : Nat) : Int) := by decide +kernel
theorem z1268 : ¬ (0 : Int32) = 1 := by decide +kernel
theorem z1269 : ((190 : Nat) : Int) + 9 = ((199 : Nat) : Int) := by decide +kernel
theorem z1270 : yX8_advance.cls ≠ "java/lang/invoke/MethodHandle" ∧ yX8_advance.cls ≠ "java/lang/invoke/VarHandle" ∧ (parseMethodDescriptor yX8_advance.desc).map (fun d => d.parameters.length) = some 0 := by decide +kernel
theorem z1271 : ((32 : Nat) : Int) + 4 = ((36 : Nat) : Int) := by decide +kernel
theorem z1272 : ((46 : Nat) : Int) + 143 = ((189 : Nat) : Int) := by decide +kernel
theorem z1273 : ¬ (1 : Int32) = 0 := by decide +kernel
theorem z1274 : ((51 : Nat) : Int) + 138 = ((189 : Nat) : Int) := by decide +kernel
theorem z1275 : ((61 : Nat) : Int) + 128 = ((189 : Nat) : Int) := by decide +kernel
theorem z1276 : ((191 : Nat) : Int) + 14 = ((205 : Nat) : Int) := by decide +kernel
theorem z1277 : ((10 : Nat) : Int) + 51 = ((61 : Nat) : Int) := by decide +kernel
theorem z1278 : ((198 : Nat) : Int) + 7 = ((205 : Nat) : Int) := by decide +kernel
theorem z1279 : ((202 : Nat) : Int) + 4 = ((206 : Nat) : Int) := by decide +kernel
theorem z1280 : yX4_empty.cls ≠ "java/lang/invoke/MethodHandle" ∧ yX4_empty.cls ≠ "java/lang/invoke/VarHandle" ∧ (parseMethodDescriptor yX4_empty.desc).map (fun d => d.parameters.length) = some 0 := by decide +kernel
theorem z1281 : yX8_begin.cls ≠ "java/lang/invoke/MethodHandle" ∧ yX8_begin.cls ≠ "java/lang/invoke/VarHandle" ∧ (parseMethodDescriptor yX8_begin.desc).map (fun d => d.parameters.length) = some 2 := by decide +kernel
theorem z1282 : yX2_bindParts.cls ≠ "java/lang/invoke/MethodHandle" ∧ yX2_bindParts.cls ≠ "java/lang/invoke/VarHandle" ∧ (parseMethodDescriptor yX2_bindParts.desc).map (fun d => d.parameters.length) = some 0 := by decide +kernel
theorem z1283 : ((19 : Nat) : Int) + 5 = ((24 : Nat) : Int) := by decide +kernel
theorem z1284 : yX0_forgetActs.cls ≠ "java/lang/invoke/MethodHandle" ∧ yX0_forgetActs.cls ≠ "java/lang/invoke/VarHandle" ∧ (parseMethodDescriptor yX0_forgetActs.desc).map (fun d => d.parameters.length) = some 0 := by decide +kernel
theorem z1285 : ((11 : Nat) : Int) + 19 = ((30 : Nat) : Int) := by decide +kernel
theorem z1286 : ((27 : Nat) : Int) + (-18) = ((9 : Nat) : Int) := by decide +kernel
theorem z1287 : yX0_empty.cls ≠ "java/lang/invoke/MethodHandle" ∧ yX0_empty.cls ≠ "java/lang/invoke/VarHandle" ∧ (parseMethodDescriptor yX0_empty.desc).map (fun d => d.parameters.length) = some 0 := by decide +kernel
theorem z1288 : yX7_forget.cls ≠ "java/lang/invoke/MethodHandle" ∧ yX7_forget.cls ≠ "java/lang/invoke/VarHandle" ∧ (parseMethodDescriptor yX7_forget.desc).map (fun d => d.parameters.length) = some 0 := by decide +kernel
theorem z1289 : yX9_forget.cls ≠ "java/lang/invoke/MethodHandle" ∧ yX9_forget.cls ≠ "java/lang/invoke/VarHandle" ∧ (parseMethodDescriptor yX9_forget.desc).map (fun d => d.parameters.length) = some 0 := by decide +kernel
theorem z1290 : yX3_forget.cls ≠ "java/lang/invoke/MethodHandle" ∧ yX3_forget.cls ≠ "java/lang/invoke/VarHandle" ∧ (parseMethodDescriptor yX3_forget.desc).map (fun d => d.parameters.length) = some 0 := by decide +kernel
theorem z1291 : yX2_readsInto.cls ≠ "java/lang/invoke/MethodHandle" ∧ yX2_readsInto.cls ≠ "java/lang/invoke/VarHandle" ∧ (parseMethodDescriptor yX2_readsInto.desc).map (fun d => d.parameters.length) = some 3 := by decide +kernel
theorem z1292 : yX10_forgetOldPort.cls ≠ "java/lang/invoke/MethodHandle" ∧ yX10_forgetOldPort.cls ≠ "java/lang/invoke/VarHandle" ∧ (parseMethodDescriptor yX10_forgetOldPort.desc).map (fun d => d.parameters.length) = some 0 := by decide +kernel
theorem z1293 : ((25 : Nat) : Int) + 21 = ((46 : Nat) : Int) := by decide +kernel
theorem z1294 : (1 : Int32) - 0 = 1 := by decide +kernel
theorem z1295 : ixp 1 1 2 := ⟨vin _ _ (by decide +kernel), by decide +kernel⟩
theorem z1296 : (64 : Int32) * 1 = 64 := by decide +kernel
theorem z1297 : (64 : Int32) + 64 = 128 := by decide +kernel
theorem z1298 : ¬ (128 : Int32) ≤ 64 := by decide +kernel
theorem z1299 : ixp 64 64 128 := ⟨vin _ _ (by decide +kernel), by decide +kernel⟩
theorem z1300 : ¬ (128 : Int32) ≤ 65 := by decide +kernel
theorem z1301 : ixp 65 65 128 := ⟨vin _ _ (by decide +kernel), by decide +kernel⟩
theorem z1302 : ¬ (128 : Int32) ≤ 66 := by decide +kernel
theorem z1303 : ixp 66 66 128 := ⟨vin _ _ (by decide +kernel), by decide +kernel⟩
theorem z1304 : ¬ (128 : Int32) ≤ 67 := by decide +kernel
theorem z1305 : ixp 67 67 128 := ⟨vin _ _ (by decide +kernel), by decide +kernel⟩
theorem z1306 : ¬ (128 : Int32) ≤ 68 := by decide +kernel
theorem z1307 : ixp 68 68 128 := ⟨vin _ _ (by decide +kernel), by decide +kernel⟩
theorem z1308 : ¬ (128 : Int32) ≤ 69 := by decide +kernel
theorem z1309 : ixp 69 69 128 := ⟨vin _ _ (by decide +kernel), by decide +kernel⟩
theorem z1310 : ¬ (128 : Int32) ≤ 70 := by decide +kernel
theorem z1311 : ixp 70 70 128 := ⟨vin _ _ (by decide +kernel), by decide +kernel⟩
theorem z1312 : ¬ (128 : Int32) ≤ 71 := by decide +kernel
theorem z1313 : ixp 71 71 128 := ⟨vin _ _ (by decide +kernel), by decide +kernel⟩
theorem z1314 : ¬ (128 : Int32) ≤ 72 := by decide +kernel
theorem z1315 : ixp 72 72 128 := ⟨vin _ _ (by decide +kernel), by decide +kernel⟩
theorem z1316 : ¬ (128 : Int32) ≤ 73 := by decide +kernel
theorem z1317 : ixp 73 73 128 := ⟨vin _ _ (by decide +kernel), by decide +kernel⟩
theorem z1318 : ¬ (128 : Int32) ≤ 74 := by decide +kernel
theorem z1319 : ixp 74 74 128 := ⟨vin _ _ (by decide +kernel), by decide +kernel⟩
theorem z1320 : ¬ (128 : Int32) ≤ 75 := by decide +kernel
theorem z1321 : ixp 75 75 128 := ⟨vin _ _ (by decide +kernel), by decide +kernel⟩
theorem z1322 : ¬ (128 : Int32) ≤ 76 := by decide +kernel
theorem z1323 : ixp 76 76 128 := ⟨vin _ _ (by decide +kernel), by decide +kernel⟩
theorem z1324 : ¬ (128 : Int32) ≤ 77 := by decide +kernel
theorem z1325 : ixp 77 77 128 := ⟨vin _ _ (by decide +kernel), by decide +kernel⟩
theorem z1326 : ¬ (128 : Int32) ≤ 78 := by decide +kernel
theorem z1327 : ixp 78 78 128 := ⟨vin _ _ (by decide +kernel), by decide +kernel⟩
theorem z1328 : ¬ (128 : Int32) ≤ 79 := by decide +kernel
theorem z1329 : ixp 79 79 128 := ⟨vin _ _ (by decide +kernel), by decide +kernel⟩
theorem z1330 : ¬ (128 : Int32) ≤ 80 := by decide +kernel
theorem z1331 : ixp 80 80 128 := ⟨vin _ _ (by decide +kernel), by decide +kernel⟩
theorem z1332 : ¬ (128 : Int32) ≤ 81 := by decide +kernel
theorem z1333 : ixp 81 81 128 := ⟨vin _ _ (by decide +kernel), by decide +kernel⟩
theorem z1334 : ¬ (128 : Int32) ≤ 82 := by decide +kernel
theorem z1335 : ixp 82 82 128 := ⟨vin _ _ (by decide +kernel), by decide +kernel⟩
theorem z1336 : ¬ (128 : Int32) ≤ 83 := by decide +kernel
theorem z1337 : ixp 83 83 128 := ⟨vin _ _ (by decide +kernel), by decide +kernel⟩
theorem z1338 : ¬ (128 : Int32) ≤ 84 := by decide +kernel
theorem z1339 : ixp 84 84 128 := ⟨vin _ _ (by decide +kernel), by decide +kernel⟩
theorem z1340 : ¬ (128 : Int32) ≤ 85 := by decide +kernel
theorem z1341 : ixp 85 85 128 := ⟨vin _ _ (by decide +kernel), by decide +kernel⟩
theorem z1342 : ¬ (128 : Int32) ≤ 86 := by decide +kernel
theorem z1343 : ixp 86 86 128 := ⟨vin _ _ (by decide +kernel), by decide +kernel⟩
theorem z1344 : ¬ (128 : Int32) ≤ 87 := by decide +kernel
theorem z1345 : ixp 87 87 128 := ⟨vin _ _ (by decide +kernel), by decide +kernel⟩
theorem z1346 : ¬ (128 : Int32) ≤ 88 := by decide +kernel
theorem z1347 : ixp 88 88 128 := ⟨vin _ _ (by decide +kernel), by decide +kernel⟩
theorem z1348 : ¬ (128 : Int32) ≤ 89 := by decide +kernel
theorem z1349 : ixp 89 89 128 := ⟨vin _ _ (by decide +kernel), by decide +kernel⟩
theorem z1350 : ¬ (128 : Int32) ≤ 90 := by decide +kernel
theorem z1351 : ixp 90 90 128 := ⟨vin _ _ (by decide +kernel), by decide +kernel⟩
theorem z1352 : ¬ (128 : Int32) ≤ 91 := by decide +kernel
theorem z1353 : ixp 91 91 128 := ⟨vin _ _ (by decide +kernel), by decide +kernel⟩
theorem z1354 : ¬ (128 : Int32) ≤ 92 := by decide +kernel
theorem z1355 : ixp 92 92 128 := ⟨vin _ _ (by decide +kernel), by decide +kernel⟩
theorem z1356 : ¬ (128 : Int32) ≤ 93 := by decide +kernel
theorem z1357 : ixp 93 93 128 := ⟨vin _ _ (by decide +kernel), by decide +kernel⟩
theorem z1358 : ¬ (128 : Int32) ≤ 94 := by decide +kernel
theorem z1359 : ixp 94 94 128 := ⟨vin _ _ (by decide +kernel), by decide +kernel⟩
theorem z1360 : ¬ (128 : Int32) ≤ 95 := by decide +kernel
theorem z1361 : ixp 95 95 128 := ⟨vin _ _ (by decide +kernel), by decide +kernel⟩
theorem z1362 : ¬ (128 : Int32) ≤ 96 := by decide +kernel
theorem z1363 : ixp 96 96 128 := ⟨vin _ _ (by decide +kernel), by decide +kernel⟩
theorem z1364 : ¬ (128 : Int32) ≤ 97 := by decide +kernel
theorem z1365 : ixp 97 97 128 := ⟨vin _ _ (by decide +kernel), by decide +kernel⟩
theorem z1366 : ¬ (128 : Int32) ≤ 98 := by decide +kernel
theorem z1367 : ixp 98 98 128 := ⟨vin _ _ (by decide +kernel), by decide +kernel⟩
theorem z1368 : ¬ (128 : Int32) ≤ 99 := by decide +kernel
theorem z1369 : ixp 99 99 128 := ⟨vin _ _ (by decide +kernel), by decide +kernel⟩
theorem z1370 : ¬ (128 : Int32) ≤ 100 := by decide +kernel
theorem z1371 : ixp 100 100 128 := ⟨vin _ _ (by decide +kernel), by decide +kernel⟩
theorem z1372 : ¬ (128 : Int32) ≤ 101 := by decide +kernel
theorem z1373 : ixp 101 101 128 := ⟨vin _ _ (by decide +kernel), by decide +kernel⟩
theorem z1374 : ¬ (128 : Int32) ≤ 102 := by decide +kernel
theorem z1375 : ixp 102 102 128 := ⟨vin _ _ (by decide +kernel), by decide +kernel⟩
theorem z1376 : ¬ (128 : Int32) ≤ 103 := by decide +kernel
theorem z1377 : ixp 103 103 128 := ⟨vin _ _ (by decide +kernel), by decide +kernel⟩
theorem z1378 : ¬ (128 : Int32) ≤ 104 := by decide +kernel
theorem z1379 : ixp 104 104 128 := ⟨vin _ _ (by decide +kernel), by decide +kernel⟩
theorem z1380 : ¬ (128 : Int32) ≤ 105 := by decide +kernel
theorem z1381 : ixp 105 105 128 := ⟨vin _ _ (by decide +kernel), by decide +kernel⟩
theorem z1382 : ¬ (128 : Int32) ≤ 106 := by decide +kernel
theorem z1383 : ixp 106 106 128 := ⟨vin _ _ (by decide +kernel), by decide +kernel⟩
theorem z1384 : ¬ (128 : Int32) ≤ 107 := by decide +kernel
theorem z1385 : ixp 107 107 128 := ⟨vin _ _ (by decide +kernel), by decide +kernel⟩
theorem z1386 : ¬ (128 : Int32) ≤ 108 := by decide +kernel
theorem z1387 : ixp 108 108 128 := ⟨vin _ _ (by decide +kernel), by decide +kernel⟩
theorem z1388 : ¬ (128 : Int32) ≤ 109 := by decide +kernel
theorem z1389 : ixp 109 109 128 := ⟨vin _ _ (by decide +kernel), by decide +kernel⟩
theorem z1390 : ¬ (128 : Int32) ≤ 110 := by decide +kernel
theorem z1391 : ixp 110 110 128 := ⟨vin _ _ (by decide +kernel), by decide +kernel⟩
theorem z1392 : ¬ (128 : Int32) ≤ 111 := by decide +kernel
theorem z1393 : ixp 111 111 128 := ⟨vin _ _ (by decide +kernel), by decide +kernel⟩
theorem z1394 : ¬ (128 : Int32) ≤ 112 := by decide +kernel
theorem z1395 : ixp 112 112 128 := ⟨vin _ _ (by decide +kernel), by decide +kernel⟩
theorem z1396 : ¬ (128 : Int32) ≤ 113 := by decide +kernel
theorem z1397 : ixp 113 113 128 := ⟨vin _ _ (by decide +kernel), by decide +kernel⟩
theorem z1398 : ¬ (128 : Int32) ≤ 114 := by decide +kernel
theorem z1399 : ixp 114 114 128 := ⟨vin _ _ (by decide +kernel), by decide +kernel⟩
theorem z1400 : ¬ (128 : Int32) ≤ 115 := by decide +kernel
theorem z1401 : ixp 115 115 128 := ⟨vin _ _ (by decide +kernel), by decide +kernel⟩
theorem z1402 : ¬ (128 : Int32) ≤ 116 := by decide +kernel
theorem z1403 : ixp 116 116 128 := ⟨vin _ _ (by decide +kernel), by decide +kernel⟩
theorem z1404 : ¬ (128 : Int32) ≤ 117 := by decide +kernel
theorem z1405 : ixp 117 117 128 := ⟨vin _ _ (by decide +kernel), by decide +kernel⟩
theorem z1406 : ¬ (128 : Int32) ≤ 118 := by decide +kernel
theorem z1407 : ixp 118 118 128 := ⟨vin _ _ (by decide +kernel), by decide +kernel⟩
theorem z1408 : ¬ (128 : Int32) ≤ 119 := by decide +kernel
theorem z1409 : ixp 119 119 128 := ⟨vin _ _ (by decide +kernel), by decide +kernel⟩
theorem z1410 : ¬ (128 : Int32) ≤ 120 := by decide +kernel
theorem z1411 : ixp 120 120 128 := ⟨vin _ _ (by decide +kernel), by decide +kernel⟩
theorem z1412 : ¬ (128 : Int32) ≤ 121 := by decide +kernel
theorem z1413 : ixp 121 121 128 := ⟨vin _ _ (by decide +kernel), by decide +kernel⟩
theorem z1414 : ¬ (128 : Int32) ≤ 122 := by decide +kernel
theorem z1415 : ixp 122 122 128 := ⟨vin _ _ (by decide +kernel), by decide +kernel⟩
theorem z1416 : ¬ (128 : Int32) ≤ 123 := by decide +kernel
theorem z1417 : ixp 123 123 128 := ⟨vin _ _ (by decide +kernel), by decide +kernel⟩
theorem z1418 : ¬ (128 : Int32) ≤ 124 := by decide +kernel
theorem z1419 : ixp 124 124 128 := ⟨vin _ _ (by decide +kernel), by decide +kernel⟩
theorem z1420 : ¬ (128 : Int32) ≤ 125 := by decide +kernel
theorem z1421 : ixp 125 125 128 := ⟨vin _ _ (by decide +kernel), by decide +kernel⟩
theorem z1422 : ¬ (128 : Int32) ≤ 126 := by decide +kernel
theorem z1423 : ixp 126 126 128 := ⟨vin _ _ (by decide +kernel), by decide +kernel⟩
theorem z1424 : ¬ (128 : Int32) ≤ 127 := by decide +kernel
theorem z1425 : ixp 127 127 128 := ⟨vin _ _ (by decide +kernel), by decide +kernel⟩
theorem z1426 : (128 : Int32) ≤ 128 := by decide +kernel
theorem z1427 : ((16 : Nat) : Int) + 42 = ((58 : Nat) : Int) := by decide +kernel
theorem z1428 : ((5 : Nat) : Int) + 16 = ((21 : Nat) : Int) := by decide +kernel
theorem z1429 : ((85 : Nat) : Int) + 27 = ((112 : Nat) : Int) := by decide +kernel
theorem z1430 : ((109 : Nat) : Int) + 273 = ((382 : Nat) : Int) := by decide +kernel
theorem z1431 : yX11_sign.cls ≠ "java/lang/invoke/MethodHandle" ∧ yX11_sign.cls ≠ "java/lang/invoke/VarHandle" ∧ (parseMethodDescriptor yX11_sign.desc).map (fun d => d.parameters.length) = some 1 := by decide +kernel
theorem z1432 : ((4 : Nat) : Int) + 7 = ((11 : Nat) : Int) := by decide +kernel
theorem z1433 : ((8 : Nat) : Int) + 4 = ((12 : Nat) : Int) := by decide +kernel
theorem z1434 : ((78 : Nat) : Int) + 17 = ((95 : Nat) : Int) := by decide +kernel
theorem z1435 : ((85 : Nat) : Int) + 10 = ((95 : Nat) : Int) := by decide +kernel
theorem z1436 : ((99 : Nat) : Int) + 7 = ((106 : Nat) : Int) := by decide +kernel
theorem z1437 : (24 : Int32) * 1 = 24 := by decide +kernel
theorem z1438 : (24 : Int32) + 0 = 24 := by decide +kernel
theorem z1439 : (24 : Int32) ≤ 24 := by decide +kernel
theorem z1440 : ((26 : Nat) : Int) + 138 = ((164 : Nat) : Int) := by decide +kernel
theorem z1441 : ((110 : Nat) : Int) + 5 = ((115 : Nat) : Int) := by decide +kernel
theorem z1442 : ((137 : Nat) : Int) + 16 = ((153 : Nat) : Int) := by decide +kernel
theorem z1443 : ((150 : Nat) : Int) + (-16) = ((134 : Nat) : Int) := by decide +kernel
theorem z1444 : ((167 : Nat) : Int) + 16 = ((183 : Nat) : Int) := by decide +kernel
theorem z1445 : ((180 : Nat) : Int) + (-15) = ((165 : Nat) : Int) := by decide +kernel
theorem z1446 : yX11_clearBank.cls ≠ "java/lang/invoke/MethodHandle" ∧ yX11_clearBank.cls ≠ "java/lang/invoke/VarHandle" ∧ (parseMethodDescriptor yX11_clearBank.desc).map (fun d => d.parameters.length) = some 0 := by decide +kernel
theorem z1447 : yX11_goOn.cls ≠ "java/lang/invoke/MethodHandle" ∧ yX11_goOn.cls ≠ "java/lang/invoke/VarHandle" ∧ (parseMethodDescriptor yX11_goOn.desc).map (fun d => d.parameters.length) = some 0 := by decide +kernel
theorem z1448 : yX11_isGood.cls ≠ "java/lang/invoke/MethodHandle" ∧ yX11_isGood.cls ≠ "java/lang/invoke/VarHandle" ∧ (parseMethodDescriptor yX11_isGood.desc).map (fun d => d.parameters.length) = some 0 := by decide +kernel
theorem z1449 : yX11_settle.cls ≠ "java/lang/invoke/MethodHandle" ∧ yX11_settle.cls ≠ "java/lang/invoke/VarHandle" ∧ (parseMethodDescriptor yX11_settle.desc).map (fun d => d.parameters.length) = some 0 := by decide +kernel
theorem z1450 : yX11_begin.cls ≠ "java/lang/invoke/MethodHandle" ∧ yX11_begin.cls ≠ "java/lang/invoke/VarHandle" ∧ (parseMethodDescriptor yX11_begin.desc).map (fun d => d.parameters.length) = some 0 := by decide +kernel
theorem z1451 : ((1 : Nat) : Int) + 14 = ((15 : Nat) : Int) := by decide +kernel
theorem z1452 : ((1 : Nat) : Int) + 10 = ((11 : Nat) : Int) := by decide +kernel
theorem z1453 : ((8 : Nat) : Int) + 16 = ((24 : Nat) : Int) := by decide +kernel
theorem z1454 : ((17 : Nat) : Int) + 16 = ((33 : Nat) : Int) := by decide +kernel
theorem z1455 : ((30 : Nat) : Int) + 4 = ((34 : Nat) : Int) := by decide +kernel
theorem z1456 : ((13 : Nat) : Int) + 10 = ((23 : Nat) : Int) := by decide +kernel
theorem z1457 : ((20 : Nat) : Int) + 4 = ((24 : Nat) : Int) := by decide +kernel
theorem z1458 : ((1 : Nat) : Int) + 15 = ((16 : Nat) : Int) := by decide +kernel
theorem z1459 : ((8 : Nat) : Int) + 26 = ((34 : Nat) : Int) := by decide +kernel
theorem z1460 : yX4_hasWord.cls ≠ "java/lang/invoke/MethodHandle" ∧ yX4_hasWord.cls ≠ "java/lang/invoke/VarHandle" ∧ (parseMethodDescriptor yX4_hasWord.desc).map (fun d => d.parameters.length) = some 1 := by decide +kernel
theorem z1461 : (0 : Int32) - 1 = (-1) := by decide +kernel
theorem z1462 : ((2 : Nat) : Int) + 12 = ((14 : Nat) : Int) := by decide +kernel
theorem z1463 : yX11_isIn.cls ≠ "java/lang/invoke/MethodHandle" ∧ yX11_isIn.cls ≠ "java/lang/invoke/VarHandle" ∧ (parseMethodDescriptor yX11_isIn.desc).map (fun d => d.parameters.length) = some 3 := by decide +kernel
theorem z1464 : ((5 : Nat) : Int) + 31 = ((36 : Nat) : Int) := by decide +kernel
theorem z1465 : yX11_isWordOf.cls ≠ "java/lang/invoke/MethodHandle" ∧ yX11_isWordOf.cls ≠ "java/lang/invoke/VarHandle" ∧ (parseMethodDescriptor yX11_isWordOf.desc).map (fun d => d.parameters.length) = some 1 := by decide +kernel
theorem z1466 : ((9 : Nat) : Int) + 7 = ((16 : Nat) : Int) := by decide +kernel
theorem z1467 : ((7 : Nat) : Int) + 7 = ((14 : Nat) : Int) := by decide +kernel
theorem z1468 : ((8 : Nat) : Int) + 21 = ((29 : Nat) : Int) := by decide +kernel
theorem z1469 : ((5 : Nat) : Int) + 28 = ((33 : Nat) : Int) := by decide +kernel
theorem z1470 : ((8 : Nat) : Int) + 11 = ((19 : Nat) : Int) := by decide +kernel
theorem z1471 : yX4_hasPlace.cls ≠ "java/lang/invoke/MethodHandle" ∧ yX4_hasPlace.cls ≠ "java/lang/invoke/VarHandle" ∧ (parseMethodDescriptor yX4_hasPlace.desc).map (fun d => d.parameters.length) = some 1 := by decide +kernel
theorem z1472 : (3 : Int32) - 1 = 2 := by decide +kernel
theorem z1473 : yX11_longOf.cls ≠ "java/lang/invoke/MethodHandle" ∧ yX11_longOf.cls ≠ "java/lang/invoke/VarHandle" ∧ (parseMethodDescriptor yX11_longOf.desc).map (fun d => d.parameters.length) = some 0 := by decide +kernel
theorem z1474 : ((5 : Nat) : Int) + 12 = ((17 : Nat) : Int) := by decide +kernel
theorem z1475 : yX11_isPlace.cls ≠ "java/lang/invoke/MethodHandle" ∧ yX11_isPlace.cls ≠ "java/lang/invoke/VarHandle" ∧ (parseMethodDescriptor yX11_isPlace.desc).map (fun d => d.parameters.length) = some 1 := by decide +kernel
theorem z1476 : ((13 : Nat) : Int) + 4 = ((17 : Nat) : Int) := by decide +kernel
theorem z1477 : ((10 : Nat) : Int) + 15 = ((25 : Nat) : Int) := by decide +kernel
theorem z1478 : ((4 : Nat) : Int) + 17 = ((21 : Nat) : Int) := by decide +kernel
theorem z1479 : yX4_turnAt.cls ≠ "java/lang/invoke/MethodHandle" ∧ yX4_turnAt.cls ≠ "java/lang/invoke/VarHandle" ∧ (parseMethodDescriptor yX4_turnAt.desc).map (fun d => d.parameters.length) = some 1 := by decide +kernel
theorem z1480 : ((16 : Nat) : Int) + 4 = ((20 : Nat) : Int) := by decide +kernel
theorem z1481 : yX10_ownerInEarnest.cls ≠ "java/lang/invoke/MethodHandle" ∧ yX10_ownerInEarnest.cls ≠ "java/lang/invoke/VarHandle" ∧ (parseMethodDescriptor yX10_ownerInEarnest.desc).map (fun d => d.parameters.length) = some 1 := by decide +kernel
theorem z1482 : ((11 : Nat) : Int) + 4 = ((15 : Nat) : Int) := by decide +kernel
theorem z1483 : ((14 : Nat) : Int) + 4 = ((18 : Nat) : Int) := by decide +kernel
theorem z1484 : ¬ (1 : Int32) < 0 := by decide +kernel
theorem z1485 : ¬ (2 : Int32) < 1 := by decide +kernel
theorem z1486 : ¬ (2 : Int32) < 2 := by decide +kernel
theorem z1487 : ((8 : Nat) : Int) + 14 = ((22 : Nat) : Int) := by decide +kernel
theorem z1488 : ((5 : Nat) : Int) + 11 = ((16 : Nat) : Int) := by decide +kernel
theorem z1489 : ((8 : Nat) : Int) + 18 = ((26 : Nat) : Int) := by decide +kernel
theorem z1490 : ((5 : Nat) : Int) + 10 = ((15 : Nat) : Int) := by decide +kernel
theorem z1491 : yX10_isUnwritten.cls ≠ "java/lang/invoke/MethodHandle" ∧ yX10_isUnwritten.cls ≠ "java/lang/invoke/VarHandle" ∧ (parseMethodDescriptor yX10_isUnwritten.desc).map (fun d => d.parameters.length) = some 1 := by decide +kernel
theorem z1492 : ((14 : Nat) : Int) + 10 = ((24 : Nat) : Int) := by decide +kernel
theorem z1493 : ((19 : Nat) : Int) + 7 = ((26 : Nat) : Int) := by decide +kernel
theorem z1494 : ((23 : Nat) : Int) + 4 = ((27 : Nat) : Int) := by decide +kernel
theorem z1495 : ((1 : Nat) : Int) + 12 = ((13 : Nat) : Int) := by decide +kernel
theorem z1496 : ((12 : Nat) : Int) + 5 = ((17 : Nat) : Int) := by decide +kernel
theorem z1497 : yX10_isGuild.cls ≠ "java/lang/invoke/MethodHandle" ∧ yX10_isGuild.cls ≠ "java/lang/invoke/VarHandle" ∧ (parseMethodDescriptor yX10_isGuild.desc).map (fun d => d.parameters.length) = some 1 := by decide +kernel
theorem z1498 : ((21 : Nat) : Int) + 5 = ((26 : Nat) : Int) := by decide +kernel
theorem z1499 : yX11_isGuild.cls ≠ "java/lang/invoke/MethodHandle" ∧ yX11_isGuild.cls ≠ "java/lang/invoke/VarHandle" ∧ (parseMethodDescriptor yX11_isGuild.desc).map (fun d => d.parameters.length) = some 1 := by decide +kernel
theorem z1500 : ((6 : Nat) : Int) + 7 = ((13 : Nat) : Int) := by decide +kernel
theorem z1501 : ((10 : Nat) : Int) + 4 = ((14 : Nat) : Int) := by decide +kernel
theorem z1502 : (0 : Int32) < 40 := by decide +kernel
theorem z1503 : ixp 0 0 40 := ⟨vin _ _ (by decide +kernel), by decide +kernel⟩
theorem z1504 : vp_nar .boolean 1 = 1 := by decide +kernel
theorem z1505 : (0 : Int32) < 1 := by decide +kernel
theorem z1506 : ((8 : Nat) : Int) + 5 = ((13 : Nat) : Int) := by decide +kernel
theorem z1507 : ((32 : Nat) : Int) + 21 = ((53 : Nat) : Int) := by decide +kernel
theorem z1508 : ((50 : Nat) : Int) + 25 = ((75 : Nat) : Int) := by decide +kernel
theorem z1509 : yX0_note.cls ≠ "java/lang/invoke/MethodHandle" ∧ yX0_note.cls ≠ "java/lang/invoke/VarHandle" ∧ (parseMethodDescriptor yX0_note.desc).map (fun d => d.parameters.length) = some 4 := by decide +kernel
theorem z1510 : yX0_doAgain.cls ≠ "java/lang/invoke/MethodHandle" ∧ yX0_doAgain.cls ≠ "java/lang/invoke/VarHandle" ∧ (parseMethodDescriptor yX0_doAgain.desc).map (fun d => d.parameters.length) = some 0 := by decide +kernel
theorem z1511 : yX0_putSale.cls ≠ "java/lang/invoke/MethodHandle" ∧ yX0_putSale.cls ≠ "java/lang/invoke/VarHandle" ∧ (parseMethodDescriptor yX0_putSale.desc).map (fun d => d.parameters.length) = some 2 := by decide +kernel
theorem z1512 : ¬ (0 : Int32) = 40 := by decide +kernel
theorem z1513 : ((6 : Nat) : Int) + 55 = ((61 : Nat) : Int) := by decide +kernel
theorem z1514 : yX11_keepAct.cls ≠ "java/lang/invoke/MethodHandle" ∧ yX11_keepAct.cls ≠ "java/lang/invoke/VarHandle" ∧ (parseMethodDescriptor yX11_keepAct.desc).map (fun d => d.parameters.length) = some 2 := by decide +kernel
theorem z1515 : ((4 : Nat) : Int) + 5 = ((9 : Nat) : Int) := by decide +kernel
theorem z1516 : yX0_takeBack.cls ≠ "java/lang/invoke/MethodHandle" ∧ yX0_takeBack.cls ≠ "java/lang/invoke/VarHandle" ∧ (parseMethodDescriptor yX0_takeBack.desc).map (fun d => d.parameters.length) = some 0 := by decide +kernel
theorem z1517 : ((1 : Nat) : Int) + 26 = ((27 : Nat) : Int) := by decide +kernel
theorem z1518 : ((11 : Nat) : Int) + 12 = ((23 : Nat) : Int) := by decide +kernel
theorem z1519 : ((12 : Nat) : Int) + 15 = ((27 : Nat) : Int) := by decide +kernel
theorem z1520 : ((6 : Nat) : Int) + 25 = ((31 : Nat) : Int) := by decide +kernel
theorem z1521 : yX5_readBeginning.cls ≠ "java/lang/invoke/MethodHandle" ∧ yX5_readBeginning.cls ≠ "java/lang/invoke/VarHandle" ∧ (parseMethodDescriptor yX5_readBeginning.desc).map (fun d => d.parameters.length) = some 3 := by decide +kernel
theorem z1522 : yX5_nextWords.cls ≠ "java/lang/invoke/MethodHandle" ∧ yX5_nextWords.cls ≠ "java/lang/invoke/VarHandle" ∧ (parseMethodDescriptor yX5_nextWords.desc).map (fun d => d.parameters.length) = some 2 := by decide +kernel
theorem z1523 : yX10_nextInEarnest.cls ≠ "java/lang/invoke/MethodHandle" ∧ yX10_nextInEarnest.cls ≠ "java/lang/invoke/VarHandle" ∧ (parseMethodDescriptor yX10_nextInEarnest.desc).map (fun d => d.parameters.length) = some 0 := by decide +kernel
theorem z1524 : ((14 : Nat) : Int) + 27 = ((41 : Nat) : Int) := by decide +kernel
theorem z1525 : ((9 : Nat) : Int) + 29 = ((38 : Nat) : Int) := by decide +kernel
theorem z1526 : ((45 : Nat) : Int) + 29 = ((74 : Nat) : Int) := by decide +kernel
theorem z1527 : ((80 : Nat) : Int) + 25 = ((105 : Nat) : Int) := by decide +kernel
theorem z1528 : yX7_countOf.cls ≠ "java/lang/invoke/MethodHandle" ∧ yX7_countOf.cls ≠ "java/lang/invoke/VarHandle" ∧ (parseMethodDescriptor yX7_countOf.desc).map (fun d => d.parameters.length) = some 3 := by decide +kernel
theorem z1529 : ((7 : Nat) : Int) + 21 = ((28 : Nat) : Int) := by decide +kernel
theorem z1530 : (0 : Int64).toInt32 = 0 := by decide +kernel
theorem z1531 : yX11_tryRow.cls ≠ "java/lang/invoke/MethodHandle" ∧ yX11_tryRow.cls ≠ "java/lang/invoke/VarHandle" ∧ (parseMethodDescriptor yX11_tryRow.desc).map (fun d => d.parameters.length) = some 0 := by decide +kernel
theorem z1532 : yX11_readingsOf.cls ≠ "java/lang/invoke/MethodHandle" ∧ yX11_readingsOf.cls ≠ "java/lang/invoke/VarHandle" ∧ (parseMethodDescriptor yX11_readingsOf.desc).map (fun d => d.parameters.length) = some 1 := by decide +kernel
theorem z1533 : ((4 : Nat) : Int) + 28 = ((32 : Nat) : Int) := by decide +kernel
theorem z1534 : ((9 : Nat) : Int) + 38 = ((47 : Nat) : Int) := by decide +kernel
theorem z1535 : ((29 : Nat) : Int) + 5 = ((34 : Nat) : Int) := by decide +kernel
theorem z1536 : yX4_meaningOf.cls ≠ "java/lang/invoke/MethodHandle" ∧ yX4_meaningOf.cls ≠ "java/lang/invoke/VarHandle" ∧ (parseMethodDescriptor yX4_meaningOf.desc).map (fun d => d.parameters.length) = some 3 := by decide +kernel
theorem z1537 : ((8 : Nat) : Int) + 67 = ((75 : Nat) : Int) := by decide +kernel
theorem z1538 : yX11_meansOf.cls ≠ "java/lang/invoke/MethodHandle" ∧ yX11_meansOf.cls ≠ "java/lang/invoke/VarHandle" ∧ (parseMethodDescriptor yX11_meansOf.desc).map (fun d => d.parameters.length) = some 2 := by decide +kernel
theorem z1539 : ((7 : Nat) : Int) + 10 = ((17 : Nat) : Int) := by decide +kernel
theorem z1540 : ((14 : Nat) : Int) + 7 = ((21 : Nat) : Int) := by decide +kernel
theorem z1541 : ((10 : Nat) : Int) + 20 = ((30 : Nat) : Int) := by decide +kernel
theorem z1542 : ((34 : Nat) : Int) + 31 = ((65 : Nat) : Int) := by decide +kernel
theorem z1543 : ixp 0 0 3000 := ⟨vin _ _ (by decide +kernel), by decide +kernel⟩
theorem z1544 : ((36 : Nat) : Int) + 25 = ((61 : Nat) : Int) := by decide +kernel
theorem z1545 : ixp 0 0 9000 := ⟨vin _ _ (by decide +kernel), by decide +kernel⟩
theorem z1546 : ((58 : Nat) : Int) + (-24) = ((34 : Nat) : Int) := by decide +kernel
theorem z1547 : ixp 1 1 9000 := ⟨vin _ _ (by decide +kernel), by decide +kernel⟩
theorem z1548 : ixp 2 2 9000 := ⟨vin _ _ (by decide +kernel), by decide +kernel⟩
theorem z1549 : (0 : Int32) * 4 = 0 := by decide +kernel
theorem z1550 : (0 : Int32) >>> ((0 : Int32) &&& 31) = 0 := by decide +kernel
theorem z1551 : (Int8.ofInt 15).toInt32 = 15 := by decide +kernel
theorem z1552 : (0 : Int32) &&& 15 = 0 := by decide +kernel
theorem z1553 : ((42 : Nat) : Int) + 75 = ((117 : Nat) : Int) := by decide +kernel
theorem z1554 : ((127 : Nat) : Int) + 17 = ((144 : Nat) : Int) := by decide +kernel
theorem z1555 : ((136 : Nat) : Int) + 8 = ((144 : Nat) : Int) := by decide +kernel
theorem z1556 : yX9_addRoot.cls ≠ "java/lang/invoke/MethodHandle" ∧ yX9_addRoot.cls ≠ "java/lang/invoke/VarHandle" ∧ (parseMethodDescriptor yX9_addRoot.desc).map (fun d => d.parameters.length) = some 2 := by decide +kernel
theorem z1557 : yX9_grow.cls ≠ "java/lang/invoke/MethodHandle" ∧ yX9_grow.cls ≠ "java/lang/invoke/VarHandle" ∧ (parseMethodDescriptor yX9_grow.desc).map (fun d => d.parameters.length) = some 3 := by decide +kernel
theorem z1558 : yX9_growFrom.cls ≠ "java/lang/invoke/MethodHandle" ∧ yX9_growFrom.cls ≠ "java/lang/invoke/VarHandle" ∧ (parseMethodDescriptor yX9_growFrom.desc).map (fun d => d.parameters.length) = some 5 := by decide +kernel
theorem z1559 : yX10_growEarnest.cls ≠ "java/lang/invoke/MethodHandle" ∧ yX10_growEarnest.cls ≠ "java/lang/invoke/VarHandle" ∧ (parseMethodDescriptor yX10_growEarnest.desc).map (fun d => d.parameters.length) = some 0 := by decide +kernel
theorem z1560 : ((9 : Nat) : Int) + 10 = ((19 : Nat) : Int) := by decide +kernel
theorem z1561 : ((4 : Nat) : Int) + 14 = ((18 : Nat) : Int) := by decide +kernel
theorem z1562 : ((11 : Nat) : Int) + 7 = ((18 : Nat) : Int) := by decide +kernel
theorem z1563 : ((21 : Nat) : Int) + 6 = ((27 : Nat) : Int) := by decide +kernel
theorem z1564 : yX9_hasCharters.cls ≠ "java/lang/invoke/MethodHandle" ∧ yX9_hasCharters.cls ≠ "java/lang/invoke/VarHandle" ∧ (parseMethodDescriptor yX9_hasCharters.desc).map (fun d => d.parameters.length) = some 0 := by decide +kernel
theorem z1565 : ((1 : Nat) : Int) + 9 = ((10 : Nat) : Int) := by decide +kernel
theorem z1566 : (0 : Int32).toInt64 = 0 := by decide +kernel
theorem z1567 : (1 : Int64) + 0 = 1 := by decide +kernel
theorem z1568 : ((22 : Nat) : Int) + 52 = ((74 : Nat) : Int) := by decide +kernel
theorem z1569 : (1 : Int64) * 10 = 10 := by decide +kernel
theorem z1570 : ((31 : Nat) : Int) + 15 = ((46 : Nat) : Int) := by decide +kernel
theorem z1571 : ((49 : Nat) : Int) + 15 = ((64 : Nat) : Int) := by decide +kernel
theorem z1572 : (10 : Int64) + 0 = 10 := by decide +kernel
theorem z1573 : ((71 : Nat) : Int) + (-53) = ((18 : Nat) : Int) := by decide +kernel
theorem z1574 : (10 : Int64) * 10 = 100 := by decide +kernel
theorem z1575 : (0 : Int32) ≤ 1 := by decide +kernel
theorem z1576 : (100 : Int64) + 0 = 100 := by decide +kernel
theorem z1577 : (100 : Int64) * 10 = 1000 := by decide +kernel
theorem z1578 : (0 : Int32) ≤ 2 := by decide +kernel
theorem z1579 : (1000 : Int64) + 0 = 1000 := by decide +kernel
theorem z1580 : (1000 : Int64) * 10 = 10000 := by decide +kernel
theorem z1581 : (0 : Int32) ≤ 3 := by decide +kernel
theorem z1582 : (10000 : Int64) + 0 = 10000 := by decide +kernel
theorem z1583 : (10000 : Int64) * 10 = 100000 := by decide +kernel
theorem z1584 : (0 : Int32) ≤ 4 := by decide +kernel
theorem z1585 : (100000 : Int64) + 0 = 100000 := by decide +kernel
theorem z1586 : (100000 : Int64) * 10 = 1000000 := by decide +kernel
theorem z1587 : (0 : Int32) ≤ 5 := by decide +kernel
theorem z1588 : (1000000 : Int64) + 0 = 1000000 := by decide +kernel
theorem z1589 : ((13 : Nat) : Int) + 19 = ((32 : Nat) : Int) := by decide +kernel
theorem z1590 : ((4 : Nat) : Int) + 21 = ((25 : Nat) : Int) := by decide +kernel
theorem z1591 : ((7 : Nat) : Int) + 16 = ((23 : Nat) : Int) := by decide +kernel
theorem z1592 : ((20 : Nat) : Int) + (-18) = ((2 : Nat) : Int) := by decide +kernel
theorem z1593 : ((28 : Nat) : Int) + 18 = ((46 : Nat) : Int) := by decide +kernel
theorem z1594 : yX11_isRead.cls ≠ "java/lang/invoke/MethodHandle" ∧ yX11_isRead.cls ≠ "java/lang/invoke/VarHandle" ∧ (parseMethodDescriptor yX11_isRead.desc).map (fun d => d.parameters.length) = some 1 := by decide +kernel
theorem z1595 : yX11_canGoOn.cls ≠ "java/lang/invoke/MethodHandle" ∧ yX11_canGoOn.cls ≠ "java/lang/invoke/VarHandle" ∧ (parseMethodDescriptor yX11_canGoOn.desc).map (fun d => d.parameters.length) = some 1 := by decide +kernel
theorem z1596 : ((57 : Nat) : Int) + 5 = ((62 : Nat) : Int) := by decide +kernel
theorem z1597 : yX11_keyOf.cls ≠ "java/lang/invoke/MethodHandle" ∧ yX11_keyOf.cls ≠ "java/lang/invoke/VarHandle" ∧ (parseMethodDescriptor yX11_keyOf.desc).map (fun d => d.parameters.length) = some 2 := by decide +kernel
theorem z1598 : yX11_isOnPath.cls ≠ "java/lang/invoke/MethodHandle" ∧ yX11_isOnPath.cls ≠ "java/lang/invoke/VarHandle" ∧ (parseMethodDescriptor yX11_isOnPath.desc).map (fun d => d.parameters.length) = some 1 := by decide +kernel
theorem z1599 : yX11_layList.cls ≠ "java/lang/invoke/MethodHandle" ∧ yX11_layList.cls ≠ "java/lang/invoke/VarHandle" ∧ (parseMethodDescriptor yX11_layList.desc).map (fun d => d.parameters.length) = some 2 := by decide +kernel
theorem z1600 : ((16 : Nat) : Int) + 7 = ((23 : Nat) : Int) := by decide +kernel
theorem z1601 : ((5 : Nat) : Int) + 21 = ((26 : Nat) : Int) := by decide +kernel
theorem z1602 : ((23 : Nat) : Int) + (-21) = ((2 : Nat) : Int) := by decide +kernel
theorem z1603 : ((9 : Nat) : Int) + 16 = ((25 : Nat) : Int) := by decide +kernel
theorem z1604 : ((37 : Nat) : Int) + 149 = ((186 : Nat) : Int) := by decide +kernel
theorem z1605 : ((49 : Nat) : Int) + 99 = ((148 : Nat) : Int) := by decide +kernel
theorem z1606 : ((157 : Nat) : Int) + 23 = ((180 : Nat) : Int) := by decide +kernel
theorem z1607 : (2 : Int32) + Int32.ofInt (-1) = 1 := by decide +kernel
theorem z1608 : ((183 : Nat) : Int) + (-151) = ((32 : Nat) : Int) := by decide +kernel
theorem z1609 : (1 : Int32) + Int32.ofInt (-1) = 0 := by decide +kernel
theorem z1610 : (0 : Int32) + Int32.ofInt (-1) = (-1) := by decide +kernel
theorem z1611 : ((-1) : Int32) < 0 := by decide +kernel
theorem z1612 : ((187 : Nat) : Int) + 7 = ((194 : Nat) : Int) := by decide +kernel
theorem z1613 : ((191 : Nat) : Int) + 9 = ((200 : Nat) : Int) := by decide +kernel
theorem z1614 : ¬ (0 : Int32) ≤ (-1) := by decide +kernel
theorem z1615 : ((34 : Nat) : Int) + 7 = ((41 : Nat) : Int) := by decide +kernel
theorem z1616 : yX11_layFromRow.cls ≠ "java/lang/invoke/MethodHandle" ∧ yX11_layFromRow.cls ≠ "java/lang/invoke/VarHandle" ∧ (parseMethodDescriptor yX11_layFromRow.desc).map (fun d => d.parameters.length) = some 0 := by decide +kernel
theorem z1617 : yX11_turnsNow.cls ≠ "java/lang/invoke/MethodHandle" ∧ yX11_turnsNow.cls ≠ "java/lang/invoke/VarHandle" ∧ (parseMethodDescriptor yX11_turnsNow.desc).map (fun d => d.parameters.length) = some 0 := by decide +kernel
theorem z1618 : yX11_plays.cls ≠ "java/lang/invoke/MethodHandle" ∧ yX11_plays.cls ≠ "java/lang/invoke/VarHandle" ∧ (parseMethodDescriptor yX11_plays.desc).map (fun d => d.parameters.length) = some 1 := by decide +kernel
theorem z1619 : ((7 : Nat) : Int) + 17 = ((24 : Nat) : Int) := by decide +kernel
theorem z1620 : ((20 : Nat) : Int) + 6 = ((26 : Nat) : Int) := by decide +kernel
theorem z1621 : ((21 : Nat) : Int) + 7 = ((28 : Nat) : Int) := by decide +kernel
theorem z1622 : ((9 : Nat) : Int) + 19 = ((28 : Nat) : Int) := by decide +kernel
theorem z1623 : ((4 : Nat) : Int) + 26 = ((30 : Nat) : Int) := by decide +kernel
theorem z1624 : ((13 : Nat) : Int) + 15 = ((28 : Nat) : Int) := by decide +kernel
theorem z1625 : ((13 : Nat) : Int) + 17 = ((30 : Nat) : Int) := by decide +kernel
theorem z1626 : ((18 : Nat) : Int) + 10 = ((28 : Nat) : Int) := by decide +kernel
theorem z1627 : ((25 : Nat) : Int) + 6 = ((31 : Nat) : Int) := by decide +kernel
theorem z1628 : ((20 : Nat) : Int) + 10 = ((30 : Nat) : Int) := by decide +kernel
theorem z1629 : ((27 : Nat) : Int) + 7 = ((34 : Nat) : Int) := by decide +kernel
theorem z1630 : ((4 : Nat) : Int) + 10 = ((14 : Nat) : Int) := by decide +kernel
theorem z1631 : ((11 : Nat) : Int) + 5 = ((16 : Nat) : Int) := by decide +kernel
theorem z1632 : ((5 : Nat) : Int) + 14 = ((19 : Nat) : Int) := by decide +kernel
theorem z1633 : (Int8.ofInt (-2)).toInt32 = (-2) := by decide +kernel
theorem z1634 : ((14 : Nat) : Int) + 11 = ((25 : Nat) : Int) := by decide +kernel
theorem z1635 : ((16 : Nat) : Int) + 6 = ((22 : Nat) : Int) := by decide +kernel
theorem z1636 : ((22 : Nat) : Int) + 6 = ((28 : Nat) : Int) := by decide +kernel
theorem z1637 : ¬ (16 : Int32) ≤ 0 := by decide +kernel
theorem z1638 : ((5 : Nat) : Int) + 25 = ((30 : Nat) : Int) := by decide +kernel
theorem z1639 : ((15 : Nat) : Int) + 7 = ((22 : Nat) : Int) := by decide +kernel
theorem z1640 : ixp 0 0 16 := ⟨vin _ _ (by decide +kernel), by decide +kernel⟩
theorem z1641 : ((27 : Nat) : Int) + (-25) = ((2 : Nat) : Int) := by decide +kernel
theorem z1642 : ¬ (16 : Int32) ≤ 1 := by decide +kernel
theorem z1643 : ixp 1 1 16 := ⟨vin _ _ (by decide +kernel), by decide +kernel⟩
theorem z1644 : ¬ (16 : Int32) ≤ 2 := by decide +kernel
theorem z1645 : ixp 2 2 16 := ⟨vin _ _ (by decide +kernel), by decide +kernel⟩
theorem z1646 : ¬ (16 : Int32) ≤ 3 := by decide +kernel
theorem z1647 : ixp 3 3 16 := ⟨vin _ _ (by decide +kernel), by decide +kernel⟩
theorem z1648 : ¬ (16 : Int32) ≤ 4 := by decide +kernel
theorem z1649 : ixp 4 4 16 := ⟨vin _ _ (by decide +kernel), by decide +kernel⟩
theorem z1650 : ¬ (16 : Int32) ≤ 5 := by decide +kernel
theorem z1651 : ixp 5 5 16 := ⟨vin _ _ (by decide +kernel), by decide +kernel⟩
theorem z1652 : ¬ (16 : Int32) ≤ 6 := by decide +kernel
theorem z1653 : (0 : Int32) ≤ 6 := by decide +kernel
theorem z1654 : ixp 6 6 16 := ⟨vin _ _ (by decide +kernel), by decide +kernel⟩
theorem z1655 : ¬ (16 : Int32) ≤ 7 := by decide +kernel
theorem z1656 : (0 : Int32) ≤ 7 := by decide +kernel
theorem z1657 : ixp 7 7 16 := ⟨vin _ _ (by decide +kernel), by decide +kernel⟩
theorem z1658 : ¬ (16 : Int32) ≤ 8 := by decide +kernel
theorem z1659 : (0 : Int32) ≤ 8 := by decide +kernel
theorem z1660 : ixp 8 8 16 := ⟨vin _ _ (by decide +kernel), by decide +kernel⟩
theorem z1661 : ¬ (16 : Int32) ≤ 9 := by decide +kernel
theorem z1662 : (0 : Int32) ≤ 9 := by decide +kernel
theorem z1663 : ixp 9 9 16 := ⟨vin _ _ (by decide +kernel), by decide +kernel⟩
theorem z1664 : ¬ (16 : Int32) ≤ 10 := by decide +kernel
theorem z1665 : (0 : Int32) ≤ 10 := by decide +kernel
theorem z1666 : ixp 10 10 16 := ⟨vin _ _ (by decide +kernel), by decide +kernel⟩
theorem z1667 : ¬ (16 : Int32) ≤ 11 := by decide +kernel
theorem z1668 : (0 : Int32) ≤ 11 := by decide +kernel
theorem z1669 : ixp 11 11 16 := ⟨vin _ _ (by decide +kernel), by decide +kernel⟩
theorem z1670 : (0 : Int32) ≤ 12 := by decide +kernel
theorem z1671 : ixp 12 12 16 := ⟨vin _ _ (by decide +kernel), by decide +kernel⟩
theorem z1672 : (0 : Int32) ≤ 13 := by decide +kernel
theorem z1673 : ixp 13 13 16 := ⟨vin _ _ (by decide +kernel), by decide +kernel⟩
theorem z1674 : (0 : Int32) ≤ 14 := by decide +kernel
theorem z1675 : ixp 14 14 16 := ⟨vin _ _ (by decide +kernel), by decide +kernel⟩
theorem z1676 : (0 : Int32) ≤ 15 := by decide +kernel
theorem z1677 : ixp 15 15 16 := ⟨vin _ _ (by decide +kernel), by decide +kernel⟩
theorem z1678 : ((37 : Nat) : Int) + 94 = ((131 : Nat) : Int) := by decide +kernel
theorem z1679 : ((27 : Nat) : Int) + 46 = ((73 : Nat) : Int) := by decide +kernel
theorem z1680 : yX4_findShortest.cls ≠ "java/lang/invoke/MethodHandle" ∧ yX4_findShortest.cls ≠ "java/lang/invoke/VarHandle" ∧ (parseMethodDescriptor yX4_findShortest.desc).map (fun d => d.parameters.length) = some 1 := by decide +kernel
theorem z1681 : yX4_rulesOfUse.cls ≠ "java/lang/invoke/MethodHandle" ∧ yX4_rulesOfUse.cls ≠ "java/lang/invoke/VarHandle" ∧ (parseMethodDescriptor yX4_rulesOfUse.desc).map (fun d => d.parameters.length) = some 1 := by decide +kernel
theorem z1682 : ¬ (8 : Int32) ≤ 0 := by decide +kernel
theorem z1683 : ixp 0 0 8 := ⟨vin _ _ (by decide +kernel), by decide +kernel⟩
theorem z1684 : ((18 : Nat) : Int) + (-16) = ((2 : Nat) : Int) := by decide +kernel
theorem z1685 : ¬ (8 : Int32) ≤ 1 := by decide +kernel
theorem z1686 : ixp 1 1 8 := ⟨vin _ _ (by decide +kernel), by decide +kernel⟩
theorem z1687 : ¬ (8 : Int32) ≤ 2 := by decide +kernel
theorem z1688 : ixp 2 2 8 := ⟨vin _ _ (by decide +kernel), by decide +kernel⟩
theorem z1689 : ¬ (8 : Int32) ≤ 3 := by decide +kernel
theorem z1690 : ixp 3 3 8 := ⟨vin _ _ (by decide +kernel), by decide +kernel⟩
theorem z1691 : ixp 4 4 8 := ⟨vin _ _ (by decide +kernel), by decide +kernel⟩
theorem z1692 : ixp 5 5 8 := ⟨vin _ _ (by decide +kernel), by decide +kernel⟩
theorem z1693 : ixp 6 6 8 := ⟨vin _ _ (by decide +kernel), by decide +kernel⟩
theorem z1694 : ixp 7 7 8 := ⟨vin _ _ (by decide +kernel), by decide +kernel⟩
theorem z1695 : ((24 : Nat) : Int) + 95 = ((119 : Nat) : Int) := by decide +kernel
theorem z1696 : (24 : Int32) * 0 = 0 := by decide +kernel
theorem z1697 : ((55 : Nat) : Int) + 61 = ((116 : Nat) : Int) := by decide +kernel
theorem z1698 : ((116 : Nat) : Int) + (-93) = ((23 : Nat) : Int) := by decide +kernel
theorem z1699 : ((13 : Nat) : Int) + 12 = ((25 : Nat) : Int) := by decide +kernel
theorem z1700 : yX11_layShortest.cls ≠ "java/lang/invoke/MethodHandle" ∧ yX11_layShortest.cls ≠ "java/lang/invoke/VarHandle" ∧ (parseMethodDescriptor yX11_layShortest.desc).map (fun d => d.parameters.length) = some 0 := by decide +kernel
theorem z1701 : ((16 : Nat) : Int) + 5 = ((21 : Nat) : Int) := by decide +kernel
theorem z1702 : ((14 : Nat) : Int) + 6 = ((20 : Nat) : Int) := by decide +kernel
theorem z1703 : ((27 : Nat) : Int) + 62 = ((89 : Nat) : Int) := by decide +kernel
theorem z1704 : yX10_growWhole.cls ≠ "java/lang/invoke/MethodHandle" ∧ yX10_growWhole.cls ≠ "java/lang/invoke/VarHandle" ∧ (parseMethodDescriptor yX10_growWhole.desc).map (fun d => d.parameters.length) = some 0 := by decide +kernel
theorem z1705 : ((9 : Nat) : Int) + 6 = ((15 : Nat) : Int) := by decide +kernel
theorem z1706 : ((22 : Nat) : Int) + 47 = ((69 : Nat) : Int) := by decide +kernel
theorem z1707 : yX11_layFromNone.cls ≠ "java/lang/invoke/MethodHandle" ∧ yX11_layFromNone.cls ≠ "java/lang/invoke/VarHandle" ∧ (parseMethodDescriptor yX11_layFromNone.desc).map (fun d => d.parameters.length) = some 0 := by decide +kernel
theorem z1708 : ((11 : Nat) : Int) + 10 = ((21 : Nat) : Int) := by decide +kernel
theorem z1709 : ((18 : Nat) : Int) + 7 = ((25 : Nat) : Int) := by decide +kernel
theorem z1710 : ((8 : Nat) : Int) + 19 = ((27 : Nat) : Int) := by decide +kernel
theorem z1711 : ((13 : Nat) : Int) + 16 = ((29 : Nat) : Int) := by decide +kernel
theorem z1712 : ((24 : Nat) : Int) + 5 = ((29 : Nat) : Int) := by decide +kernel
theorem z1713 : ((10 : Nat) : Int) + 13 = ((23 : Nat) : Int) := by decide +kernel
theorem z1714 : ((18 : Nat) : Int) + 5 = ((23 : Nat) : Int) := by decide +kernel
theorem z1715 : (15 : Int32) <<< ((0 : Int32) &&& 31) = 15 := by decide +kernel
theorem z1716 : (15 : Int32) ^^^ (-1) = (-16) := by decide +kernel
theorem z1717 : (0 : Int32) &&& (-16) = 0 := by decide +kernel
theorem z1718 : ((-1) : Int32) + 1 = 0 := by decide +kernel
theorem z1719 : (0 : Int32) <<< ((0 : Int32) &&& 31) = 0 := by decide +kernel
theorem z1720 : (0 : Int32) ||| 0 = 0 := by decide +kernel
theorem z1721 : (1 : Int32) * 4 = 4 := by decide +kernel
theorem z1722 : (15 : Int32) <<< ((4 : Int32) &&& 31) = 240 := by decide +kernel
theorem z1723 : (240 : Int32) ^^^ (-1) = (-241) := by decide +kernel
theorem z1724 : (0 : Int32) &&& (-241) = 0 := by decide +kernel
theorem z1725 : (0 : Int32) <<< ((4 : Int32) &&& 31) = 0 := by decide +kernel
theorem z1726 : (2 : Int32) * 4 = 8 := by decide +kernel
theorem z1727 : (15 : Int32) <<< ((8 : Int32) &&& 31) = 3840 := by decide +kernel
theorem z1728 : (3840 : Int32) ^^^ (-1) = (-3841) := by decide +kernel
theorem z1729 : (0 : Int32) &&& (-3841) = 0 := by decide +kernel
theorem z1730 : (0 : Int32) <<< ((8 : Int32) &&& 31) = 0 := by decide +kernel
theorem z1731 : ((24 : Nat) : Int) + 20 = ((44 : Nat) : Int) := by decide +kernel
theorem z1732 : yX10_growHoles.cls ≠ "java/lang/invoke/MethodHandle" ∧ yX10_growHoles.cls ≠ "java/lang/invoke/VarHandle" ∧ (parseMethodDescriptor yX10_growHoles.desc).map (fun d => d.parameters.length) = some 0 := by decide +kernel
theorem z1733 : (8 : Int64) * 10 = 80 := by decide +kernel
theorem z1734 : (1 : Int32) + (-1) = 0 := by decide +kernel
theorem z1735 : ((43 : Nat) : Int) + 22 = ((65 : Nat) : Int) := by decide +kernel
theorem z1736 : (80 : Int64) + 0 = 80 := by decide +kernel
theorem z1737 : (80 : Int64) * 10 = 800 := by decide +kernel
theorem z1738 : (800 : Int64) + 0 = 800 := by decide +kernel
theorem z1739 : (800 : Int64) * 10 = 8000 := by decide +kernel
theorem z1740 : (8000 : Int64) + 0 = 8000 := by decide +kernel
theorem z1741 : (8000 : Int64) * 10 = 80000 := by decide +kernel
theorem z1742 : (80000 : Int64) + 0 = 80000 := by decide +kernel
theorem z1743 : (80000 : Int64) * 10 = 800000 := by decide +kernel
theorem z1744 : (800000 : Int64) + 0 = 800000 := by decide +kernel
theorem z1745 : (800000 : Int64) * 10 = 8000000 := by decide +kernel
theorem z1746 : (8000000 : Int64) + 0 = 8000000 := by decide +kernel
theorem z1747 : ((6 : Nat) : Int) + 10 = ((16 : Nat) : Int) := by decide +kernel
theorem z1748 : ((13 : Nat) : Int) + 5 = ((18 : Nat) : Int) := by decide +kernel
theorem z1749 : ((39 : Nat) : Int) + 52 = ((91 : Nat) : Int) := by decide +kernel
theorem z1750 : ((25 : Nat) : Int) + 7 = ((32 : Nat) : Int) := by decide +kernel
theorem z1751 : ((4 : Nat) : Int) + 31 = ((35 : Nat) : Int) := by decide +kernel
theorem z1752 : ((32 : Nat) : Int) + 5 = ((37 : Nat) : Int) := by decide +kernel
theorem z1753 : ((1 : Nat) : Int) + 20 = ((21 : Nat) : Int) := by decide +kernel
theorem z1754 : ((9 : Nat) : Int) + 12 = ((21 : Nat) : Int) := by decide +kernel
theorem z1755 : ((5 : Nat) : Int) + 20 = ((25 : Nat) : Int) := by decide +kernel
theorem z1756 : ((1 : Nat) : Int) + 21 = ((22 : Nat) : Int) := by decide +kernel
theorem z1757 : yX6_takeBack.cls ≠ "java/lang/invoke/MethodHandle" ∧ yX6_takeBack.cls ≠ "java/lang/invoke/VarHandle" ∧ (parseMethodDescriptor yX6_takeBack.desc).map (fun d => d.parameters.length) = some 1 := by decide +kernel
theorem z1758 : ((9 : Nat) : Int) + 13 = ((22 : Nat) : Int) := by decide +kernel
theorem z1759 : ((1 : Nat) : Int) + 25 = ((26 : Nat) : Int) := by decide +kernel
theorem z1760 : (Int16.ofInt 1000).toInt32 = 1000 := by decide +kernel
theorem z1761 : ((8 : Nat) : Int) + 15 = ((23 : Nat) : Int) := by decide +kernel
theorem z1762 : ((23 : Nat) : Int) + 5 = ((28 : Nat) : Int) := by decide +kernel
theorem z1763 : ((20 : Nat) : Int) + 5 = ((25 : Nat) : Int) := by decide +kernel
theorem z1764 : ((4 : Nat) : Int) + 6 = ((10 : Nat) : Int) := by decide +kernel
theorem z1765 : ((17 : Nat) : Int) + 44 = ((61 : Nat) : Int) := by decide +kernel
theorem z1766 : ((24 : Nat) : Int) + 37 = ((61 : Nat) : Int) := by decide +kernel
theorem z1767 : ((1 : Nat) : Int) + 8 = ((9 : Nat) : Int) := by decide +kernel
theorem z1768 : ((6 : Nat) : Int) + 5 = ((11 : Nat) : Int) := by decide +kernel
theorem z1769 : (0 : Int32) < 3 := by decide +kernel
theorem z1770 : yX1_keep.cls ≠ "java/lang/invoke/MethodHandle" ∧ yX1_keep.cls ≠ "java/lang/invoke/VarHandle" ∧ (parseMethodDescriptor yX1_keep.desc).map (fun d => d.parameters.length) = some 1 := by decide +kernel
theorem z1771 : ((16 : Nat) : Int) + 43 = ((59 : Nat) : Int) := by decide +kernel
theorem z1772 : (6 : Int32) * 0 = 0 := by decide +kernel
theorem z1773 : ixp 0 0 18 := ⟨vin _ _ (by decide +kernel), by decide +kernel⟩
theorem z1774 : ((56 : Nat) : Int) + (-43) = ((13 : Nat) : Int) := by decide +kernel
theorem z1775 : ixp 1 1 18 := ⟨vin _ _ (by decide +kernel), by decide +kernel⟩
theorem z1776 : ixp 2 2 18 := ⟨vin _ _ (by decide +kernel), by decide +kernel⟩
theorem z1777 : ixp 3 3 18 := ⟨vin _ _ (by decide +kernel), by decide +kernel⟩
theorem z1778 : ixp 4 4 18 := ⟨vin _ _ (by decide +kernel), by decide +kernel⟩
theorem z1779 : ixp 5 5 18 := ⟨vin _ _ (by decide +kernel), by decide +kernel⟩
theorem z1780 : (1 : Int32) < 3 := by decide +kernel
theorem z1781 : (6 : Int32) * 1 = 6 := by decide +kernel
theorem z1782 : (6 : Int32) + 0 = 6 := by decide +kernel
theorem z1783 : ixp 6 6 18 := ⟨vin _ _ (by decide +kernel), by decide +kernel⟩
theorem z1784 : ixp 7 7 18 := ⟨vin _ _ (by decide +kernel), by decide +kernel⟩
theorem z1785 : (6 : Int32) + 2 = 8 := by decide +kernel
theorem z1786 : ixp 8 8 18 := ⟨vin _ _ (by decide +kernel), by decide +kernel⟩
theorem z1787 : (6 : Int32) + 3 = 9 := by decide +kernel
theorem z1788 : ixp 9 9 18 := ⟨vin _ _ (by decide +kernel), by decide +kernel⟩
theorem z1789 : (6 : Int32) + 4 = 10 := by decide +kernel
theorem z1790 : ixp 10 10 18 := ⟨vin _ _ (by decide +kernel), by decide +kernel⟩
theorem z1791 : (6 : Int32) + 5 = 11 := by decide +kernel
theorem z1792 : ixp 11 11 18 := ⟨vin _ _ (by decide +kernel), by decide +kernel⟩
theorem z1793 : (2 : Int32) < 3 := by decide +kernel
theorem z1794 : (6 : Int32) * 2 = 12 := by decide +kernel
theorem z1795 : (12 : Int32) + 0 = 12 := by decide +kernel
theorem z1796 : ixp 12 12 18 := ⟨vin _ _ (by decide +kernel), by decide +kernel⟩
theorem z1797 : ixp 13 13 18 := ⟨vin _ _ (by decide +kernel), by decide +kernel⟩
theorem z1798 : (12 : Int32) + 2 = 14 := by decide +kernel
theorem z1799 : ixp 14 14 18 := ⟨vin _ _ (by decide +kernel), by decide +kernel⟩
theorem z1800 : (12 : Int32) + 3 = 15 := by decide +kernel
theorem z1801 : ixp 15 15 18 := ⟨vin _ _ (by decide +kernel), by decide +kernel⟩
theorem z1802 : (12 : Int32) + 4 = 16 := by decide +kernel
theorem z1803 : ixp 16 16 18 := ⟨vin _ _ (by decide +kernel), by decide +kernel⟩
theorem z1804 : (12 : Int32) + 5 = 17 := by decide +kernel
theorem z1805 : ixp 17 17 18 := ⟨vin _ _ (by decide +kernel), by decide +kernel⟩
theorem z1806 : ((6 : Nat) : Int) + 12 = ((18 : Nat) : Int) := by decide +kernel
theorem z1807 : ((6 : Nat) : Int) + 15 = ((21 : Nat) : Int) := by decide +kernel
theorem z1808 : ((15 : Nat) : Int) + 5 = ((20 : Nat) : Int) := by decide +kernel
theorem z1809 : (0 : Int32) - 0 = 0 := by decide +kernel
theorem z1810 : yX2_init.cls ≠ "java/lang/invoke/MethodHandle" ∧ yX2_init.cls ≠ "java/lang/invoke/VarHandle" ∧ (parseMethodDescriptor yX2_init.desc).map (fun d => d.parameters.length) = some 0 := by decide +kernel
theorem z1811 : yX0_init.cls ≠ "java/lang/invoke/MethodHandle" ∧ yX0_init.cls ≠ "java/lang/invoke/VarHandle" ∧ (parseMethodDescriptor yX0_init.desc).map (fun d => d.parameters.length) = some 0 := by decide +kernel
theorem z1812 : yX1_init.cls ≠ "java/lang/invoke/MethodHandle" ∧ yX1_init.cls ≠ "java/lang/invoke/VarHandle" ∧ (parseMethodDescriptor yX1_init.desc).map (fun d => d.parameters.length) = some 0 := by decide +kernel
theorem z1813 : yX5_init.cls ≠ "java/lang/invoke/MethodHandle" ∧ yX5_init.cls ≠ "java/lang/invoke/VarHandle" ∧ (parseMethodDescriptor yX5_init.desc).map (fun d => d.parameters.length) = some 0 := by decide +kernel
theorem z1814 : yX7_init.cls ≠ "java/lang/invoke/MethodHandle" ∧ yX7_init.cls ≠ "java/lang/invoke/VarHandle" ∧ (parseMethodDescriptor yX7_init.desc).map (fun d => d.parameters.length) = some 0 := by decide +kernel
theorem z1815 : yX3_init.cls ≠ "java/lang/invoke/MethodHandle" ∧ yX3_init.cls ≠ "java/lang/invoke/VarHandle" ∧ (parseMethodDescriptor yX3_init.desc).map (fun d => d.parameters.length) = some 0 := by decide +kernel
theorem z1816 : yX9_init.cls ≠ "java/lang/invoke/MethodHandle" ∧ yX9_init.cls ≠ "java/lang/invoke/VarHandle" ∧ (parseMethodDescriptor yX9_init.desc).map (fun d => d.parameters.length) = some 0 := by decide +kernel
theorem z1817 : yX6_init.cls ≠ "java/lang/invoke/MethodHandle" ∧ yX6_init.cls ≠ "java/lang/invoke/VarHandle" ∧ (parseMethodDescriptor yX6_init.desc).map (fun d => d.parameters.length) = some 0 := by decide +kernel
theorem z1818 : ((254 : Nat) : Int) + 839 = ((1093 : Nat) : Int) := by decide +kernel
theorem z1819 : (0 : Int32) + Int32.ofInt 6 = 6 := by decide +kernel
theorem z1820 : ((1096 : Nat) : Int) + (-1078) = ((18 : Nat) : Int) := by decide +kernel
theorem z1821 : (6 : Int32) - 6 = 0 := by decide +kernel
theorem z1822 : (0 : Int32) < 6 := by decide +kernel
theorem z1823 : ((24 : Nat) : Int) + 1075 = ((1099 : Nat) : Int) := by decide +kernel
theorem z1824 : yX10_feed.cls ≠ "java/lang/invoke/MethodHandle" ∧ yX10_feed.cls ≠ "java/lang/invoke/VarHandle" ∧ (parseMethodDescriptor yX10_feed.desc).map (fun d => d.parameters.length) = some 5 := by decide +kernel
theorem z1825 : yX11_feed.cls ≠ "java/lang/invoke/MethodHandle" ∧ yX11_feed.cls ≠ "java/lang/invoke/VarHandle" ∧ (parseMethodDescriptor yX11_feed.desc).map (fun d => d.parameters.length) = some 5 := by decide +kernel
theorem z1826 : ((277 : Nat) : Int) + 816 = ((1093 : Nat) : Int) := by decide +kernel
theorem z1827 : yX10_end.cls ≠ "java/lang/invoke/MethodHandle" ∧ yX10_end.cls ≠ "java/lang/invoke/VarHandle" ∧ (parseMethodDescriptor yX10_end.desc).map (fun d => d.parameters.length) = some 1 := by decide +kernel
theorem z1828 : yX11_end.cls ≠ "java/lang/invoke/MethodHandle" ∧ yX11_end.cls ≠ "java/lang/invoke/VarHandle" ∧ (parseMethodDescriptor yX11_end.desc).map (fun d => d.parameters.length) = some 1 := by decide +kernel
theorem z1829 : ((290 : Nat) : Int) + 803 = ((1093 : Nat) : Int) := by decide +kernel
theorem z1830 : yX10_port.cls ≠ "java/lang/invoke/MethodHandle" ∧ yX10_port.cls ≠ "java/lang/invoke/VarHandle" ∧ (parseMethodDescriptor yX10_port.desc).map (fun d => d.parameters.length) = some 0 := by decide +kernel
theorem z1831 : yX11_port.cls ≠ "java/lang/invoke/MethodHandle" ∧ yX11_port.cls ≠ "java/lang/invoke/VarHandle" ∧ (parseMethodDescriptor yX11_port.desc).map (fun d => d.parameters.length) = some 0 := by decide +kernel
theorem z1832 : ((313 : Nat) : Int) + 780 = ((1093 : Nat) : Int) := by decide +kernel
theorem z1833 : yX10_fault.cls ≠ "java/lang/invoke/MethodHandle" ∧ yX10_fault.cls ≠ "java/lang/invoke/VarHandle" ∧ (parseMethodDescriptor yX10_fault.desc).map (fun d => d.parameters.length) = some 1 := by decide +kernel
theorem z1834 : yX11_fault.cls ≠ "java/lang/invoke/MethodHandle" ∧ yX11_fault.cls ≠ "java/lang/invoke/VarHandle" ∧ (parseMethodDescriptor yX11_fault.desc).map (fun d => d.parameters.length) = some 1 := by decide +kernel
theorem z1835 : ((346 : Nat) : Int) + 747 = ((1093 : Nat) : Int) := by decide +kernel
theorem z1836 : yX10_worth.cls ≠ "java/lang/invoke/MethodHandle" ∧ yX10_worth.cls ≠ "java/lang/invoke/VarHandle" ∧ (parseMethodDescriptor yX10_worth.desc).map (fun d => d.parameters.length) = some 2 := by decide +kernel
theorem z1837 : yX11_worth.cls ≠ "java/lang/invoke/MethodHandle" ∧ yX11_worth.cls ≠ "java/lang/invoke/VarHandle" ∧ (parseMethodDescriptor yX11_worth.desc).map (fun d => d.parameters.length) = some 2 := by decide +kernel
theorem z1838 : ((389 : Nat) : Int) + 704 = ((1093 : Nat) : Int) := by decide +kernel
theorem z1839 : yX10_behind.cls ≠ "java/lang/invoke/MethodHandle" ∧ yX10_behind.cls ≠ "java/lang/invoke/VarHandle" ∧ (parseMethodDescriptor yX10_behind.desc).map (fun d => d.parameters.length) = some 3 := by decide +kernel
theorem z1840 : yX11_behind.cls ≠ "java/lang/invoke/MethodHandle" ∧ yX11_behind.cls ≠ "java/lang/invoke/VarHandle" ∧ (parseMethodDescriptor yX11_behind.desc).map (fun d => d.parameters.length) = some 3 := by decide +kernel
theorem z1841 : ((412 : Nat) : Int) + 681 = ((1093 : Nat) : Int) := by decide +kernel
theorem z1842 : yX10_turn.cls ≠ "java/lang/invoke/MethodHandle" ∧ yX10_turn.cls ≠ "java/lang/invoke/VarHandle" ∧ (parseMethodDescriptor yX10_turn.desc).map (fun d => d.parameters.length) = some 1 := by decide +kernel
theorem z1843 : yX11_turn.cls ≠ "java/lang/invoke/MethodHandle" ∧ yX11_turn.cls ≠ "java/lang/invoke/VarHandle" ∧ (parseMethodDescriptor yX11_turn.desc).map (fun d => d.parameters.length) = some 1 := by decide +kernel
theorem z1844 : ((435 : Nat) : Int) + 658 = ((1093 : Nat) : Int) := by decide +kernel
theorem z1845 : yX10_write.cls ≠ "java/lang/invoke/MethodHandle" ∧ yX10_write.cls ≠ "java/lang/invoke/VarHandle" ∧ (parseMethodDescriptor yX10_write.desc).map (fun d => d.parameters.length) = some 1 := by decide +kernel
theorem z1846 : yX11_write.cls ≠ "java/lang/invoke/MethodHandle" ∧ yX11_write.cls ≠ "java/lang/invoke/VarHandle" ∧ (parseMethodDescriptor yX11_write.desc).map (fun d => d.parameters.length) = some 1 := by decide +kernel
theorem z1847 : ((468 : Nat) : Int) + 625 = ((1093 : Nat) : Int) := by decide +kernel
theorem z1848 : yX10_sell.cls ≠ "java/lang/invoke/MethodHandle" ∧ yX10_sell.cls ≠ "java/lang/invoke/VarHandle" ∧ (parseMethodDescriptor yX10_sell.desc).map (fun d => d.parameters.length) = some 2 := by decide +kernel
theorem z1849 : yX11_sell.cls ≠ "java/lang/invoke/MethodHandle" ∧ yX11_sell.cls ≠ "java/lang/invoke/VarHandle" ∧ (parseMethodDescriptor yX11_sell.desc).map (fun d => d.parameters.length) = some 2 := by decide +kernel
theorem z1850 : ((481 : Nat) : Int) + 612 = ((1093 : Nat) : Int) := by decide +kernel
theorem z1851 : yX10_undo.cls ≠ "java/lang/invoke/MethodHandle" ∧ yX10_undo.cls ≠ "java/lang/invoke/VarHandle" ∧ (parseMethodDescriptor yX10_undo.desc).map (fun d => d.parameters.length) = some 0 := by decide +kernel
theorem z1852 : yX11_undo.cls ≠ "java/lang/invoke/MethodHandle" ∧ yX11_undo.cls ≠ "java/lang/invoke/VarHandle" ∧ (parseMethodDescriptor yX11_undo.desc).map (fun d => d.parameters.length) = some 0 := by decide +kernel
theorem z1853 : ((494 : Nat) : Int) + 599 = ((1093 : Nat) : Int) := by decide +kernel
theorem z1854 : yX10_redo.cls ≠ "java/lang/invoke/MethodHandle" ∧ yX10_redo.cls ≠ "java/lang/invoke/VarHandle" ∧ (parseMethodDescriptor yX10_redo.desc).map (fun d => d.parameters.length) = some 0 := by decide +kernel
theorem z1855 : yX11_redo.cls ≠ "java/lang/invoke/MethodHandle" ∧ yX11_redo.cls ≠ "java/lang/invoke/VarHandle" ∧ (parseMethodDescriptor yX11_redo.desc).map (fun d => d.parameters.length) = some 0 := by decide +kernel
theorem z1856 : ((507 : Nat) : Int) + 586 = ((1093 : Nat) : Int) := by decide +kernel
theorem z1857 : yX10_wipe.cls ≠ "java/lang/invoke/MethodHandle" ∧ yX10_wipe.cls ≠ "java/lang/invoke/VarHandle" ∧ (parseMethodDescriptor yX10_wipe.desc).map (fun d => d.parameters.length) = some 0 := by decide +kernel
theorem z1858 : yX11_wipe.cls ≠ "java/lang/invoke/MethodHandle" ∧ yX11_wipe.cls ≠ "java/lang/invoke/VarHandle" ∧ (parseMethodDescriptor yX11_wipe.desc).map (fun d => d.parameters.length) = some 0 := by decide +kernel
theorem z1859 : ((530 : Nat) : Int) + 563 = ((1093 : Nat) : Int) := by decide +kernel
theorem z1860 : yX10_word.cls ≠ "java/lang/invoke/MethodHandle" ∧ yX10_word.cls ≠ "java/lang/invoke/VarHandle" ∧ (parseMethodDescriptor yX10_word.desc).map (fun d => d.parameters.length) = some 1 := by decide +kernel
theorem z1861 : yX11_word.cls ≠ "java/lang/invoke/MethodHandle" ∧ yX11_word.cls ≠ "java/lang/invoke/VarHandle" ∧ (parseMethodDescriptor yX11_word.desc).map (fun d => d.parameters.length) = some 1 := by decide +kernel
theorem z1862 : ((543 : Nat) : Int) + 550 = ((1093 : Nat) : Int) := by decide +kernel
theorem z1863 : yX10_next.cls ≠ "java/lang/invoke/MethodHandle" ∧ yX10_next.cls ≠ "java/lang/invoke/VarHandle" ∧ (parseMethodDescriptor yX10_next.desc).map (fun d => d.parameters.length) = some 0 := by decide +kernel
theorem z1864 : yX11_next.cls ≠ "java/lang/invoke/MethodHandle" ∧ yX11_next.cls ≠ "java/lang/invoke/VarHandle" ∧ (parseMethodDescriptor yX11_next.desc).map (fun d => d.parameters.length) = some 0 := by decide +kernel
theorem z1865 : ((556 : Nat) : Int) + 537 = ((1093 : Nat) : Int) := by decide +kernel
theorem z1866 : yX10_readings.cls ≠ "java/lang/invoke/MethodHandle" ∧ yX10_readings.cls ≠ "java/lang/invoke/VarHandle" ∧ (parseMethodDescriptor yX10_readings.desc).map (fun d => d.parameters.length) = some 0 := by decide +kernel
theorem z1867 : yX11_readings.cls ≠ "java/lang/invoke/MethodHandle" ∧ yX11_readings.cls ≠ "java/lang/invoke/VarHandle" ∧ (parseMethodDescriptor yX11_readings.desc).map (fun d => d.parameters.length) = some 0 := by decide +kernel
theorem z1868 : ((579 : Nat) : Int) + 514 = ((1093 : Nat) : Int) := by decide +kernel
theorem z1869 : yX10_means.cls ≠ "java/lang/invoke/MethodHandle" ∧ yX10_means.cls ≠ "java/lang/invoke/VarHandle" ∧ (parseMethodDescriptor yX10_means.desc).map (fun d => d.parameters.length) = some 1 := by decide +kernel
theorem z1870 : yX11_means.cls ≠ "java/lang/invoke/MethodHandle" ∧ yX11_means.cls ≠ "java/lang/invoke/VarHandle" ∧ (parseMethodDescriptor yX11_means.desc).map (fun d => d.parameters.length) = some 1 := by decide +kernel
theorem z1871 : ((602 : Nat) : Int) + 491 = ((1093 : Nat) : Int) := by decide +kernel
theorem z1872 : yX10_written.cls ≠ "java/lang/invoke/MethodHandle" ∧ yX10_written.cls ≠ "java/lang/invoke/VarHandle" ∧ (parseMethodDescriptor yX10_written.desc).map (fun d => d.parameters.length) = some 1 := by decide +kernel
theorem z1873 : yX11_written.cls ≠ "java/lang/invoke/MethodHandle" ∧ yX11_written.cls ≠ "java/lang/invoke/VarHandle" ∧ (parseMethodDescriptor yX11_written.desc).map (fun d => d.parameters.length) = some 1 := by decide +kernel
theorem z1874 : ((625 : Nat) : Int) + 468 = ((1093 : Nat) : Int) := by decide +kernel
theorem z1875 : yX10_held.cls ≠ "java/lang/invoke/MethodHandle" ∧ yX10_held.cls ≠ "java/lang/invoke/VarHandle" ∧ (parseMethodDescriptor yX10_held.desc).map (fun d => d.parameters.length) = some 1 := by decide +kernel
theorem z1876 : yX11_held.cls ≠ "java/lang/invoke/MethodHandle" ∧ yX11_held.cls ≠ "java/lang/invoke/VarHandle" ∧ (parseMethodDescriptor yX11_held.desc).map (fun d => d.parameters.length) = some 1 := by decide +kernel
theorem z1877 : ((658 : Nat) : Int) + 435 = ((1093 : Nat) : Int) := by decide +kernel
theorem z1878 : yX10_share.cls ≠ "java/lang/invoke/MethodHandle" ∧ yX10_share.cls ≠ "java/lang/invoke/VarHandle" ∧ (parseMethodDescriptor yX10_share.desc).map (fun d => d.parameters.length) = some 2 := by decide +kernel
theorem z1879 : yX11_share.cls ≠ "java/lang/invoke/MethodHandle" ∧ yX11_share.cls ≠ "java/lang/invoke/VarHandle" ∧ (parseMethodDescriptor yX11_share.desc).map (fun d => d.parameters.length) = some 2 := by decide +kernel
theorem z1880 : ((671 : Nat) : Int) + 422 = ((1093 : Nat) : Int) := by decide +kernel
theorem z1881 : yX10_swap.cls ≠ "java/lang/invoke/MethodHandle" ∧ yX10_swap.cls ≠ "java/lang/invoke/VarHandle" ∧ (parseMethodDescriptor yX10_swap.desc).map (fun d => d.parameters.length) = some 0 := by decide +kernel
theorem z1882 : yX11_swap.cls ≠ "java/lang/invoke/MethodHandle" ∧ yX11_swap.cls ≠ "java/lang/invoke/VarHandle" ∧ (parseMethodDescriptor yX11_swap.desc).map (fun d => d.parameters.length) = some 0 := by decide +kernel
theorem z1883 : ((704 : Nat) : Int) + 389 = ((1093 : Nat) : Int) := by decide +kernel
theorem z1884 : yX10_bribe.cls ≠ "java/lang/invoke/MethodHandle" ∧ yX10_bribe.cls ≠ "java/lang/invoke/VarHandle" ∧ (parseMethodDescriptor yX10_bribe.desc).map (fun d => d.parameters.length) = some 2 := by decide +kernel
theorem z1885 : yX11_bribe.cls ≠ "java/lang/invoke/MethodHandle" ∧ yX11_bribe.cls ≠ "java/lang/invoke/VarHandle" ∧ (parseMethodDescriptor yX11_bribe.desc).map (fun d => d.parameters.length) = some 2 := by decide +kernel
theorem z1886 : ((717 : Nat) : Int) + 376 = ((1093 : Nat) : Int) := by decide +kernel
theorem z1887 : yX10_used.cls ≠ "java/lang/invoke/MethodHandle" ∧ yX10_used.cls ≠ "java/lang/invoke/VarHandle" ∧ (parseMethodDescriptor yX10_used.desc).map (fun d => d.parameters.length) = some 0 := by decide +kernel
theorem z1888 : yX11_used.cls ≠ "java/lang/invoke/MethodHandle" ∧ yX11_used.cls ≠ "java/lang/invoke/VarHandle" ∧ (parseMethodDescriptor yX11_used.desc).map (fun d => d.parameters.length) = some 0 := by decide +kernel
theorem z1889 : ((740 : Nat) : Int) + 353 = ((1093 : Nat) : Int) := by decide +kernel
theorem z1890 : yX10_shortest.cls ≠ "java/lang/invoke/MethodHandle" ∧ yX10_shortest.cls ≠ "java/lang/invoke/VarHandle" ∧ (parseMethodDescriptor yX10_shortest.desc).map (fun d => d.parameters.length) = some 1 := by decide +kernel
theorem z1891 : yX11_shortest.cls ≠ "java/lang/invoke/MethodHandle" ∧ yX11_shortest.cls ≠ "java/lang/invoke/VarHandle" ∧ (parseMethodDescriptor yX11_shortest.desc).map (fun d => d.parameters.length) = some 1 := by decide +kernel
theorem z1892 : ((753 : Nat) : Int) + 340 = ((1093 : Nat) : Int) := by decide +kernel
theorem z1893 : yX10_doubtful.cls ≠ "java/lang/invoke/MethodHandle" ∧ yX10_doubtful.cls ≠ "java/lang/invoke/VarHandle" ∧ (parseMethodDescriptor yX10_doubtful.desc).map (fun d => d.parameters.length) = some 0 := by decide +kernel
theorem z1894 : yX11_doubtful.cls ≠ "java/lang/invoke/MethodHandle" ∧ yX11_doubtful.cls ≠ "java/lang/invoke/VarHandle" ∧ (parseMethodDescriptor yX11_doubtful.desc).map (fun d => d.parameters.length) = some 0 := by decide +kernel
theorem z1895 : ((776 : Nat) : Int) + 317 = ((1093 : Nat) : Int) := by decide +kernel
theorem z1896 : yX10_lots.cls ≠ "java/lang/invoke/MethodHandle" ∧ yX10_lots.cls ≠ "java/lang/invoke/VarHandle" ∧ (parseMethodDescriptor yX10_lots.desc).map (fun d => d.parameters.length) = some 1 := by decide +kernel
theorem z1897 : yX11_lots.cls ≠ "java/lang/invoke/MethodHandle" ∧ yX11_lots.cls ≠ "java/lang/invoke/VarHandle" ∧ (parseMethodDescriptor yX11_lots.desc).map (fun d => d.parameters.length) = some 1 := by decide +kernel
theorem z1898 : ((809 : Nat) : Int) + 284 = ((1093 : Nat) : Int) := by decide +kernel
theorem z1899 : yX10_hole.cls ≠ "java/lang/invoke/MethodHandle" ∧ yX10_hole.cls ≠ "java/lang/invoke/VarHandle" ∧ (parseMethodDescriptor yX10_hole.desc).map (fun d => d.parameters.length) = some 2 := by decide +kernel
theorem z1900 : yX11_hole.cls ≠ "java/lang/invoke/MethodHandle" ∧ yX11_hole.cls ≠ "java/lang/invoke/VarHandle" ∧ (parseMethodDescriptor yX11_hole.desc).map (fun d => d.parameters.length) = some 2 := by decide +kernel
theorem z1901 : ((822 : Nat) : Int) + 271 = ((1093 : Nat) : Int) := by decide +kernel
theorem z1902 : yX10_fit.cls ≠ "java/lang/invoke/MethodHandle" ∧ yX10_fit.cls ≠ "java/lang/invoke/VarHandle" ∧ (parseMethodDescriptor yX10_fit.desc).map (fun d => d.parameters.length) = some 0 := by decide +kernel
theorem z1903 : yX11_fit.cls ≠ "java/lang/invoke/MethodHandle" ∧ yX11_fit.cls ≠ "java/lang/invoke/VarHandle" ∧ (parseMethodDescriptor yX11_fit.desc).map (fun d => d.parameters.length) = some 0 := by decide +kernel
theorem z1904 : ((845 : Nat) : Int) + 248 = ((1093 : Nat) : Int) := by decide +kernel
theorem z1905 : yX10_best.cls ≠ "java/lang/invoke/MethodHandle" ∧ yX10_best.cls ≠ "java/lang/invoke/VarHandle" ∧ (parseMethodDescriptor yX10_best.desc).map (fun d => d.parameters.length) = some 1 := by decide +kernel
theorem z1906 : yX11_best.cls ≠ "java/lang/invoke/MethodHandle" ∧ yX11_best.cls ≠ "java/lang/invoke/VarHandle" ∧ (parseMethodDescriptor yX11_best.desc).map (fun d => d.parameters.length) = some 1 := by decide +kernel
theorem z1907 : ((868 : Nat) : Int) + 225 = ((1093 : Nat) : Int) := by decide +kernel
theorem z1908 : yX10_struck.cls ≠ "java/lang/invoke/MethodHandle" ∧ yX10_struck.cls ≠ "java/lang/invoke/VarHandle" ∧ (parseMethodDescriptor yX10_struck.desc).map (fun d => d.parameters.length) = some 1 := by decide +kernel
theorem z1909 : yX11_struck.cls ≠ "java/lang/invoke/MethodHandle" ∧ yX11_struck.cls ≠ "java/lang/invoke/VarHandle" ∧ (parseMethodDescriptor yX11_struck.desc).map (fun d => d.parameters.length) = some 1 := by decide +kernel
theorem z1910 : ((891 : Nat) : Int) + 202 = ((1093 : Nat) : Int) := by decide +kernel
theorem z1911 : yX10_lies.cls ≠ "java/lang/invoke/MethodHandle" ∧ yX10_lies.cls ≠ "java/lang/invoke/VarHandle" ∧ (parseMethodDescriptor yX10_lies.desc).map (fun d => d.parameters.length) = some 1 := by decide +kernel
theorem z1912 : yX11_lies.cls ≠ "java/lang/invoke/MethodHandle" ∧ yX11_lies.cls ≠ "java/lang/invoke/VarHandle" ∧ (parseMethodDescriptor yX11_lies.desc).map (fun d => d.parameters.length) = some 1 := by decide +kernel
theorem z1913 : ((912 : Nat) : Int) + 7 = ((919 : Nat) : Int) := by decide +kernel
theorem z1914 : ((939 : Nat) : Int) + 7 = ((946 : Nat) : Int) := by decide +kernel
theorem z1915 : ((950 : Nat) : Int) + 143 = ((1093 : Nat) : Int) := by decide +kernel
theorem z1916 : yX10_seen.cls ≠ "java/lang/invoke/MethodHandle" ∧ yX10_seen.cls ≠ "java/lang/invoke/VarHandle" ∧ (parseMethodDescriptor yX10_seen.desc).map (fun d => d.parameters.length) = some 3 := by decide +kernel
theorem z1917 : yX11_seen.cls ≠ "java/lang/invoke/MethodHandle" ∧ yX11_seen.cls ≠ "java/lang/invoke/VarHandle" ∧ (parseMethodDescriptor yX11_seen.desc).map (fun d => d.parameters.length) = some 3 := by decide +kernel
theorem z1918 : ((916 : Nat) : Int) + 4 = ((920 : Nat) : Int) := by decide +kernel
theorem z1919 : ((943 : Nat) : Int) + 4 = ((947 : Nat) : Int) := by decide +kernel
theorem z1920 : ((973 : Nat) : Int) + 120 = ((1093 : Nat) : Int) := by decide +kernel
theorem z1921 : yX10_untell.cls ≠ "java/lang/invoke/MethodHandle" ∧ yX10_untell.cls ≠ "java/lang/invoke/VarHandle" ∧ (parseMethodDescriptor yX10_untell.desc).map (fun d => d.parameters.length) = some 1 := by decide +kernel
theorem z1922 : yX11_untell.cls ≠ "java/lang/invoke/MethodHandle" ∧ yX11_untell.cls ≠ "java/lang/invoke/VarHandle" ∧ (parseMethodDescriptor yX11_untell.desc).map (fun d => d.parameters.length) = some 1 := by decide +kernel
theorem z1923 : ((996 : Nat) : Int) + 97 = ((1093 : Nat) : Int) := by decide +kernel
theorem z1924 : yX10_later.cls ≠ "java/lang/invoke/MethodHandle" ∧ yX10_later.cls ≠ "java/lang/invoke/VarHandle" ∧ (parseMethodDescriptor yX10_later.desc).map (fun d => d.parameters.length) = some 1 := by decide +kernel
theorem z1925 : yX11_later.cls ≠ "java/lang/invoke/MethodHandle" ∧ yX11_later.cls ≠ "java/lang/invoke/VarHandle" ∧ (parseMethodDescriptor yX11_later.desc).map (fun d => d.parameters.length) = some 1 := by decide +kernel
theorem z1926 : ((1019 : Nat) : Int) + 74 = ((1093 : Nat) : Int) := by decide +kernel
theorem z1927 : yX10_orders.cls ≠ "java/lang/invoke/MethodHandle" ∧ yX10_orders.cls ≠ "java/lang/invoke/VarHandle" ∧ (parseMethodDescriptor yX10_orders.desc).map (fun d => d.parameters.length) = some 1 := by decide +kernel
theorem z1928 : yX11_orders.cls ≠ "java/lang/invoke/MethodHandle" ∧ yX11_orders.cls ≠ "java/lang/invoke/VarHandle" ∧ (parseMethodDescriptor yX11_orders.desc).map (fun d => d.parameters.length) = some 1 := by decide +kernel
theorem z1929 : ((1042 : Nat) : Int) + 51 = ((1093 : Nat) : Int) := by decide +kernel
theorem z1930 : yX10_image.cls ≠ "java/lang/invoke/MethodHandle" ∧ yX10_image.cls ≠ "java/lang/invoke/VarHandle" ∧ (parseMethodDescriptor yX10_image.desc).map (fun d => d.parameters.length) = some 1 := by decide +kernel
theorem z1931 : yX11_image.cls ≠ "java/lang/invoke/MethodHandle" ∧ yX11_image.cls ≠ "java/lang/invoke/VarHandle" ∧ (parseMethodDescriptor yX11_image.desc).map (fun d => d.parameters.length) = some 1 := by decide +kernel
theorem z1932 : ((1065 : Nat) : Int) + 28 = ((1093 : Nat) : Int) := by decide +kernel
theorem z1933 : yX10_back.cls ≠ "java/lang/invoke/MethodHandle" ∧ yX10_back.cls ≠ "java/lang/invoke/VarHandle" ∧ (parseMethodDescriptor yX10_back.desc).map (fun d => d.parameters.length) = some 1 := by decide +kernel
theorem z1934 : yX11_back.cls ≠ "java/lang/invoke/MethodHandle" ∧ yX11_back.cls ≠ "java/lang/invoke/VarHandle" ∧ (parseMethodDescriptor yX11_back.desc).map (fun d => d.parameters.length) = some 1 := by decide +kernel
theorem z1935 : ((1088 : Nat) : Int) + 5 = ((1093 : Nat) : Int) := by decide +kernel
theorem z1936 : yX10_about.cls ≠ "java/lang/invoke/MethodHandle" ∧ yX10_about.cls ≠ "java/lang/invoke/VarHandle" ∧ (parseMethodDescriptor yX10_about.desc).map (fun d => d.parameters.length) = some 1 := by decide +kernel
theorem z1937 : yX11_about.cls ≠ "java/lang/invoke/MethodHandle" ∧ yX11_about.cls ≠ "java/lang/invoke/VarHandle" ∧ (parseMethodDescriptor yX11_about.desc).map (fun d => d.parameters.length) = some 1 := by decide +kernel
theorem z1938 : yX10_init.cls ≠ "java/lang/invoke/MethodHandle" ∧ yX10_init.cls ≠ "java/lang/invoke/VarHandle" ∧ (parseMethodDescriptor yX10_init.desc).map (fun d => d.parameters.length) = some 0 := by decide +kernel
theorem z1939 : yX11_init.cls ≠ "java/lang/invoke/MethodHandle" ∧ yX11_init.cls ≠ "java/lang/invoke/VarHandle" ∧ (parseMethodDescriptor yX11_init.desc).map (fun d => d.parameters.length) = some 0 := by decide +kernel
theorem z1940 : (Int8.ofInt 63).toInt32 = 63 := by decide +kernel
theorem z1941 : (0 : Int32) - 6 = (-6) := by decide +kernel
theorem z1942 : ((-6) : Int32) < 0 := by decide +kernel
theorem z1943 : (1 : Int32) - 6 = (-5) := by decide +kernel
theorem z1944 : ((-5) : Int32) < 0 := by decide +kernel
theorem z1945 : (2 : Int32) - 6 = (-4) := by decide +kernel
theorem z1946 : ((-4) : Int32) < 0 := by decide +kernel
theorem z1947 : (3 : Int32) - 6 = (-3) := by decide +kernel
theorem z1948 : ((-3) : Int32) < 0 := by decide +kernel
theorem z1949 : (4 : Int32) - 6 = (-2) := by decide +kernel
theorem z1950 : ((-2) : Int32) < 0 := by decide +kernel
theorem z1951 : (5 : Int32) - 6 = (-1) := by decide +kernel
