/-! The words of the contracts: a world of cells before, a world behind, the answer. -/
abbrev tyL (cB cI cJ cZ cO : ClassId) : List (ClassId × FieldType) := [(cB, .byte), (cI, .int), (cJ, .long), (cZ, .boolean), (cO, .object "GuildCharter$Image")]
def cpre (D : va_G) (tys : List (ClassId × FieldType)) (ws : va_W) (sz : Nat) (U : State) : Prop := U.heap.size = sz ∧ va_P D vwCl ws U.heap ∧ va_K D vwCl tys U ∧ va_D (fun _ => True) ws
def cpost (D : va_G) (A : Nat → Prop) (w1 : (Nat → Nat) → va_W) (u : Nat → Nat) (t : State) : Prop := va_P D vwCl (w1 u) t.heap ∧ va_D A (w1 u)
abbrev qi (D : va_G) (w1 : (Nat → Nat) → va_W) (v : Int32) (A : Nat → Prop) := va_Qi (fun r (_ : Nat → Nat) => r = v) (cpost D A w1) A
abbrev ql (D : va_G) (w1 : (Nat → Nat) → va_W) (v : Int64) (A : Nat → Prop) := va_Ql (fun r (_ : Nat → Nat) => r = v) (cpost D A w1) A
abbrev qv (D : va_G) (w1 : (Nat → Nat) → va_W) (A : Nat → Prop) := va_Qv (fun (_ : Nat → Nat) => True) (cpost D A w1) A
abbrev qr (D : va_G) (w1 : (Nat → Nat) → va_W) (v : Nat) (A : Nat → Prop) := va_Qr (fun (_ : Nat → Nat) => True) (fun u a t => a = v ∧ cpost D A w1 u t) A
def CI (l : Launch) (y : MethodName) (w : List Cond) (rm : Room) (D : va_G) (tys : List (ClassId × FieldType)) (av : List Value) (ws : va_W) (w1 : (Nat → Nat) → va_W) (v : Int32) : Prop := ∀ sz : Nat, Met l y w rm (va_Pc av (cpre D tys ws sz)) (qi D w1 v (va_A ws sz)) rm.cells rm.slots (va_A ws sz)
def CL (l : Launch) (y : MethodName) (w : List Cond) (rm : Room) (D : va_G) (tys : List (ClassId × FieldType)) (av : List Value) (ws : va_W) (w1 : (Nat → Nat) → va_W) (v : Int64) : Prop := ∀ sz : Nat, Met l y w rm (va_Pc av (cpre D tys ws sz)) (ql D w1 v (va_A ws sz)) rm.cells rm.slots (va_A ws sz)
def CV (l : Launch) (y : MethodName) (w : List Cond) (rm : Room) (D : va_G) (tys : List (ClassId × FieldType)) (av : List Value) (ws : va_W) (w1 : (Nat → Nat) → va_W) : Prop := ∀ sz : Nat, Met l y w rm (va_Pc av (cpre D tys ws sz)) (qv D w1 (va_A ws sz)) rm.cells rm.slots (va_A ws sz)
def CR (l : Launch) (y : MethodName) (w : List Cond) (rm : Room) (D : va_G) (tys : List (ClassId × FieldType)) (av : List Value) (ws : va_W) (w1 : (Nat → Nat) → va_W) (v : Nat) : Prop := ∀ sz : Nat, Met l y w rm (va_Pc av (cpre D tys ws sz)) (qr D w1 v (va_A ws sz)) rm.cells rm.slots (va_A ws sz)
theorem vin (i : Int32) (n : Nat) (h : decide (¬ (i < 0 ∨ n ≤ i.toNatClampNeg)) = true) : vp_in i n := by
  unfold vp_in
  exact of_decide_eq_true h
theorem nlt {a b : Nat} (h : Nat.blt a b = true) : a < b := Nat.le_of_ble_eq_true h
def ixp (i : Int32) (k n : Nat) : Prop := vp_in i n ∧ i.toNatClampNeg = k
theorem ix_nI {i n : Nat} (h : i < n) (hn : n < 2 ^ 31) : ixp (nI i) i n := ⟨vp_in_nI h hn, nI_clamp (by omega)⟩
/-- the opening of a contract's proof -/
theorem ct_open {l : Launch} {y : MethodName} {w w' : List Cond} {rm : Room} {D : va_G} {tys : List (ClassId × FieldType)} {av : List Value} {ws : va_W} {Qf : (Nat → Prop) → Array Value → State → Outcome → State → Prop} {cc : ByteArray} {maxL : Nat} {ret : Option FieldType} {mc ms sz : Nat}
    (hy : plainName y.cls = true) (hw : w = Cond.code y cc maxL ret :: w') (hn : (lg_sl av).length ≤ maxL)
    (body : ∀ (p : Program) (e : Env) (s : State) (m : MethodId) (below : List Frame) (meth : Method) (c : Code) (ls : Array Slot) (A : Nat → Prop), p.tables.exec = Jvm.exec → c.code = cc → meth.sig.returnType = ret → c.maxLocals = maxL → (∀ x ∈ w, x.before av.toArray s = true) → s.vm.findClass y.cls = some m.cls → meth.locks = false → meth.name = y.name →
      va_P D vwCl ws s.heap → va_K D vwCl tys s → va_D A ws → (∀ q : Nat, s.heap.size ≤ q → A q) → va_S A s.heap s.heap [] → lv_has ls maxL (lv_args 0 av) → W p l e rm s m av.toArray below meth c s.heap [] 0 0 (MQ below (Qf A) av.toArray s mc ms A) (F0 m 0 ls [])) :
    Met l y w rm (va_Pc av (cpre D tys ws sz)) (Qf (va_A ws sz)) mc ms (va_A ws sz) := by
  refine Met.ofW (cc := cc) (maxL := maxL) (ret := ret) hy hw ?_
  intro p e s m args below meth c s₁ B hml hv
  obtain ⟨rfl, hsz, hP, hK, hD0⟩ := hv
  have hx := B.exec
  have hb := B.bytes
  have hr := B.returns
  have hts := atoms_spec (ws := w) B.pre
  have hown : s.vm.findClass y.cls = some m.cls := findClass_of_methodNamed B.named
  have hlocks := B.notSynchronized
  have hin : meth.name = y.name := (name_of_methodNamed B.named B.method).1
  subst hsz
  have hD := hD0.self (sz := s.heap.size)
  have hA : ∀ q : Nat, s.heap.size ≤ q → va_A ws s.heap.size q := fun q h => Or.inr h
  have hl := lv_entry av (n := maxL) hn
  rw [lg_entry_eq]
  exact body p e s m below meth c _ (va_A ws s.heap.size) hx hb hr hml hts hown hlocks hin hP hK hD hA va_S.rf hl
section
variable {p : Program} {l : Launch} {e : Env} {R : Room} {s : State} {m : MethodId} {args : Array Value} {below : List Frame} {meth : Method} {c : Code} {H : Heap} {locs : List Loc} {cells slots : Nat} {Q : State → Prop} {cc : ByteArray} {pc : Nat} {ls : Array Slot} {rest : List Value} {D : va_G} {cl : List vw_C} {tys : List (ClassId × FieldType)} {ws : va_W} {A : Nat → Prop} {H0 : Heap} {a : Nat}
theorem tpv {x v : Value} (h : x = v) (k : W p l e R s m args below meth c H locs cells slots Q (F0 m pc ls (v :: rest))) : W p l e R s m args below meth c H locs cells slots Q (F0 m pc ls (x :: rest)) := by
  rw [h]; exact k
theorem set_same {ws : va_W} {q0 : Nat} {x : Nat × va_E} (h : ws[q0]? = some x) : ws.set q0 x = ws := by
  apply List.ext_getElem?
  intro i
  by_cases hi : q0 = i
  · subst hi
    rw [List.getElem?_set_self (List.getElem?_eq_some_iff.mp h).1, h]
  · rw [List.getElem?_set_ne hi]
theorem upd_same {f : Nat → Int32} {i : Nat} {x : Int32} (h : f i = x) : upd f i x = f := by
  funext j
  show (if j = i then x else f j) = f j
  split
  · next e => rw [e, h]
  · rfl
theorem updL_same {f : Nat → Int64} {i : Nat} {x : Int64} (h : f i = x) : vp_updL f i x = f := by
  funext j
  show (if j = i then x else f j) = f j
  split
  · next e => rw [e, h]
  · rfl
theorem va_iastS (hexec : p.tables.exec = Jvm.exec) (hb : c.code = cc) (hK : va_K D cl tys s) (hP : va_P D cl ws H) (hD : va_D A ws) (hS : va_S A H0 H locs) (q0 t0 : Nat) {cA : ClassId} {n : Nat} {f : Nat → Int32} (ha : ws[q0]? = some (a, .inl (cA, n, .inl f))) (ht : tys[t0]? = some (cA, .int)) {i : Int32} {x : Int32} (hin : vp_in i n) (hsame : f i.toNatClampNeg = x) (hdg : decode cc pc = .ok (.iastore, 1))
    (kk : ∀ (H1 : Heap) (locs1 : List Loc), va_P D cl ws H1 → va_D A ws → va_S A H0 H1 locs1 → W p l e R s m args below meth c H1 locs1 cells slots Q (F0 m (pc + 1) ls rest)) : W p l e R s m args below meth c H locs cells slots Q (F0 m pc ls (.int x :: .int i :: .ref a :: rest)) := by
  refine va_iast hexec hb hK hP hD hS q0 t0 ha ht hin hdg (fun H1 locs1 h1 h2 h3 => ?_)
  rw [upd_same hsame, set_same ha] at h1
  exact kk H1 locs1 h1 hD h3
theorem va_zastS (hexec : p.tables.exec = Jvm.exec) (hb : c.code = cc) (hK : va_K D cl tys s) (hP : va_P D cl ws H) (hD : va_D A ws) (hS : va_S A H0 H locs) (q0 t0 : Nat) {cA : ClassId} {n : Nat} {f : Nat → Int32} (ha : ws[q0]? = some (a, .inl (cA, n, .inl f))) (ht : tys[t0]? = some (cA, .boolean)) {i : Int32} {x : Int32} (hin : vp_in i n) (hsame : f i.toNatClampNeg = vp_nar .boolean x) (hdg : decode cc pc = .ok (.bastore, 1))
    (kk : ∀ (H1 : Heap) (locs1 : List Loc), va_P D cl ws H1 → va_D A ws → va_S A H0 H1 locs1 → W p l e R s m args below meth c H1 locs1 cells slots Q (F0 m (pc + 1) ls rest)) : W p l e R s m args below meth c H locs cells slots Q (F0 m pc ls (.int x :: .int i :: .ref a :: rest)) := by
  refine va_zast hexec hb hK hP hD hS q0 t0 ha ht hin hdg (fun H1 locs1 h1 h2 h3 => ?_)
  rw [upd_same hsame, set_same ha] at h1
  exact kk H1 locs1 h1 hD h3
theorem va_lastS (hexec : p.tables.exec = Jvm.exec) (hb : c.code = cc) (hK : va_K D cl tys s) (hP : va_P D cl ws H) (hD : va_D A ws) (hS : va_S A H0 H locs) (q0 t0 : Nat) {cA : ClassId} {n : Nat} {f : Nat → Int64} (ha : ws[q0]? = some (a, .inl (cA, n, .inr (.inl f)))) (ht : tys[t0]? = some (cA, .long)) {i : Int32} {x : Int64} (hin : vp_in i n) (hsame : f i.toNatClampNeg = x) (hdg : decode cc pc = .ok (.lastore, 1))
    (kk : ∀ (H1 : Heap) (locs1 : List Loc), va_P D cl ws H1 → va_D A ws → va_S A H0 H1 locs1 → W p l e R s m args below meth c H1 locs1 cells slots Q (F0 m (pc + 1) ls rest)) : W p l e R s m args below meth c H locs cells slots Q (F0 m pc ls (.long x :: .int i :: .ref a :: rest)) := by
  refine va_last hexec hb hK hP hD hS q0 t0 ha ht hin hdg (fun H1 locs1 h1 h2 h3 => ?_)
  rw [updL_same hsame, set_same ha] at h1
  exact kk H1 locs1 h1 hD h3
theorem tpi {x v : Int32} (h : x = v) (k : W p l e R s m args below meth c H locs cells slots Q (F0 m pc ls (.int v :: rest))) : W p l e R s m args below meth c H locs cells slots Q (F0 m pc ls (.int x :: rest)) := by
  rw [h]; exact k
theorem tpl {x v : Int64} (h : x = v) (k : W p l e R s m args below meth c H locs cells slots Q (F0 m pc ls (.long v :: rest))) : W p l e R s m args below meth c H locs cells slots Q (F0 m pc ls (.long x :: rest)) := by
  rw [h]; exact k
theorem my_iald {v : Int32} (hexec : p.tables.exec = Jvm.exec) (hb : c.code = cc) (hK : va_K D cl tys s) (hP : va_P D cl ws H) (q0 t0 : Nat) {cA : ClassId} {n k : Nat} {f : Nat → Int32} (ha : ws[q0]? = some (a, .inl (cA, n, .inl f))) (ht : tys[t0]? = some (cA, .int)) {i : Int32} (hin : ixp i k n) (hv : f k = v) (hdg : decode cc pc = .ok (.iaload, 1))
    (kk : W p l e R s m args below meth c H locs cells slots Q (F0 m (pc + 1) ls (.int v :: rest))) : W p l e R s m args below meth c H locs cells slots Q (F0 m pc ls (.int i :: .ref a :: rest)) := by
  refine va_iald hexec hb hK hP q0 t0 ha ht hin.1 hdg ?_
  rw [hin.2, hv]; exact kk
theorem my_bald {v : Int32} (hexec : p.tables.exec = Jvm.exec) (hb : c.code = cc) (hK : va_K D cl tys s) (hP : va_P D cl ws H) (q0 t0 : Nat) {cA : ClassId} {n k : Nat} {f : Nat → Int32} (ha : ws[q0]? = some (a, .inl (cA, n, .inl f))) (ht : tys[t0]? = some (cA, .byte)) {i : Int32} (hin : ixp i k n) (hv : f k = v) (hdg : decode cc pc = .ok (.baload, 1))
    (kk : W p l e R s m args below meth c H locs cells slots Q (F0 m (pc + 1) ls (.int v :: rest))) : W p l e R s m args below meth c H locs cells slots Q (F0 m pc ls (.int i :: .ref a :: rest)) := by
  refine va_bald hexec hb hK hP q0 t0 ha ht hin.1 hdg ?_
  rw [hin.2, hv]; exact kk
theorem my_zald {v : Int32} (hexec : p.tables.exec = Jvm.exec) (hb : c.code = cc) (hK : va_K D cl tys s) (hP : va_P D cl ws H) (q0 t0 : Nat) {cA : ClassId} {n k : Nat} {f : Nat → Int32} (ha : ws[q0]? = some (a, .inl (cA, n, .inl f))) (ht : tys[t0]? = some (cA, .boolean)) {i : Int32} (hin : ixp i k n) (hv : f k = v) (hdg : decode cc pc = .ok (.baload, 1))
    (kk : W p l e R s m args below meth c H locs cells slots Q (F0 m (pc + 1) ls (.int v :: rest))) : W p l e R s m args below meth c H locs cells slots Q (F0 m pc ls (.int i :: .ref a :: rest)) := by
  refine va_zald hexec hb hK hP q0 t0 ha ht hin.1 hdg ?_
  rw [hin.2, hv]; exact kk
theorem my_lald {v : Int64} (hexec : p.tables.exec = Jvm.exec) (hb : c.code = cc) (hK : va_K D cl tys s) (hP : va_P D cl ws H) (q0 t0 : Nat) {cA : ClassId} {n k : Nat} {f : Nat → Int64} (ha : ws[q0]? = some (a, .inl (cA, n, .inr (.inl f)))) (ht : tys[t0]? = some (cA, .long)) {i : Int32} (hin : ixp i k n) (hv : f k = v) (hdg : decode cc pc = .ok (.laload, 1))
    (kk : W p l e R s m args below meth c H locs cells slots Q (F0 m (pc + 1) ls (.long v :: rest))) : W p l e R s m args below meth c H locs cells slots Q (F0 m pc ls (.int i :: .ref a :: rest)) := by
  refine va_lald hexec hb hK hP q0 t0 ha ht hin.1 hdg ?_
  rw [hin.2, hv]; exact kk
theorem my_aldq {v : Nat} (hexec : p.tables.exec = Jvm.exec) (hb : c.code = cc) (hK : va_K D cl tys s) (hP : va_P D cl ws H) (q0 t0 : Nat) {cA : ClassId} {C : String} {n k : Nat} {f : Nat → Option Nat} (ha : ws[q0]? = some (a, .inl (cA, n, .inr (.inr (.inr (.inr f)))))) (ht : tys[t0]? = some (cA, .object C)) {i : Int32} (hin : ixp i k n) (hv : f k = some v) (hdg : decode cc pc = .ok (.aaload, 1))
    (kk : W p l e R s m args below meth c H locs cells slots Q (F0 m (pc + 1) ls (.ref v :: rest))) : W p l e R s m args below meth c H locs cells slots Q (F0 m pc ls (.int i :: .ref a :: rest)) := by
  refine va_aldq hexec hb hK hP q0 t0 ha ht hin.1 hdg ?_
  rw [hin.2, hv]; exact kk
theorem my_iast (hexec : p.tables.exec = Jvm.exec) (hb : c.code = cc) (hK : va_K D cl tys s) (hP : va_P D cl ws H) (hD : va_D A ws) (hS : va_S A H0 H locs) (q0 t0 : Nat) {cA : ClassId} {n k : Nat} {f : Nat → Int32} (ha : ws[q0]? = some (a, .inl (cA, n, .inl f))) (ht : tys[t0]? = some (cA, .int)) {i x : Int32} (hin : ixp i k n) (hdg : decode cc pc = .ok (.iastore, 1))
    (kk : ∀ (H1 : Heap) (locs1 : List Loc), va_P D cl (ws.set q0 (a, .inl (cA, n, .inl (upd f k x)))) H1 → va_D A (ws.set q0 (a, .inl (cA, n, .inl (upd f k x)))) → va_S A H0 H1 locs1 → W p l e R s m args below meth c H1 locs1 cells slots Q (F0 m (pc + 1) ls rest)) : W p l e R s m args below meth c H locs cells slots Q (F0 m pc ls (.int x :: .int i :: .ref a :: rest)) := by
  refine va_iast hexec hb hK hP hD hS q0 t0 ha ht hin.1 hdg (fun H1 locs1 h1 h2 h3 => ?_)
  rw [hin.2] at h1 h2
  exact kk H1 locs1 h1 h2 h3
theorem my_bast (hexec : p.tables.exec = Jvm.exec) (hb : c.code = cc) (hK : va_K D cl tys s) (hP : va_P D cl ws H) (hD : va_D A ws) (hS : va_S A H0 H locs) (q0 t0 : Nat) {cA : ClassId} {n k : Nat} {f : Nat → Int32} (ha : ws[q0]? = some (a, .inl (cA, n, .inl f))) (ht : tys[t0]? = some (cA, .byte)) {i x x' : Int32} (hin : ixp i k n) (hz : vp_nar .byte x = x') (hdg : decode cc pc = .ok (.bastore, 1))
    (kk : ∀ (H1 : Heap) (locs1 : List Loc), va_P D cl (ws.set q0 (a, .inl (cA, n, .inl (upd f k x')))) H1 → va_D A (ws.set q0 (a, .inl (cA, n, .inl (upd f k x')))) → va_S A H0 H1 locs1 → W p l e R s m args below meth c H1 locs1 cells slots Q (F0 m (pc + 1) ls rest)) : W p l e R s m args below meth c H locs cells slots Q (F0 m pc ls (.int x :: .int i :: .ref a :: rest)) := by
  refine va_bast hexec hb hK hP hD hS q0 t0 ha ht hin.1 hdg (fun H1 locs1 h1 h2 h3 => ?_)
  rw [hin.2, hz] at h1 h2
  exact kk H1 locs1 h1 h2 h3
theorem my_zast (hexec : p.tables.exec = Jvm.exec) (hb : c.code = cc) (hK : va_K D cl tys s) (hP : va_P D cl ws H) (hD : va_D A ws) (hS : va_S A H0 H locs) (q0 t0 : Nat) {cA : ClassId} {n k : Nat} {f : Nat → Int32} (ha : ws[q0]? = some (a, .inl (cA, n, .inl f))) (ht : tys[t0]? = some (cA, .boolean)) {i x x' : Int32} (hin : ixp i k n) (hz : vp_nar .boolean x = x') (hdg : decode cc pc = .ok (.bastore, 1))
    (kk : ∀ (H1 : Heap) (locs1 : List Loc), va_P D cl (ws.set q0 (a, .inl (cA, n, .inl (upd f k x')))) H1 → va_D A (ws.set q0 (a, .inl (cA, n, .inl (upd f k x')))) → va_S A H0 H1 locs1 → W p l e R s m args below meth c H1 locs1 cells slots Q (F0 m (pc + 1) ls rest)) : W p l e R s m args below meth c H locs cells slots Q (F0 m pc ls (.int x :: .int i :: .ref a :: rest)) := by
  refine va_zast hexec hb hK hP hD hS q0 t0 ha ht hin.1 hdg (fun H1 locs1 h1 h2 h3 => ?_)
  rw [hin.2, hz] at h1 h2
  exact kk H1 locs1 h1 h2 h3
theorem my_last (hexec : p.tables.exec = Jvm.exec) (hb : c.code = cc) (hK : va_K D cl tys s) (hP : va_P D cl ws H) (hD : va_D A ws) (hS : va_S A H0 H locs) (q0 t0 : Nat) {cA : ClassId} {n k : Nat} {f : Nat → Int64} (ha : ws[q0]? = some (a, .inl (cA, n, .inr (.inl f)))) (ht : tys[t0]? = some (cA, .long)) {i : Int32} {x : Int64} (hin : ixp i k n) (hdg : decode cc pc = .ok (.lastore, 1))
    (kk : ∀ (H1 : Heap) (locs1 : List Loc), va_P D cl (ws.set q0 (a, .inl (cA, n, .inr (.inl (vp_updL f k x))))) H1 → va_D A (ws.set q0 (a, .inl (cA, n, .inr (.inl (vp_updL f k x))))) → va_S A H0 H1 locs1 → W p l e R s m args below meth c H1 locs1 cells slots Q (F0 m (pc + 1) ls rest)) : W p l e R s m args below meth c H locs cells slots Q (F0 m pc ls (.long x :: .int i :: .ref a :: rest)) := by
  refine va_last hexec hb hK hP hD hS q0 t0 ha ht hin.1 hdg (fun H1 locs1 h1 h2 h3 => ?_)
  rw [hin.2] at h1 h2
  exact kk H1 locs1 h1 h2 h3
theorem my_astq (hexec : p.tables.exec = Jvm.exec) (hb : c.code = cc) (hK : va_K D cl tys s) (hP : va_P D cl ws H) (hD : va_D A ws) (hS : va_S A H0 H locs) (q0 t0 qk ci : Nat) {cA : ClassId} {r : vw_C} {n k v : Nat} {vs : List Value} {f : Nat → Option Nat} (ha : ws[q0]? = some (a, .inl (cA, n, .inr (.inr (.inr (.inr f)))))) (ht : tys[t0]? = some (cA, .object r.1)) (hv : ws[qk]? = some (v, .inr (ci, vs))) (hc : cl[ci]? = some r) {i : Int32} (hin : ixp i k n) (hdg : decode cc pc = .ok (.aastore, 1))
    (kk : ∀ (H1 : Heap) (locs1 : List Loc), va_P D cl (ws.set q0 (a, .inl (cA, n, .inr (.inr (.inr (.inr (va_up f k (some v)))))))) H1 → va_D A (ws.set q0 (a, .inl (cA, n, .inr (.inr (.inr (.inr (va_up f k (some v)))))))) → va_S A H0 H1 locs1 → W p l e R s m args below meth c H1 locs1 cells slots Q (F0 m (pc + 1) ls rest)) : W p l e R s m args below meth c H locs cells slots Q (F0 m pc ls (.ref v :: .int i :: .ref a :: rest)) := by
  refine va_astq hexec hb hK hP hD hS q0 t0 qk ci ha ht hv hc hin.1 hdg (fun H1 locs1 h1 h2 h3 => ?_)
  rw [hin.2] at h1 h2
  exact kk H1 locs1 h1 h2 h3
theorem my_iastS (hexec : p.tables.exec = Jvm.exec) (hb : c.code = cc) (hK : va_K D cl tys s) (hP : va_P D cl ws H) (hD : va_D A ws) (hS : va_S A H0 H locs) (q0 t0 : Nat) {cA : ClassId} {n k : Nat} {f : Nat → Int32} (ha : ws[q0]? = some (a, .inl (cA, n, .inl f))) (ht : tys[t0]? = some (cA, .int)) {i x : Int32} (hin : ixp i k n) (hsame : f k = x) (hdg : decode cc pc = .ok (.iastore, 1))
    (kk : ∀ (H1 : Heap) (locs1 : List Loc), va_P D cl ws H1 → va_D A ws → va_S A H0 H1 locs1 → W p l e R s m args below meth c H1 locs1 cells slots Q (F0 m (pc + 1) ls rest)) : W p l e R s m args below meth c H locs cells slots Q (F0 m pc ls (.int x :: .int i :: .ref a :: rest)) := va_iastS hexec hb hK hP hD hS q0 t0 ha ht hin.1 (by rw [hin.2]; exact hsame) hdg kk
theorem my_zastS (hexec : p.tables.exec = Jvm.exec) (hb : c.code = cc) (hK : va_K D cl tys s) (hP : va_P D cl ws H) (hD : va_D A ws) (hS : va_S A H0 H locs) (q0 t0 : Nat) {cA : ClassId} {n k : Nat} {f : Nat → Int32} (ha : ws[q0]? = some (a, .inl (cA, n, .inl f))) (ht : tys[t0]? = some (cA, .boolean)) {i x x' : Int32} (hin : ixp i k n) (hz : vp_nar .boolean x = x') (hsame : f k = x') (hdg : decode cc pc = .ok (.bastore, 1))
    (kk : ∀ (H1 : Heap) (locs1 : List Loc), va_P D cl ws H1 → va_D A ws → va_S A H0 H1 locs1 → W p l e R s m args below meth c H1 locs1 cells slots Q (F0 m (pc + 1) ls rest)) : W p l e R s m args below meth c H locs cells slots Q (F0 m pc ls (.int x :: .int i :: .ref a :: rest)) := va_zastS hexec hb hK hP hD hS q0 t0 ha ht hin.1 (by rw [hin.2, hz]; exact hsame) hdg kk
theorem my_lastS (hexec : p.tables.exec = Jvm.exec) (hb : c.code = cc) (hK : va_K D cl tys s) (hP : va_P D cl ws H) (hD : va_D A ws) (hS : va_S A H0 H locs) (q0 t0 : Nat) {cA : ClassId} {n k : Nat} {f : Nat → Int64} (ha : ws[q0]? = some (a, .inl (cA, n, .inr (.inl f)))) (ht : tys[t0]? = some (cA, .long)) {i : Int32} {x : Int64} (hin : ixp i k n) (hsame : f k = x) (hdg : decode cc pc = .ok (.lastore, 1))
    (kk : ∀ (H1 : Heap) (locs1 : List Loc), va_P D cl ws H1 → va_D A ws → va_S A H0 H1 locs1 → W p l e R s m args below meth c H1 locs1 cells slots Q (F0 m (pc + 1) ls rest)) : W p l e R s m args below meth c H locs cells slots Q (F0 m pc ls (.long x :: .int i :: .ref a :: rest)) := va_lastS hexec hb hK hP hD hS q0 t0 ha ht hin.1 (by rw [hin.2]; exact hsame) hdg kk
/-- the array class of a primitive kind is one -/
theorem k_one {D : va_G} {cl : List vw_C} {tys : List (ClassId × FieldType)} {U : State} {t0 : Nat} {c0 cA : ClassId} {ty : FieldType} (hp : ∀ C, ty ≠ .object C) (h1 : tys[t0]? = some (c0, ty)) (h : va_K D cl (tys ++ [(cA, ty)]) U) : cA = c0 := by
  have e1 := (h.2 t0 (c0, ty) (by rw [List.getElem?_append_left (List.getElem?_eq_some_iff.mp h1).1]; exact h1)).2
  have e2 := (h.2 tys.length (cA, ty) (by simp)).2
  cases ty with
  | object C => exact absurd rfl (hp C)
  | _ =>
    simp only [va_RA] at e1 e2
    rw [e1] at e2
    exact (Option.some.inj e2).symm
theorem my_newa (hexec : p.tables.exec = Jvm.exec) (hb : c.code = cc) {atype : ArrayType} (harr : (Cond.arrayClass (newarray.typeOf atype)).before args s = true) {ty : FieldType} (hty : newarray.typeOf atype = ty) (hK : va_K D cl tys s) (hP : va_P D cl ws H) (hD : va_D A ws) (hS : va_S A H0 H locs) (hA : ∀ q, H0.size ≤ q → A q)
    (t0 : Nat) {c0 : ClassId} (ht : tys[t0]? = some (c0, ty)) (hpr : ∀ C, ty ≠ .object C) {n : Int32} {N' : Nat} {a0 : vp_A} (ha : ∀ cA : ClassId, vp_cell cA a0 = arrV cA N' (fun _ => defaultValue ty)) (hn : ¬ n < 0) (hN : n.toNatClampNeg = N') (hbytes : N' * componentBytes ty ≤ 536870912) (hcells : cells + 1 ≤ R.cells) (hslots : slots + N' ≤ R.slots) (hdg : decode cc pc = .ok (.newarray atype, 2))
    (kk : ∀ (q : Nat) (H1 : Heap), va_P D cl (ws ++ [(q, .inl (c0, a0))]) H1 → va_D A (ws ++ [(q, .inl (c0, a0))]) → va_S A H0 H1 locs →
      W p l e R s m args below meth c H1 locs (cells + 1) (slots + N') Q (F0 m (pc + 2) ls (.ref q :: rest))) : W p l e R s m args below meth c H locs cells slots Q (F0 m pc ls (.int n :: rest)) := by
  refine va_newa hexec hb harr hty hK hP hD hS hA ha hn hN hbytes hcells hslots hdg (fun q cA H1 hK1 hP1 hD1 hS1 => ?_)
  obtain rfl := k_one hpr ht hK1
  exact kk q H1 hP1 hD1 hS1
end
section
variable {p : Program} {l : Launch} {e : Env} {R : Room} {s : State} {m : MethodId} {args : Array Value} {below : List Frame} {meth : Method} {c : Code} {H : Heap} {locs : List Loc} {cells slots : Nat} {cc : ByteArray} {pc : Nat} {ls : Array Slot} {D : va_G} {A : Nat → Prop} {w1 : (Nat → Nat) → va_W} {u : Nat → Nat}
theorem ret_i {v : Int32} (hx : p.tables.exec = Jvm.exec) (hb : c.code = cc) (hr : meth.sig.returnType = some .int) (hlocks : meth.locks = false) (hS : va_S A s.heap H locs) (hP : va_P D vwCl (w1 u) H) (hD : va_D A (w1 u)) (hdg : decode cc pc = .ok (.ireturn, 1)) : W p l e R s m args below meth c H locs cells slots (MQ below (qi D w1 v A) args s cells slots A) (F0 m pc ls [.int v]) :=
  W.iret hx hb hr (fun t ht _ => ⟨⟨v, u, rfl, rfl, by rw [ht]; exact hP, hD⟩, hS.F ht⟩) hS.2.2 hdg hlocks
theorem ret_z {v : Int32} (hx : p.tables.exec = Jvm.exec) (hb : c.code = cc) (hr : meth.sig.returnType = some .boolean) (hn : narrow .boolean (.int v) = .int v) (hlocks : meth.locks = false) (hS : va_S A s.heap H locs) (hP : va_P D vwCl (w1 u) H) (hD : va_D A (w1 u)) (hdg : decode cc pc = .ok (.ireturn, 1)) : W p l e R s m args below meth c H locs cells slots (MQ below (qi D w1 v A) args s cells slots A) (F0 m pc ls [.int v]) :=
  W.zret hx hb hr hn (fun t ht _ => ⟨⟨v, u, rfl, rfl, by rw [ht]; exact hP, hD⟩, hS.F ht⟩) hS.2.2 hdg hlocks
theorem ret_l {v : Int64} (hx : p.tables.exec = Jvm.exec) (hb : c.code = cc) (hr : meth.sig.returnType = some .long) (hlocks : meth.locks = false) (hS : va_S A s.heap H locs) (hP : va_P D vwCl (w1 u) H) (hD : va_D A (w1 u)) (hdg : decode cc pc = .ok (.lreturn, 1)) : W p l e R s m args below meth c H locs cells slots (MQ below (ql D w1 v A) args s cells slots A) (F0 m pc ls [.long v]) :=
  W.lret hx hb hr (fun t ht _ => ⟨⟨v, u, rfl, rfl, by rw [ht]; exact hP, hD⟩, hS.F ht⟩) hS.2.2 hdg hlocks
theorem ret_v (hx : p.tables.exec = Jvm.exec) (hb : c.code = cc) (hr : meth.sig.returnType = none) (hlocks : meth.locks = false) (hS : va_S A s.heap H locs) (hP : va_P D vwCl (w1 u) H) (hD : va_D A (w1 u)) (hdg : decode cc pc = .ok (.return_, 1)) : W p l e R s m args below meth c H locs cells slots (MQ below (qv D w1 A) args s cells slots A) (F0 m pc ls []) :=
  W.vret hx hb hr (fun t ht _ => ⟨⟨u, rfl, trivial, by rw [ht]; exact hP, hD⟩, hS.F ht⟩) hS.2.2 hdg hlocks
theorem ret_r {v : Nat} {C : String} (hx : p.tables.exec = Jvm.exec) (hb : c.code = cc) (hr : meth.sig.returnType = some (.object C)) (hlocks : meth.locks = false) (hS : va_S A s.heap H locs) (hP : va_P D vwCl (w1 u) H) (hD : va_D A (w1 u)) (hdg : decode cc pc = .ok (.areturn, 1)) : W p l e R s m args below meth c H locs cells slots (MQ below (qr D w1 v A) args s cells slots A) (F0 m pc ls [.ref v]) :=
  W.aret hx hb hr (Or.inl ⟨C, rfl⟩) (Or.inr ⟨v, rfl⟩) (fun t ht _ => ⟨⟨u, v, rfl, trivial, rfl, by rw [ht]; exact hP, hD⟩, hS.F ht⟩) hS.2.2 hdg hlocks
end
theorem pre_blind {av : List Value} {D : va_G} {tys : List (ClassId × FieldType)} {ws : va_W} {sz : Nat} : FrameBlind (va_Pc av (cpre D tys ws sz)) := fun a U g mk q => by
  obtain ⟨q0, q1, qP, qK, qD⟩ := q
  exact ⟨q0, q1, qP, va_K.moved (u := U) (U := U.calling g mk a) (Vm.Alike.refl U.vm) qK, qD⟩
theorem nd_of_sub {isC : List Nat} {ws wc : va_W} {A : Nat → Prop} (hD : va_D A ws) (hn : va_nd isC = true) (hC : isC.map (fun i => ws[i]?) = wc.map some) : va_D (fun _ => True) wc := (hD.sub isC hn hC).weaken (fun _ _ _ _ => trivial)
theorem P_of_map {isC : List Nat} {ws wc : va_W} {D : va_G} {cl : List vw_C} {H : Heap} (hP : va_P D cl ws H) (hC : isC.map (fun i => ws[i]?) = wc.map some) : va_P D cl wc H := by
  intro k q hk
  have h1 : (isC.map (fun i => ws[i]?))[k]? = some (some q) := by rw [hC, List.getElem?_map, hk]; rfl
  rw [List.getElem?_map] at h1
  cases hi : isC[k]? with
  | none => rw [hi] at h1; cases h1
  | some i => rw [hi] at h1; exact hP i q (Option.some.inj h1)
section
variable {p : Program} {l : Launch} {e : Env} {R : Room} {s : State} {m : MethodId} {args : Array Value} {below : List Frame} {meth : Method} {c : Code} {H : Heap} {locs : List Loc} {cells slots : Nat} {Q : State → Prop} {cc : ByteArray} {pc nL : Nat} {ls : Array Slot} {rest : List Value} {D : va_G} {tys : List (ClassId × FieldType)} {ws : va_W} {A : Nat → Prop} {H0 : Heap}
  {own : String} {Ts : List Cond} {y : MethodName} {w : List Cond} {rm : Room} {As st0 : List Value} {wc wr : va_W} {w1 : (Nat → Nat) → va_W} {index maxL n : Nat} {bytes : ByteArray} {ret : Option FieldType} {C : String} {ci b : Nat} {fs : List Value} {q : vw_C}
theorem preV_of (hK : va_K D vwCl tys s) (hP : va_P D vwCl ws H) (hD : va_D A ws) (isC : List Nat) (hC : isC.map (fun i => ws[i]?) = wc.map some) (hnC : va_nd isC = true) (hcl : vwCl[ci]? = some q) (hq : q.1 = C) (hrec : wc[0]? = some (b, .inr (ci, fs))) : PreV s H C b (va_Pc (.ref b :: As) (cpre D tys wc H.size)) As := by
  have hPc := P_of_map hP hC
  subst hq
  exact ⟨pre_blind, va_recv hK hPc hcl hrec, fun U hU hW => ⟨rfl, by rw [hU], by rw [hU]; exact hPc, va_K.moved hW.alike hK, nd_of_sub hD hnC hC⟩⟩
theorem preS_of (hK : va_K D vwCl tys s) (hP : va_P D vwCl ws H) (hD : va_D A ws) (isC : List Nat) (hC : isC.map (fun i => ws[i]?) = wc.map some) (hnC : va_nd isC = true) : PreS s H (va_Pc As (cpre D tys wc H.size)) As :=
  ⟨pre_blind, fun U hU hW => ⟨rfl, by rw [hU], by rw [hU]; exact P_of_map hP hC, va_K.moved hW.alike hK, nd_of_sub hD hnC hC⟩⟩
theorem call_iV {v : Int32} (S : CallFix p m c cc nL s args Ts own) (hM : CI l y w rm D tys (.ref b :: As) wc w1 v) (cw : CallW R s args own C index y bytes maxL ret w rm rm.cells rm.slots n) (hK : va_K D vwCl tys s) (hP : va_P D vwCl ws H) (hD : va_D A ws) (hS : va_S A H0 H locs) (hA : ∀ q, H0.size ≤ q → A q) (isC isR : List Nat) (hC : isC.map (fun i => ws[i]?) = wc.map some) (hR : isR.map (fun i => ws[i]?) = wr.map some) (hnC : va_nd isC = true) (hnR : va_nd isR = true) (hdis : ∀ i ∈ isR, i ∉ isC) (hcl : vwCl[ci]? = some q) (hq : q.1 = C) (hrec : wc[0]? = some (b, .inr (ci, fs)))
    (hls : ls.size = nL) (hroom : (rest.map fun v => v.category).sum ≤ 8) (hlen : As.length = n) (hst : st0 = As.reverse ++ .ref b :: rest) (hdg : decode cc pc = .ok (.invokevirtual index, 3)) (hf : cells + rm.cells ≤ R.cells ∧ slots + rm.slots ≤ R.slots)
    (kk : ∀ (u : Nat → Nat) (H1 : Heap) (locs1 : List Loc), va_P D vwCl (wr ++ w1 u) H1 → va_D A (wr ++ w1 u) → va_S A H0 H1 locs1 → W p l e R s m args below meth c H1 locs1 (cells + rm.cells) (slots + rm.slots) Q (F0 m (pc + 3) ls (.int v :: rest))) : W p l e R s m args below meth c H locs cells slots Q (F0 m pc ls st0) := by
  have hFc := va_free (wc := wc) hD hS hA isC hC
  refine va_calli (va_runV S (hM H.size) cw (preV_of hK hP hD isC hC hnC hcl hq hrec) rfl hlen hls hst (lv_room hroom) hdg hf) hS (fun q _ h => hFc q h) hFc (fun r u t H1 locs ht hvm hw hB hz1 hk1 hS => ?_)
  subst hw
  obtain ⟨hP1, hD1⟩ := hB
  rw [ht] at hP1
  obtain ⟨hP2, hD2⟩ := va_join hP hD isC isR hC hR hnR hdis hk1 hFc hP1 hD1
  exact kk u H1 locs hP2 hD2 hS
theorem call_lV {v : Int64} (S : CallFix p m c cc nL s args Ts own) (hM : CL l y w rm D tys (.ref b :: As) wc w1 v) (cw : CallW R s args own C index y bytes maxL ret w rm rm.cells rm.slots n) (hK : va_K D vwCl tys s) (hP : va_P D vwCl ws H) (hD : va_D A ws) (hS : va_S A H0 H locs) (hA : ∀ q, H0.size ≤ q → A q) (isC isR : List Nat) (hC : isC.map (fun i => ws[i]?) = wc.map some) (hR : isR.map (fun i => ws[i]?) = wr.map some) (hnC : va_nd isC = true) (hnR : va_nd isR = true) (hdis : ∀ i ∈ isR, i ∉ isC) (hcl : vwCl[ci]? = some q) (hq : q.1 = C) (hrec : wc[0]? = some (b, .inr (ci, fs)))
    (hls : ls.size = nL) (hroom : (rest.map fun v => v.category).sum ≤ 8) (hlen : As.length = n) (hst : st0 = As.reverse ++ .ref b :: rest) (hdg : decode cc pc = .ok (.invokevirtual index, 3)) (hf : cells + rm.cells ≤ R.cells ∧ slots + rm.slots ≤ R.slots)
    (kk : ∀ (u : Nat → Nat) (H1 : Heap) (locs1 : List Loc), va_P D vwCl (wr ++ w1 u) H1 → va_D A (wr ++ w1 u) → va_S A H0 H1 locs1 → W p l e R s m args below meth c H1 locs1 (cells + rm.cells) (slots + rm.slots) Q (F0 m (pc + 3) ls (.long v :: rest))) : W p l e R s m args below meth c H locs cells slots Q (F0 m pc ls st0) := by
  have hFc := va_free (wc := wc) hD hS hA isC hC
  refine va_calll (va_runV S (hM H.size) cw (preV_of hK hP hD isC hC hnC hcl hq hrec) rfl hlen hls hst (lv_room hroom) hdg hf) hS (fun q _ h => hFc q h) hFc (fun r u t H1 locs ht hvm hw hB hz1 hk1 hS => ?_)
  subst hw
  obtain ⟨hP1, hD1⟩ := hB
  rw [ht] at hP1
  obtain ⟨hP2, hD2⟩ := va_join hP hD isC isR hC hR hnR hdis hk1 hFc hP1 hD1
  exact kk u H1 locs hP2 hD2 hS
theorem call_vV (S : CallFix p m c cc nL s args Ts own) (hM : CV l y w rm D tys (.ref b :: As) wc w1) (cw : CallW R s args own C index y bytes maxL ret w rm rm.cells rm.slots n) (hK : va_K D vwCl tys s) (hP : va_P D vwCl ws H) (hD : va_D A ws) (hS : va_S A H0 H locs) (hA : ∀ q, H0.size ≤ q → A q) (isC isR : List Nat) (hC : isC.map (fun i => ws[i]?) = wc.map some) (hR : isR.map (fun i => ws[i]?) = wr.map some) (hnC : va_nd isC = true) (hnR : va_nd isR = true) (hdis : ∀ i ∈ isR, i ∉ isC) (hcl : vwCl[ci]? = some q) (hq : q.1 = C) (hrec : wc[0]? = some (b, .inr (ci, fs)))
    (hls : ls.size = nL) (hroom : (rest.map fun v => v.category).sum ≤ 8) (hlen : As.length = n) (hst : st0 = As.reverse ++ .ref b :: rest) (hdg : decode cc pc = .ok (.invokevirtual index, 3)) (hf : cells + rm.cells ≤ R.cells ∧ slots + rm.slots ≤ R.slots)
    (kk : ∀ (u : Nat → Nat) (H1 : Heap) (locs1 : List Loc), va_P D vwCl (wr ++ w1 u) H1 → va_D A (wr ++ w1 u) → va_S A H0 H1 locs1 → W p l e R s m args below meth c H1 locs1 (cells + rm.cells) (slots + rm.slots) Q (F0 m (pc + 3) ls rest)) : W p l e R s m args below meth c H locs cells slots Q (F0 m pc ls st0) := by
  have hFc := va_free (wc := wc) hD hS hA isC hC
  refine va_callv (va_runV S (hM H.size) cw (preV_of hK hP hD isC hC hnC hcl hq hrec) rfl hlen hls hst (lv_room hroom) hdg hf) hS (fun q _ h => hFc q h) hFc (fun u t H1 locs ht hvm hw hB hz1 hk1 hS => ?_)
  obtain ⟨hP1, hD1⟩ := hB
  rw [ht] at hP1
  obtain ⟨hP2, hD2⟩ := va_join hP hD isC isR hC hR hnR hdis hk1 hFc hP1 hD1
  exact kk u H1 locs hP2 hD2 hS
theorem call_rV {v : Nat} (S : CallFix p m c cc nL s args Ts own) (hM : CR l y w rm D tys (.ref b :: As) wc w1 v) (cw : CallW R s args own C index y bytes maxL ret w rm rm.cells rm.slots n) (hK : va_K D vwCl tys s) (hP : va_P D vwCl ws H) (hD : va_D A ws) (hS : va_S A H0 H locs) (hA : ∀ q, H0.size ≤ q → A q) (isC isR : List Nat) (hC : isC.map (fun i => ws[i]?) = wc.map some) (hR : isR.map (fun i => ws[i]?) = wr.map some) (hnC : va_nd isC = true) (hnR : va_nd isR = true) (hdis : ∀ i ∈ isR, i ∉ isC) (hcl : vwCl[ci]? = some q) (hq : q.1 = C) (hrec : wc[0]? = some (b, .inr (ci, fs)))
    (hls : ls.size = nL) (hroom : (rest.map fun v => v.category).sum ≤ 8) (hlen : As.length = n) (hst : st0 = As.reverse ++ .ref b :: rest) (hdg : decode cc pc = .ok (.invokevirtual index, 3)) (hf : cells + rm.cells ≤ R.cells ∧ slots + rm.slots ≤ R.slots)
    (kk : ∀ (u : Nat → Nat) (H1 : Heap) (locs1 : List Loc), va_P D vwCl (wr ++ w1 u) H1 → va_D A (wr ++ w1 u) → va_S A H0 H1 locs1 → W p l e R s m args below meth c H1 locs1 (cells + rm.cells) (slots + rm.slots) Q (F0 m (pc + 3) ls (.ref v :: rest))) : W p l e R s m args below meth c H locs cells slots Q (F0 m pc ls st0) := by
  have hFc := va_free (wc := wc) hD hS hA isC hC
  refine va_callr (va_runV S (hM H.size) cw (preV_of hK hP hD isC hC hnC hcl hq hrec) rfl hlen hls hst (lv_room hroom) hdg hf) hS (fun q _ h => hFc q h) hFc (fun u ra t H1 locs ht hvm hw hB hz1 hk1 hS => ?_)
  obtain ⟨hra, hP1, hD1⟩ := hB
  subst hra
  rw [ht] at hP1
  obtain ⟨hP2, hD2⟩ := va_join hP hD isC isR hC hR hnR hdis hk1 hFc hP1 hD1
  exact kk u H1 locs hP2 hD2 hS
theorem call_iS {v : Int32} (S : CallFix p m c cc nL s args Ts own) (hM : CI l y w rm D tys As wc w1 v) (cw : CallB R s args own index y bytes maxL ret w rm rm.cells rm.slots n ∧ (Cond.static y).before args s = true) (hK : va_K D vwCl tys s) (hP : va_P D vwCl ws H) (hD : va_D A ws) (hS : va_S A H0 H locs) (hA : ∀ q, H0.size ≤ q → A q) (isC isR : List Nat) (hC : isC.map (fun i => ws[i]?) = wc.map some) (hR : isR.map (fun i => ws[i]?) = wr.map some) (hnC : va_nd isC = true) (hnR : va_nd isR = true) (hdis : ∀ i ∈ isR, i ∉ isC)
    (hls : ls.size = nL) (hroom : (rest.map fun v => v.category).sum ≤ 8) (hlen : As.length = n) (hst : st0 = As.reverse ++ rest) (hdg : decode cc pc = .ok (.invokestatic index, 3)) (hf : cells + rm.cells ≤ R.cells ∧ slots + rm.slots ≤ R.slots)
    (kk : ∀ (u : Nat → Nat) (H1 : Heap) (locs1 : List Loc), va_P D vwCl (wr ++ w1 u) H1 → va_D A (wr ++ w1 u) → va_S A H0 H1 locs1 → W p l e R s m args below meth c H1 locs1 (cells + rm.cells) (slots + rm.slots) Q (F0 m (pc + 3) ls (.int v :: rest))) : W p l e R s m args below meth c H locs cells slots Q (F0 m pc ls st0) := by
  have hFc := va_free (wc := wc) hD hS hA isC hC
  refine va_calli (va_runS S (hM H.size) cw (preS_of hK hP hD isC hC hnC) rfl hlen hls hst (lv_room hroom) hdg hf) hS (fun q _ h => hFc q h) hFc (fun r u t H1 locs ht hvm hw hB hz1 hk1 hS => ?_)
  subst hw
  obtain ⟨hP1, hD1⟩ := hB
  rw [ht] at hP1
  obtain ⟨hP2, hD2⟩ := va_join hP hD isC isR hC hR hnR hdis hk1 hFc hP1 hD1
  exact kk u H1 locs hP2 hD2 hS
theorem call_vS (S : CallFix p m c cc nL s args Ts own) (hM : CV l y w rm D tys As wc w1) (cw : CallB R s args own index y bytes maxL ret w rm rm.cells rm.slots n ∧ (Cond.static y).before args s = true) (hK : va_K D vwCl tys s) (hP : va_P D vwCl ws H) (hD : va_D A ws) (hS : va_S A H0 H locs) (hA : ∀ q, H0.size ≤ q → A q) (isC isR : List Nat) (hC : isC.map (fun i => ws[i]?) = wc.map some) (hR : isR.map (fun i => ws[i]?) = wr.map some) (hnC : va_nd isC = true) (hnR : va_nd isR = true) (hdis : ∀ i ∈ isR, i ∉ isC)
    (hls : ls.size = nL) (hroom : (rest.map fun v => v.category).sum ≤ 8) (hlen : As.length = n) (hst : st0 = As.reverse ++ rest) (hdg : decode cc pc = .ok (.invokestatic index, 3)) (hf : cells + rm.cells ≤ R.cells ∧ slots + rm.slots ≤ R.slots)
    (kk : ∀ (u : Nat → Nat) (H1 : Heap) (locs1 : List Loc), va_P D vwCl (wr ++ w1 u) H1 → va_D A (wr ++ w1 u) → va_S A H0 H1 locs1 → W p l e R s m args below meth c H1 locs1 (cells + rm.cells) (slots + rm.slots) Q (F0 m (pc + 3) ls rest)) : W p l e R s m args below meth c H locs cells slots Q (F0 m pc ls st0) := by
  have hFc := va_free (wc := wc) hD hS hA isC hC
  refine va_callv (va_runS S (hM H.size) cw (preS_of hK hP hD isC hC hnC) rfl hlen hls hst (lv_room hroom) hdg hf) hS (fun q _ h => hFc q h) hFc (fun u t H1 locs ht hvm hw hB hz1 hk1 hS => ?_)
  obtain ⟨hP1, hD1⟩ := hB
  rw [ht] at hP1
  obtain ⟨hP2, hD2⟩ := va_join hP hD isC isR hC hR hnR hdis hk1 hFc hP1 hD1
  exact kk u H1 locs hP2 hD2 hS
theorem call_vI (S : CallFix p m c cc nL s args Ts own) (hM : CV l y w rm D tys (.ref b :: As) wc w1) (cw : CallB R s args own index y bytes maxL none w rm rm.cells rm.slots n ∧ y.name = "<init>" ∧ (Cond.instanceMethod y).before args s = true) (hK : va_K D vwCl tys s) (hP : va_P D vwCl ws H) (hD : va_D A ws) (hS : va_S A H0 H locs) (hA : ∀ q, H0.size ≤ q → A q) (isC isR : List Nat) (hC : isC.map (fun i => ws[i]?) = wc.map some) (hR : isR.map (fun i => ws[i]?) = wr.map some) (hnC : va_nd isC = true) (hnR : va_nd isR = true) (hdis : ∀ i ∈ isR, i ∉ isC)
    (hls : ls.size = nL) (hroom : (rest.map fun v => v.category).sum ≤ 8) (hlen : As.length = n) (hst : st0 = As.reverse ++ .ref b :: rest) (hdg : decode cc pc = .ok (.invokespecial index, 3)) (hf : cells + rm.cells ≤ R.cells ∧ slots + rm.slots ≤ R.slots)
    (kk : ∀ (u : Nat → Nat) (H1 : Heap) (locs1 : List Loc), va_P D vwCl (wr ++ w1 u) H1 → va_D A (wr ++ w1 u) → va_S A H0 H1 locs1 → W p l e R s m args below meth c H1 locs1 (cells + rm.cells) (slots + rm.slots) Q (F0 m (pc + 3) ls rest)) : W p l e R s m args below meth c H locs cells slots Q (F0 m pc ls st0) := by
  have hFc := va_free (wc := wc) hD hS hA isC hC
  refine va_callv (va_runI S (hM H.size) cw (preS_of hK hP hD isC hC hnC) rfl hlen hls hst (lv_room hroom) hdg hf) hS (fun q _ h => hFc q h) hFc (fun u t H1 locs ht hvm hw hB hz1 hk1 hS => ?_)
  obtain ⟨hP1, hD1⟩ := hB
  rw [ht] at hP1
  obtain ⟨hP2, hD2⟩ := va_join hP hD isC isR hC hR hnR hdis hk1 hFc hP1 hD1
  exact kk u H1 locs hP2 hD2 hS
theorem call_vIN {host : String} (S : CallFix p m c cc nL s args Ts own) (hM : CV l y w rm D tys (.ref b :: As) wc w1) (cw : va_CN R s args own index y host bytes maxL none w rm rm.cells rm.slots n ∧ y.name = "<init>" ∧ (Cond.instanceMethod y).before args s = true) (hK : va_K D vwCl tys s) (hP : va_P D vwCl ws H) (hD : va_D A ws) (hS : va_S A H0 H locs) (hA : ∀ q, H0.size ≤ q → A q) (isC isR : List Nat) (hC : isC.map (fun i => ws[i]?) = wc.map some) (hR : isR.map (fun i => ws[i]?) = wr.map some) (hnC : va_nd isC = true) (hnR : va_nd isR = true) (hdis : ∀ i ∈ isR, i ∉ isC)
    (hls : ls.size = nL) (hroom : (rest.map fun v => v.category).sum ≤ 8) (hlen : As.length = n) (hst : st0 = As.reverse ++ .ref b :: rest) (hdg : decode cc pc = .ok (.invokespecial index, 3)) (hf : cells + rm.cells ≤ R.cells ∧ slots + rm.slots ≤ R.slots)
    (kk : ∀ (u : Nat → Nat) (H1 : Heap) (locs1 : List Loc), va_P D vwCl (wr ++ w1 u) H1 → va_D A (wr ++ w1 u) → va_S A H0 H1 locs1 → W p l e R s m args below meth c H1 locs1 (cells + rm.cells) (slots + rm.slots) Q (F0 m (pc + 3) ls rest)) : W p l e R s m args below meth c H locs cells slots Q (F0 m pc ls st0) := by
  have hFc := va_free (wc := wc) hD hS hA isC hC
  refine va_callv (va_runIN S (hM H.size) cw (preS_of hK hP hD isC hC hnC) rfl hlen hls hst (lv_room hroom) hdg hf) hS (fun q _ h => hFc q h) hFc (fun u t H1 locs ht hvm hw hB hz1 hk1 hS => ?_)
  obtain ⟨hP1, hD1⟩ := hB
  rw [ht] at hP1
  obtain ⟨hP2, hD2⟩ := va_join hP hD isC isR hC hR hnR hdis hk1 hFc hP1 hD1
  exact kk u H1 locs hP2 hD2 hS
end

abbrev fX (r : Nat → Nat) : List Value := [.ref (r 1), .int 0, .ref (r 2), .ref (r 18), .ref (r 28), .ref (r 38), .ref (r 45), .ref (r 55), .ref (r 58), .ref (r 61), .ref (r 65), .ref (r 70), .ref (r 75), .int 0, .ref (r 80), .ref (r 86), .int 0, .ref (r 87)]
abbrev fM (n : Nat → Nat) : List Value := [.ref (n 1), .ref (n 2), .int 0, .int 0, .int 0, .int (-1), .int 0, .int 0, .int 0, .int 0, .long 0, .ref (n 3), .ref (n 4), .ref (n 5), .ref (n 6), .ref (n 7), .ref (n 8), .ref (n 9), .ref (n 10), .ref (n 11), .ref (n 12), .ref (n 13), .ref (n 14), .ref (n 15), .ref (n 16), .ref (n 17), .ref (n 18), .ref (n 19), .ref (n 20), .int 0, .int 0, .ref (n 21), .ref (n 22), .ref (n 23), .ref (n 24), .ref (n 25), .ref (n 26), .ref (n 27), .ref (n 28), .int 0, .ref (n 29), .ref (n 30), .int 0, .int 0, .ref (n 31), .ref (n 32), .ref (n 33), .ref (n 34), .int 0, .int 0, .int 0, .long 0, .ref (n 35), .ref (n 36), .int (-1), .int 0, .int 0, .int 0, .ref (n 37), .int 0, .ref (n 38), .ref (n 39), .ref (n 40), .ref (n 41), .ref (n 42), .ref (n 43), .int 0, .int 0, .ref (n 44), .ref (n 45), .ref (n 46)]
theorem dfX0 : ∀ j, j < 9 → defaultValue (tyX0 j) = vp_V [.null, .int 0, .null, .null, .null, .null, .null, .int 0, .int 0] j := by decide +kernel
theorem dfX1 : ∀ j, j < 4 → defaultValue (tyX1 j) = vp_V [.int 0, .null, .int 0, .null] j := by decide +kernel
theorem dfX2 : ∀ j, j < 4 → defaultValue (tyX2 j) = vp_V [.null, .null, .null, .null] j := by decide +kernel
theorem dfX3 : ∀ j, j < 9 → defaultValue (tyX3 j) = vp_V [.null, .null, .null, .int 0, .int 0, .int 0, .int 0, .int 0, .int 0] j := by decide +kernel
theorem dfX4 : ∀ j, j < 16 → defaultValue (tyX4 j) = vp_V [.int 0, .null, .null, .int 0, .null, .null, .int 0, .null, .null, .int 0, .null, .null, .int 0, .int 0, .int 0, .null] j := by decide +kernel
theorem dfX5 : ∀ j, j < 2 → defaultValue (tyX5 j) = vp_V [.null, .null] j := by decide +kernel
theorem dfX6 : ∀ j, j < 7 → defaultValue (tyX6 j) = vp_V [.int 0, .int 0, .null, .null, .null, .null, .null] j := by decide +kernel
theorem dfX7 : ∀ j, j < 3 → defaultValue (tyX7 j) = vp_V [.null, .int 0, .null] j := by decide +kernel
theorem dfX8 : ∀ j, j < 10 → defaultValue (tyX8 j) = vp_V [.null, .null, .int 0, .int 0, .int 0, .int 0, .long 0, .int 0, .int 0, .int 0] j := by decide +kernel
theorem dfX9 : ∀ j, j < 11 → defaultValue (tyX9 j) = vp_V [.int 0, .int 0, .null, .null, .null, .null, .int 0, .int 0, .int 0, .int 0, .int 0] j := by decide +kernel
theorem dfX10 : ∀ j, j < 18 → defaultValue (tyX10 j) = vp_V [.null, .int 0, .null, .null, .null, .null, .null, .null, .null, .null, .null, .null, .null, .int 0, .null, .null, .int 0, .null] j := by decide +kernel
theorem dfX11 : ∀ j, j < 71 → defaultValue (tyX11 j) = vp_V [.null, .null, .int 0, .int 0, .int 0, .int 0, .int 0, .int 0, .int 0, .int 0, .long 0, .null, .null, .null, .null, .null, .null, .null, .null, .null, .null, .null, .null, .null, .null, .null, .null, .null, .null, .int 0, .int 0, .null, .null, .null, .null, .null, .null, .null, .null, .int 0, .null, .null, .int 0, .int 0, .null, .null, .null, .null, .int 0, .int 0, .int 0, .long 0, .null, .null, .int 0, .int 0, .int 0, .int 0, .null, .int 0, .null, .null, .null, .null, .null, .null, .int 0, .int 0, .null, .null, .null] j := by decide +kernel
theorem z0 : (Int16.ofInt 1600).toInt32 = 1600 := by decide +kernel
theorem z1 : ¬ (1600 : Int32) < 0 := by decide +kernel
theorem z2 : (1600 : Int32).toNatClampNeg = 1600 := by decide +kernel
theorem z3 : 1600 * componentBytes .byte ≤ 536870912 := by decide +kernel
theorem z4 : (Int8.ofInt 6).toInt32 = 6 := by decide +kernel
theorem z5 : ¬ (6 : Int32) < 0 := by decide +kernel
theorem z6 : (6 : Int32).toNatClampNeg = 6 := by decide +kernel
theorem z7 : 6 * componentBytes .long ≤ 536870912 := by decide +kernel
theorem z8 : Int32.ofInt 0 = 0 := by decide +kernel
theorem z9 : ¬ (4 : Int32) ≤ 0 := by decide +kernel
theorem z10 : ((9 : Nat) : Int) + 23 = ((32 : Nat) : Int) := by decide +kernel
theorem z11 : Int32.ofInt 5 = 5 := by decide +kernel
theorem z12 : (0 : Int64) <<< ((5 : Int32).toInt64 &&& 63) = 0 := by decide +kernel
theorem z13 : (Int8.ofInt 96).toInt32 = 96 := by decide +kernel
theorem z14 : (119 : Int32) - 96 = 23 := by decide +kernel
theorem z15 : (23 : Int32).toInt64 = 23 := by decide +kernel
theorem z16 : (0 : Int64) ||| 23 = 23 := by decide +kernel
theorem z17 : (0 : Int32) + Int32.ofInt 1 = 1 := by decide +kernel
theorem z18 : ((29 : Nat) : Int) + (-25) = ((4 : Nat) : Int) := by decide +kernel
theorem z19 : ¬ (4 : Int32) ≤ 1 := by decide +kernel
theorem z20 : (23 : Int64) <<< ((5 : Int32).toInt64 &&& 63) = 736 := by decide +kernel
theorem z21 : (111 : Int32) - 96 = 15 := by decide +kernel
theorem z22 : (15 : Int32).toInt64 = 15 := by decide +kernel
theorem z23 : (736 : Int64) ||| 15 = 751 := by decide +kernel
theorem z24 : (1 : Int32) + Int32.ofInt 1 = 2 := by decide +kernel
theorem z25 : ¬ (4 : Int32) ≤ 2 := by decide +kernel
theorem z26 : (751 : Int64) <<< ((5 : Int32).toInt64 &&& 63) = 24032 := by decide +kernel
theorem z27 : (114 : Int32) - 96 = 18 := by decide +kernel
theorem z28 : (18 : Int32).toInt64 = 18 := by decide +kernel
theorem z29 : (24032 : Int64) ||| 18 = 24050 := by decide +kernel
theorem z30 : (2 : Int32) + Int32.ofInt 1 = 3 := by decide +kernel
theorem z31 : ¬ (4 : Int32) ≤ 3 := by decide +kernel
theorem z32 : (24050 : Int64) <<< ((5 : Int32).toInt64 &&& 63) = 769600 := by decide +kernel
theorem z33 : (100 : Int32) - 96 = 4 := by decide +kernel
theorem z34 : (4 : Int32).toInt64 = 4 := by decide +kernel
theorem z35 : (769600 : Int64) ||| 4 = 769604 := by decide +kernel
theorem z36 : (3 : Int32) + Int32.ofInt 1 = 4 := by decide +kernel
theorem z37 : (4 : Int32) ≤ 4 := by decide +kernel
theorem z38 : ixp 0 0 6 := ⟨vin _ _ (by decide +kernel), by decide +kernel⟩
theorem z39 : Int32.ofInt 1 = 1 := by decide +kernel
theorem z40 : (112 : Int32) - 96 = 16 := by decide +kernel
theorem z41 : (16 : Int32).toInt64 = 16 := by decide +kernel
theorem z42 : (0 : Int64) ||| 16 = 16 := by decide +kernel
theorem z43 : (16 : Int64) <<< ((5 : Int32).toInt64 &&& 63) = 512 := by decide +kernel
theorem z44 : (97 : Int32) - 96 = 1 := by decide +kernel
theorem z45 : (1 : Int32).toInt64 = 1 := by decide +kernel
theorem z46 : (512 : Int64) ||| 1 = 513 := by decide +kernel
theorem z47 : (513 : Int64) <<< ((5 : Int32).toInt64 &&& 63) = 16416 := by decide +kernel
theorem z48 : (105 : Int32) - 96 = 9 := by decide +kernel
theorem z49 : (9 : Int32).toInt64 = 9 := by decide +kernel
theorem z50 : (16416 : Int64) ||| 9 = 16425 := by decide +kernel
theorem z51 : (16425 : Int64) <<< ((5 : Int32).toInt64 &&& 63) = 525600 := by decide +kernel
theorem z52 : (525600 : Int64) ||| 18 = 525618 := by decide +kernel
theorem z53 : ixp 1 1 6 := ⟨vin _ _ (by decide +kernel), by decide +kernel⟩
theorem z54 : Int32.ofInt 2 = 2 := by decide +kernel
theorem z55 : (0 : Int64) ||| 18 = 18 := by decide +kernel
theorem z56 : (18 : Int64) <<< ((5 : Int32).toInt64 &&& 63) = 576 := by decide +kernel
theorem z57 : (117 : Int32) - 96 = 21 := by decide +kernel
theorem z58 : (21 : Int32).toInt64 = 21 := by decide +kernel
theorem z59 : (576 : Int64) ||| 21 = 597 := by decide +kernel
theorem z60 : (597 : Int64) <<< ((5 : Int32).toInt64 &&& 63) = 19104 := by decide +kernel
theorem z61 : (108 : Int32) - 96 = 12 := by decide +kernel
theorem z62 : (12 : Int32).toInt64 = 12 := by decide +kernel
theorem z63 : (19104 : Int64) ||| 12 = 19116 := by decide +kernel
theorem z64 : (19116 : Int64) <<< ((5 : Int32).toInt64 &&& 63) = 611712 := by decide +kernel
theorem z65 : (101 : Int32) - 96 = 5 := by decide +kernel
theorem z66 : (5 : Int32).toInt64 = 5 := by decide +kernel
theorem z67 : (611712 : Int64) ||| 5 = 611717 := by decide +kernel
theorem z68 : ixp 2 2 6 := ⟨vin _ _ (by decide +kernel), by decide +kernel⟩
theorem z69 : Int32.ofInt 3 = 3 := by decide +kernel
theorem z70 : ¬ (2 : Int32) ≤ 0 := by decide +kernel
theorem z71 : (0 : Int64) ||| 15 = 15 := by decide +kernel
theorem z72 : ¬ (2 : Int32) ≤ 1 := by decide +kernel
theorem z73 : (15 : Int64) <<< ((5 : Int32).toInt64 &&& 63) = 480 := by decide +kernel
theorem z74 : (480 : Int64) ||| 18 = 498 := by decide +kernel
theorem z75 : (2 : Int32) ≤ 2 := by decide +kernel
theorem z76 : ixp 3 3 6 := ⟨vin _ _ (by decide +kernel), by decide +kernel⟩
theorem z77 : Int32.ofInt 4 = 4 := by decide +kernel
theorem z78 : ¬ (6 : Int32) ≤ 0 := by decide +kernel
theorem z79 : (0 : Int64) ||| 12 = 12 := by decide +kernel
theorem z80 : ¬ (6 : Int32) ≤ 1 := by decide +kernel
theorem z81 : (12 : Int64) <<< ((5 : Int32).toInt64 &&& 63) = 384 := by decide +kernel
theorem z82 : (384 : Int64) ||| 5 = 389 := by decide +kernel
theorem z83 : ¬ (6 : Int32) ≤ 2 := by decide +kernel
theorem z84 : (389 : Int64) <<< ((5 : Int32).toInt64 &&& 63) = 12448 := by decide +kernel
theorem z85 : (110 : Int32) - 96 = 14 := by decide +kernel
theorem z86 : (14 : Int32).toInt64 = 14 := by decide +kernel
theorem z87 : (12448 : Int64) ||| 14 = 12462 := by decide +kernel
theorem z88 : ¬ (6 : Int32) ≤ 3 := by decide +kernel
theorem z89 : (12462 : Int64) <<< ((5 : Int32).toInt64 &&& 63) = 398784 := by decide +kernel
theorem z90 : (103 : Int32) - 96 = 7 := by decide +kernel
theorem z91 : (7 : Int32).toInt64 = 7 := by decide +kernel
theorem z92 : (398784 : Int64) ||| 7 = 398791 := by decide +kernel
theorem z93 : ¬ (6 : Int32) ≤ 4 := by decide +kernel
theorem z94 : (398791 : Int64) <<< ((5 : Int32).toInt64 &&& 63) = 12761312 := by decide +kernel
theorem z95 : (116 : Int32) - 96 = 20 := by decide +kernel
theorem z96 : (20 : Int32).toInt64 = 20 := by decide +kernel
theorem z97 : (12761312 : Int64) ||| 20 = 12761332 := by decide +kernel
theorem z98 : (4 : Int32) + Int32.ofInt 1 = 5 := by decide +kernel
theorem z99 : ¬ (6 : Int32) ≤ 5 := by decide +kernel
theorem z100 : (12761332 : Int64) <<< ((5 : Int32).toInt64 &&& 63) = 408362624 := by decide +kernel
theorem z101 : (104 : Int32) - 96 = 8 := by decide +kernel
theorem z102 : (8 : Int32).toInt64 = 8 := by decide +kernel
theorem z103 : (408362624 : Int64) ||| 8 = 408362632 := by decide +kernel
theorem z104 : (5 : Int32) + Int32.ofInt 1 = 6 := by decide +kernel
theorem z105 : (6 : Int32) ≤ 6 := by decide +kernel
theorem z106 : ixp 4 4 6 := ⟨vin _ _ (by decide +kernel), by decide +kernel⟩
theorem z107 : ¬ (5 : Int32) ≤ 0 := by decide +kernel
theorem z108 : (0 : Int64) ||| 20 = 20 := by decide +kernel
theorem z109 : ¬ (5 : Int32) ≤ 1 := by decide +kernel
theorem z110 : (20 : Int64) <<< ((5 : Int32).toInt64 &&& 63) = 640 := by decide +kernel
theorem z111 : (640 : Int64) ||| 21 = 661 := by decide +kernel
theorem z112 : ¬ (5 : Int32) ≤ 2 := by decide +kernel
theorem z113 : (661 : Int64) <<< ((5 : Int32).toInt64 &&& 63) = 21152 := by decide +kernel
theorem z114 : (21152 : Int64) ||| 18 = 21170 := by decide +kernel
theorem z115 : ¬ (5 : Int32) ≤ 3 := by decide +kernel
theorem z116 : (21170 : Int64) <<< ((5 : Int32).toInt64 &&& 63) = 677440 := by decide +kernel
theorem z117 : (677440 : Int64) ||| 14 = 677454 := by decide +kernel
theorem z118 : ¬ (5 : Int32) ≤ 4 := by decide +kernel
theorem z119 : (677454 : Int64) <<< ((5 : Int32).toInt64 &&& 63) = 21678528 := by decide +kernel
theorem z120 : (115 : Int32) - 96 = 19 := by decide +kernel
theorem z121 : (19 : Int32).toInt64 = 19 := by decide +kernel
theorem z122 : (21678528 : Int64) ||| 19 = 21678547 := by decide +kernel
theorem z123 : (5 : Int32) ≤ 5 := by decide +kernel
theorem z124 : ixp 5 5 6 := ⟨vin _ _ (by decide +kernel), by decide +kernel⟩
theorem z125 : ¬ (0 : Int32) < 0 := by decide +kernel
theorem z126 : (0 : Int32).toNatClampNeg = 0 := by decide +kernel
theorem z127 : 0 * componentBytes .byte ≤ 536870912 := by decide +kernel
theorem z128 : Int32.ofInt (-1) = (-1) := by decide +kernel
theorem z129 : yX8_packed.cls ≠ "java/lang/invoke/MethodHandle" ∧ yX8_packed.cls ≠ "java/lang/invoke/VarHandle" ∧ (parseMethodDescriptor yX8_packed.desc).map (fun d => d.parameters.length) = some 1 := by decide +kernel
theorem z130 : (Int8.ofInt 8).toInt32 = 8 := by decide +kernel
theorem z131 : ¬ (8 : Int32) < 0 := by decide +kernel
theorem z132 : (8 : Int32).toNatClampNeg = 8 := by decide +kernel
theorem z133 : 8 * componentBytes .long ≤ 536870912 := by decide +kernel
theorem z134 : (Int8.ofInt 24).toInt32 = 24 := by decide +kernel
theorem z135 : ¬ (24 : Int32) < 0 := by decide +kernel
theorem z136 : (24 : Int32).toNatClampNeg = 24 := by decide +kernel
theorem z137 : 24 * componentBytes .int ≤ 536870912 := by decide +kernel
theorem z138 : (Int8.ofInt 64).toInt32 = 64 := by decide +kernel
theorem z139 : ¬ (64 : Int32) < 0 := by decide +kernel
theorem z140 : (64 : Int32).toNatClampNeg = 64 := by decide +kernel
theorem z141 : 64 * componentBytes .boolean ≤ 536870912 := by decide +kernel
theorem z142 : (Int16.ofInt 192).toInt32 = 192 := by decide +kernel
theorem z143 : ¬ (192 : Int32) < 0 := by decide +kernel
theorem z144 : (192 : Int32).toNatClampNeg = 192 := by decide +kernel
theorem z145 : 192 * componentBytes .int ≤ 536870912 := by decide +kernel
theorem z146 : (Int8.ofInt 9).toInt32 = 9 := by decide +kernel
theorem z147 : ¬ (9 : Int32) < 0 := by decide +kernel
theorem z148 : (9 : Int32).toNatClampNeg = 9 := by decide +kernel
theorem z149 : 9 * componentBytes .int ≤ 536870912 := by decide +kernel
theorem z150 : ¬ (96 : Int32) < 0 := by decide +kernel
theorem z151 : (96 : Int32).toNatClampNeg = 96 := by decide +kernel
theorem z152 : 96 * componentBytes .int ≤ 536870912 := by decide +kernel
theorem z153 : 6 * componentBytes .int ≤ 536870912 := by decide +kernel
theorem z154 : 96 * componentBytes .long ≤ 536870912 := by decide +kernel
theorem z155 : yX8_init.cls ≠ "java/lang/invoke/MethodHandle" ∧ yX8_init.cls ≠ "java/lang/invoke/VarHandle" ∧ (parseMethodDescriptor yX8_init.desc).map (fun d => d.parameters.length) = some 0 := by decide +kernel
theorem z156 : yX4_init.cls ≠ "java/lang/invoke/MethodHandle" ∧ yX4_init.cls ≠ "java/lang/invoke/VarHandle" ∧ (parseMethodDescriptor yX4_init.desc).map (fun d => d.parameters.length) = some 0 := by decide +kernel
theorem z157 : (Int8.ofInt 40).toInt32 = 40 := by decide +kernel
theorem z158 : ¬ (40 : Int32) < 0 := by decide +kernel
theorem z159 : (40 : Int32).toNatClampNeg = 40 := by decide +kernel
theorem z160 : 40 * componentBytes .boolean ≤ 536870912 := by decide +kernel
theorem z161 : 40 * componentBytes .int ≤ 536870912 := by decide +kernel
theorem z162 : ((7 : Nat) : Int) + 13 = ((20 : Nat) : Int) := by decide +kernel
theorem z163 : ((17 : Nat) : Int) + (-12) = ((5 : Nat) : Int) := by decide +kernel
theorem z164 : yJ7_fill_53178.cls ≠ "java/lang/invoke/MethodHandle" ∧ yJ7_fill_53178.cls ≠ "java/lang/invoke/VarHandle" ∧ (parseMethodDescriptor yJ7_fill_53178.desc).map (fun d => d.parameters.length) = some 2 := by decide +kernel
theorem z165 : ixp 0 0 3 := ⟨vin _ _ (by decide +kernel), by decide +kernel⟩
theorem z166 : ixp 1 1 3 := ⟨vin _ _ (by decide +kernel), by decide +kernel⟩
theorem z167 : ixp 2 2 3 := ⟨vin _ _ (by decide +kernel), by decide +kernel⟩
theorem z168 : (Int8.ofInt 112).toInt32 = 112 := by decide +kernel
theorem z169 : ¬ (112 : Int32) < 0 := by decide +kernel
theorem z170 : (112 : Int32).toNatClampNeg = 112 := by decide +kernel
theorem z171 : 112 * componentBytes .long ≤ 536870912 := by decide +kernel
theorem z172 : (Int16.ofInt 784).toInt32 = 784 := by decide +kernel
theorem z173 : ¬ (784 : Int32) < 0 := by decide +kernel
theorem z174 : (784 : Int32).toNatClampNeg = 784 := by decide +kernel
theorem z175 : 784 * componentBytes .int ≤ 536870912 := by decide +kernel
theorem z176 : (Int16.ofInt 3000).toInt32 = 3000 := by decide +kernel
theorem z177 : ¬ (3000 : Int32) < 0 := by decide +kernel
theorem z178 : (3000 : Int32).toNatClampNeg = 3000 := by decide +kernel
theorem z179 : 3000 * componentBytes .int ≤ 536870912 := by decide +kernel
theorem z180 : (Int16.ofInt 9000).toInt32 = 9000 := by decide +kernel
theorem z181 : ¬ (9000 : Int32) < 0 := by decide +kernel
theorem z182 : (9000 : Int32).toNatClampNeg = 9000 := by decide +kernel
theorem z183 : 9000 * componentBytes .int ≤ 536870912 := by decide +kernel
theorem z184 : (Int8.ofInt 30).toInt32 = 30 := by decide +kernel
theorem z185 : ¬ (30 : Int32) < 0 := by decide +kernel
theorem z186 : (30 : Int32).toNatClampNeg = 30 := by decide +kernel
theorem z187 : 30 * componentBytes .int ≤ 536870912 := by decide +kernel
theorem z188 : 30 * componentBytes .boolean ≤ 536870912 := by decide +kernel
theorem z189 : (Int8.ofInt 16).toInt32 = 16 := by decide +kernel
theorem z190 : ¬ (16 : Int32) < 0 := by decide +kernel
theorem z191 : (16 : Int32).toNatClampNeg = 16 := by decide +kernel
theorem z192 : 16 * componentBytes .int ≤ 536870912 := by decide +kernel
theorem z193 : (Int16.ofInt 1620).toInt32 = 1620 := by decide +kernel
theorem z194 : ¬ (1620 : Int32) < 0 := by decide +kernel
theorem z195 : (1620 : Int32).toNatClampNeg = 1620 := by decide +kernel
theorem z196 : 1620 * componentBytes .byte ≤ 536870912 := by decide +kernel
theorem z197 : ¬ (2 : Int32) < 0 := by decide +kernel
theorem z198 : (2 : Int32).toNatClampNeg = 2 := by decide +kernel
theorem z199 : 2 * componentBytes .int ≤ 536870912 := by decide +kernel
theorem z200 : (Int8.ofInt 12).toInt32 = 12 := by decide +kernel
theorem z201 : ¬ (12 : Int32) < 0 := by decide +kernel
theorem z202 : (12 : Int32).toNatClampNeg = 12 := by decide +kernel
theorem z203 : 12 * componentBytes .int ≤ 536870912 := by decide +kernel
theorem z204 : (Int8.ofInt 48).toInt32 = 48 := by decide +kernel
theorem z205 : ¬ (48 : Int32) < 0 := by decide +kernel
theorem z206 : (48 : Int32).toNatClampNeg = 48 := by decide +kernel
theorem z207 : 48 * componentBytes .int ≤ 536870912 := by decide +kernel
theorem z208 : (Int16.ofInt 384).toInt32 = 384 := by decide +kernel
theorem z209 : ¬ (384 : Int32) < 0 := by decide +kernel
theorem z210 : (384 : Int32).toNatClampNeg = 384 := by decide +kernel
theorem z211 : 384 * componentBytes .int ≤ 536870912 := by decide +kernel
theorem z212 : (Int16.ofInt 128).toInt32 = 128 := by decide +kernel
theorem z213 : ¬ (128 : Int32) < 0 := by decide +kernel
theorem z214 : (128 : Int32).toNatClampNeg = 128 := by decide +kernel
theorem z215 : 128 * componentBytes .boolean ≤ 536870912 := by decide +kernel
theorem z216 : 2 * componentBytes .boolean ≤ 536870912 := by decide +kernel
theorem z217 : 16 * componentBytes .long ≤ 536870912 := by decide +kernel
theorem z218 : 192 * componentBytes .long ≤ 536870912 := by decide +kernel
theorem z219 : (Int8.ofInt 56).toInt32 = 56 := by decide +kernel
theorem z220 : ¬ (56 : Int32) < 0 := by decide +kernel
theorem z221 : (56 : Int32).toNatClampNeg = 56 := by decide +kernel
theorem z222 : 56 * componentBytes .int ≤ 536870912 := by decide +kernel
theorem z223 : (Int16.ofInt 448).toInt32 = 448 := by decide +kernel
theorem z224 : ¬ (448 : Int32) < 0 := by decide +kernel
theorem z225 : (448 : Int32).toNatClampNeg = 448 := by decide +kernel
theorem z226 : 448 * componentBytes .long ≤ 536870912 := by decide +kernel
theorem z227 : (Int8.ofInt 7).toInt32 = 7 := by decide +kernel
theorem z228 : ¬ (7 : Int32) < 0 := by decide +kernel
theorem z229 : (7 : Int32).toNatClampNeg = 7 := by decide +kernel
theorem z230 : 7 * componentBytes .long ≤ 536870912 := by decide +kernel
theorem z231 : (Int16.ofInt 3001).toInt32 = 3001 := by decide +kernel
theorem z232 : ¬ (3001 : Int32) < 0 := by decide +kernel
theorem z233 : (3001 : Int32).toNatClampNeg = 3001 := by decide +kernel
theorem z234 : 3001 * componentBytes .int ≤ 536870912 := by decide +kernel
theorem z235 : (Int16.ofInt 9003).toInt32 = 9003 := by decide +kernel
theorem z236 : ¬ (9003 : Int32) < 0 := by decide +kernel
theorem z237 : (9003 : Int32).toNatClampNeg = 9003 := by decide +kernel
theorem z238 : 9003 * componentBytes .int ≤ 536870912 := by decide +kernel
theorem z239 : 7 * componentBytes .int ≤ 536870912 := by decide +kernel
theorem z240 : 8 * componentBytes .int ≤ 536870912 := by decide +kernel
theorem z241 : ¬ (3 : Int32) < 0 := by decide +kernel
theorem z242 : (3 : Int32).toNatClampNeg = 3 := by decide +kernel
theorem z243 : 3 * componentBytes .int ≤ 536870912 := by decide +kernel
theorem z244 : (Int8.ofInt 18).toInt32 = 18 := by decide +kernel
theorem z245 : ¬ (18 : Int32) < 0 := by decide +kernel
theorem z246 : (18 : Int32).toNatClampNeg = 18 := by decide +kernel
theorem z247 : 18 * componentBytes .int ≤ 536870912 := by decide +kernel
theorem z248 : ixp 0 0 2 := ⟨vin _ _ (by decide +kernel), by decide +kernel⟩
theorem z249 : vp_nar .boolean 0 = 0 := by decide +kernel
theorem z250 : (64 : Int32) * 0 = 0 := by decide +kernel
theorem z251 : (0 : Int32) + 64 = 64 := by decide +kernel
theorem z252 : ((89 : Nat) : Int) + 16 = ((105 : Nat) : Int) := by decide +kernel
theorem z253 : ((102 : Nat) : Int) + (-24) = ((78 : Nat) : Int) := by decide +kernel
theorem z254 : (64 : Int32) ≤ 64 := by decide +kernel
theorem z255 : ((20 : Nat) : Int) + 20 = ((40 : Nat) : Int) := by decide +kernel
theorem z256 : ((9 : Nat) : Int) + 9 = ((18 : Nat) : Int) := by decide +kernel
theorem z257 : ¬ (3 : Int32) = 0 := by decide +kernel
theorem z258 : (0 : Int32) - 0 / 3 * 3 = 0 := by decide +kernel
theorem z259 : ((15 : Nat) : Int) + 27 = ((42 : Nat) : Int) := by decide +kernel
theorem z260 : ((37 : Nat) : Int) + (-20) = ((17 : Nat) : Int) := by decide +kernel
theorem z261 : (1 : Int32) - 1 / 3 * 3 = 1 := by decide +kernel
theorem z262 : (2 : Int32) - 2 / 3 * 3 = 2 := by decide +kernel
theorem z263 : (3 : Int32) - 3 / 3 * 3 = 0 := by decide +kernel
theorem z264 : (4 : Int32) - 4 / 3 * 3 = 1 := by decide +kernel
theorem z265 : (5 : Int32) - 5 / 3 * 3 = 2 := by decide +kernel
theorem z266 : yX11_toldTurn.cls ≠ "java/lang/invoke/MethodHandle" ∧ yX11_toldTurn.cls ≠ "java/lang/invoke/VarHandle" ∧ (parseMethodDescriptor yX11_toldTurn.desc).map (fun d => d.parameters.length) = some 1 := by decide +kernel
theorem z267 : ¬ (3 : Int32) ≤ 0 := by decide +kernel
theorem z268 : ((422 : Nat) : Int) + 16 = ((438 : Nat) : Int) := by decide +kernel
theorem z269 : ((435 : Nat) : Int) + (-15) = ((420 : Nat) : Int) := by decide +kernel
theorem z270 : ¬ (3 : Int32) ≤ 1 := by decide +kernel
theorem z271 : ¬ (3 : Int32) ≤ 2 := by decide +kernel
theorem z272 : (3 : Int32) ≤ 3 := by decide +kernel
theorem z273 : (Int8.ofInt 20).toInt32 = 20 := by decide +kernel
theorem z274 : (0 : Int32) + 20 = 20 := by decide +kernel
theorem z275 : (20 : Int32) ≤ 1600 := by decide +kernel
theorem z276 : ((10 : Nat) : Int) + 5 = ((15 : Nat) : Int) := by decide +kernel
theorem z277 : ((4 : Nat) : Int) + 42 = ((46 : Nat) : Int) := by decide +kernel
theorem z278 : ¬ (1600 : Int32) ≤ 0 := by decide +kernel
theorem z279 : ((14 : Nat) : Int) + 26 = ((40 : Nat) : Int) := by decide +kernel
theorem z280 : ixp 0 0 1600 := ⟨vin _ _ (by decide +kernel), by decide +kernel⟩
theorem z281 : (0 : Int32) + 1 = 1 := by decide +kernel
theorem z282 : (24 : Int32) + Int32.ofInt (-8) = 16 := by decide +kernel
theorem z283 : ((43 : Nat) : Int) + (-40) = ((3 : Nat) : Int) := by decide +kernel
theorem z284 : ¬ (1600 : Int32) ≤ 1 := by decide +kernel
theorem z285 : ixp 1 1 1600 := ⟨vin _ _ (by decide +kernel), by decide +kernel⟩
theorem z286 : (1 : Int32) + 1 = 2 := by decide +kernel
theorem z287 : (16 : Int32) + Int32.ofInt (-8) = 8 := by decide +kernel
theorem z288 : ¬ (1600 : Int32) ≤ 2 := by decide +kernel
theorem z289 : ixp 2 2 1600 := ⟨vin _ _ (by decide +kernel), by decide +kernel⟩
theorem z290 : (2 : Int32) + 1 = 3 := by decide +kernel
theorem z291 : (8 : Int32) + Int32.ofInt (-8) = 0 := by decide +kernel
theorem z292 : ¬ (1600 : Int32) ≤ 3 := by decide +kernel
theorem z293 : ixp 3 3 1600 := ⟨vin _ _ (by decide +kernel), by decide +kernel⟩
theorem z294 : (3 : Int32) + 1 = 4 := by decide +kernel
theorem z295 : (0 : Int32) + Int32.ofInt (-8) = (-8) := by decide +kernel
theorem z296 : ((-8) : Int32) < 0 := by decide +kernel
theorem z297 : ¬ (1600 : Int32) ≤ 4 := by decide +kernel
theorem z298 : ixp 4 4 1600 := ⟨vin _ _ (by decide +kernel), by decide +kernel⟩
theorem z299 : (4 : Int32) + 1 = 5 := by decide +kernel
theorem z300 : ¬ (1600 : Int32) ≤ 5 := by decide +kernel
theorem z301 : ixp 5 5 1600 := ⟨vin _ _ (by decide +kernel), by decide +kernel⟩
theorem z302 : (5 : Int32) + 1 = 6 := by decide +kernel
theorem z303 : ¬ (1600 : Int32) ≤ 6 := by decide +kernel
theorem z304 : ixp 6 6 1600 := ⟨vin _ _ (by decide +kernel), by decide +kernel⟩
theorem z305 : (6 : Int32) + 1 = 7 := by decide +kernel
theorem z306 : ¬ (1600 : Int32) ≤ 7 := by decide +kernel
theorem z307 : ixp 7 7 1600 := ⟨vin _ _ (by decide +kernel), by decide +kernel⟩
theorem z308 : (7 : Int32) + 1 = 8 := by decide +kernel
theorem z309 : ¬ (1600 : Int32) ≤ 8 := by decide +kernel
theorem z310 : ixp 8 8 1600 := ⟨vin _ _ (by decide +kernel), by decide +kernel⟩
theorem z311 : (8 : Int32) + 1 = 9 := by decide +kernel
theorem z312 : ¬ (1600 : Int32) ≤ 9 := by decide +kernel
theorem z313 : ixp 9 9 1600 := ⟨vin _ _ (by decide +kernel), by decide +kernel⟩
theorem z314 : (9 : Int32) + 1 = 10 := by decide +kernel
theorem z315 : ¬ (1600 : Int32) ≤ 10 := by decide +kernel
theorem z316 : ixp 10 10 1600 := ⟨vin _ _ (by decide +kernel), by decide +kernel⟩
theorem z317 : (10 : Int32) + 1 = 11 := by decide +kernel
theorem z318 : ¬ (1600 : Int32) ≤ 11 := by decide +kernel
theorem z319 : ixp 11 11 1600 := ⟨vin _ _ (by decide +kernel), by decide +kernel⟩
theorem z320 : (11 : Int32) + 1 = 12 := by decide +kernel
theorem z321 : ¬ (1600 : Int32) ≤ 12 := by decide +kernel
theorem z322 : ixp 12 12 1600 := ⟨vin _ _ (by decide +kernel), by decide +kernel⟩
theorem z323 : (12 : Int32) + 1 = 13 := by decide +kernel
theorem z324 : ¬ (1600 : Int32) ≤ 13 := by decide +kernel
theorem z325 : ixp 13 13 1600 := ⟨vin _ _ (by decide +kernel), by decide +kernel⟩
theorem z326 : (13 : Int32) + 1 = 14 := by decide +kernel
theorem z327 : ¬ (1600 : Int32) ≤ 14 := by decide +kernel
theorem z328 : ixp 14 14 1600 := ⟨vin _ _ (by decide +kernel), by decide +kernel⟩
theorem z329 : (14 : Int32) + 1 = 15 := by decide +kernel
theorem z330 : ¬ (1600 : Int32) ≤ 15 := by decide +kernel
theorem z331 : ixp 15 15 1600 := ⟨vin _ _ (by decide +kernel), by decide +kernel⟩
theorem z332 : (15 : Int32) + 1 = 16 := by decide +kernel
theorem z333 : ¬ (1600 : Int32) ≤ 16 := by decide +kernel
theorem z334 : ixp 16 16 1600 := ⟨vin _ _ (by decide +kernel), by decide +kernel⟩
theorem z335 : (16 : Int32) + 1 = 17 := by decide +kernel
theorem z336 : ¬ (1600 : Int32) ≤ 17 := by decide +kernel
theorem z337 : ixp 17 17 1600 := ⟨vin _ _ (by decide +kernel), by decide +kernel⟩
theorem z338 : (17 : Int32) + 1 = 18 := by decide +kernel
theorem z339 : ¬ (1600 : Int32) ≤ 18 := by decide +kernel
theorem z340 : ixp 18 18 1600 := ⟨vin _ _ (by decide +kernel), by decide +kernel⟩
theorem z341 : (18 : Int32) + 1 = 19 := by decide +kernel
theorem z342 : ¬ (1600 : Int32) ≤ 19 := by decide +kernel
theorem z343 : ixp 19 19 1600 := ⟨vin _ _ (by decide +kernel), by decide +kernel⟩
theorem z344 : (19 : Int32) + 1 = 20 := by decide +kernel
theorem z345 : yX10_tapeNumber.cls ≠ "java/lang/invoke/MethodHandle" ∧ yX10_tapeNumber.cls ≠ "java/lang/invoke/VarHandle" ∧ (parseMethodDescriptor yX10_tapeNumber.desc).map (fun d => d.parameters.length) = some 1 := by decide +kernel
theorem z346 : ¬ (20 : Int32) ≤ 0 := by decide +kernel
theorem z347 : ((22 : Nat) : Int) + 83 = ((105 : Nat) : Int) := by decide +kernel
theorem z348 : ((28 : Nat) : Int) + 7 = ((35 : Nat) : Int) := by decide +kernel
theorem z349 : ((32 : Nat) : Int) + 39 = ((71 : Nat) : Int) := by decide +kernel
theorem z350 : (0 : Int32) + 0 = 0 := by decide +kernel
theorem z351 : (0 : Int32) &&& 3 = 0 := by decide +kernel
theorem z352 : (8 : Int32) * 0 = 0 := by decide +kernel
theorem z353 : (24 : Int32) - 0 = 24 := by decide +kernel
theorem z354 : ixp 0 0 1620 := ⟨vin _ _ (by decide +kernel), by decide +kernel⟩
theorem z355 : ((102 : Nat) : Int) + (-84) = ((18 : Nat) : Int) := by decide +kernel
theorem z356 : ¬ (20 : Int32) ≤ 1 := by decide +kernel
theorem z357 : (1 : Int32) &&& 3 = 1 := by decide +kernel
theorem z358 : (8 : Int32) * 1 = 8 := by decide +kernel
theorem z359 : (24 : Int32) - 8 = 16 := by decide +kernel
theorem z360 : ixp 1 1 1620 := ⟨vin _ _ (by decide +kernel), by decide +kernel⟩
theorem z361 : ¬ (20 : Int32) ≤ 2 := by decide +kernel
theorem z362 : (0 : Int32) + 2 = 2 := by decide +kernel
theorem z363 : (2 : Int32) &&& 3 = 2 := by decide +kernel
theorem z364 : (8 : Int32) * 2 = 16 := by decide +kernel
theorem z365 : (24 : Int32) - 16 = 8 := by decide +kernel
theorem z366 : ixp 2 2 1620 := ⟨vin _ _ (by decide +kernel), by decide +kernel⟩
theorem z367 : ¬ (20 : Int32) ≤ 3 := by decide +kernel
theorem z368 : (0 : Int32) + 3 = 3 := by decide +kernel
theorem z369 : (3 : Int32) &&& 3 = 3 := by decide +kernel
theorem z370 : (8 : Int32) * 3 = 24 := by decide +kernel
theorem z371 : (24 : Int32) - 24 = 0 := by decide +kernel
theorem z372 : ixp 3 3 1620 := ⟨vin _ _ (by decide +kernel), by decide +kernel⟩
theorem z373 : ¬ (20 : Int32) ≤ 4 := by decide +kernel
theorem z374 : ¬ (8 : Int32) ≤ 4 := by decide +kernel
theorem z375 : ((39 : Nat) : Int) + 7 = ((46 : Nat) : Int) := by decide +kernel
theorem z376 : ((43 : Nat) : Int) + 28 = ((71 : Nat) : Int) := by decide +kernel
theorem z377 : (0 : Int32) + 4 = 4 := by decide +kernel
theorem z378 : (4 : Int32) &&& 3 = 0 := by decide +kernel
theorem z379 : ixp 4 4 1620 := ⟨vin _ _ (by decide +kernel), by decide +kernel⟩
theorem z380 : ¬ (20 : Int32) ≤ 5 := by decide +kernel
theorem z381 : (4 : Int32) ≤ 5 := by decide +kernel
theorem z382 : ¬ (8 : Int32) ≤ 5 := by decide +kernel
theorem z383 : (0 : Int32) + 5 = 5 := by decide +kernel
theorem z384 : (5 : Int32) &&& 3 = 1 := by decide +kernel
theorem z385 : ixp 5 5 1620 := ⟨vin _ _ (by decide +kernel), by decide +kernel⟩
theorem z386 : ¬ (20 : Int32) ≤ 6 := by decide +kernel
theorem z387 : (4 : Int32) ≤ 6 := by decide +kernel
theorem z388 : ¬ (8 : Int32) ≤ 6 := by decide +kernel
theorem z389 : (0 : Int32) + 6 = 6 := by decide +kernel
theorem z390 : (6 : Int32) &&& 3 = 2 := by decide +kernel
theorem z391 : ixp 6 6 1620 := ⟨vin _ _ (by decide +kernel), by decide +kernel⟩
theorem z392 : (6 : Int32) + Int32.ofInt 1 = 7 := by decide +kernel
theorem z393 : ¬ (20 : Int32) ≤ 7 := by decide +kernel
theorem z394 : (4 : Int32) ≤ 7 := by decide +kernel
theorem z395 : ¬ (8 : Int32) ≤ 7 := by decide +kernel
theorem z396 : (0 : Int32) + 7 = 7 := by decide +kernel
theorem z397 : (7 : Int32) &&& 3 = 3 := by decide +kernel
theorem z398 : ixp 7 7 1620 := ⟨vin _ _ (by decide +kernel), by decide +kernel⟩
theorem z399 : (7 : Int32) + Int32.ofInt 1 = 8 := by decide +kernel
theorem z400 : ¬ (20 : Int32) ≤ 8 := by decide +kernel
theorem z401 : (4 : Int32) ≤ 8 := by decide +kernel
theorem z402 : (8 : Int32) ≤ 8 := by decide +kernel
theorem z403 : ¬ (12 : Int32) ≤ 8 := by decide +kernel
theorem z404 : ((50 : Nat) : Int) + 7 = ((57 : Nat) : Int) := by decide +kernel
theorem z405 : ((54 : Nat) : Int) + 17 = ((71 : Nat) : Int) := by decide +kernel
theorem z406 : (0 : Int32) + 8 = 8 := by decide +kernel
theorem z407 : (8 : Int32) &&& 3 = 0 := by decide +kernel
theorem z408 : ixp 8 8 1620 := ⟨vin _ _ (by decide +kernel), by decide +kernel⟩
theorem z409 : (8 : Int32) + Int32.ofInt 1 = 9 := by decide +kernel
theorem z410 : ¬ (20 : Int32) ≤ 9 := by decide +kernel
theorem z411 : (4 : Int32) ≤ 9 := by decide +kernel
theorem z412 : (8 : Int32) ≤ 9 := by decide +kernel
theorem z413 : ¬ (12 : Int32) ≤ 9 := by decide +kernel
theorem z414 : (0 : Int32) + 9 = 9 := by decide +kernel
theorem z415 : (9 : Int32) &&& 3 = 1 := by decide +kernel
theorem z416 : ixp 9 9 1620 := ⟨vin _ _ (by decide +kernel), by decide +kernel⟩
theorem z417 : (9 : Int32) + Int32.ofInt 1 = 10 := by decide +kernel
theorem z418 : ¬ (20 : Int32) ≤ 10 := by decide +kernel
theorem z419 : (4 : Int32) ≤ 10 := by decide +kernel
theorem z420 : (8 : Int32) ≤ 10 := by decide +kernel
theorem z421 : ¬ (12 : Int32) ≤ 10 := by decide +kernel
theorem z422 : (0 : Int32) + 10 = 10 := by decide +kernel
theorem z423 : (10 : Int32) &&& 3 = 2 := by decide +kernel
theorem z424 : ixp 10 10 1620 := ⟨vin _ _ (by decide +kernel), by decide +kernel⟩
theorem z425 : (10 : Int32) + Int32.ofInt 1 = 11 := by decide +kernel
theorem z426 : ¬ (20 : Int32) ≤ 11 := by decide +kernel
theorem z427 : (4 : Int32) ≤ 11 := by decide +kernel
theorem z428 : (8 : Int32) ≤ 11 := by decide +kernel
theorem z429 : ¬ (12 : Int32) ≤ 11 := by decide +kernel
theorem z430 : (0 : Int32) + 11 = 11 := by decide +kernel
theorem z431 : (11 : Int32) &&& 3 = 3 := by decide +kernel
theorem z432 : ixp 11 11 1620 := ⟨vin _ _ (by decide +kernel), by decide +kernel⟩
theorem z433 : (11 : Int32) + Int32.ofInt 1 = 12 := by decide +kernel
theorem z434 : ¬ (20 : Int32) ≤ 12 := by decide +kernel
theorem z435 : (4 : Int32) ≤ 12 := by decide +kernel
theorem z436 : (8 : Int32) ≤ 12 := by decide +kernel
theorem z437 : (12 : Int32) ≤ 12 := by decide +kernel
theorem z438 : ¬ (16 : Int32) ≤ 12 := by decide +kernel
theorem z439 : ((61 : Nat) : Int) + 8 = ((69 : Nat) : Int) := by decide +kernel
theorem z440 : ((66 : Nat) : Int) + 5 = ((71 : Nat) : Int) := by decide +kernel
theorem z441 : (0 : Int32) + 12 = 12 := by decide +kernel
theorem z442 : (12 : Int32) &&& 3 = 0 := by decide +kernel
theorem z443 : ixp 12 12 1620 := ⟨vin _ _ (by decide +kernel), by decide +kernel⟩
theorem z444 : (12 : Int32) + Int32.ofInt 1 = 13 := by decide +kernel
theorem z445 : ¬ (20 : Int32) ≤ 13 := by decide +kernel
theorem z446 : (4 : Int32) ≤ 13 := by decide +kernel
theorem z447 : (8 : Int32) ≤ 13 := by decide +kernel
theorem z448 : (12 : Int32) ≤ 13 := by decide +kernel
theorem z449 : ¬ (16 : Int32) ≤ 13 := by decide +kernel
theorem z450 : (0 : Int32) + 13 = 13 := by decide +kernel
theorem z451 : (13 : Int32) &&& 3 = 1 := by decide +kernel
theorem z452 : ixp 13 13 1620 := ⟨vin _ _ (by decide +kernel), by decide +kernel⟩
theorem z453 : (13 : Int32) + Int32.ofInt 1 = 14 := by decide +kernel
theorem z454 : ¬ (20 : Int32) ≤ 14 := by decide +kernel
theorem z455 : (4 : Int32) ≤ 14 := by decide +kernel
theorem z456 : (8 : Int32) ≤ 14 := by decide +kernel
theorem z457 : (12 : Int32) ≤ 14 := by decide +kernel
theorem z458 : ¬ (16 : Int32) ≤ 14 := by decide +kernel
theorem z459 : (0 : Int32) + 14 = 14 := by decide +kernel
theorem z460 : (14 : Int32) &&& 3 = 2 := by decide +kernel
theorem z461 : ixp 14 14 1620 := ⟨vin _ _ (by decide +kernel), by decide +kernel⟩
theorem z462 : (14 : Int32) + Int32.ofInt 1 = 15 := by decide +kernel
theorem z463 : ¬ (20 : Int32) ≤ 15 := by decide +kernel
theorem z464 : (4 : Int32) ≤ 15 := by decide +kernel
theorem z465 : (8 : Int32) ≤ 15 := by decide +kernel
theorem z466 : (12 : Int32) ≤ 15 := by decide +kernel
theorem z467 : ¬ (16 : Int32) ≤ 15 := by decide +kernel
theorem z468 : (0 : Int32) + 15 = 15 := by decide +kernel
theorem z469 : (15 : Int32) &&& 3 = 3 := by decide +kernel
theorem z470 : ixp 15 15 1620 := ⟨vin _ _ (by decide +kernel), by decide +kernel⟩
theorem z471 : (15 : Int32) + Int32.ofInt 1 = 16 := by decide +kernel
theorem z472 : ¬ (20 : Int32) ≤ 16 := by decide +kernel
theorem z473 : (4 : Int32) ≤ 16 := by decide +kernel
theorem z474 : (8 : Int32) ≤ 16 := by decide +kernel
theorem z475 : (12 : Int32) ≤ 16 := by decide +kernel
theorem z476 : (16 : Int32) ≤ 16 := by decide +kernel
theorem z477 : (0 : Int32) + 16 = 16 := by decide +kernel
theorem z478 : (16 : Int32) &&& 3 = 0 := by decide +kernel
theorem z479 : ixp 16 16 1620 := ⟨vin _ _ (by decide +kernel), by decide +kernel⟩
theorem z480 : (16 : Int32) + Int32.ofInt 1 = 17 := by decide +kernel
theorem z481 : ¬ (20 : Int32) ≤ 17 := by decide +kernel
theorem z482 : (4 : Int32) ≤ 17 := by decide +kernel
theorem z483 : (8 : Int32) ≤ 17 := by decide +kernel
theorem z484 : (12 : Int32) ≤ 17 := by decide +kernel
theorem z485 : (16 : Int32) ≤ 17 := by decide +kernel
theorem z486 : (0 : Int32) + 17 = 17 := by decide +kernel
theorem z487 : (17 : Int32) &&& 3 = 1 := by decide +kernel
theorem z488 : ixp 17 17 1620 := ⟨vin _ _ (by decide +kernel), by decide +kernel⟩
theorem z489 : (17 : Int32) + Int32.ofInt 1 = 18 := by decide +kernel
theorem z490 : ¬ (20 : Int32) ≤ 18 := by decide +kernel
theorem z491 : (4 : Int32) ≤ 18 := by decide +kernel
theorem z492 : (8 : Int32) ≤ 18 := by decide +kernel
theorem z493 : (12 : Int32) ≤ 18 := by decide +kernel
theorem z494 : (16 : Int32) ≤ 18 := by decide +kernel
theorem z495 : (0 : Int32) + 18 = 18 := by decide +kernel
theorem z496 : (18 : Int32) &&& 3 = 2 := by decide +kernel
theorem z497 : ixp 18 18 1620 := ⟨vin _ _ (by decide +kernel), by decide +kernel⟩
theorem z498 : (18 : Int32) + Int32.ofInt 1 = 19 := by decide +kernel
theorem z499 : ¬ (20 : Int32) ≤ 19 := by decide +kernel
theorem z500 : (4 : Int32) ≤ 19 := by decide +kernel
theorem z501 : (8 : Int32) ≤ 19 := by decide +kernel
theorem z502 : (12 : Int32) ≤ 19 := by decide +kernel
theorem z503 : (16 : Int32) ≤ 19 := by decide +kernel
theorem z504 : (0 : Int32) + 19 = 19 := by decide +kernel
theorem z505 : (19 : Int32) &&& 3 = 3 := by decide +kernel
theorem z506 : ixp 19 19 1620 := ⟨vin _ _ (by decide +kernel), by decide +kernel⟩
theorem z507 : (19 : Int32) + Int32.ofInt 1 = 20 := by decide +kernel
theorem z508 : (20 : Int32) ≤ 20 := by decide +kernel
theorem z509 : ((1 : Nat) : Int) + 11 = ((12 : Nat) : Int) := by decide +kernel
theorem z510 : (0 : Int32) ≤ 0 := by decide +kernel
theorem z511 : ((9 : Nat) : Int) + 5 = ((14 : Nat) : Int) := by decide +kernel
theorem z512 : (192 : Int32) ≤ 192 := by decide +kernel
theorem z513 : ((26 : Nat) : Int) + 16 = ((42 : Nat) : Int) := by decide +kernel
theorem z514 : ((39 : Nat) : Int) + (-19) = ((20 : Nat) : Int) := by decide +kernel
theorem z515 : ixp 0 0 9 := ⟨vin _ _ (by decide +kernel), by decide +kernel⟩
theorem z516 : ((16 : Nat) : Int) + 44 = ((60 : Nat) : Int) := by decide +kernel
theorem z517 : ((76 : Nat) : Int) + 15 = ((91 : Nat) : Int) := by decide +kernel
theorem z518 : ((101 : Nat) : Int) + 11 = ((112 : Nat) : Int) := by decide +kernel
theorem z519 : ((109 : Nat) : Int) + 76 = ((185 : Nat) : Int) := by decide +kernel
theorem z520 : ¬ (0 : Int32) = 1 := by decide +kernel
theorem z521 : ((190 : Nat) : Int) + 9 = ((199 : Nat) : Int) := by decide +kernel
theorem z522 : yX8_advance.cls ≠ "java/lang/invoke/MethodHandle" ∧ yX8_advance.cls ≠ "java/lang/invoke/VarHandle" ∧ (parseMethodDescriptor yX8_advance.desc).map (fun d => d.parameters.length) = some 0 := by decide +kernel
theorem z523 : ((32 : Nat) : Int) + 4 = ((36 : Nat) : Int) := by decide +kernel
theorem z524 : ((46 : Nat) : Int) + 143 = ((189 : Nat) : Int) := by decide +kernel
theorem z525 : ¬ (1 : Int32) = 0 := by decide +kernel
theorem z526 : ((51 : Nat) : Int) + 138 = ((189 : Nat) : Int) := by decide +kernel
theorem z527 : ((61 : Nat) : Int) + 128 = ((189 : Nat) : Int) := by decide +kernel
theorem z528 : ((191 : Nat) : Int) + 14 = ((205 : Nat) : Int) := by decide +kernel
theorem z529 : ((10 : Nat) : Int) + 51 = ((61 : Nat) : Int) := by decide +kernel
theorem z530 : ((198 : Nat) : Int) + 7 = ((205 : Nat) : Int) := by decide +kernel
theorem z531 : ((202 : Nat) : Int) + 4 = ((206 : Nat) : Int) := by decide +kernel
theorem z532 : yX4_empty.cls ≠ "java/lang/invoke/MethodHandle" ∧ yX4_empty.cls ≠ "java/lang/invoke/VarHandle" ∧ (parseMethodDescriptor yX4_empty.desc).map (fun d => d.parameters.length) = some 0 := by decide +kernel
theorem z533 : yX8_begin.cls ≠ "java/lang/invoke/MethodHandle" ∧ yX8_begin.cls ≠ "java/lang/invoke/VarHandle" ∧ (parseMethodDescriptor yX8_begin.desc).map (fun d => d.parameters.length) = some 2 := by decide +kernel
theorem z534 : yX2_bindParts.cls ≠ "java/lang/invoke/MethodHandle" ∧ yX2_bindParts.cls ≠ "java/lang/invoke/VarHandle" ∧ (parseMethodDescriptor yX2_bindParts.desc).map (fun d => d.parameters.length) = some 0 := by decide +kernel
theorem z535 : ((19 : Nat) : Int) + 5 = ((24 : Nat) : Int) := by decide +kernel
theorem z536 : yX0_forgetActs.cls ≠ "java/lang/invoke/MethodHandle" ∧ yX0_forgetActs.cls ≠ "java/lang/invoke/VarHandle" ∧ (parseMethodDescriptor yX0_forgetActs.desc).map (fun d => d.parameters.length) = some 0 := by decide +kernel
theorem z537 : ((11 : Nat) : Int) + 19 = ((30 : Nat) : Int) := by decide +kernel
theorem z538 : ((27 : Nat) : Int) + (-18) = ((9 : Nat) : Int) := by decide +kernel
theorem z539 : yX0_empty.cls ≠ "java/lang/invoke/MethodHandle" ∧ yX0_empty.cls ≠ "java/lang/invoke/VarHandle" ∧ (parseMethodDescriptor yX0_empty.desc).map (fun d => d.parameters.length) = some 0 := by decide +kernel
theorem z540 : yX7_forget.cls ≠ "java/lang/invoke/MethodHandle" ∧ yX7_forget.cls ≠ "java/lang/invoke/VarHandle" ∧ (parseMethodDescriptor yX7_forget.desc).map (fun d => d.parameters.length) = some 0 := by decide +kernel
theorem z541 : yX9_forget.cls ≠ "java/lang/invoke/MethodHandle" ∧ yX9_forget.cls ≠ "java/lang/invoke/VarHandle" ∧ (parseMethodDescriptor yX9_forget.desc).map (fun d => d.parameters.length) = some 0 := by decide +kernel
theorem z542 : yX3_forget.cls ≠ "java/lang/invoke/MethodHandle" ∧ yX3_forget.cls ≠ "java/lang/invoke/VarHandle" ∧ (parseMethodDescriptor yX3_forget.desc).map (fun d => d.parameters.length) = some 0 := by decide +kernel
theorem z543 : yX2_readsInto.cls ≠ "java/lang/invoke/MethodHandle" ∧ yX2_readsInto.cls ≠ "java/lang/invoke/VarHandle" ∧ (parseMethodDescriptor yX2_readsInto.desc).map (fun d => d.parameters.length) = some 3 := by decide +kernel
theorem z544 : yX10_forgetOldPort.cls ≠ "java/lang/invoke/MethodHandle" ∧ yX10_forgetOldPort.cls ≠ "java/lang/invoke/VarHandle" ∧ (parseMethodDescriptor yX10_forgetOldPort.desc).map (fun d => d.parameters.length) = some 0 := by decide +kernel
theorem z545 : ((25 : Nat) : Int) + 21 = ((46 : Nat) : Int) := by decide +kernel
theorem z546 : (1 : Int32) - 0 = 1 := by decide +kernel
theorem z547 : ixp 1 1 2 := ⟨vin _ _ (by decide +kernel), by decide +kernel⟩
theorem z548 : (64 : Int32) * 1 = 64 := by decide +kernel
theorem z549 : (64 : Int32) + 64 = 128 := by decide +kernel
theorem z550 : (128 : Int32) ≤ 128 := by decide +kernel
theorem z551 : ((16 : Nat) : Int) + 42 = ((58 : Nat) : Int) := by decide +kernel
theorem z552 : ((5 : Nat) : Int) + 16 = ((21 : Nat) : Int) := by decide +kernel
theorem z553 : ((85 : Nat) : Int) + 27 = ((112 : Nat) : Int) := by decide +kernel
theorem z554 : ((109 : Nat) : Int) + 273 = ((382 : Nat) : Int) := by decide +kernel
theorem z555 : yX11_sign.cls ≠ "java/lang/invoke/MethodHandle" ∧ yX11_sign.cls ≠ "java/lang/invoke/VarHandle" ∧ (parseMethodDescriptor yX11_sign.desc).map (fun d => d.parameters.length) = some 1 := by decide +kernel
theorem z556 : ((4 : Nat) : Int) + 7 = ((11 : Nat) : Int) := by decide +kernel
theorem z557 : ((8 : Nat) : Int) + 4 = ((12 : Nat) : Int) := by decide +kernel
theorem z558 : ((78 : Nat) : Int) + 17 = ((95 : Nat) : Int) := by decide +kernel
theorem z559 : ((85 : Nat) : Int) + 10 = ((95 : Nat) : Int) := by decide +kernel
theorem z560 : ((99 : Nat) : Int) + 7 = ((106 : Nat) : Int) := by decide +kernel
theorem z561 : (24 : Int32) * 1 = 24 := by decide +kernel
theorem z562 : (24 : Int32) + 0 = 24 := by decide +kernel
theorem z563 : (24 : Int32) ≤ 24 := by decide +kernel
theorem z564 : ((26 : Nat) : Int) + 138 = ((164 : Nat) : Int) := by decide +kernel
theorem z565 : ((110 : Nat) : Int) + 5 = ((115 : Nat) : Int) := by decide +kernel
theorem z566 : ((137 : Nat) : Int) + 16 = ((153 : Nat) : Int) := by decide +kernel
theorem z567 : ((150 : Nat) : Int) + (-16) = ((134 : Nat) : Int) := by decide +kernel
theorem z568 : ((167 : Nat) : Int) + 16 = ((183 : Nat) : Int) := by decide +kernel
theorem z569 : ((180 : Nat) : Int) + (-15) = ((165 : Nat) : Int) := by decide +kernel
theorem z570 : yX11_clearBank.cls ≠ "java/lang/invoke/MethodHandle" ∧ yX11_clearBank.cls ≠ "java/lang/invoke/VarHandle" ∧ (parseMethodDescriptor yX11_clearBank.desc).map (fun d => d.parameters.length) = some 0 := by decide +kernel
theorem z571 : yX11_goOn.cls ≠ "java/lang/invoke/MethodHandle" ∧ yX11_goOn.cls ≠ "java/lang/invoke/VarHandle" ∧ (parseMethodDescriptor yX11_goOn.desc).map (fun d => d.parameters.length) = some 0 := by decide +kernel
theorem z572 : yX11_isGood.cls ≠ "java/lang/invoke/MethodHandle" ∧ yX11_isGood.cls ≠ "java/lang/invoke/VarHandle" ∧ (parseMethodDescriptor yX11_isGood.desc).map (fun d => d.parameters.length) = some 0 := by decide +kernel
theorem z573 : yX11_settle.cls ≠ "java/lang/invoke/MethodHandle" ∧ yX11_settle.cls ≠ "java/lang/invoke/VarHandle" ∧ (parseMethodDescriptor yX11_settle.desc).map (fun d => d.parameters.length) = some 0 := by decide +kernel
theorem z574 : yX11_begin.cls ≠ "java/lang/invoke/MethodHandle" ∧ yX11_begin.cls ≠ "java/lang/invoke/VarHandle" ∧ (parseMethodDescriptor yX11_begin.desc).map (fun d => d.parameters.length) = some 0 := by decide +kernel
theorem z575 : ((1 : Nat) : Int) + 14 = ((15 : Nat) : Int) := by decide +kernel
theorem z576 : ((1 : Nat) : Int) + 10 = ((11 : Nat) : Int) := by decide +kernel
theorem z577 : ((8 : Nat) : Int) + 16 = ((24 : Nat) : Int) := by decide +kernel
theorem z578 : ((17 : Nat) : Int) + 16 = ((33 : Nat) : Int) := by decide +kernel
theorem z579 : ((30 : Nat) : Int) + 4 = ((34 : Nat) : Int) := by decide +kernel
theorem z580 : ((13 : Nat) : Int) + 10 = ((23 : Nat) : Int) := by decide +kernel
theorem z581 : ((20 : Nat) : Int) + 4 = ((24 : Nat) : Int) := by decide +kernel
theorem z582 : ((1 : Nat) : Int) + 15 = ((16 : Nat) : Int) := by decide +kernel
theorem z583 : ((8 : Nat) : Int) + 26 = ((34 : Nat) : Int) := by decide +kernel
theorem z584 : yX4_hasWord.cls ≠ "java/lang/invoke/MethodHandle" ∧ yX4_hasWord.cls ≠ "java/lang/invoke/VarHandle" ∧ (parseMethodDescriptor yX4_hasWord.desc).map (fun d => d.parameters.length) = some 1 := by decide +kernel
theorem z585 : (0 : Int32) - 1 = (-1) := by decide +kernel
theorem z586 : ((2 : Nat) : Int) + 12 = ((14 : Nat) : Int) := by decide +kernel
theorem z587 : yX11_isIn.cls ≠ "java/lang/invoke/MethodHandle" ∧ yX11_isIn.cls ≠ "java/lang/invoke/VarHandle" ∧ (parseMethodDescriptor yX11_isIn.desc).map (fun d => d.parameters.length) = some 3 := by decide +kernel
theorem z588 : ((5 : Nat) : Int) + 31 = ((36 : Nat) : Int) := by decide +kernel
theorem z589 : yX11_isWordOf.cls ≠ "java/lang/invoke/MethodHandle" ∧ yX11_isWordOf.cls ≠ "java/lang/invoke/VarHandle" ∧ (parseMethodDescriptor yX11_isWordOf.desc).map (fun d => d.parameters.length) = some 1 := by decide +kernel
theorem z590 : ((9 : Nat) : Int) + 7 = ((16 : Nat) : Int) := by decide +kernel
theorem z591 : ((7 : Nat) : Int) + 7 = ((14 : Nat) : Int) := by decide +kernel
theorem z592 : ((8 : Nat) : Int) + 21 = ((29 : Nat) : Int) := by decide +kernel
theorem z593 : ((5 : Nat) : Int) + 28 = ((33 : Nat) : Int) := by decide +kernel
theorem z594 : ((8 : Nat) : Int) + 11 = ((19 : Nat) : Int) := by decide +kernel
theorem z595 : yX4_hasPlace.cls ≠ "java/lang/invoke/MethodHandle" ∧ yX4_hasPlace.cls ≠ "java/lang/invoke/VarHandle" ∧ (parseMethodDescriptor yX4_hasPlace.desc).map (fun d => d.parameters.length) = some 1 := by decide +kernel
theorem z596 : (3 : Int32) - 1 = 2 := by decide +kernel
theorem z597 : yX11_longOf.cls ≠ "java/lang/invoke/MethodHandle" ∧ yX11_longOf.cls ≠ "java/lang/invoke/VarHandle" ∧ (parseMethodDescriptor yX11_longOf.desc).map (fun d => d.parameters.length) = some 0 := by decide +kernel
theorem z598 : ((5 : Nat) : Int) + 12 = ((17 : Nat) : Int) := by decide +kernel
theorem z599 : yX11_isPlace.cls ≠ "java/lang/invoke/MethodHandle" ∧ yX11_isPlace.cls ≠ "java/lang/invoke/VarHandle" ∧ (parseMethodDescriptor yX11_isPlace.desc).map (fun d => d.parameters.length) = some 1 := by decide +kernel
theorem z600 : ((13 : Nat) : Int) + 4 = ((17 : Nat) : Int) := by decide +kernel
theorem z601 : ((10 : Nat) : Int) + 15 = ((25 : Nat) : Int) := by decide +kernel
theorem z602 : ((4 : Nat) : Int) + 17 = ((21 : Nat) : Int) := by decide +kernel
theorem z603 : yX4_turnAt.cls ≠ "java/lang/invoke/MethodHandle" ∧ yX4_turnAt.cls ≠ "java/lang/invoke/VarHandle" ∧ (parseMethodDescriptor yX4_turnAt.desc).map (fun d => d.parameters.length) = some 1 := by decide +kernel
theorem z604 : ((16 : Nat) : Int) + 4 = ((20 : Nat) : Int) := by decide +kernel
theorem z605 : yX10_ownerInEarnest.cls ≠ "java/lang/invoke/MethodHandle" ∧ yX10_ownerInEarnest.cls ≠ "java/lang/invoke/VarHandle" ∧ (parseMethodDescriptor yX10_ownerInEarnest.desc).map (fun d => d.parameters.length) = some 1 := by decide +kernel
theorem z606 : ((11 : Nat) : Int) + 4 = ((15 : Nat) : Int) := by decide +kernel
theorem z607 : ((14 : Nat) : Int) + 4 = ((18 : Nat) : Int) := by decide +kernel
theorem z608 : ¬ (1 : Int32) < 0 := by decide +kernel
theorem z609 : ¬ (2 : Int32) < 1 := by decide +kernel
theorem z610 : ¬ (2 : Int32) < 2 := by decide +kernel
theorem z611 : ((8 : Nat) : Int) + 14 = ((22 : Nat) : Int) := by decide +kernel
theorem z612 : ((5 : Nat) : Int) + 11 = ((16 : Nat) : Int) := by decide +kernel
theorem z613 : ((8 : Nat) : Int) + 18 = ((26 : Nat) : Int) := by decide +kernel
theorem z614 : ((5 : Nat) : Int) + 10 = ((15 : Nat) : Int) := by decide +kernel
theorem z615 : yX10_isUnwritten.cls ≠ "java/lang/invoke/MethodHandle" ∧ yX10_isUnwritten.cls ≠ "java/lang/invoke/VarHandle" ∧ (parseMethodDescriptor yX10_isUnwritten.desc).map (fun d => d.parameters.length) = some 1 := by decide +kernel
theorem z616 : ((14 : Nat) : Int) + 10 = ((24 : Nat) : Int) := by decide +kernel
theorem z617 : ((19 : Nat) : Int) + 7 = ((26 : Nat) : Int) := by decide +kernel
theorem z618 : ((23 : Nat) : Int) + 4 = ((27 : Nat) : Int) := by decide +kernel
theorem z619 : ((1 : Nat) : Int) + 12 = ((13 : Nat) : Int) := by decide +kernel
theorem z620 : ((12 : Nat) : Int) + 5 = ((17 : Nat) : Int) := by decide +kernel
theorem z621 : yX10_isGuild.cls ≠ "java/lang/invoke/MethodHandle" ∧ yX10_isGuild.cls ≠ "java/lang/invoke/VarHandle" ∧ (parseMethodDescriptor yX10_isGuild.desc).map (fun d => d.parameters.length) = some 1 := by decide +kernel
theorem z622 : ((21 : Nat) : Int) + 5 = ((26 : Nat) : Int) := by decide +kernel
theorem z623 : yX11_isGuild.cls ≠ "java/lang/invoke/MethodHandle" ∧ yX11_isGuild.cls ≠ "java/lang/invoke/VarHandle" ∧ (parseMethodDescriptor yX11_isGuild.desc).map (fun d => d.parameters.length) = some 1 := by decide +kernel
theorem z624 : ((6 : Nat) : Int) + 7 = ((13 : Nat) : Int) := by decide +kernel
theorem z625 : ((10 : Nat) : Int) + 4 = ((14 : Nat) : Int) := by decide +kernel
theorem z626 : (0 : Int32) < 40 := by decide +kernel
theorem z627 : ixp 0 0 40 := ⟨vin _ _ (by decide +kernel), by decide +kernel⟩
theorem z628 : vp_nar .boolean 1 = 1 := by decide +kernel
theorem z629 : (0 : Int32) < 1 := by decide +kernel
theorem z630 : ((8 : Nat) : Int) + 5 = ((13 : Nat) : Int) := by decide +kernel
theorem z631 : ((32 : Nat) : Int) + 21 = ((53 : Nat) : Int) := by decide +kernel
theorem z632 : ((50 : Nat) : Int) + 25 = ((75 : Nat) : Int) := by decide +kernel
theorem z633 : yX0_note.cls ≠ "java/lang/invoke/MethodHandle" ∧ yX0_note.cls ≠ "java/lang/invoke/VarHandle" ∧ (parseMethodDescriptor yX0_note.desc).map (fun d => d.parameters.length) = some 4 := by decide +kernel
theorem z634 : yX0_doAgain.cls ≠ "java/lang/invoke/MethodHandle" ∧ yX0_doAgain.cls ≠ "java/lang/invoke/VarHandle" ∧ (parseMethodDescriptor yX0_doAgain.desc).map (fun d => d.parameters.length) = some 0 := by decide +kernel
theorem z635 : yX0_putSale.cls ≠ "java/lang/invoke/MethodHandle" ∧ yX0_putSale.cls ≠ "java/lang/invoke/VarHandle" ∧ (parseMethodDescriptor yX0_putSale.desc).map (fun d => d.parameters.length) = some 2 := by decide +kernel
theorem z636 : ¬ (0 : Int32) = 40 := by decide +kernel
theorem z637 : ((6 : Nat) : Int) + 55 = ((61 : Nat) : Int) := by decide +kernel
theorem z638 : yX11_keepAct.cls ≠ "java/lang/invoke/MethodHandle" ∧ yX11_keepAct.cls ≠ "java/lang/invoke/VarHandle" ∧ (parseMethodDescriptor yX11_keepAct.desc).map (fun d => d.parameters.length) = some 2 := by decide +kernel
theorem z639 : ((4 : Nat) : Int) + 5 = ((9 : Nat) : Int) := by decide +kernel
theorem z640 : yX0_takeBack.cls ≠ "java/lang/invoke/MethodHandle" ∧ yX0_takeBack.cls ≠ "java/lang/invoke/VarHandle" ∧ (parseMethodDescriptor yX0_takeBack.desc).map (fun d => d.parameters.length) = some 0 := by decide +kernel
theorem z641 : ((1 : Nat) : Int) + 26 = ((27 : Nat) : Int) := by decide +kernel
theorem z642 : ((11 : Nat) : Int) + 12 = ((23 : Nat) : Int) := by decide +kernel
theorem z643 : ((12 : Nat) : Int) + 15 = ((27 : Nat) : Int) := by decide +kernel
theorem z644 : ((6 : Nat) : Int) + 25 = ((31 : Nat) : Int) := by decide +kernel
theorem z645 : yX5_readBeginning.cls ≠ "java/lang/invoke/MethodHandle" ∧ yX5_readBeginning.cls ≠ "java/lang/invoke/VarHandle" ∧ (parseMethodDescriptor yX5_readBeginning.desc).map (fun d => d.parameters.length) = some 3 := by decide +kernel
theorem z646 : yX5_nextWords.cls ≠ "java/lang/invoke/MethodHandle" ∧ yX5_nextWords.cls ≠ "java/lang/invoke/VarHandle" ∧ (parseMethodDescriptor yX5_nextWords.desc).map (fun d => d.parameters.length) = some 2 := by decide +kernel
theorem z647 : yX10_nextInEarnest.cls ≠ "java/lang/invoke/MethodHandle" ∧ yX10_nextInEarnest.cls ≠ "java/lang/invoke/VarHandle" ∧ (parseMethodDescriptor yX10_nextInEarnest.desc).map (fun d => d.parameters.length) = some 0 := by decide +kernel
theorem z648 : ((14 : Nat) : Int) + 27 = ((41 : Nat) : Int) := by decide +kernel
theorem z649 : ((9 : Nat) : Int) + 29 = ((38 : Nat) : Int) := by decide +kernel
theorem z650 : ((45 : Nat) : Int) + 29 = ((74 : Nat) : Int) := by decide +kernel
theorem z651 : ((80 : Nat) : Int) + 25 = ((105 : Nat) : Int) := by decide +kernel
theorem z652 : yX7_countOf.cls ≠ "java/lang/invoke/MethodHandle" ∧ yX7_countOf.cls ≠ "java/lang/invoke/VarHandle" ∧ (parseMethodDescriptor yX7_countOf.desc).map (fun d => d.parameters.length) = some 3 := by decide +kernel
theorem z653 : ((7 : Nat) : Int) + 21 = ((28 : Nat) : Int) := by decide +kernel
theorem z654 : (0 : Int64).toInt32 = 0 := by decide +kernel
theorem z655 : yX11_tryRow.cls ≠ "java/lang/invoke/MethodHandle" ∧ yX11_tryRow.cls ≠ "java/lang/invoke/VarHandle" ∧ (parseMethodDescriptor yX11_tryRow.desc).map (fun d => d.parameters.length) = some 0 := by decide +kernel
theorem z656 : yX11_readingsOf.cls ≠ "java/lang/invoke/MethodHandle" ∧ yX11_readingsOf.cls ≠ "java/lang/invoke/VarHandle" ∧ (parseMethodDescriptor yX11_readingsOf.desc).map (fun d => d.parameters.length) = some 1 := by decide +kernel
theorem z657 : ((4 : Nat) : Int) + 28 = ((32 : Nat) : Int) := by decide +kernel
theorem z658 : ((9 : Nat) : Int) + 38 = ((47 : Nat) : Int) := by decide +kernel
theorem z659 : ((29 : Nat) : Int) + 5 = ((34 : Nat) : Int) := by decide +kernel
theorem z660 : yX4_meaningOf.cls ≠ "java/lang/invoke/MethodHandle" ∧ yX4_meaningOf.cls ≠ "java/lang/invoke/VarHandle" ∧ (parseMethodDescriptor yX4_meaningOf.desc).map (fun d => d.parameters.length) = some 3 := by decide +kernel
theorem z661 : ((8 : Nat) : Int) + 67 = ((75 : Nat) : Int) := by decide +kernel
theorem z662 : yX11_meansOf.cls ≠ "java/lang/invoke/MethodHandle" ∧ yX11_meansOf.cls ≠ "java/lang/invoke/VarHandle" ∧ (parseMethodDescriptor yX11_meansOf.desc).map (fun d => d.parameters.length) = some 2 := by decide +kernel
theorem z663 : ((7 : Nat) : Int) + 10 = ((17 : Nat) : Int) := by decide +kernel
theorem z664 : ((14 : Nat) : Int) + 7 = ((21 : Nat) : Int) := by decide +kernel
theorem z665 : ((10 : Nat) : Int) + 20 = ((30 : Nat) : Int) := by decide +kernel
theorem z666 : ((34 : Nat) : Int) + 31 = ((65 : Nat) : Int) := by decide +kernel
theorem z667 : ixp 0 0 3000 := ⟨vin _ _ (by decide +kernel), by decide +kernel⟩
theorem z668 : ((36 : Nat) : Int) + 25 = ((61 : Nat) : Int) := by decide +kernel
theorem z669 : ixp 0 0 9000 := ⟨vin _ _ (by decide +kernel), by decide +kernel⟩
theorem z670 : ((58 : Nat) : Int) + (-24) = ((34 : Nat) : Int) := by decide +kernel
theorem z671 : ixp 1 1 9000 := ⟨vin _ _ (by decide +kernel), by decide +kernel⟩
theorem z672 : ixp 2 2 9000 := ⟨vin _ _ (by decide +kernel), by decide +kernel⟩
theorem z673 : (0 : Int32) * 4 = 0 := by decide +kernel
theorem z674 : (0 : Int32) >>> ((0 : Int32) &&& 31) = 0 := by decide +kernel
theorem z675 : (Int8.ofInt 15).toInt32 = 15 := by decide +kernel
theorem z676 : (0 : Int32) &&& 15 = 0 := by decide +kernel
theorem z677 : ((42 : Nat) : Int) + 75 = ((117 : Nat) : Int) := by decide +kernel
theorem z678 : ((127 : Nat) : Int) + 17 = ((144 : Nat) : Int) := by decide +kernel
theorem z679 : ((136 : Nat) : Int) + 8 = ((144 : Nat) : Int) := by decide +kernel
theorem z680 : yX9_addRoot.cls ≠ "java/lang/invoke/MethodHandle" ∧ yX9_addRoot.cls ≠ "java/lang/invoke/VarHandle" ∧ (parseMethodDescriptor yX9_addRoot.desc).map (fun d => d.parameters.length) = some 2 := by decide +kernel
theorem z681 : yX9_grow.cls ≠ "java/lang/invoke/MethodHandle" ∧ yX9_grow.cls ≠ "java/lang/invoke/VarHandle" ∧ (parseMethodDescriptor yX9_grow.desc).map (fun d => d.parameters.length) = some 3 := by decide +kernel
theorem z682 : yX9_growFrom.cls ≠ "java/lang/invoke/MethodHandle" ∧ yX9_growFrom.cls ≠ "java/lang/invoke/VarHandle" ∧ (parseMethodDescriptor yX9_growFrom.desc).map (fun d => d.parameters.length) = some 5 := by decide +kernel
theorem z683 : yX10_growEarnest.cls ≠ "java/lang/invoke/MethodHandle" ∧ yX10_growEarnest.cls ≠ "java/lang/invoke/VarHandle" ∧ (parseMethodDescriptor yX10_growEarnest.desc).map (fun d => d.parameters.length) = some 0 := by decide +kernel
theorem z684 : ((9 : Nat) : Int) + 10 = ((19 : Nat) : Int) := by decide +kernel
theorem z685 : ((4 : Nat) : Int) + 14 = ((18 : Nat) : Int) := by decide +kernel
theorem z686 : ((11 : Nat) : Int) + 7 = ((18 : Nat) : Int) := by decide +kernel
theorem z687 : ((21 : Nat) : Int) + 6 = ((27 : Nat) : Int) := by decide +kernel
theorem z688 : yX9_hasCharters.cls ≠ "java/lang/invoke/MethodHandle" ∧ yX9_hasCharters.cls ≠ "java/lang/invoke/VarHandle" ∧ (parseMethodDescriptor yX9_hasCharters.desc).map (fun d => d.parameters.length) = some 0 := by decide +kernel
theorem z689 : ((1 : Nat) : Int) + 9 = ((10 : Nat) : Int) := by decide +kernel
theorem z690 : (0 : Int32).toInt64 = 0 := by decide +kernel
theorem z691 : (1 : Int64) + 0 = 1 := by decide +kernel
theorem z692 : ((22 : Nat) : Int) + 52 = ((74 : Nat) : Int) := by decide +kernel
theorem z693 : (1 : Int64) * 10 = 10 := by decide +kernel
theorem z694 : ((31 : Nat) : Int) + 15 = ((46 : Nat) : Int) := by decide +kernel
theorem z695 : ((49 : Nat) : Int) + 15 = ((64 : Nat) : Int) := by decide +kernel
theorem z696 : (10 : Int64) + 0 = 10 := by decide +kernel
theorem z697 : ((71 : Nat) : Int) + (-53) = ((18 : Nat) : Int) := by decide +kernel
theorem z698 : (10 : Int64) * 10 = 100 := by decide +kernel
theorem z699 : (0 : Int32) ≤ 1 := by decide +kernel
theorem z700 : (100 : Int64) + 0 = 100 := by decide +kernel
theorem z701 : (100 : Int64) * 10 = 1000 := by decide +kernel
theorem z702 : (0 : Int32) ≤ 2 := by decide +kernel
theorem z703 : (1000 : Int64) + 0 = 1000 := by decide +kernel
theorem z704 : (1000 : Int64) * 10 = 10000 := by decide +kernel
theorem z705 : (0 : Int32) ≤ 3 := by decide +kernel
theorem z706 : (10000 : Int64) + 0 = 10000 := by decide +kernel
theorem z707 : (10000 : Int64) * 10 = 100000 := by decide +kernel
theorem z708 : (0 : Int32) ≤ 4 := by decide +kernel
theorem z709 : (100000 : Int64) + 0 = 100000 := by decide +kernel
theorem z710 : (100000 : Int64) * 10 = 1000000 := by decide +kernel
theorem z711 : (0 : Int32) ≤ 5 := by decide +kernel
theorem z712 : (1000000 : Int64) + 0 = 1000000 := by decide +kernel
theorem z713 : ((13 : Nat) : Int) + 19 = ((32 : Nat) : Int) := by decide +kernel
theorem z714 : ((4 : Nat) : Int) + 21 = ((25 : Nat) : Int) := by decide +kernel
theorem z715 : ((7 : Nat) : Int) + 16 = ((23 : Nat) : Int) := by decide +kernel
theorem z716 : ((20 : Nat) : Int) + (-18) = ((2 : Nat) : Int) := by decide +kernel
theorem z717 : ((28 : Nat) : Int) + 18 = ((46 : Nat) : Int) := by decide +kernel
theorem z718 : yX11_isRead.cls ≠ "java/lang/invoke/MethodHandle" ∧ yX11_isRead.cls ≠ "java/lang/invoke/VarHandle" ∧ (parseMethodDescriptor yX11_isRead.desc).map (fun d => d.parameters.length) = some 1 := by decide +kernel
theorem z719 : yX11_canGoOn.cls ≠ "java/lang/invoke/MethodHandle" ∧ yX11_canGoOn.cls ≠ "java/lang/invoke/VarHandle" ∧ (parseMethodDescriptor yX11_canGoOn.desc).map (fun d => d.parameters.length) = some 1 := by decide +kernel
theorem z720 : ((57 : Nat) : Int) + 5 = ((62 : Nat) : Int) := by decide +kernel
theorem z721 : yX11_keyOf.cls ≠ "java/lang/invoke/MethodHandle" ∧ yX11_keyOf.cls ≠ "java/lang/invoke/VarHandle" ∧ (parseMethodDescriptor yX11_keyOf.desc).map (fun d => d.parameters.length) = some 2 := by decide +kernel
theorem z722 : yX11_isOnPath.cls ≠ "java/lang/invoke/MethodHandle" ∧ yX11_isOnPath.cls ≠ "java/lang/invoke/VarHandle" ∧ (parseMethodDescriptor yX11_isOnPath.desc).map (fun d => d.parameters.length) = some 1 := by decide +kernel
theorem z723 : yX11_layList.cls ≠ "java/lang/invoke/MethodHandle" ∧ yX11_layList.cls ≠ "java/lang/invoke/VarHandle" ∧ (parseMethodDescriptor yX11_layList.desc).map (fun d => d.parameters.length) = some 2 := by decide +kernel
theorem z724 : ((16 : Nat) : Int) + 7 = ((23 : Nat) : Int) := by decide +kernel
theorem z725 : ((5 : Nat) : Int) + 21 = ((26 : Nat) : Int) := by decide +kernel
theorem z726 : ((23 : Nat) : Int) + (-21) = ((2 : Nat) : Int) := by decide +kernel
theorem z727 : ((9 : Nat) : Int) + 16 = ((25 : Nat) : Int) := by decide +kernel
theorem z728 : ((37 : Nat) : Int) + 149 = ((186 : Nat) : Int) := by decide +kernel
theorem z729 : ((49 : Nat) : Int) + 99 = ((148 : Nat) : Int) := by decide +kernel
theorem z730 : ((157 : Nat) : Int) + 23 = ((180 : Nat) : Int) := by decide +kernel
theorem z731 : (2 : Int32) + Int32.ofInt (-1) = 1 := by decide +kernel
theorem z732 : ((183 : Nat) : Int) + (-151) = ((32 : Nat) : Int) := by decide +kernel
theorem z733 : (1 : Int32) + Int32.ofInt (-1) = 0 := by decide +kernel
theorem z734 : (0 : Int32) + Int32.ofInt (-1) = (-1) := by decide +kernel
theorem z735 : ((-1) : Int32) < 0 := by decide +kernel
theorem z736 : ((187 : Nat) : Int) + 7 = ((194 : Nat) : Int) := by decide +kernel
theorem z737 : ((191 : Nat) : Int) + 9 = ((200 : Nat) : Int) := by decide +kernel
theorem z738 : ¬ (0 : Int32) ≤ (-1) := by decide +kernel
theorem z739 : ((34 : Nat) : Int) + 7 = ((41 : Nat) : Int) := by decide +kernel
theorem z740 : yX11_layFromRow.cls ≠ "java/lang/invoke/MethodHandle" ∧ yX11_layFromRow.cls ≠ "java/lang/invoke/VarHandle" ∧ (parseMethodDescriptor yX11_layFromRow.desc).map (fun d => d.parameters.length) = some 0 := by decide +kernel
theorem z741 : yX11_turnsNow.cls ≠ "java/lang/invoke/MethodHandle" ∧ yX11_turnsNow.cls ≠ "java/lang/invoke/VarHandle" ∧ (parseMethodDescriptor yX11_turnsNow.desc).map (fun d => d.parameters.length) = some 0 := by decide +kernel
theorem z742 : yX11_plays.cls ≠ "java/lang/invoke/MethodHandle" ∧ yX11_plays.cls ≠ "java/lang/invoke/VarHandle" ∧ (parseMethodDescriptor yX11_plays.desc).map (fun d => d.parameters.length) = some 1 := by decide +kernel
theorem z743 : ((7 : Nat) : Int) + 17 = ((24 : Nat) : Int) := by decide +kernel
theorem z744 : ((20 : Nat) : Int) + 6 = ((26 : Nat) : Int) := by decide +kernel
theorem z745 : ((21 : Nat) : Int) + 7 = ((28 : Nat) : Int) := by decide +kernel
theorem z746 : ((9 : Nat) : Int) + 19 = ((28 : Nat) : Int) := by decide +kernel
theorem z747 : ((4 : Nat) : Int) + 26 = ((30 : Nat) : Int) := by decide +kernel
theorem z748 : ((13 : Nat) : Int) + 15 = ((28 : Nat) : Int) := by decide +kernel
theorem z749 : ((13 : Nat) : Int) + 17 = ((30 : Nat) : Int) := by decide +kernel
theorem z750 : ((18 : Nat) : Int) + 10 = ((28 : Nat) : Int) := by decide +kernel
theorem z751 : ((25 : Nat) : Int) + 6 = ((31 : Nat) : Int) := by decide +kernel
theorem z752 : ((20 : Nat) : Int) + 10 = ((30 : Nat) : Int) := by decide +kernel
theorem z753 : ((27 : Nat) : Int) + 7 = ((34 : Nat) : Int) := by decide +kernel
theorem z754 : ((4 : Nat) : Int) + 10 = ((14 : Nat) : Int) := by decide +kernel
theorem z755 : ((11 : Nat) : Int) + 5 = ((16 : Nat) : Int) := by decide +kernel
theorem z756 : ((5 : Nat) : Int) + 14 = ((19 : Nat) : Int) := by decide +kernel
theorem z757 : (Int8.ofInt (-2)).toInt32 = (-2) := by decide +kernel
theorem z758 : ((14 : Nat) : Int) + 11 = ((25 : Nat) : Int) := by decide +kernel
theorem z759 : ((16 : Nat) : Int) + 6 = ((22 : Nat) : Int) := by decide +kernel
theorem z760 : ((22 : Nat) : Int) + 6 = ((28 : Nat) : Int) := by decide +kernel
theorem z761 : ¬ (16 : Int32) ≤ 0 := by decide +kernel
theorem z762 : ((5 : Nat) : Int) + 25 = ((30 : Nat) : Int) := by decide +kernel
theorem z763 : ((15 : Nat) : Int) + 7 = ((22 : Nat) : Int) := by decide +kernel
theorem z764 : ixp 0 0 16 := ⟨vin _ _ (by decide +kernel), by decide +kernel⟩
theorem z765 : ((27 : Nat) : Int) + (-25) = ((2 : Nat) : Int) := by decide +kernel
theorem z766 : ¬ (16 : Int32) ≤ 1 := by decide +kernel
theorem z767 : ixp 1 1 16 := ⟨vin _ _ (by decide +kernel), by decide +kernel⟩
theorem z768 : ¬ (16 : Int32) ≤ 2 := by decide +kernel
theorem z769 : ixp 2 2 16 := ⟨vin _ _ (by decide +kernel), by decide +kernel⟩
theorem z770 : ¬ (16 : Int32) ≤ 3 := by decide +kernel
theorem z771 : ixp 3 3 16 := ⟨vin _ _ (by decide +kernel), by decide +kernel⟩
theorem z772 : ¬ (16 : Int32) ≤ 4 := by decide +kernel
theorem z773 : ixp 4 4 16 := ⟨vin _ _ (by decide +kernel), by decide +kernel⟩
theorem z774 : ¬ (16 : Int32) ≤ 5 := by decide +kernel
theorem z775 : ixp 5 5 16 := ⟨vin _ _ (by decide +kernel), by decide +kernel⟩
theorem z776 : ¬ (16 : Int32) ≤ 6 := by decide +kernel
theorem z777 : (0 : Int32) ≤ 6 := by decide +kernel
theorem z778 : ixp 6 6 16 := ⟨vin _ _ (by decide +kernel), by decide +kernel⟩
theorem z779 : ¬ (16 : Int32) ≤ 7 := by decide +kernel
theorem z780 : (0 : Int32) ≤ 7 := by decide +kernel
theorem z781 : ixp 7 7 16 := ⟨vin _ _ (by decide +kernel), by decide +kernel⟩
theorem z782 : ¬ (16 : Int32) ≤ 8 := by decide +kernel
theorem z783 : (0 : Int32) ≤ 8 := by decide +kernel
theorem z784 : ixp 8 8 16 := ⟨vin _ _ (by decide +kernel), by decide +kernel⟩
theorem z785 : ¬ (16 : Int32) ≤ 9 := by decide +kernel
theorem z786 : (0 : Int32) ≤ 9 := by decide +kernel
theorem z787 : ixp 9 9 16 := ⟨vin _ _ (by decide +kernel), by decide +kernel⟩
theorem z788 : ¬ (16 : Int32) ≤ 10 := by decide +kernel
theorem z789 : (0 : Int32) ≤ 10 := by decide +kernel
theorem z790 : ixp 10 10 16 := ⟨vin _ _ (by decide +kernel), by decide +kernel⟩
theorem z791 : ¬ (16 : Int32) ≤ 11 := by decide +kernel
theorem z792 : (0 : Int32) ≤ 11 := by decide +kernel
theorem z793 : ixp 11 11 16 := ⟨vin _ _ (by decide +kernel), by decide +kernel⟩
theorem z794 : (0 : Int32) ≤ 12 := by decide +kernel
theorem z795 : ixp 12 12 16 := ⟨vin _ _ (by decide +kernel), by decide +kernel⟩
theorem z796 : (0 : Int32) ≤ 13 := by decide +kernel
theorem z797 : ixp 13 13 16 := ⟨vin _ _ (by decide +kernel), by decide +kernel⟩
theorem z798 : (0 : Int32) ≤ 14 := by decide +kernel
theorem z799 : ixp 14 14 16 := ⟨vin _ _ (by decide +kernel), by decide +kernel⟩
theorem z800 : (0 : Int32) ≤ 15 := by decide +kernel
theorem z801 : ixp 15 15 16 := ⟨vin _ _ (by decide +kernel), by decide +kernel⟩
theorem z802 : ((37 : Nat) : Int) + 94 = ((131 : Nat) : Int) := by decide +kernel
theorem z803 : ((27 : Nat) : Int) + 46 = ((73 : Nat) : Int) := by decide +kernel
theorem z804 : yX4_findShortest.cls ≠ "java/lang/invoke/MethodHandle" ∧ yX4_findShortest.cls ≠ "java/lang/invoke/VarHandle" ∧ (parseMethodDescriptor yX4_findShortest.desc).map (fun d => d.parameters.length) = some 1 := by decide +kernel
theorem z805 : yX4_rulesOfUse.cls ≠ "java/lang/invoke/MethodHandle" ∧ yX4_rulesOfUse.cls ≠ "java/lang/invoke/VarHandle" ∧ (parseMethodDescriptor yX4_rulesOfUse.desc).map (fun d => d.parameters.length) = some 1 := by decide +kernel
theorem z806 : ¬ (8 : Int32) ≤ 0 := by decide +kernel
theorem z807 : ixp 0 0 8 := ⟨vin _ _ (by decide +kernel), by decide +kernel⟩
theorem z808 : ((18 : Nat) : Int) + (-16) = ((2 : Nat) : Int) := by decide +kernel
theorem z809 : ¬ (8 : Int32) ≤ 1 := by decide +kernel
theorem z810 : ixp 1 1 8 := ⟨vin _ _ (by decide +kernel), by decide +kernel⟩
theorem z811 : ¬ (8 : Int32) ≤ 2 := by decide +kernel
theorem z812 : ixp 2 2 8 := ⟨vin _ _ (by decide +kernel), by decide +kernel⟩
theorem z813 : ¬ (8 : Int32) ≤ 3 := by decide +kernel
theorem z814 : ixp 3 3 8 := ⟨vin _ _ (by decide +kernel), by decide +kernel⟩
theorem z815 : ixp 4 4 8 := ⟨vin _ _ (by decide +kernel), by decide +kernel⟩
theorem z816 : ixp 5 5 8 := ⟨vin _ _ (by decide +kernel), by decide +kernel⟩
theorem z817 : ixp 6 6 8 := ⟨vin _ _ (by decide +kernel), by decide +kernel⟩
theorem z818 : ixp 7 7 8 := ⟨vin _ _ (by decide +kernel), by decide +kernel⟩
theorem z819 : ((24 : Nat) : Int) + 95 = ((119 : Nat) : Int) := by decide +kernel
theorem z820 : (24 : Int32) * 0 = 0 := by decide +kernel
theorem z821 : ((55 : Nat) : Int) + 61 = ((116 : Nat) : Int) := by decide +kernel
theorem z822 : ((116 : Nat) : Int) + (-93) = ((23 : Nat) : Int) := by decide +kernel
theorem z823 : ((13 : Nat) : Int) + 12 = ((25 : Nat) : Int) := by decide +kernel
theorem z824 : yX11_layShortest.cls ≠ "java/lang/invoke/MethodHandle" ∧ yX11_layShortest.cls ≠ "java/lang/invoke/VarHandle" ∧ (parseMethodDescriptor yX11_layShortest.desc).map (fun d => d.parameters.length) = some 0 := by decide +kernel
theorem z825 : ((16 : Nat) : Int) + 5 = ((21 : Nat) : Int) := by decide +kernel
theorem z826 : ((14 : Nat) : Int) + 6 = ((20 : Nat) : Int) := by decide +kernel
theorem z827 : ((27 : Nat) : Int) + 62 = ((89 : Nat) : Int) := by decide +kernel
theorem z828 : yX10_growWhole.cls ≠ "java/lang/invoke/MethodHandle" ∧ yX10_growWhole.cls ≠ "java/lang/invoke/VarHandle" ∧ (parseMethodDescriptor yX10_growWhole.desc).map (fun d => d.parameters.length) = some 0 := by decide +kernel
theorem z829 : ((9 : Nat) : Int) + 6 = ((15 : Nat) : Int) := by decide +kernel
theorem z830 : ((22 : Nat) : Int) + 47 = ((69 : Nat) : Int) := by decide +kernel
theorem z831 : yX11_layFromNone.cls ≠ "java/lang/invoke/MethodHandle" ∧ yX11_layFromNone.cls ≠ "java/lang/invoke/VarHandle" ∧ (parseMethodDescriptor yX11_layFromNone.desc).map (fun d => d.parameters.length) = some 0 := by decide +kernel
theorem z832 : ((11 : Nat) : Int) + 10 = ((21 : Nat) : Int) := by decide +kernel
theorem z833 : ((18 : Nat) : Int) + 7 = ((25 : Nat) : Int) := by decide +kernel
theorem z834 : ((8 : Nat) : Int) + 19 = ((27 : Nat) : Int) := by decide +kernel
theorem z835 : ((13 : Nat) : Int) + 16 = ((29 : Nat) : Int) := by decide +kernel
theorem z836 : ((24 : Nat) : Int) + 5 = ((29 : Nat) : Int) := by decide +kernel
theorem z837 : ((10 : Nat) : Int) + 13 = ((23 : Nat) : Int) := by decide +kernel
theorem z838 : ((18 : Nat) : Int) + 5 = ((23 : Nat) : Int) := by decide +kernel
theorem z839 : (15 : Int32) <<< ((0 : Int32) &&& 31) = 15 := by decide +kernel
theorem z840 : (15 : Int32) ^^^ (-1) = (-16) := by decide +kernel
theorem z841 : (0 : Int32) &&& (-16) = 0 := by decide +kernel
theorem z842 : ((-1) : Int32) + 1 = 0 := by decide +kernel
theorem z843 : (0 : Int32) <<< ((0 : Int32) &&& 31) = 0 := by decide +kernel
theorem z844 : (0 : Int32) ||| 0 = 0 := by decide +kernel
theorem z845 : (1 : Int32) * 4 = 4 := by decide +kernel
theorem z846 : (15 : Int32) <<< ((4 : Int32) &&& 31) = 240 := by decide +kernel
theorem z847 : (240 : Int32) ^^^ (-1) = (-241) := by decide +kernel
theorem z848 : (0 : Int32) &&& (-241) = 0 := by decide +kernel
theorem z849 : (0 : Int32) <<< ((4 : Int32) &&& 31) = 0 := by decide +kernel
theorem z850 : (2 : Int32) * 4 = 8 := by decide +kernel
theorem z851 : (15 : Int32) <<< ((8 : Int32) &&& 31) = 3840 := by decide +kernel
theorem z852 : (3840 : Int32) ^^^ (-1) = (-3841) := by decide +kernel
theorem z853 : (0 : Int32) &&& (-3841) = 0 := by decide +kernel
theorem z854 : (0 : Int32) <<< ((8 : Int32) &&& 31) = 0 := by decide +kernel
theorem z855 : ((24 : Nat) : Int) + 20 = ((44 : Nat) : Int) := by decide +kernel
theorem z856 : yX10_growHoles.cls ≠ "java/lang/invoke/MethodHandle" ∧ yX10_growHoles.cls ≠ "java/lang/invoke/VarHandle" ∧ (parseMethodDescriptor yX10_growHoles.desc).map (fun d => d.parameters.length) = some 0 := by decide +kernel
theorem z857 : (8 : Int64) * 10 = 80 := by decide +kernel
theorem z858 : (1 : Int32) + (-1) = 0 := by decide +kernel
theorem z859 : ((43 : Nat) : Int) + 22 = ((65 : Nat) : Int) := by decide +kernel
theorem z860 : (80 : Int64) + 0 = 80 := by decide +kernel
theorem z861 : (80 : Int64) * 10 = 800 := by decide +kernel
theorem z862 : (800 : Int64) + 0 = 800 := by decide +kernel
theorem z863 : (800 : Int64) * 10 = 8000 := by decide +kernel
theorem z864 : (8000 : Int64) + 0 = 8000 := by decide +kernel
theorem z865 : (8000 : Int64) * 10 = 80000 := by decide +kernel
theorem z866 : (80000 : Int64) + 0 = 80000 := by decide +kernel
theorem z867 : (80000 : Int64) * 10 = 800000 := by decide +kernel
theorem z868 : (800000 : Int64) + 0 = 800000 := by decide +kernel
theorem z869 : (800000 : Int64) * 10 = 8000000 := by decide +kernel
theorem z870 : (8000000 : Int64) + 0 = 8000000 := by decide +kernel
theorem z871 : ((6 : Nat) : Int) + 10 = ((16 : Nat) : Int) := by decide +kernel
theorem z872 : ((13 : Nat) : Int) + 5 = ((18 : Nat) : Int) := by decide +kernel
theorem z873 : ((39 : Nat) : Int) + 52 = ((91 : Nat) : Int) := by decide +kernel
theorem z874 : ((25 : Nat) : Int) + 7 = ((32 : Nat) : Int) := by decide +kernel
theorem z875 : ((4 : Nat) : Int) + 31 = ((35 : Nat) : Int) := by decide +kernel
theorem z876 : ((32 : Nat) : Int) + 5 = ((37 : Nat) : Int) := by decide +kernel
theorem z877 : ((1 : Nat) : Int) + 20 = ((21 : Nat) : Int) := by decide +kernel
theorem z878 : ((9 : Nat) : Int) + 12 = ((21 : Nat) : Int) := by decide +kernel
theorem z879 : ((5 : Nat) : Int) + 20 = ((25 : Nat) : Int) := by decide +kernel
theorem z880 : ((1 : Nat) : Int) + 21 = ((22 : Nat) : Int) := by decide +kernel
theorem z881 : yX6_takeBack.cls ≠ "java/lang/invoke/MethodHandle" ∧ yX6_takeBack.cls ≠ "java/lang/invoke/VarHandle" ∧ (parseMethodDescriptor yX6_takeBack.desc).map (fun d => d.parameters.length) = some 1 := by decide +kernel
theorem z882 : ((9 : Nat) : Int) + 13 = ((22 : Nat) : Int) := by decide +kernel
theorem z883 : ((1 : Nat) : Int) + 25 = ((26 : Nat) : Int) := by decide +kernel
theorem z884 : (Int16.ofInt 1000).toInt32 = 1000 := by decide +kernel
theorem z885 : ((8 : Nat) : Int) + 15 = ((23 : Nat) : Int) := by decide +kernel
theorem z886 : ((23 : Nat) : Int) + 5 = ((28 : Nat) : Int) := by decide +kernel
theorem z887 : ((20 : Nat) : Int) + 5 = ((25 : Nat) : Int) := by decide +kernel
theorem z888 : ((4 : Nat) : Int) + 6 = ((10 : Nat) : Int) := by decide +kernel
theorem z889 : ((17 : Nat) : Int) + 44 = ((61 : Nat) : Int) := by decide +kernel
theorem z890 : ((24 : Nat) : Int) + 37 = ((61 : Nat) : Int) := by decide +kernel
theorem z891 : ((1 : Nat) : Int) + 8 = ((9 : Nat) : Int) := by decide +kernel
theorem z892 : ((6 : Nat) : Int) + 5 = ((11 : Nat) : Int) := by decide +kernel
theorem z893 : (0 : Int32) < 3 := by decide +kernel
theorem z894 : yX1_keep.cls ≠ "java/lang/invoke/MethodHandle" ∧ yX1_keep.cls ≠ "java/lang/invoke/VarHandle" ∧ (parseMethodDescriptor yX1_keep.desc).map (fun d => d.parameters.length) = some 1 := by decide +kernel
theorem z895 : ((16 : Nat) : Int) + 43 = ((59 : Nat) : Int) := by decide +kernel
theorem z896 : (6 : Int32) * 0 = 0 := by decide +kernel
theorem z897 : ixp 0 0 18 := ⟨vin _ _ (by decide +kernel), by decide +kernel⟩
theorem z898 : ((56 : Nat) : Int) + (-43) = ((13 : Nat) : Int) := by decide +kernel
theorem z899 : ixp 1 1 18 := ⟨vin _ _ (by decide +kernel), by decide +kernel⟩
theorem z900 : ixp 2 2 18 := ⟨vin _ _ (by decide +kernel), by decide +kernel⟩
theorem z901 : ixp 3 3 18 := ⟨vin _ _ (by decide +kernel), by decide +kernel⟩
theorem z902 : ixp 4 4 18 := ⟨vin _ _ (by decide +kernel), by decide +kernel⟩
theorem z903 : ixp 5 5 18 := ⟨vin _ _ (by decide +kernel), by decide +kernel⟩
theorem z904 : (1 : Int32) < 3 := by decide +kernel
theorem z905 : (6 : Int32) * 1 = 6 := by decide +kernel
theorem z906 : (6 : Int32) + 0 = 6 := by decide +kernel
theorem z907 : ixp 6 6 18 := ⟨vin _ _ (by decide +kernel), by decide +kernel⟩
theorem z908 : ixp 7 7 18 := ⟨vin _ _ (by decide +kernel), by decide +kernel⟩
theorem z909 : (6 : Int32) + 2 = 8 := by decide +kernel
theorem z910 : ixp 8 8 18 := ⟨vin _ _ (by decide +kernel), by decide +kernel⟩
theorem z911 : (6 : Int32) + 3 = 9 := by decide +kernel
theorem z912 : ixp 9 9 18 := ⟨vin _ _ (by decide +kernel), by decide +kernel⟩
theorem z913 : (6 : Int32) + 4 = 10 := by decide +kernel
theorem z914 : ixp 10 10 18 := ⟨vin _ _ (by decide +kernel), by decide +kernel⟩
theorem z915 : (6 : Int32) + 5 = 11 := by decide +kernel
theorem z916 : ixp 11 11 18 := ⟨vin _ _ (by decide +kernel), by decide +kernel⟩
theorem z917 : (2 : Int32) < 3 := by decide +kernel
theorem z918 : (6 : Int32) * 2 = 12 := by decide +kernel
theorem z919 : (12 : Int32) + 0 = 12 := by decide +kernel
theorem z920 : ixp 12 12 18 := ⟨vin _ _ (by decide +kernel), by decide +kernel⟩
theorem z921 : ixp 13 13 18 := ⟨vin _ _ (by decide +kernel), by decide +kernel⟩
theorem z922 : (12 : Int32) + 2 = 14 := by decide +kernel
theorem z923 : ixp 14 14 18 := ⟨vin _ _ (by decide +kernel), by decide +kernel⟩
theorem z924 : (12 : Int32) + 3 = 15 := by decide +kernel
theorem z925 : ixp 15 15 18 := ⟨vin _ _ (by decide +kernel), by decide +kernel⟩
theorem z926 : (12 : Int32) + 4 = 16 := by decide +kernel
theorem z927 : ixp 16 16 18 := ⟨vin _ _ (by decide +kernel), by decide +kernel⟩
theorem z928 : (12 : Int32) + 5 = 17 := by decide +kernel
theorem z929 : ixp 17 17 18 := ⟨vin _ _ (by decide +kernel), by decide +kernel⟩
theorem z930 : ((6 : Nat) : Int) + 12 = ((18 : Nat) : Int) := by decide +kernel
theorem z931 : ((6 : Nat) : Int) + 15 = ((21 : Nat) : Int) := by decide +kernel
theorem z932 : ((15 : Nat) : Int) + 5 = ((20 : Nat) : Int) := by decide +kernel
theorem z933 : (0 : Int32) - 0 = 0 := by decide +kernel
theorem z934 : yX2_init.cls ≠ "java/lang/invoke/MethodHandle" ∧ yX2_init.cls ≠ "java/lang/invoke/VarHandle" ∧ (parseMethodDescriptor yX2_init.desc).map (fun d => d.parameters.length) = some 0 := by decide +kernel
theorem z935 : yX0_init.cls ≠ "java/lang/invoke/MethodHandle" ∧ yX0_init.cls ≠ "java/lang/invoke/VarHandle" ∧ (parseMethodDescriptor yX0_init.desc).map (fun d => d.parameters.length) = some 0 := by decide +kernel
theorem z936 : yX1_init.cls ≠ "java/lang/invoke/MethodHandle" ∧ yX1_init.cls ≠ "java/lang/invoke/VarHandle" ∧ (parseMethodDescriptor yX1_init.desc).map (fun d => d.parameters.length) = some 0 := by decide +kernel
theorem z937 : yX5_init.cls ≠ "java/lang/invoke/MethodHandle" ∧ yX5_init.cls ≠ "java/lang/invoke/VarHandle" ∧ (parseMethodDescriptor yX5_init.desc).map (fun d => d.parameters.length) = some 0 := by decide +kernel
theorem z938 : yX7_init.cls ≠ "java/lang/invoke/MethodHandle" ∧ yX7_init.cls ≠ "java/lang/invoke/VarHandle" ∧ (parseMethodDescriptor yX7_init.desc).map (fun d => d.parameters.length) = some 0 := by decide +kernel
theorem z939 : yX3_init.cls ≠ "java/lang/invoke/MethodHandle" ∧ yX3_init.cls ≠ "java/lang/invoke/VarHandle" ∧ (parseMethodDescriptor yX3_init.desc).map (fun d => d.parameters.length) = some 0 := by decide +kernel
theorem z940 : yX9_init.cls ≠ "java/lang/invoke/MethodHandle" ∧ yX9_init.cls ≠ "java/lang/invoke/VarHandle" ∧ (parseMethodDescriptor yX9_init.desc).map (fun d => d.parameters.length) = some 0 := by decide +kernel
theorem z941 : yX6_init.cls ≠ "java/lang/invoke/MethodHandle" ∧ yX6_init.cls ≠ "java/lang/invoke/VarHandle" ∧ (parseMethodDescriptor yX6_init.desc).map (fun d => d.parameters.length) = some 0 := by decide +kernel
theorem z942 : ((254 : Nat) : Int) + 839 = ((1093 : Nat) : Int) := by decide +kernel
theorem z943 : (0 : Int32) + Int32.ofInt 6 = 6 := by decide +kernel
theorem z944 : ((1096 : Nat) : Int) + (-1078) = ((18 : Nat) : Int) := by decide +kernel
theorem z945 : (6 : Int32) - 6 = 0 := by decide +kernel
theorem z946 : (0 : Int32) < 6 := by decide +kernel
theorem z947 : ((24 : Nat) : Int) + 1075 = ((1099 : Nat) : Int) := by decide +kernel
theorem z948 : yX10_feed.cls ≠ "java/lang/invoke/MethodHandle" ∧ yX10_feed.cls ≠ "java/lang/invoke/VarHandle" ∧ (parseMethodDescriptor yX10_feed.desc).map (fun d => d.parameters.length) = some 5 := by decide +kernel
theorem z949 : yX11_feed.cls ≠ "java/lang/invoke/MethodHandle" ∧ yX11_feed.cls ≠ "java/lang/invoke/VarHandle" ∧ (parseMethodDescriptor yX11_feed.desc).map (fun d => d.parameters.length) = some 5 := by decide +kernel
theorem z950 : ((277 : Nat) : Int) + 816 = ((1093 : Nat) : Int) := by decide +kernel
theorem z951 : yX10_end.cls ≠ "java/lang/invoke/MethodHandle" ∧ yX10_end.cls ≠ "java/lang/invoke/VarHandle" ∧ (parseMethodDescriptor yX10_end.desc).map (fun d => d.parameters.length) = some 1 := by decide +kernel
theorem z952 : yX11_end.cls ≠ "java/lang/invoke/MethodHandle" ∧ yX11_end.cls ≠ "java/lang/invoke/VarHandle" ∧ (parseMethodDescriptor yX11_end.desc).map (fun d => d.parameters.length) = some 1 := by decide +kernel
theorem z953 : ((290 : Nat) : Int) + 803 = ((1093 : Nat) : Int) := by decide +kernel
theorem z954 : yX10_port.cls ≠ "java/lang/invoke/MethodHandle" ∧ yX10_port.cls ≠ "java/lang/invoke/VarHandle" ∧ (parseMethodDescriptor yX10_port.desc).map (fun d => d.parameters.length) = some 0 := by decide +kernel
theorem z955 : yX11_port.cls ≠ "java/lang/invoke/MethodHandle" ∧ yX11_port.cls ≠ "java/lang/invoke/VarHandle" ∧ (parseMethodDescriptor yX11_port.desc).map (fun d => d.parameters.length) = some 0 := by decide +kernel
theorem z956 : ((313 : Nat) : Int) + 780 = ((1093 : Nat) : Int) := by decide +kernel
theorem z957 : yX10_fault.cls ≠ "java/lang/invoke/MethodHandle" ∧ yX10_fault.cls ≠ "java/lang/invoke/VarHandle" ∧ (parseMethodDescriptor yX10_fault.desc).map (fun d => d.parameters.length) = some 1 := by decide +kernel
theorem z958 : yX11_fault.cls ≠ "java/lang/invoke/MethodHandle" ∧ yX11_fault.cls ≠ "java/lang/invoke/VarHandle" ∧ (parseMethodDescriptor yX11_fault.desc).map (fun d => d.parameters.length) = some 1 := by decide +kernel
theorem z959 : ((346 : Nat) : Int) + 747 = ((1093 : Nat) : Int) := by decide +kernel
theorem z960 : yX10_worth.cls ≠ "java/lang/invoke/MethodHandle" ∧ yX10_worth.cls ≠ "java/lang/invoke/VarHandle" ∧ (parseMethodDescriptor yX10_worth.desc).map (fun d => d.parameters.length) = some 2 := by decide +kernel
theorem z961 : yX11_worth.cls ≠ "java/lang/invoke/MethodHandle" ∧ yX11_worth.cls ≠ "java/lang/invoke/VarHandle" ∧ (parseMethodDescriptor yX11_worth.desc).map (fun d => d.parameters.length) = some 2 := by decide +kernel
theorem z962 : ((389 : Nat) : Int) + 704 = ((1093 : Nat) : Int) := by decide +kernel
theorem z963 : yX10_behind.cls ≠ "java/lang/invoke/MethodHandle" ∧ yX10_behind.cls ≠ "java/lang/invoke/VarHandle" ∧ (parseMethodDescriptor yX10_behind.desc).map (fun d => d.parameters.length) = some 3 := by decide +kernel
theorem z964 : yX11_behind.cls ≠ "java/lang/invoke/MethodHandle" ∧ yX11_behind.cls ≠ "java/lang/invoke/VarHandle" ∧ (parseMethodDescriptor yX11_behind.desc).map (fun d => d.parameters.length) = some 3 := by decide +kernel
theorem z965 : ((412 : Nat) : Int) + 681 = ((1093 : Nat) : Int) := by decide +kernel
theorem z966 : yX10_turn.cls ≠ "java/lang/invoke/MethodHandle" ∧ yX10_turn.cls ≠ "java/lang/invoke/VarHandle" ∧ (parseMethodDescriptor yX10_turn.desc).map (fun d => d.parameters.length) = some 1 := by decide +kernel
theorem z967 : yX11_turn.cls ≠ "java/lang/invoke/MethodHandle" ∧ yX11_turn.cls ≠ "java/lang/invoke/VarHandle" ∧ (parseMethodDescriptor yX11_turn.desc).map (fun d => d.parameters.length) = some 1 := by decide +kernel
theorem z968 : ((435 : Nat) : Int) + 658 = ((1093 : Nat) : Int) := by decide +kernel
theorem z969 : yX10_write.cls ≠ "java/lang/invoke/MethodHandle" ∧ yX10_write.cls ≠ "java/lang/invoke/VarHandle" ∧ (parseMethodDescriptor yX10_write.desc).map (fun d => d.parameters.length) = some 1 := by decide +kernel
theorem z970 : yX11_write.cls ≠ "java/lang/invoke/MethodHandle" ∧ yX11_write.cls ≠ "java/lang/invoke/VarHandle" ∧ (parseMethodDescriptor yX11_write.desc).map (fun d => d.parameters.length) = some 1 := by decide +kernel
theorem z971 : ((468 : Nat) : Int) + 625 = ((1093 : Nat) : Int) := by decide +kernel
theorem z972 : yX10_sell.cls ≠ "java/lang/invoke/MethodHandle" ∧ yX10_sell.cls ≠ "java/lang/invoke/VarHandle" ∧ (parseMethodDescriptor yX10_sell.desc).map (fun d => d.parameters.length) = some 2 := by decide +kernel
theorem z973 : yX11_sell.cls ≠ "java/lang/invoke/MethodHandle" ∧ yX11_sell.cls ≠ "java/lang/invoke/VarHandle" ∧ (parseMethodDescriptor yX11_sell.desc).map (fun d => d.parameters.length) = some 2 := by decide +kernel
theorem z974 : ((481 : Nat) : Int) + 612 = ((1093 : Nat) : Int) := by decide +kernel
theorem z975 : yX10_undo.cls ≠ "java/lang/invoke/MethodHandle" ∧ yX10_undo.cls ≠ "java/lang/invoke/VarHandle" ∧ (parseMethodDescriptor yX10_undo.desc).map (fun d => d.parameters.length) = some 0 := by decide +kernel
theorem z976 : yX11_undo.cls ≠ "java/lang/invoke/MethodHandle" ∧ yX11_undo.cls ≠ "java/lang/invoke/VarHandle" ∧ (parseMethodDescriptor yX11_undo.desc).map (fun d => d.parameters.length) = some 0 := by decide +kernel
theorem z977 : ((494 : Nat) : Int) + 599 = ((1093 : Nat) : Int) := by decide +kernel
theorem z978 : yX10_redo.cls ≠ "java/lang/invoke/MethodHandle" ∧ yX10_redo.cls ≠ "java/lang/invoke/VarHandle" ∧ (parseMethodDescriptor yX10_redo.desc).map (fun d => d.parameters.length) = some 0 := by decide +kernel
theorem z979 : yX11_redo.cls ≠ "java/lang/invoke/MethodHandle" ∧ yX11_redo.cls ≠ "java/lang/invoke/VarHandle" ∧ (parseMethodDescriptor yX11_redo.desc).map (fun d => d.parameters.length) = some 0 := by decide +kernel
theorem z980 : ((507 : Nat) : Int) + 586 = ((1093 : Nat) : Int) := by decide +kernel
theorem z981 : yX10_wipe.cls ≠ "java/lang/invoke/MethodHandle" ∧ yX10_wipe.cls ≠ "java/lang/invoke/VarHandle" ∧ (parseMethodDescriptor yX10_wipe.desc).map (fun d => d.parameters.length) = some 0 := by decide +kernel
theorem z982 : yX11_wipe.cls ≠ "java/lang/invoke/MethodHandle" ∧ yX11_wipe.cls ≠ "java/lang/invoke/VarHandle" ∧ (parseMethodDescriptor yX11_wipe.desc).map (fun d => d.parameters.length) = some 0 := by decide +kernel
theorem z983 : ((530 : Nat) : Int) + 563 = ((1093 : Nat) : Int) := by decide +kernel
theorem z984 : yX10_word.cls ≠ "java/lang/invoke/MethodHandle" ∧ yX10_word.cls ≠ "java/lang/invoke/VarHandle" ∧ (parseMethodDescriptor yX10_word.desc).map (fun d => d.parameters.length) = some 1 := by decide +kernel
theorem z985 : yX11_word.cls ≠ "java/lang/invoke/MethodHandle" ∧ yX11_word.cls ≠ "java/lang/invoke/VarHandle" ∧ (parseMethodDescriptor yX11_word.desc).map (fun d => d.parameters.length) = some 1 := by decide +kernel
theorem z986 : ((543 : Nat) : Int) + 550 = ((1093 : Nat) : Int) := by decide +kernel
theorem z987 : yX10_next.cls ≠ "java/lang/invoke/MethodHandle" ∧ yX10_next.cls ≠ "java/lang/invoke/VarHandle" ∧ (parseMethodDescriptor yX10_next.desc).map (fun d => d.parameters.length) = some 0 := by decide +kernel
theorem z988 : yX11_next.cls ≠ "java/lang/invoke/MethodHandle" ∧ yX11_next.cls ≠ "java/lang/invoke/VarHandle" ∧ (parseMethodDescriptor yX11_next.desc).map (fun d => d.parameters.length) = some 0 := by decide +kernel
theorem z989 : ((556 : Nat) : Int) + 537 = ((1093 : Nat) : Int) := by decide +kernel
theorem z990 : yX10_readings.cls ≠ "java/lang/invoke/MethodHandle" ∧ yX10_readings.cls ≠ "java/lang/invoke/VarHandle" ∧ (parseMethodDescriptor yX10_readings.desc).map (fun d => d.parameters.length) = some 0 := by decide +kernel
theorem z991 : yX11_readings.cls ≠ "java/lang/invoke/MethodHandle" ∧ yX11_readings.cls ≠ "java/lang/invoke/VarHandle" ∧ (parseMethodDescriptor yX11_readings.desc).map (fun d => d.parameters.length) = some 0 := by decide +kernel
theorem z992 : ((579 : Nat) : Int) + 514 = ((1093 : Nat) : Int) := by decide +kernel
theorem z993 : yX10_means.cls ≠ "java/lang/invoke/MethodHandle" ∧ yX10_means.cls ≠ "java/lang/invoke/VarHandle" ∧ (parseMethodDescriptor yX10_means.desc).map (fun d => d.parameters.length) = some 1 := by decide +kernel
theorem z994 : yX11_means.cls ≠ "java/lang/invoke/MethodHandle" ∧ yX11_means.cls ≠ "java/lang/invoke/VarHandle" ∧ (parseMethodDescriptor yX11_means.desc).map (fun d => d.parameters.length) = some 1 := by decide +kernel
theorem z995 : ((602 : Nat) : Int) + 491 = ((1093 : Nat) : Int) := by decide +kernel
theorem z996 : yX10_written.cls ≠ "java/lang/invoke/MethodHandle" ∧ yX10_written.cls ≠ "java/lang/invoke/VarHandle" ∧ (parseMethodDescriptor yX10_written.desc).map (fun d => d.parameters.length) = some 1 := by decide +kernel
theorem z997 : yX11_written.cls ≠ "java/lang/invoke/MethodHandle" ∧ yX11_written.cls ≠ "java/lang/invoke/VarHandle" ∧ (parseMethodDescriptor yX11_written.desc).map (fun d => d.parameters.length) = some 1 := by decide +kernel
theorem z998 : ((625 : Nat) : Int) + 468 = ((1093 : Nat) : Int) := by decide +kernel
theorem z999 : yX10_held.cls ≠ "java/lang/invoke/MethodHandle" ∧ yX10_held.cls ≠ "java/lang/invoke/VarHandle" ∧ (parseMethodDescriptor yX10_held.desc).map (fun d => d.parameters.length) = some 1 := by decide +kernel
theorem z1000 : yX11_held.cls ≠ "java/lang/invoke/MethodHandle" ∧ yX11_held.cls ≠ "java/lang/invoke/VarHandle" ∧ (parseMethodDescriptor yX11_held.desc).map (fun d => d.parameters.length) = some 1 := by decide +kernel
theorem z1001 : ((658 : Nat) : Int) + 435 = ((1093 : Nat) : Int) := by decide +kernel
theorem z1002 : yX10_share.cls ≠ "java/lang/invoke/MethodHandle" ∧ yX10_share.cls ≠ "java/lang/invoke/VarHandle" ∧ (parseMethodDescriptor yX10_share.desc).map (fun d => d.parameters.length) = some 2 := by decide +kernel
theorem z1003 : yX11_share.cls ≠ "java/lang/invoke/MethodHandle" ∧ yX11_share.cls ≠ "java/lang/invoke/VarHandle" ∧ (parseMethodDescriptor yX11_share.desc).map (fun d => d.parameters.length) = some 2 := by decide +kernel
theorem z1004 : ((671 : Nat) : Int) + 422 = ((1093 : Nat) : Int) := by decide +kernel
theorem z1005 : yX10_swap.cls ≠ "java/lang/invoke/MethodHandle" ∧ yX10_swap.cls ≠ "java/lang/invoke/VarHandle" ∧ (parseMethodDescriptor yX10_swap.desc).map (fun d => d.parameters.length) = some 0 := by decide +kernel
theorem z1006 : yX11_swap.cls ≠ "java/lang/invoke/MethodHandle" ∧ yX11_swap.cls ≠ "java/lang/invoke/VarHandle" ∧ (parseMethodDescriptor yX11_swap.desc).map (fun d => d.parameters.length) = some 0 := by decide +kernel
theorem z1007 : ((704 : Nat) : Int) + 389 = ((1093 : Nat) : Int) := by decide +kernel
theorem z1008 : yX10_bribe.cls ≠ "java/lang/invoke/MethodHandle" ∧ yX10_bribe.cls ≠ "java/lang/invoke/VarHandle" ∧ (parseMethodDescriptor yX10_bribe.desc).map (fun d => d.parameters.length) = some 2 := by decide +kernel
theorem z1009 : yX11_bribe.cls ≠ "java/lang/invoke/MethodHandle" ∧ yX11_bribe.cls ≠ "java/lang/invoke/VarHandle" ∧ (parseMethodDescriptor yX11_bribe.desc).map (fun d => d.parameters.length) = some 2 := by decide +kernel
theorem z1010 : ((717 : Nat) : Int) + 376 = ((1093 : Nat) : Int) := by decide +kernel
theorem z1011 : yX10_used.cls ≠ "java/lang/invoke/MethodHandle" ∧ yX10_used.cls ≠ "java/lang/invoke/VarHandle" ∧ (parseMethodDescriptor yX10_used.desc).map (fun d => d.parameters.length) = some 0 := by decide +kernel
theorem z1012 : yX11_used.cls ≠ "java/lang/invoke/MethodHandle" ∧ yX11_used.cls ≠ "java/lang/invoke/VarHandle" ∧ (parseMethodDescriptor yX11_used.desc).map (fun d => d.parameters.length) = some 0 := by decide +kernel
theorem z1013 : ((740 : Nat) : Int) + 353 = ((1093 : Nat) : Int) := by decide +kernel
theorem z1014 : yX10_shortest.cls ≠ "java/lang/invoke/MethodHandle" ∧ yX10_shortest.cls ≠ "java/lang/invoke/VarHandle" ∧ (parseMethodDescriptor yX10_shortest.desc).map (fun d => d.parameters.length) = some 1 := by decide +kernel
theorem z1015 : yX11_shortest.cls ≠ "java/lang/invoke/MethodHandle" ∧ yX11_shortest.cls ≠ "java/lang/invoke/VarHandle" ∧ (parseMethodDescriptor yX11_shortest.desc).map (fun d => d.parameters.length) = some 1 := by decide +kernel
theorem z1016 : ((753 : Nat) : Int) + 340 = ((1093 : Nat) : Int) := by decide +kernel
theorem z1017 : yX10_doubtful.cls ≠ "java/lang/invoke/MethodHandle" ∧ yX10_doubtful.cls ≠ "java/lang/invoke/VarHandle" ∧ (parseMethodDescriptor yX10_doubtful.desc).map (fun d => d.parameters.length) = some 0 := by decide +kernel
theorem z1018 : yX11_doubtful.cls ≠ "java/lang/invoke/MethodHandle" ∧ yX11_doubtful.cls ≠ "java/lang/invoke/VarHandle" ∧ (parseMethodDescriptor yX11_doubtful.desc).map (fun d => d.parameters.length) = some 0 := by decide +kernel
theorem z1019 : ((776 : Nat) : Int) + 317 = ((1093 : Nat) : Int) := by decide +kernel
theorem z1020 : yX10_lots.cls ≠ "java/lang/invoke/MethodHandle" ∧ yX10_lots.cls ≠ "java/lang/invoke/VarHandle" ∧ (parseMethodDescriptor yX10_lots.desc).map (fun d => d.parameters.length) = some 1 := by decide +kernel
theorem z1021 : yX11_lots.cls ≠ "java/lang/invoke/MethodHandle" ∧ yX11_lots.cls ≠ "java/lang/invoke/VarHandle" ∧ (parseMethodDescriptor yX11_lots.desc).map (fun d => d.parameters.length) = some 1 := by decide +kernel
theorem z1022 : ((809 : Nat) : Int) + 284 = ((1093 : Nat) : Int) := by decide +kernel
theorem z1023 : yX10_hole.cls ≠ "java/lang/invoke/MethodHandle" ∧ yX10_hole.cls ≠ "java/lang/invoke/VarHandle" ∧ (parseMethodDescriptor yX10_hole.desc).map (fun d => d.parameters.length) = some 2 := by decide +kernel
theorem z1024 : yX11_hole.cls ≠ "java/lang/invoke/MethodHandle" ∧ yX11_hole.cls ≠ "java/lang/invoke/VarHandle" ∧ (parseMethodDescriptor yX11_hole.desc).map (fun d => d.parameters.length) = some 2 := by decide +kernel
theorem z1025 : ((822 : Nat) : Int) + 271 = ((1093 : Nat) : Int) := by decide +kernel
theorem z1026 : yX10_fit.cls ≠ "java/lang/invoke/MethodHandle" ∧ yX10_fit.cls ≠ "java/lang/invoke/VarHandle" ∧ (parseMethodDescriptor yX10_fit.desc).map (fun d => d.parameters.length) = some 0 := by decide +kernel
theorem z1027 : yX11_fit.cls ≠ "java/lang/invoke/MethodHandle" ∧ yX11_fit.cls ≠ "java/lang/invoke/VarHandle" ∧ (parseMethodDescriptor yX11_fit.desc).map (fun d => d.parameters.length) = some 0 := by decide +kernel
theorem z1028 : ((845 : Nat) : Int) + 248 = ((1093 : Nat) : Int) := by decide +kernel
theorem z1029 : yX10_best.cls ≠ "java/lang/invoke/MethodHandle" ∧ yX10_best.cls ≠ "java/lang/invoke/VarHandle" ∧ (parseMethodDescriptor yX10_best.desc).map (fun d => d.parameters.length) = some 1 := by decide +kernel
theorem z1030 : yX11_best.cls ≠ "java/lang/invoke/MethodHandle" ∧ yX11_best.cls ≠ "java/lang/invoke/VarHandle" ∧ (parseMethodDescriptor yX11_best.desc).map (fun d => d.parameters.length) = some 1 := by decide +kernel
theorem z1031 : ((868 : Nat) : Int) + 225 = ((1093 : Nat) : Int) := by decide +kernel
theorem z1032 : yX10_struck.cls ≠ "java/lang/invoke/MethodHandle" ∧ yX10_struck.cls ≠ "java/lang/invoke/VarHandle" ∧ (parseMethodDescriptor yX10_struck.desc).map (fun d => d.parameters.length) = some 1 := by decide +kernel
theorem z1033 : yX11_struck.cls ≠ "java/lang/invoke/MethodHandle" ∧ yX11_struck.cls ≠ "java/lang/invoke/VarHandle" ∧ (parseMethodDescriptor yX11_struck.desc).map (fun d => d.parameters.length) = some 1 := by decide +kernel
theorem z1034 : ((891 : Nat) : Int) + 202 = ((1093 : Nat) : Int) := by decide +kernel
theorem z1035 : yX10_lies.cls ≠ "java/lang/invoke/MethodHandle" ∧ yX10_lies.cls ≠ "java/lang/invoke/VarHandle" ∧ (parseMethodDescriptor yX10_lies.desc).map (fun d => d.parameters.length) = some 1 := by decide +kernel
theorem z1036 : yX11_lies.cls ≠ "java/lang/invoke/MethodHandle" ∧ yX11_lies.cls ≠ "java/lang/invoke/VarHandle" ∧ (parseMethodDescriptor yX11_lies.desc).map (fun d => d.parameters.length) = some 1 := by decide +kernel
theorem z1037 : ((912 : Nat) : Int) + 7 = ((919 : Nat) : Int) := by decide +kernel
theorem z1038 : ((939 : Nat) : Int) + 7 = ((946 : Nat) : Int) := by decide +kernel
theorem z1039 : ((950 : Nat) : Int) + 143 = ((1093 : Nat) : Int) := by decide +kernel
theorem z1040 : yX10_seen.cls ≠ "java/lang/invoke/MethodHandle" ∧ yX10_seen.cls ≠ "java/lang/invoke/VarHandle" ∧ (parseMethodDescriptor yX10_seen.desc).map (fun d => d.parameters.length) = some 3 := by decide +kernel
theorem z1041 : yX11_seen.cls ≠ "java/lang/invoke/MethodHandle" ∧ yX11_seen.cls ≠ "java/lang/invoke/VarHandle" ∧ (parseMethodDescriptor yX11_seen.desc).map (fun d => d.parameters.length) = some 3 := by decide +kernel
theorem z1042 : ((916 : Nat) : Int) + 4 = ((920 : Nat) : Int) := by decide +kernel
theorem z1043 : ((943 : Nat) : Int) + 4 = ((947 : Nat) : Int) := by decide +kernel
theorem z1044 : ((973 : Nat) : Int) + 120 = ((1093 : Nat) : Int) := by decide +kernel
theorem z1045 : yX10_untell.cls ≠ "java/lang/invoke/MethodHandle" ∧ yX10_untell.cls ≠ "java/lang/invoke/VarHandle" ∧ (parseMethodDescriptor yX10_untell.desc).map (fun d => d.parameters.length) = some 1 := by decide +kernel
theorem z1046 : yX11_untell.cls ≠ "java/lang/invoke/MethodHandle" ∧ yX11_untell.cls ≠ "java/lang/invoke/VarHandle" ∧ (parseMethodDescriptor yX11_untell.desc).map (fun d => d.parameters.length) = some 1 := by decide +kernel
theorem z1047 : ((996 : Nat) : Int) + 97 = ((1093 : Nat) : Int) := by decide +kernel
theorem z1048 : yX10_later.cls ≠ "java/lang/invoke/MethodHandle" ∧ yX10_later.cls ≠ "java/lang/invoke/VarHandle" ∧ (parseMethodDescriptor yX10_later.desc).map (fun d => d.parameters.length) = some 1 := by decide +kernel
theorem z1049 : yX11_later.cls ≠ "java/lang/invoke/MethodHandle" ∧ yX11_later.cls ≠ "java/lang/invoke/VarHandle" ∧ (parseMethodDescriptor yX11_later.desc).map (fun d => d.parameters.length) = some 1 := by decide +kernel
theorem z1050 : ((1019 : Nat) : Int) + 74 = ((1093 : Nat) : Int) := by decide +kernel
theorem z1051 : yX10_orders.cls ≠ "java/lang/invoke/MethodHandle" ∧ yX10_orders.cls ≠ "java/lang/invoke/VarHandle" ∧ (parseMethodDescriptor yX10_orders.desc).map (fun d => d.parameters.length) = some 1 := by decide +kernel
theorem z1052 : yX11_orders.cls ≠ "java/lang/invoke/MethodHandle" ∧ yX11_orders.cls ≠ "java/lang/invoke/VarHandle" ∧ (parseMethodDescriptor yX11_orders.desc).map (fun d => d.parameters.length) = some 1 := by decide +kernel
theorem z1053 : ((1042 : Nat) : Int) + 51 = ((1093 : Nat) : Int) := by decide +kernel
theorem z1054 : yX10_image.cls ≠ "java/lang/invoke/MethodHandle" ∧ yX10_image.cls ≠ "java/lang/invoke/VarHandle" ∧ (parseMethodDescriptor yX10_image.desc).map (fun d => d.parameters.length) = some 1 := by decide +kernel
theorem z1055 : yX11_image.cls ≠ "java/lang/invoke/MethodHandle" ∧ yX11_image.cls ≠ "java/lang/invoke/VarHandle" ∧ (parseMethodDescriptor yX11_image.desc).map (fun d => d.parameters.length) = some 1 := by decide +kernel
theorem z1056 : ((1065 : Nat) : Int) + 28 = ((1093 : Nat) : Int) := by decide +kernel
theorem z1057 : yX10_back.cls ≠ "java/lang/invoke/MethodHandle" ∧ yX10_back.cls ≠ "java/lang/invoke/VarHandle" ∧ (parseMethodDescriptor yX10_back.desc).map (fun d => d.parameters.length) = some 1 := by decide +kernel
theorem z1058 : yX11_back.cls ≠ "java/lang/invoke/MethodHandle" ∧ yX11_back.cls ≠ "java/lang/invoke/VarHandle" ∧ (parseMethodDescriptor yX11_back.desc).map (fun d => d.parameters.length) = some 1 := by decide +kernel
theorem z1059 : ((1088 : Nat) : Int) + 5 = ((1093 : Nat) : Int) := by decide +kernel
theorem z1060 : yX10_about.cls ≠ "java/lang/invoke/MethodHandle" ∧ yX10_about.cls ≠ "java/lang/invoke/VarHandle" ∧ (parseMethodDescriptor yX10_about.desc).map (fun d => d.parameters.length) = some 1 := by decide +kernel
theorem z1061 : yX11_about.cls ≠ "java/lang/invoke/MethodHandle" ∧ yX11_about.cls ≠ "java/lang/invoke/VarHandle" ∧ (parseMethodDescriptor yX11_about.desc).map (fun d => d.parameters.length) = some 1 := by decide +kernel
theorem z1062 : yX10_init.cls ≠ "java/lang/invoke/MethodHandle" ∧ yX10_init.cls ≠ "java/lang/invoke/VarHandle" ∧ (parseMethodDescriptor yX10_init.desc).map (fun d => d.parameters.length) = some 0 := by decide +kernel
theorem z1063 : yX11_init.cls ≠ "java/lang/invoke/MethodHandle" ∧ yX11_init.cls ≠ "java/lang/invoke/VarHandle" ∧ (parseMethodDescriptor yX11_init.desc).map (fun d => d.parameters.length) = some 0 := by decide +kernel
theorem z1064 : (Int8.ofInt 63).toInt32 = 63 := by decide +kernel
theorem z1065 : (0 : Int32) - 6 = (-6) := by decide +kernel
theorem z1066 : ((-6) : Int32) < 0 := by decide +kernel
theorem z1067 : (1 : Int32) - 6 = (-5) := by decide +kernel
theorem z1068 : ((-5) : Int32) < 0 := by decide +kernel
theorem z1069 : (2 : Int32) - 6 = (-4) := by decide +kernel
theorem z1070 : ((-4) : Int32) < 0 := by decide +kernel
theorem z1071 : (3 : Int32) - 6 = (-3) := by decide +kernel
theorem z1072 : ((-3) : Int32) < 0 := by decide +kernel
theorem z1073 : (4 : Int32) - 6 = (-2) := by decide +kernel
theorem z1074 : ((-2) : Int32) < 0 := by decide +kernel
theorem z1075 : (5 : Int32) - 6 = (-1) := by decide +kernel
