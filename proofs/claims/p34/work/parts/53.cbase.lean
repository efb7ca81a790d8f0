/-! The words of the contracts: a world of cells before, a world behind, the answer. -/
abbrev tyL (cB cI cJ cZ cO : ClassId) : List (ClassId × FieldType) := [(cB, .byte), (cI, .int), (cJ, .long), (cZ, .boolean), (cO, .object "GuildCharter$Image")]
def cpre (D : va_G) (tys : List (ClassId × FieldType)) (ws : va_W) (sz : Nat) (U : State) : Prop := U.heap.size = sz ∧ va_P D vwCl ws U.heap ∧ va_K D vwCl tys U ∧ va_D (fun _ => True) ws
def cpost (D : va_G) (A : Nat → Prop) (w1 : (Nat → Nat) → va_W) (u : Nat → Nat) (t : State) : Prop := va_P D vwCl (w1 u) t.heap ∧ va_D A (w1 u)
abbrev qi (D : va_G) (w1 : (Nat → Nat) → va_W) (v : Int32) (A : Nat → Prop) := va_Qi (fun r (_ : Nat → Nat) => r = v) (cpost D A w1) A
abbrev ql (D : va_G) (w1 : (Nat → Nat) → va_W) (v : Int64) (A : Nat → Prop) := va_Ql (fun r (_ : Nat → Nat) => r = v) (cpost D A w1) A
abbrev qv (D : va_G) (w1 : (Nat → Nat) → va_W) (A : Nat → Prop) := va_Qv (fun (_ : Nat → Nat) => True) (cpost D A w1) A
abbrev qr (D : va_G) (w1 : (Nat → Nat) → va_W) (v : Nat) (A : Nat → Prop) := va_Qr (fun (_ : Nat → Nat) => True) (fun u a t => a = v ∧ cpost D A w1 u t) A
def CI (l : Launch) (y : MethodName) (w : List Cond) (rm : Room) (D : va_G) (tys : List (ClassId × FieldType)) (av : List Value) (ws : va_W) (w1 : (Nat → Nat) → va_W) (v : Int32) : Prop := ∀ sz : Nat, Met l y w rm (va_Pc av (cpre D tys ws sz)) (qi D w1 v (va_A ws sz)) rm.cells rm.slots (va_A ws sz)
def CL (l : Launch) (y : MethodName) (w : List Cond) (rm : Room) (D : va_G) (tys : List (ClassId × FieldType)) (av : List Value) (ws : va_W) (w1 : (Nat → Nat) → va_W) (v : Int64) : Prop := ∀ sz : Nat, Met l y w rm (va_Pc av (cpre D tys ws sz)) (ql D w1 v (va_A ws sz)) rm.cells rm.slots (va_A ws sz)
def CV (l : Launch) (y : MethodName) (w : List Cond) (rm : Room) (D : va_G) (tys : List (ClassId × FieldType)) (av : List Value) (ws : va_W) (w1 : (Nat → Nat) → va_W) : Prop := ∀ sz : Nat, Met l y w rm (va_Pc av (cpre D tys ws sz)) (qv D w1 (va_A ws sz)) rm.cells rm.slots (va_A ws sz)
def CR (l : Launch) (y : MethodName) (w : List Cond) (rm : Room) (D : va_G) (tys : List (ClassId × FieldType)) (av : List Value) (ws : va_W) (w1 : (Nat → Nat) → va_W) (v : Nat) : Prop := ∀ sz : Nat, Met l y w rm (va_Pc av (cpre D tys ws sz)) (qr D w1 v (va_A ws sz)) rm.cells rm.slots (va_A ws sz)
theorem vin (i : Int32) (n : Nat) (h : decide (¬ (i < 0 ∨ n ≤ i.toNatClampNeg)) = true) : vp_in i n := by
  unfold vp_in
  exact of_decide_eq_true h
theorem nlt {a b : Nat} (h : Nat.blt a b = true) : a < b := Nat.le_of_ble_eq_true h
def ixp (i : Int32) (k n : Nat) : Prop := vp_in i n ∧ i.toNatClampNeg = k
theorem ix_nI {i n : Nat} (h : i < n) (hn : n < 2 ^ 31) : ixp (nI i) i n := ⟨vp_in_nI h hn, nI_clamp (by omega)⟩
/-- the opening of a contract's proof -/
theorem ct_open {l : Launch} {y : MethodName} {w w' : List Cond} {rm : Room} {D : va_G} {tys : List (ClassId × FieldType)} {av : List Value} {ws : va_W} {Qf : (Nat → Prop) → Array Value → State → Outcome → State → Prop} {cc : ByteArray} {maxL : Nat} {ret : Option FieldType} {mc ms sz : Nat}
    (hy : plainName y.cls = true) (hw : w = Cond.code y cc maxL ret :: w') (hn : (lg_sl av).length ≤ maxL)
    (body : ∀ (p : Program) (e : Env) (s : State) (m : MethodId) (below : List Frame) (meth : Method) (c : Code) (ls : Array Slot) (A : Nat → Prop), p.tables.exec = Jvm.exec → c.code = cc → meth.sig.returnType = ret → c.maxLocals = maxL → (∀ x ∈ w, x.before av.toArray s = true) → s.vm.findClass y.cls = some m.cls → meth.locks = false → meth.name = y.name →
      va_P D vwCl ws s.heap → va_K D vwCl tys s → va_D A ws → (∀ q : Nat, s.heap.size ≤ q → A q) → va_S A s.heap s.heap [] → lv_has ls maxL (lv_args 0 av) → W p l e rm s m av.toArray below meth c s.heap [] 0 0 (MQ below (Qf A) av.toArray s mc ms A) (F0 m 0 ls [])) :
    Met l y w rm (va_Pc av (cpre D tys ws sz)) (Qf (va_A ws sz)) mc ms (va_A ws sz) := by
  refine Met.ofW (cc := cc) (maxL := maxL) (ret := ret) hy hw ?_
  intro p e s m args below meth c s₁ B hml hv
  obtain ⟨rfl, hsz, hP, hK, hD0⟩ := hv
  have hx := B.exec
  have hb := B.bytes
  have hr := B.returns
  have hts := atoms_spec (ws := w) B.pre
  have hown : s.vm.findClass y.cls = some m.cls := findClass_of_methodNamed B.named
  have hlocks := B.notSynchronized
  have hin : meth.name = y.name := (name_of_methodNamed B.named B.method).1
  subst hsz
  have hD := hD0.self (sz := s.heap.size)
  have hA : ∀ q : Nat, s.heap.size ≤ q → va_A ws s.heap.size q := fun q h => Or.inr h
  have hl := lv_entry av (n := maxL) hn
  rw [lg_entry_eq]
  exact body p e s m below meth c _ (va_A ws s.heap.size) hx hb hr hml hts hown hlocks hin hP hK hD hA va_S.rf hl
section
variable {p : Program} {l : Launch} {e : Env} {R : Room} {s : State} {m : MethodId} {args : Array Value} {below : List Frame} {meth : Method} {c : Code} {H : Heap} {locs : List Loc} {cells slots : Nat} {Q : State → Prop} {cc : ByteArray} {pc : Nat} {ls : Array Slot} {rest : List Value} {D : va_G} {cl : List vw_C} {tys : List (ClassId × FieldType)} {ws : va_W} {A : Nat → Prop} {H0 : Heap} {a : Nat}
theorem tpv {x v : Value} (h : x = v) (k : W p l e R s m args below meth c H locs cells slots Q (F0 m pc ls (v :: rest))) : W p l e R s m args below meth c H locs cells slots Q (F0 m pc ls (x :: rest)) := by
  rw [h]; exact k
theorem set_same {ws : va_W} {q0 : Nat} {x : Nat × va_E} (h : ws[q0]? = some x) : ws.set q0 x = ws := by
  apply List.ext_getElem?
  intro i
  by_cases hi : q0 = i
  · subst hi
    rw [List.getElem?_set_self (List.getElem?_eq_some_iff.mp h).1, h]
  · rw [List.getElem?_set_ne hi]
theorem upd_same {f : Nat → Int32} {i : Nat} {x : Int32} (h : f i = x) : upd f i x = f := by
  funext j
  show (if j = i then x else f j) = f j
  split
  · next e => rw [e, h]
  · rfl
theorem updL_same {f : Nat → Int64} {i : Nat} {x : Int64} (h : f i = x) : vp_updL f i x = f := by
  funext j
  show (if j = i then x else f j) = f j
  split
  · next e => rw [e, h]
  · rfl
theorem va_iastS (hexec : p.tables.exec = Jvm.exec) (hb : c.code = cc) (hK : va_K D cl tys s) (hP : va_P D cl ws H) (hD : va_D A ws) (hS : va_S A H0 H locs) (q0 t0 : Nat) {cA : ClassId} {n : Nat} {f : Nat → Int32} (ha : ws[q0]? = some (a, .inl (cA, n, .inl f))) (ht : tys[t0]? = some (cA, .int)) {i : Int32} {x : Int32} (hin : vp_in i n) (hsame : f i.toNatClampNeg = x) (hdg : decode cc pc = .ok (.iastore, 1))
    (kk : ∀ (H1 : Heap) (locs1 : List Loc), va_P D cl ws H1 → va_D A ws → va_S A H0 H1 locs1 → W p l e R s m args below meth c H1 locs1 cells slots Q (F0 m (pc + 1) ls rest)) : W p l e R s m args below meth c H locs cells slots Q (F0 m pc ls (.int x :: .int i :: .ref a :: rest)) := by
  refine va_iast hexec hb hK hP hD hS q0 t0 ha ht hin hdg (fun H1 locs1 h1 h2 h3 => ?_)
  rw [upd_same hsame, set_same ha] at h1
  exact kk H1 locs1 h1 hD h3
theorem va_zastS (hexec : p.tables.exec = Jvm.exec) (hb : c.code = cc) (hK : va_K D cl tys s) (hP : va_P D cl ws H) (hD : va_D A ws) (hS : va_S A H0 H locs) (q0 t0 : Nat) {cA : ClassId} {n : Nat} {f : Nat → Int32} (ha : ws[q0]? = some (a, .inl (cA, n, .inl f))) (ht : tys[t0]? = some (cA, .boolean)) {i : Int32} {x : Int32} (hin : vp_in i n) (hsame : f i.toNatClampNeg = vp_nar .boolean x) (hdg : decode cc pc = .ok (.bastore, 1))
    (kk : ∀ (H1 : Heap) (locs1 : List Loc), va_P D cl ws H1 → va_D A ws → va_S A H0 H1 locs1 → W p l e R s m args below meth c H1 locs1 cells slots Q (F0 m (pc + 1) ls rest)) : W p l e R s m args below meth c H locs cells slots Q (F0 m pc ls (.int x :: .int i :: .ref a :: rest)) := by
  refine va_zast hexec hb hK hP hD hS q0 t0 ha ht hin hdg (fun H1 locs1 h1 h2 h3 => ?_)
  rw [upd_same hsame, set_same ha] at h1
  exact kk H1 locs1 h1 hD h3
theorem va_lastS (hexec : p.tables.exec = Jvm.exec) (hb : c.code = cc) (hK : va_K D cl tys s) (hP : va_P D cl ws H) (hD : va_D A ws) (hS : va_S A H0 H locs) (q0 t0 : Nat) {cA : ClassId} {n : Nat} {f : Nat → Int64} (ha : ws[q0]? = some (a, .inl (cA, n, .inr (.inl f)))) (ht : tys[t0]? = some (cA, .long)) {i : Int32} {x : Int64} (hin : vp_in i n) (hsame : f i.toNatClampNeg = x) (hdg : decode cc pc = .ok (.lastore, 1))
    (kk : ∀ (H1 : Heap) (locs1 : List Loc), va_P D cl ws H1 → va_D A ws → va_S A H0 H1 locs1 → W p l e R s m args below meth c H1 locs1 cells slots Q (F0 m (pc + 1) ls rest)) : W p l e R s m args below meth c H locs cells slots Q (F0 m pc ls (.long x :: .int i :: .ref a :: rest)) := by
  refine va_last hexec hb hK hP hD hS q0 t0 ha ht hin hdg (fun H1 locs1 h1 h2 h3 => ?_)
  rw [updL_same hsame, set_same ha] at h1
  exact kk H1 locs1 h1 hD h3
theorem tpi {x v : Int32} (h : x = v) (k : W p l e R s m args below meth c H locs cells slots Q (F0 m pc ls (.int v :: rest))) : W p l e R s m args below meth c H locs cells slots Q (F0 m pc ls (.int x :: rest)) := by
  rw [h]; exact k
theorem tpl {x v : Int64} (h : x = v) (k : W p l e R s m args below meth c H locs cells slots Q (F0 m pc ls (.long v :: rest))) : W p l e R s m args below meth c H locs cells slots Q (F0 m pc ls (.long x :: rest)) := by
  rw [h]; exact k
theorem my_iald {v : Int32} (hexec : p.tables.exec = Jvm.exec) (hb : c.code = cc) (hK : va_K D cl tys s) (hP : va_P D cl ws H) (q0 t0 : Nat) {cA : ClassId} {n k : Nat} {f : Nat → Int32} (ha : ws[q0]? = some (a, .inl (cA, n, .inl f))) (ht : tys[t0]? = some (cA, .int)) {i : Int32} (hin : ixp i k n) (hv : f k = v) (hdg : decode cc pc = .ok (.iaload, 1))
    (kk : W p l e R s m args below meth c H locs cells slots Q (F0 m (pc + 1) ls (.int v :: rest))) : W p l e R s m args below meth c H locs cells slots Q (F0 m pc ls (.int i :: .ref a :: rest)) := by
  refine va_iald hexec hb hK hP q0 t0 ha ht hin.1 hdg ?_
  rw [hin.2, hv]; exact kk
theorem my_bald {v : Int32} (hexec : p.tables.exec = Jvm.exec) (hb : c.code = cc) (hK : va_K D cl tys s) (hP : va_P D cl ws H) (q0 t0 : Nat) {cA : ClassId} {n k : Nat} {f : Nat → Int32} (ha : ws[q0]? = some (a, .inl (cA, n, .inl f))) (ht : tys[t0]? = some (cA, .byte)) {i : Int32} (hin : ixp i k n) (hv : f k = v) (hdg : decode cc pc = .ok (.baload, 1))
    (kk : W p l e R s m args below meth c H locs cells slots Q (F0 m (pc + 1) ls (.int v :: rest))) : W p l e R s m args below meth c H locs cells slots Q (F0 m pc ls (.int i :: .ref a :: rest)) := by
  refine va_bald hexec hb hK hP q0 t0 ha ht hin.1 hdg ?_
  rw [hin.2, hv]; exact kk
theorem my_zald {v : Int32} (hexec : p.tables.exec = Jvm.exec) (hb : c.code = cc) (hK : va_K D cl tys s) (hP : va_P D cl ws H) (q0 t0 : Nat) {cA : ClassId} {n k : Nat} {f : Nat → Int32} (ha : ws[q0]? = some (a, .inl (cA, n, .inl f))) (ht : tys[t0]? = some (cA, .boolean)) {i : Int32} (hin : ixp i k n) (hv : f k = v) (hdg : decode cc pc = .ok (.baload, 1))
    (kk : W p l e R s m args below meth c H locs cells slots Q (F0 m (pc + 1) ls (.int v :: rest))) : W p l e R s m args below meth c H locs cells slots Q (F0 m pc ls (.int i :: .ref a :: rest)) := by
  refine va_zald hexec hb hK hP q0 t0 ha ht hin.1 hdg ?_
  rw [hin.2, hv]; exact kk
theorem my_lald {v : Int64} (hexec : p.tables.exec = Jvm.exec) (hb : c.code = cc) (hK : va_K D cl tys s) (hP : va_P D cl ws H) (q0 t0 : Nat) {cA : ClassId} {n k : Nat} {f : Nat → Int64} (ha : ws[q0]? = some (a, .inl (cA, n, .inr (.inl f)))) (ht : tys[t0]? = some (cA, .long)) {i : Int32} (hin : ixp i k n) (hv : f k = v) (hdg : decode cc pc = .ok (.laload, 1))
    (kk : W p l e R s m args below meth c H locs cells slots Q (F0 m (pc + 1) ls (.long v :: rest))) : W p l e R s m args below meth c H locs cells slots Q (F0 m pc ls (.int i :: .ref a :: rest)) := by
  refine va_lald hexec hb hK hP q0 t0 ha ht hin.1 hdg ?_
  rw [hin.2, hv]; exact kk
theorem my_aldq {v : Nat} (hexec : p.tables.exec = Jvm.exec) (hb : c.code = cc) (hK : va_K D cl tys s) (hP : va_P D cl ws H) (q0 t0 : Nat) {cA : ClassId} {C : String} {n k : Nat} {f : Nat → Option Nat} (ha : ws[q0]? = some (a, .inl (cA, n, .inr (.inr (.inr (.inr f)))))) (ht : tys[t0]? = some (cA, .object C)) {i : Int32} (hin : ixp i k n) (hv : f k = some v) (hdg : decode cc pc = .ok (.aaload, 1))
    (kk : W p l e R s m args below meth c H locs cells slots Q (F0 m (pc + 1) ls (.ref v :: rest))) : W p l e R s m args below meth c H locs cells slots Q (F0 m pc ls (.int i :: .ref a :: rest)) := by
  refine va_aldq hexec hb hK hP q0 t0 ha ht hin.1 hdg ?_
  rw [hin.2, hv]; exact kk
theorem my_iast (hexec : p.tables.exec = Jvm.exec) (hb : c.code = cc) (hK : va_K D cl tys s) (hP : va_P D cl ws H) (hD : va_D A ws) (hS : va_S A H0 H locs) (q0 t0 : Nat) {cA : ClassId} {n k : Nat} {f : Nat → Int32} (ha : ws[q0]? = some (a, .inl (cA, n, .inl f))) (ht : tys[t0]? = some (cA, .int)) {i x : Int32} (hin : ixp i k n) (hdg : decode cc pc = .ok (.iastore, 1))
    (kk : ∀ (H1 : Heap) (locs1 : List Loc), va_P D cl (ws.set q0 (a, .inl (cA, n, .inl (upd f k x)))) H1 → va_D A (ws.set q0 (a, .inl (cA, n, .inl (upd f k x)))) → va_S A H0 H1 locs1 → W p l e R s m args below meth c H1 locs1 cells slots Q (F0 m (pc + 1) ls rest)) : W p l e R s m args below meth c H locs cells slots Q (F0 m pc ls (.int x :: .int i :: .ref a :: rest)) := by
  refine va_iast hexec hb hK hP hD hS q0 t0 ha ht hin.1 hdg (fun H1 locs1 h1 h2 h3 => ?_)
  rw [hin.2] at h1 h2
  exact kk H1 locs1 h1 h2 h3
theorem my_bast (hexec : p.tables.exec = Jvm.exec) (hb : c.code = cc) (hK : va_K D cl tys s) (hP : va_P D cl ws H) (hD : va_D A ws) (hS : va_S A H0 H locs) (q0 t0 : Nat) {cA : ClassId} {n k : Nat} {f : Nat → Int32} (ha : ws[q0]? = some (a, .inl (cA, n, .inl f))) (ht : tys[t0]? = some (cA, .byte)) {i x x' : Int32} (hin : ixp i k n) (hz : vp_nar .byte x = x') (hdg : decode cc pc = .ok (.bastore, 1))
    (kk : ∀ (H1 : Heap) (locs1 : List Loc), va_P D cl (ws.set q0 (a, .inl (cA, n, .inl (upd f k x')))) H1 → va_D A (ws.set q0 (a, .inl (cA, n, .inl (upd f k x')))) → va_S A H0 H1 locs1 → W p l e R s m args below meth c H1 locs1 cells slots Q (F0 m (pc + 1) ls rest)) : W p l e R s m args below meth c H locs cells slots Q (F0 m pc ls (.int x :: .int i :: .ref a :: rest)) := by
  refine va_bast hexec hb hK hP hD hS q0 t0 ha ht hin.1 hdg (fun H1 locs1 h1 h2 h3 => ?_)
  rw [hin.2, hz] at h1 h2
  exact kk H1 locs1 h1 h2 h3
theorem my_zast (hexec : p.tables.exec = Jvm.exec) (hb : c.code = cc) (hK : va_K D cl tys s) (hP : va_P D cl ws H) (hD : va_D A ws) (hS : va_S A H0 H locs) (q0 t0 : Nat) {cA : ClassId} {n k : Nat} {f : Nat → Int32} (ha : ws[q0]? = some (a, .inl (cA, n, .inl f))) (ht : tys[t0]? = some (cA, .boolean)) {i x x' : Int32} (hin : ixp i k n) (hz : vp_nar .boolean x = x') (hdg : decode cc pc = .ok (.bastore, 1))
    (kk : ∀ (H1 : Heap) (locs1 : List Loc), va_P D cl (ws.set q0 (a, .inl (cA, n, .inl (upd f k x')))) H1 → va_D A (ws.set q0 (a, .inl (cA, n, .inl (upd f k x')))) → va_S A H0 H1 locs1 → W p l e R s m args below meth c H1 locs1 cells slots Q (F0 m (pc + 1) ls rest)) : W p l e R s m args below meth c H locs cells slots Q (F0 m pc ls (.int x :: .int i :: .ref a :: rest)) := by
  refine va_zast hexec hb hK hP hD hS q0 t0 ha ht hin.1 hdg (fun H1 locs1 h1 h2 h3 => ?_)
  rw [hin.2, hz] at h1 h2
  exact kk H1 locs1 h1 h2 h3
theorem my_last (hexec : p.tables.exec = Jvm.exec) (hb : c.code = cc) (hK : va_K D cl tys s) (hP : va_P D cl ws H) (hD : va_D A ws) (hS : va_S A H0 H locs) (q0 t0 : Nat) {cA : ClassId} {n k : Nat} {f : Nat → Int64} (ha : ws[q0]? = some (a, .inl (cA, n, .inr (.inl f)))) (ht : tys[t0]? = some (cA, .long)) {i : Int32} {x : Int64} (hin : ixp i k n) (hdg : decode cc pc = .ok (.lastore, 1))
    (kk : ∀ (H1 : Heap) (locs1 : List Loc), va_P D cl (ws.set q0 (a, .inl (cA, n, .inr (.inl (vp_updL f k x))))) H1 → va_D A (ws.set q0 (a, .inl (cA, n, .inr (.inl (vp_updL f k x))))) → va_S A H0 H1 locs1 → W p l e R s m args below meth c H1 locs1 cells slots Q (F0 m (pc + 1) ls rest)) : W p l e R s m args below meth c H locs cells slots Q (F0 m pc ls (.long x :: .int i :: .ref a :: rest)) := by
  refine va_last hexec hb hK hP hD hS q0 t0 ha ht hin.1 hdg (fun H1 locs1 h1 h2 h3 => ?_)
  rw [hin.2] at h1 h2
  exact kk H1 locs1 h1 h2 h3
theorem my_astq (hexec : p.tables.exec = Jvm.exec) (hb : c.code = cc) (hK : va_K D cl tys s) (hP : va_P D cl ws H) (hD : va_D A ws) (hS : va_S A H0 H locs) (q0 t0 qk ci : Nat) {cA : ClassId} {r : vw_C} {n k v : Nat} {vs : List Value} {f : Nat → Option Nat} (ha : ws[q0]? = some (a, .inl (cA, n, .inr (.inr (.inr (.inr f)))))) (ht : tys[t0]? = some (cA, .object r.1)) (hv : ws[qk]? = some (v, .inr (ci, vs))) (hc : cl[ci]? = some r) {i : Int32} (hin : ixp i k n) (hdg : decode cc pc = .ok (.aastore, 1))
    (kk : ∀ (H1 : Heap) (locs1 : List Loc), va_P D cl (ws.set q0 (a, .inl (cA, n, .inr (.inr (.inr (.inr (va_up f k (some v)))))))) H1 → va_D A (ws.set q0 (a, .inl (cA, n, .inr (.inr (.inr (.inr (va_up f k (some v)))))))) → va_S A H0 H1 locs1 → W p l e R s m args below meth c H1 locs1 cells slots Q (F0 m (pc + 1) ls rest)) : W p l e R s m args below meth c H locs cells slots Q (F0 m pc ls (.ref v :: .int i :: .ref a :: rest)) := by
  refine va_astq hexec hb hK hP hD hS q0 t0 qk ci ha ht hv hc hin.1 hdg (fun H1 locs1 h1 h2 h3 => ?_)
  rw [hin.2] at h1 h2
  exact kk H1 locs1 h1 h2 h3
theorem my_iastS (hexec : p.tables.exec = Jvm.exec) (hb : c.code = cc) (hK : va_K D cl tys s) (hP : va_P D cl ws H) (hD : va_D A ws) (hS : va_S A H0 H locs) (q0 t0 : Nat) {cA : ClassId} {n k : Nat} {f : Nat → Int32} (ha : ws[q0]? = some (a, .inl (cA, n, .inl f))) (ht : tys[t0]? = some (cA, .int)) {i x : Int32} (hin : ixp i k n) (hsame : f k = x) (hdg : decode cc pc = .ok (.iastore, 1))
    (kk : ∀ (H1 : Heap) (locs1 : List Loc), va_P D cl ws H1 → va_D A ws → va_S A H0 H1 locs1 → W p l e R s m args below meth c H1 locs1 cells slots Q (F0 m (pc + 1) ls rest)) : W p l e R s m args below meth c H locs cells slots Q (F0 m pc ls (.int x :: .int i :: .ref a :: rest)) := va_iastS hexec hb hK hP hD hS q0 t0 ha ht hin.1 (by rw [hin.2]; exact hsame) hdg kk
theorem my_zastS (hexec : p.tables.exec = Jvm.exec) (hb : c.code = cc) (hK : va_K D cl tys s) (hP : va_P D cl ws H) (hD : va_D A ws) (hS : va_S A H0 H locs) (q0 t0 : Nat) {cA : ClassId} {n k : Nat} {f : Nat → Int32} (ha : ws[q0]? = some (a, .inl (cA, n, .inl f))) (ht : tys[t0]? = some (cA, .boolean)) {i x x' : Int32} (hin : ixp i k n) (hz : vp_nar .boolean x = x') (hsame : f k = x') (hdg : decode cc pc = .ok (.bastore, 1))
    (kk : ∀ (H1 : Heap) (locs1 : List Loc), va_P D cl ws H1 → va_D A ws → va_S A H0 H1 locs1 → W p l e R s m args below meth c H1 locs1 cells slots Q (F0 m (pc + 1) ls rest)) : W p l e R s m args below meth c H locs cells slots Q (F0 m pc ls (.int x :: .int i :: .ref a :: rest)) := va_zastS hexec hb hK hP hD hS q0 t0 ha ht hin.1 (by rw [hin.2, hz]; exact hsame) hdg kk
theorem my_lastS (hexec : p.tables.exec = Jvm.exec) (hb : c.code = cc) (hK : va_K D cl tys s) (hP : va_P D cl ws H) (hD : va_D A ws) (hS : va_S A H0 H locs) (q0 t0 : Nat) {cA : ClassId} {n k : Nat} {f : Nat → Int64} (ha : ws[q0]? = some (a, .inl (cA, n, .inr (.inl f)))) (ht : tys[t0]? = some (cA, .long)) {i : Int32} {x : Int64} (hin : ixp i k n) (hsame : f k = x) (hdg : decode cc pc = .ok (.lastore, 1))
    (kk : ∀ (H1 : Heap) (locs1 : List Loc), va_P D cl ws H1 → va_D A ws → va_S A H0 H1 locs1 → W p l e R s m args below meth c H1 locs1 cells slots Q (F0 m (pc + 1) ls rest)) : W p l e R s m args below meth c H locs cells slots Q (F0 m pc ls (.long x :: .int i :: .ref a :: rest)) := va_lastS hexec hb hK hP hD hS q0 t0 ha ht hin.1 (by rw [hin.2]; exact hsame) hdg kk
/-- the array class of a primitive kind is one -/
theorem k_one {D : va_G} {cl : List vw_C} {tys : List (ClassId × FieldType)} {U : State} {t0 : Nat} {c0 cA : ClassId} {ty : FieldType} (hp : ∀ C, ty ≠ .object C) (h1 : tys[t0]? = some (c0, ty)) (h : va_K D cl (tys ++ [(cA, ty)]) U) : cA = c0 := by
  have e1 := (h.2 t0 (c0, ty) (by rw [List.getElem?_append_left (List.getElem?_eq_some_iff.mp h1).1]; exact h1)).2
  have e2 := (h.2 tys.length (cA, ty) (by simp)).2
  cases ty with
  | object C => exact absurd rfl (hp C)
  | _ =>
    simp only [va_RA] at e1 e2
    rw [e1] at e2
    exact (Option.some.inj e2).symm
theorem my_newa (hexec : p.tables.exec = Jvm.exec) (hb : c.code = cc) {atype : ArrayType} (harr : (Cond.arrayClass (newarray.typeOf atype)).before args s = true) {ty : FieldType} (hty : newarray.typeOf atype = ty) (hK : va_K D cl tys s) (hP : va_P D cl ws H) (hD : va_D A ws) (hS : va_S A H0 H locs) (hA : ∀ q, H0.size ≤ q → A q)
    (t0 : Nat) {c0 : ClassId} (ht : tys[t0]? = some (c0, ty)) (hpr : ∀ C, ty ≠ .object C) {n : Int32} {N' : Nat} {a0 : vp_A} (ha : ∀ cA : ClassId, vp_cell cA a0 = arrV cA N' (fun _ => defaultValue ty)) (hn : ¬ n < 0) (hN : n.toNatClampNeg = N') (hbytes : N' * componentBytes ty ≤ 536870912) (hcells : cells + 1 ≤ R.cells) (hslots : slots + N' ≤ R.slots) (hdg : decode cc pc = .ok (.newarray atype, 2))
    (kk : ∀ (q : Nat) (H1 : Heap), va_P D cl (ws ++ [(q, .inl (c0, a0))]) H1 → va_D A (ws ++ [(q, .inl (c0, a0))]) → va_S A H0 H1 locs →
      W p l e R s m args below meth c H1 locs (cells + 1) (slots + N') Q (F0 m (pc + 2) ls (.ref q :: rest))) : W p l e R s m args below meth c H locs cells slots Q (F0 m pc ls (.int n :: rest)) := by
  refine va_newa hexec hb harr hty hK hP hD hS hA ha hn hN hbytes hcells hslots hdg (fun q cA H1 hK1 hP1 hD1 hS1 => ?_)
  obtain rfl := k_one hpr ht hK1
  exact kk q H1 hP1 hD1 hS1
end
section
variable {p : Program} {l : Launch} {e : Env} {R : Room} {s : State} {m : MethodId} {args : Array Value} {below : List Frame} {meth : Method} {c : Code} {H : Heap} {locs : List Loc} {cells slots : Nat} {cc : ByteArray} {pc : Nat} {ls : Array Slot} {D : va_G} {A : Nat → Prop} {w1 : (Nat → Nat) → va_W} {u : Nat → Nat}
theorem ret_i {v : Int32} (hx : p.tables.exec = Jvm.exec) (hb : c.code = cc) (hr : meth.sig.returnType = some .int) (hlocks : meth.locks = false) (hS : va_S A s.heap H locs) (hP : va_P D vwCl (w1 u) H) (hD : va_D A (w1 u)) (hdg : decode cc pc = .ok (.ireturn, 1)) : W p l e R s m args below meth c H locs cells slots (MQ below (qi D w1 v A) args s cells slots A) (F0 m pc ls [.int v]) :=
  W.iret hx hb hr (fun t ht _ => ⟨⟨v, u, rfl, rfl, by rw [ht]; exact hP, hD⟩, hS.F ht⟩) hS.2.2 hdg hlocks
theorem ret_z {v : Int32} (hx : p.tables.exec = Jvm.exec) (hb : c.code = cc) (hr : meth.sig.returnType = some .boolean) (hn : narrow .boolean (.int v) = .int v) (hlocks : meth.locks = false) (hS : va_S A s.heap H locs) (hP : va_P D vwCl (w1 u) H) (hD : va_D A (w1 u)) (hdg : decode cc pc = .ok (.ireturn, 1)) : W p l e R s m args below meth c H locs cells slots (MQ below (qi D w1 v A) args s cells slots A) (F0 m pc ls [.int v]) :=
  W.zret hx hb hr hn (fun t ht _ => ⟨⟨v, u, rfl, rfl, by rw [ht]; exact hP, hD⟩, hS.F ht⟩) hS.2.2 hdg hlocks
theorem ret_l {v : Int64} (hx : p.tables.exec = Jvm.exec) (hb : c.code = cc) (hr : meth.sig.returnType = some .long) (hlocks : meth.locks = false) (hS : va_S A s.heap H locs) (hP : va_P D vwCl (w1 u) H) (hD : va_D A (w1 u)) (hdg : decode cc pc = .ok (.lreturn, 1)) : W p l e R s m args below meth c H locs cells slots (MQ below (ql D w1 v A) args s cells slots A) (F0 m pc ls [.long v]) :=
  W.lret hx hb hr (fun t ht _ => ⟨⟨v, u, rfl, rfl, by rw [ht]; exact hP, hD⟩, hS.F ht⟩) hS.2.2 hdg hlocks
theorem ret_v (hx : p.tables.exec = Jvm.exec) (hb : c.code = cc) (hr : meth.sig.returnType = none) (hlocks : meth.locks = false) (hS : va_S A s.heap H locs) (hP : va_P D vwCl (w1 u) H) (hD : va_D A (w1 u)) (hdg : decode cc pc = .ok (.return_, 1)) : W p l e R s m args below meth c H locs cells slots (MQ below (qv D w1 A) args s cells slots A) (F0 m pc ls []) :=
  W.vret hx hb hr (fun t ht _ => ⟨⟨u, rfl, trivial, by rw [ht]; exact hP, hD⟩, hS.F ht⟩) hS.2.2 hdg hlocks
theorem ret_r {v : Nat} {C : String} (hx : p.tables.exec = Jvm.exec) (hb : c.code = cc) (hr : meth.sig.returnType = some (.object C)) (hlocks : meth.locks = false) (hS : va_S A s.heap H locs) (hP : va_P D vwCl (w1 u) H) (hD : va_D A (w1 u)) (hdg : decode cc pc = .ok (.areturn, 1)) : W p l e R s m args below meth c H locs cells slots (MQ below (qr D w1 v A) args s cells slots A) (F0 m pc ls [.ref v]) :=
  W.aret hx hb hr (Or.inl ⟨C, rfl⟩) (Or.inr ⟨v, rfl⟩) (fun t ht _ => ⟨⟨u, v, rfl, trivial, rfl, by rw [ht]; exact hP, hD⟩, hS.F ht⟩) hS.2.2 hdg hlocks
end
theorem pre_blind {av : List Value} {D : va_G} {tys : List (ClassId × FieldType)} {ws : va_W} {sz : Nat} : FrameBlind (va_Pc av (cpre D tys ws sz)) := fun a U g mk q => by
  obtain ⟨q0, q1, qP, qK, qD⟩ := q
  exact ⟨q0, q1, qP, va_K.moved (u := U) (U := U.calling g mk a) (Vm.Alike.refl U.vm) qK, qD⟩
theorem nd_of_sub {isC : List Nat} {ws wc : va_W} {A : Nat → Prop} (hD : va_D A ws) (hn : va_nd isC = true) (hC : isC.map (fun i => ws[i]?) = wc.map some) : va_D (fun _ => True) wc := (hD.sub isC hn hC).weaken (fun _ _ _ _ => trivial)
theorem P_of_map {isC : List Nat} {ws wc : va_W} {D : va_G} {cl : List vw_C} {H : Heap} (hP : va_P D cl ws H) (hC : isC.map (fun i => ws[i]?) = wc.map some) : va_P D cl wc H := by
  intro k q hk
  have h1 : (isC.map (fun i => ws[i]?))[k]? = some (some q) := by rw [hC, List.getElem?_map, hk]; rfl
  rw [List.getElem?_map] at h1
  cases hi : isC[k]? with
  | none => rw [hi] at h1; cases h1
  | some i => rw [hi] at h1; exact hP i q (Option.some.inj h1)
section
variable {p : Program} {l : Launch} {e : Env} {R : Room} {s : State} {m : MethodId} {args : Array Value} {below : List Frame} {meth : Method} {c : Code} {H : Heap} {locs : List Loc} {cells slots : Nat} {Q : State → Prop} {cc : ByteArray} {pc nL : Nat} {ls : Array Slot} {rest : List Value} {D : va_G} {tys : List (ClassId × FieldType)} {ws : va_W} {A : Nat → Prop} {H0 : Heap}
  {own : String} {Ts : List Cond} {y : MethodName} {w : List Cond} {rm : Room} {As st0 : List Value} {wc wr : va_W} {w1 : (Nat → Nat) → va_W} {index maxL n : Nat} {bytes : ByteArray} {ret : Option FieldType} {C : String} {ci b : Nat} {fs : List Value} {q : vw_C}
theorem preV_of (hK : va_K D vwCl tys s) (hP : va_P D vwCl ws H) (hD : va_D A ws) (isC : List Nat) (hC : isC.map (fun i => ws[i]?) = wc.map some) (hnC : va_nd isC = true) (hcl : vwCl[ci]? = some q) (hq : q.1 = C) (hrec : wc[0]? = some (b, .inr (ci, fs))) : PreV s H C b (va_Pc (.ref b :: As) (cpre D tys wc H.size)) As := by
  have hPc := P_of_map hP hC
  subst hq
  exact ⟨pre_blind, va_recv hK hPc hcl hrec, fun U hU hW => ⟨rfl, by rw [hU], by rw [hU]; exact hPc, va_K.moved hW.alike hK, nd_of_sub hD hnC hC⟩⟩
theorem preS_of (hK : va_K D vwCl tys s) (hP : va_P D vwCl ws H) (hD : va_D A ws) (isC : List Nat) (hC : isC.map (fun i => ws[i]?) = wc.map some) (hnC : va_nd isC = true) : PreS s H (va_Pc As (cpre D tys wc H.size)) As :=
  ⟨pre_blind, fun U hU hW => ⟨rfl, by rw [hU], by rw [hU]; exact P_of_map hP hC, va_K.moved hW.alike hK, nd_of_sub hD hnC hC⟩⟩
theorem call_iV {v : Int32} (S : CallFix p m c cc nL s args Ts own) (hM : CI l y w rm D tys (.ref b :: As) wc w1 v) (cw : CallW R s args own C index y bytes maxL ret w rm rm.cells rm.slots n) (hK : va_K D vwCl tys s) (hP : va_P D vwCl ws H) (hD : va_D A ws) (hS : va_S A H0 H locs) (hA : ∀ q, H0.size ≤ q → A q) (isC isR : List Nat) (hC : isC.map (fun i => ws[i]?) = wc.map some) (hR : isR.map (fun i => ws[i]?) = wr.map some) (hnC : va_nd isC = true) (hnR : va_nd isR = true) (hdis : ∀ i ∈ isR, i ∉ isC) (hcl : vwCl[ci]? = some q) (hq : q.1 = C) (hrec : wc[0]? = some (b, .inr (ci, fs)))
    (hls : ls.size = nL) (hroom : (rest.map fun v => v.category).sum ≤ 8) (hlen : As.length = n) (hst : st0 = As.reverse ++ .ref b :: rest) (hdg : decode cc pc = .ok (.invokevirtual index, 3)) (hf : cells + rm.cells ≤ R.cells ∧ slots + rm.slots ≤ R.slots)
    (kk : ∀ (u : Nat → Nat) (H1 : Heap) (locs1 : List Loc), va_P D vwCl (wr ++ w1 u) H1 → va_D A (wr ++ w1 u) → va_S A H0 H1 locs1 → W p l e R s m args below meth c H1 locs1 (cells + rm.cells) (slots + rm.slots) Q (F0 m (pc + 3) ls (.int v :: rest))) : W p l e R s m args below meth c H locs cells slots Q (F0 m pc ls st0) := by
  have hFc := va_free (wc := wc) hD hS hA isC hC
  refine va_calli (va_runV S (hM H.size) cw (preV_of hK hP hD isC hC hnC hcl hq hrec) rfl hlen hls hst (lv_room hroom) hdg hf) hS (fun q _ h => hFc q h) hFc (fun r u t H1 locs ht hvm hw hB hz1 hk1 hS => ?_)
  subst hw
  obtain ⟨hP1, hD1⟩ := hB
  rw [ht] at hP1
  obtain ⟨hP2, hD2⟩ := va_join hP hD isC isR hC hR hnR hdis hk1 hFc hP1 hD1
  exact kk u H1 locs hP2 hD2 hS
theorem call_lV {v : Int64} (S : CallFix p m c cc nL s args Ts own) (hM : CL l y w rm D tys (.ref b :: As) wc w1 v) (cw : CallW R s args own C index y bytes maxL ret w rm rm.cells rm.slots n) (hK : va_K D vwCl tys s) (hP : va_P D vwCl ws H) (hD : va_D A ws) (hS : va_S A H0 H locs) (hA : ∀ q, H0.size ≤ q → A q) (isC isR : List Nat) (hC : isC.map (fun i => ws[i]?) = wc.map some) (hR : isR.map (fun i => ws[i]?) = wr.map some) (hnC : va_nd isC = true) (hnR : va_nd isR = true) (hdis : ∀ i ∈ isR, i ∉ isC) (hcl : vwCl[ci]? = some q) (hq : q.1 = C) (hrec : wc[0]? = some (b, .inr (ci, fs)))
    (hls : ls.size = nL) (hroom : (rest.map fun v => v.category).sum ≤ 8) (hlen : As.length = n) (hst : st0 = As.reverse ++ .ref b :: rest) (hdg : decode cc pc = .ok (.invokevirtual index, 3)) (hf : cells + rm.cells ≤ R.cells ∧ slots + rm.slots ≤ R.slots)
    (kk : ∀ (u : Nat → Nat) (H1 : Heap) (locs1 : List Loc), va_P D vwCl (wr ++ w1 u) H1 → va_D A (wr ++ w1 u) → va_S A H0 H1 locs1 → W p l e R s m args below meth c H1 locs1 (cells + rm.cells) (slots + rm.slots) Q (F0 m (pc + 3) ls (.long v :: rest))) : W p l e R s m args below meth c H locs cells slots Q (F0 m pc ls st0) := by
  have hFc := va_free (wc := wc) hD hS hA isC hC
  refine va_calll (va_runV S (hM H.size) cw (preV_of hK hP hD isC hC hnC hcl hq hrec) rfl hlen hls hst (lv_room hroom) hdg hf) hS (fun q _ h => hFc q h) hFc (fun r u t H1 locs ht hvm hw hB hz1 hk1 hS => ?_)
  subst hw
  obtain ⟨hP1, hD1⟩ := hB
  rw [ht] at hP1
  obtain ⟨hP2, hD2⟩ := va_join hP hD isC isR hC hR hnR hdis hk1 hFc hP1 hD1
  exact kk u H1 locs hP2 hD2 hS
theorem call_vV (S : CallFix p m c cc nL s args Ts own) (hM : CV l y w rm D tys (.ref b :: As) wc w1) (cw : CallW R s args own C index y bytes maxL ret w rm rm.cells rm.slots n) (hK : va_K D vwCl tys s) (hP : va_P D vwCl ws H) (hD : va_D A ws) (hS : va_S A H0 H locs) (hA : ∀ q, H0.size ≤ q → A q) (isC isR : List Nat) (hC : isC.map (fun i => ws[i]?) = wc.map some) (hR : isR.map (fun i => ws[i]?) = wr.map some) (hnC : va_nd isC = true) (hnR : va_nd isR = true) (hdis : ∀ i ∈ isR, i ∉ isC) (hcl : vwCl[ci]? = some q) (hq : q.1 = C) (hrec : wc[0]? = some (b, .inr (ci, fs)))
    (hls : ls.size = nL) (hroom : (rest.map fun v => v.category).sum ≤ 8) (hlen : As.length = n) (hst : st0 = As.reverse ++ .ref b :: rest) (hdg : decode cc pc = .ok (.invokevirtual index, 3)) (hf : cells + rm.cells ≤ R.cells ∧ slots + rm.slots ≤ R.slots)
    (kk : ∀ (u : Nat → Nat) (H1 : Heap) (locs1 : List Loc), va_P D vwCl (wr ++ w1 u) H1 → va_D A (wr ++ w1 u) → va_S A H0 H1 locs1 → W p l e R s m args below meth c H1 locs1 (cells + rm.cells) (slots + rm.slots) Q (F0 m (pc + 3) ls rest)) : W p l e R s m args below meth c H locs cells slots Q (F0 m pc ls st0) := by
  have hFc := va_free (wc := wc) hD hS hA isC hC
  refine va_callv (va_runV S (hM H.size) cw (preV_of hK hP hD isC hC hnC hcl hq hrec) rfl hlen hls hst (lv_room hroom) hdg hf) hS (fun q _ h => hFc q h) hFc (fun u t H1 locs ht hvm hw hB hz1 hk1 hS => ?_)
  obtain ⟨hP1, hD1⟩ := hB
  rw [ht] at hP1
  obtain ⟨hP2, hD2⟩ := va_join hP hD isC isR hC hR hnR hdis hk1 hFc hP1 hD1
  exact kk u H1 locs hP2 hD2 hS
theorem call_rV {v : Nat} (S : CallFix p m c cc nL s args Ts own) (hM : CR l y w rm D tys (.ref b :: As) wc w1 v) (cw : CallW R s args own C index y bytes maxL ret w rm rm.cells rm.slots n) (hK : va_K D vwCl tys s) (hP : va_P D vwCl ws H) (hD : va_D A ws) (hS : va_S A H0 H locs) (hA : ∀ q, H0.size ≤ q → A q) (isC isR : List Nat) (hC : isC.map (fun i => ws[i]?) = wc.map some) (hR : isR.map (fun i => ws[i]?) = wr.map some) (hnC : va_nd isC = true) (hnR : va_nd isR = true) (hdis : ∀ i ∈ isR, i ∉ isC) (hcl : vwCl[ci]? = some q) (hq : q.1 = C) (hrec : wc[0]? = some (b, .inr (ci, fs)))
    (hls : ls.size = nL) (hroom : (rest.map fun v => v.category).sum ≤ 8) (hlen : As.length = n) (hst : st0 = As.reverse ++ .ref b :: rest) (hdg : decode cc pc = .ok (.invokevirtual index, 3)) (hf : cells + rm.cells ≤ R.cells ∧ slots + rm.slots ≤ R.slots)
    (kk : ∀ (u : Nat → Nat) (H1 : Heap) (locs1 : List Loc), va_P D vwCl (wr ++ w1 u) H1 → va_D A (wr ++ w1 u) → va_S A H0 H1 locs1 → W p l e R s m args below meth c H1 locs1 (cells + rm.cells) (slots + rm.slots) Q (F0 m (pc + 3) ls (.ref v :: rest))) : W p l e R s m args below meth c H locs cells slots Q (F0 m pc ls st0) := by
  have hFc := va_free (wc := wc) hD hS hA isC hC
  refine va_callr (va_runV S (hM H.size) cw (preV_of hK hP hD isC hC hnC hcl hq hrec) rfl hlen hls hst (lv_room hroom) hdg hf) hS (fun q _ h => hFc q h) hFc (fun u ra t H1 locs ht hvm hw hB hz1 hk1 hS => ?_)
  obtain ⟨hra, hP1, hD1⟩ := hB
  subst hra
  rw [ht] at hP1
  obtain ⟨hP2, hD2⟩ := va_join hP hD isC isR hC hR hnR hdis hk1 hFc hP1 hD1
  exact kk u H1 locs hP2 hD2 hS
theorem call_iS {v : Int32} (S : CallFix p m c cc nL s args Ts own) (hM : CI l y w rm D tys As wc w1 v) (cw : CallB R s args own index y bytes maxL ret w rm rm.cells rm.slots n ∧ (Cond.static y).before args s = true) (hK : va_K D vwCl tys s) (hP : va_P D vwCl ws H) (hD : va_D A ws) (hS : va_S A H0 H locs) (hA : ∀ q, H0.size ≤ q → A q) (isC isR : List Nat) (hC : isC.map (fun i => ws[i]?) = wc.map some) (hR : isR.map (fun i => ws[i]?) = wr.map some) (hnC : va_nd isC = true) (hnR : va_nd isR = true) (hdis : ∀ i ∈ isR, i ∉ isC)
    (hls : ls.size = nL) (hroom : (rest.map fun v => v.category).sum ≤ 8) (hlen : As.length = n) (hst : st0 = As.reverse ++ rest) (hdg : decode cc pc = .ok (.invokestatic index, 3)) (hf : cells + rm.cells ≤ R.cells ∧ slots + rm.slots ≤ R.slots)
    (kk : ∀ (u : Nat → Nat) (H1 : Heap) (locs1 : List Loc), va_P D vwCl (wr ++ w1 u) H1 → va_D A (wr ++ w1 u) → va_S A H0 H1 locs1 → W p l e R s m args below meth c H1 locs1 (cells + rm.cells) (slots + rm.slots) Q (F0 m (pc + 3) ls (.int v :: rest))) : W p l e R s m args below meth c H locs cells slots Q (F0 m pc ls st0) := by
  have hFc := va_free (wc := wc) hD hS hA isC hC
  refine va_calli (va_runS S (hM H.size) cw (preS_of hK hP hD isC hC hnC) rfl hlen hls hst (lv_room hroom) hdg hf) hS (fun q _ h => hFc q h) hFc (fun r u t H1 locs ht hvm hw hB hz1 hk1 hS => ?_)
  subst hw
  obtain ⟨hP1, hD1⟩ := hB
  rw [ht] at hP1
  obtain ⟨hP2, hD2⟩ := va_join hP hD isC isR hC hR hnR hdis hk1 hFc hP1 hD1
  exact kk u H1 locs hP2 hD2 hS
theorem call_vS (S : CallFix p m c cc nL s args Ts own) (hM : CV l y w rm D tys As wc w1) (cw : CallB R s args own index y bytes maxL ret w rm rm.cells rm.slots n ∧ (Cond.static y).before args s = true) (hK : va_K D vwCl tys s) (hP : va_P D vwCl ws H) (hD : va_D A ws) (hS : va_S A H0 H locs) (hA : ∀ q, H0.size ≤ q → A q) (isC isR : List Nat) (hC : isC.map (fun i => ws[i]?) = wc.map some) (hR : isR.map (fun i => ws[i]?) = wr.map some) (hnC : va_nd isC = true) (hnR : va_nd isR = true) (hdis : ∀ i ∈ isR, i ∉ isC)
    (hls : ls.size = nL) (hroom : (rest.map fun v => v.category).sum ≤ 8) (hlen : As.length = n) (hst : st0 = As.reverse ++ rest) (hdg : decode cc pc = .ok (.invokestatic index, 3)) (hf : cells + rm.cells ≤ R.cells ∧ slots + rm.slots ≤ R.slots)
    (kk : ∀ (u : Nat → Nat) (H1 : Heap) (locs1 : List Loc), va_P D vwCl (wr ++ w1 u) H1 → va_D A (wr ++ w1 u) → va_S A H0 H1 locs1 → W p l e R s m args below meth c H1 locs1 (cells + rm.cells) (slots + rm.slots) Q (F0 m (pc + 3) ls rest)) : W p l e R s m args below meth c H locs cells slots Q (F0 m pc ls st0) := by
  have hFc := va_free (wc := wc) hD hS hA isC hC
  refine va_callv (va_runS S (hM H.size) cw (preS_of hK hP hD isC hC hnC) rfl hlen hls hst (lv_room hroom) hdg hf) hS (fun q _ h => hFc q h) hFc (fun u t H1 locs ht hvm hw hB hz1 hk1 hS => ?_)
  obtain ⟨hP1, hD1⟩ := hB
  rw [ht] at hP1
  obtain ⟨hP2, hD2⟩ := va_join hP hD isC isR hC hR hnR hdis hk1 hFc hP1 hD1
  exact kk u H1 locs hP2 hD2 hS
theorem call_vI (S : CallFix p m c cc nL s args Ts own) (hM : CV l y w rm D tys (.ref b :: As) wc w1) (cw : CallB R s args own index y bytes maxL none w rm rm.cells rm.slots n ∧ y.name = "<init>" ∧ (Cond.instanceMethod y).before args s = true) (hK : va_K D vwCl tys s) (hP : va_P D vwCl ws H) (hD : va_D A ws) (hS : va_S A H0 H locs) (hA : ∀ q, H0.size ≤ q → A q) (isC isR : List Nat) (hC : isC.map (fun i => ws[i]?) = wc.map some) (hR : isR.map (fun i => ws[i]?) = wr.map some) (hnC : va_nd isC = true) (hnR : va_nd isR = true) (hdis : ∀ i ∈ isR, i ∉ isC)
    (hls : ls.size = nL) (hroom : (rest.map fun v => v.category).sum ≤ 8) (hlen : As.length = n) (hst : st0 = As.reverse ++ .ref b :: rest) (hdg : decode cc pc = .ok (.invokespecial index, 3)) (hf : cells + rm.cells ≤ R.cells ∧ slots + rm.slots ≤ R.slots)
    (kk : ∀ (u : Nat → Nat) (H1 : Heap) (locs1 : List Loc), va_P D vwCl (wr ++ w1 u) H1 → va_D A (wr ++ w1 u) → va_S A H0 H1 locs1 → W p l e R s m args below meth c H1 locs1 (cells + rm.cells) (slots + rm.slots) Q (F0 m (pc + 3) ls rest)) : W p l e R s m args below meth c H locs cells slots Q (F0 m pc ls st0) := by
  have hFc := va_free (wc := wc) hD hS hA isC hC
  refine va_callv (va_runI S (hM H.size) cw (preS_of hK hP hD isC hC hnC) rfl hlen hls hst (lv_room hroom) hdg hf) hS (fun q _ h => hFc q h) hFc (fun u t H1 locs ht hvm hw hB hz1 hk1 hS => ?_)
  obtain ⟨hP1, hD1⟩ := hB
  rw [ht] at hP1
  obtain ⟨hP2, hD2⟩ := va_join hP hD isC isR hC hR hnR hdis hk1 hFc hP1 hD1
  exact kk u H1 locs hP2 hD2 hS
theorem call_vIN {host : String} (S : CallFix p m c cc nL s args Ts own) (hM : CV l y w rm D tys (.ref b :: As) wc w1) (cw : va_CN R s args own index y host bytes maxL none w rm rm.cells rm.slots n ∧ y.name = "<init>" ∧ (Cond.instanceMethod y).before args s = true) (hK : va_K D vwCl tys s) (hP : va_P D vwCl ws H) (hD : va_D A ws) (hS : va_S A H0 H locs) (hA : ∀ q, H0.size ≤ q → A q) (isC isR : List Nat) (hC : isC.map (fun i => ws[i]?) = wc.map some) (hR : isR.map (fun i => ws[i]?) = wr.map some) (hnC : va_nd isC = true) (hnR : va_nd isR = true) (hdis : ∀ i ∈ isR, i ∉ isC)
    (hls : ls.size = nL) (hroom : (rest.map fun v => v.category).sum ≤ 8) (hlen : As.length = n) (hst : st0 = As.reverse ++ .ref b :: rest) (hdg : decode cc pc = .ok (.invokespecial index, 3)) (hf : cells + rm.cells ≤ R.cells ∧ slots + rm.slots ≤ R.slots)
    (kk : ∀ (u : Nat → Nat) (H1 : Heap) (locs1 : List Loc), va_P D vwCl (wr ++ w1 u) H1 → va_D A (wr ++ w1 u) → va_S A H0 H1 locs1 → W p l e R s m args below meth c H1 locs1 (cells + rm.cells) (slots + rm.slots) Q (F0 m (pc + 3) ls rest)) : W p l e R s m args below meth c H locs cells slots Q (F0 m pc ls st0) := by
  have hFc := va_free (wc := wc) hD hS hA isC hC
  refine va_callv (va_runIN S (hM H.size) cw (preS_of hK hP hD isC hC hnC) rfl hlen hls hst (lv_room hroom) hdg hf) hS (fun q _ h => hFc q h) hFc (fun u t H1 locs ht hvm hw hB hz1 hk1 hS => ?_)
  obtain ⟨hP1, hD1⟩ := hB
  rw [ht] at hP1
  obtain ⟨hP2, hD2⟩ := va_join hP hD isC isR hC hR hnR hdis hk1 hFc hP1 hD1
  exact kk u H1 locs hP2 hD2 hS
end

abbrev fX (r : Nat → Nat) : List Value := [.ref (r 1), .int 0, .ref (r 2), .ref (r 18), .ref (r 28), .ref (r 38), .ref (r 45), .ref (r 55), .ref (r 58), .ref (r 61), .ref (r 65), .ref (r 70), .ref (r 75), .int 0, .ref (r 80), .ref (r 86), .int 0, .ref (r 87)]
abbrev fM (n : Nat → Nat) : List Value := [.ref (n 1), .ref (n 2), .int 0, .int 0, .int 0, .int (-1), .int 0, .int 0, .int 0, .int 0, .long 0, .ref (n 3), .ref (n 4), .ref (n 5), .ref (n 6), .ref (n 7), .ref (n 8), .ref (n 9), .ref (n 10), .ref (n 11), .ref (n 12), .ref (n 13), .ref (n 14), .ref (n 15), .ref (n 16), .ref (n 17), .ref (n 18), .ref (n 19), .ref (n 20), .int 0, .int 0, .ref (n 21), .ref (n 22), .ref (n 23), .ref (n 24), .ref (n 25), .ref (n 26), .ref (n 27), .ref (n 28), .int 0, .ref (n 29), .ref (n 30), .int 0, .int 0, .ref (n 31), .ref (n 32), .ref (n 33), .ref (n 34), .int 0, .int 0, .int 0, .long 0, .ref (n 35), .ref (n 36), .int (-1), .int 0, .int 0, .int 0, .ref (n 37), .int 0, .ref (n 38), .ref (n 39), .ref (n 40), .ref (n 41), .ref (n 42), .ref (n 43), .int 0, .int 0, .ref (n 44), .ref (n 45), .ref (n 46)]
theorem dfX0 : ∀ j, j < 9 → defaultValue (tyX0 j) = vp_V [.null, .int 0, .null, .null, .null, .null, .null, .int 0, .int 0] j := by decide +kernel
theorem dfX1 : ∀ j, j < 4 → defaultValue (tyX1 j) = vp_V [.int 0, .null, .int 0, .null] j := by decide +kernel
theorem dfX2 : ∀ j, j < 4 → defaultValue (tyX2 j) = vp_V [.null, .null, .null, .null] j := by decide +kernel
theorem dfX3 : ∀ j, j < 9 → defaultValue (tyX3 j) = vp_V [.null, .null, .null, .int 0, .int 0, .int 0, .int 0, .int 0, .int 0] j := by decide +kernel
theorem dfX4 : ∀ j, j < 16 → defaultValue (tyX4 j) = vp_V [.int 0, .null, .null, .int 0, .null, .null, .int 0, .null, .null, .int 0, .null, .null, .int 0, .int 0, .int 0, .null] j := by decide +kernel
theorem dfX5 : ∀ j, j < 2 → defaultValue (tyX5 j) = vp_V [.null, .null] j := by decide +kernel
theorem dfX6 : ∀ j, j < 7 → defaultValue (tyX6 j) = vp_V [.int 0, .int 0, .null, .null, .null, .null, .null] j := by decide +kernel
theorem dfX7 : ∀ j, j < 3 → defaultValue (tyX7 j) = vp_V [.null, .int 0, .null] j := by decide +kernel
theorem dfX8 : ∀ j, j < 10 → defaultValue (tyX8 j) = vp_V [.null, .null, .int 0, .int 0, .int 0, .int 0, .long 0, .int 0, .int 0, .int 0] j := by decide +kernel
theorem dfX9 : ∀ j, j < 11 → defaultValue (tyX9 j) = vp_V [.int 0, .int 0, .null, .null, .null, .null, .int 0, .int 0, .int 0, .int 0, .int 0] j := by decide +kernel
theorem dfX10 : ∀ j, j < 18 → defaultValue (tyX10 j) = vp_V [.null, .int 0, .null, .null, .null, .null, .null, .null, .null, .null, .null, .null, .null, .int 0, .null, .null, .int 0, .null] j := by decide +kernel
theorem dfX11 : ∀ j, j < 71 → defaultValue (tyX11 j) = vp_V [.null, .null, .int 0, .int 0, .int 0, .int 0, .int 0, .int 0, .int 0, .int 0, .long 0, .null, .null, .null, .null, .null, .null, .null, .null, .null, .null, .null, .null, .null, .null, .null, .null, .null, .null, .int 0, .int 0, .null, .null, .null, .null, .null, .null, .null, .null, .int 0, .null, .null, .int 0, .int 0, .null, .null, .null, .null, .int 0, .int 0, .int 0, .long 0, .null, .null, .int 0, .int 0, .int 0, .int 0, .null, .int 0, .null, .null, .null, .null, .null, .null, .int 0, .int 0, .null, .null, .null] j := by decide +kernel
theorem z0 : (Int16.ofInt 1600).toInt32 = 1600 := by decide +kernel
theorem z1 : ¬ (1600 : Int32) < 0 := by decide +kernel
theorem z2 : (1600 : Int32).toNatClampNeg = 1600 := by decide +kernel
theorem z3 : 1600 * componentBytes .byte ≤ 536870912 := by decide +kernel
theorem z4 : (Int8.ofInt 6).toInt32 = 6 := by decide +kernel
theorem z5 : ¬ (6 : Int32) < 0 := by decide +kernel
theorem z6 : (6 : Int32).toNatClampNeg = 6 := by decide +kernel
theorem z7 : 6 * componentBytes .long ≤ 536870912 := by decide +kernel
theorem z8 : Int32.ofInt 0 = 0 := by decide +kernel
theorem z9 : ¬ (4 : Int32) ≤ 0 := by decide +kernel
theorem z10 : ((9 : Nat) : Int) + 23 = ((32 : Nat) : Int) := by decide +kernel
theorem z11 : Int32.ofInt 5 = 5 := by decide +kernel
theorem z12 : (0 : Int64) <<< ((5 : Int32).toInt64 &&& 63) = 0 := by decide +kernel
theorem z13 : (Int8.ofInt 96).toInt32 = 96 := by decide +kernel
theorem z14 : (119 : Int32) - 96 = 23 := by decide +kernel
theorem z15 : (23 : Int32).toInt64 = 23 := by decide +kernel
theorem z16 : (0 : Int64) ||| 23 = 23 := by decide +kernel
theorem z17 : (0 : Int32) + Int32.ofInt 1 = 1 := by decide +kernel
theorem z18 : ((29 : Nat) : Int) + (-25) = ((4 : Nat) : Int) := by decide +kernel
theorem z19 : ¬ (4 : Int32) ≤ 1 := by decide +kernel
theorem z20 : (23 : Int64) <<< ((5 : Int32).toInt64 &&& 63) = 736 := by decide +kernel
theorem z21 : (111 : Int32) - 96 = 15 := by decide +kernel
theorem z22 : (15 : Int32).toInt64 = 15 := by decide +kernel
theorem z23 : (736 : Int64) ||| 15 = 751 := by decide +kernel
theorem z24 : (1 : Int32) + Int32.ofInt 1 = 2 := by decide +kernel
theorem z25 : ¬ (4 : Int32) ≤ 2 := by decide +kernel
theorem z26 : (751 : Int64) <<< ((5 : Int32).toInt64 &&& 63) = 24032 := by decide +kernel
theorem z27 : (114 : Int32) - 96 = 18 := by decide +kernel
theorem z28 : (18 : Int32).toInt64 = 18 := by decide +kernel
theorem z29 : (24032 : Int64) ||| 18 = 24050 := by decide +kernel
theorem z30 : (2 : Int32) + Int32.ofInt 1 = 3 := by decide +kernel
theorem z31 : ¬ (4 : Int32) ≤ 3 := by decide +kernel
theorem z32 : (24050 : Int64) <<< ((5 : Int32).toInt64 &&& 63) = 769600 := by decide +kernel
theorem z33 : (100 : Int32) - 96 = 4 := by decide +kernel
theorem z34 : (4 : Int32).toInt64 = 4 := by decide +kernel
theorem z35 : (769600 : Int64) ||| 4 = 769604 := by decide +kernel
theorem z36 : (3 : Int32) + Int32.ofInt 1 = 4 := by decide +kernel
theorem z37 : (4 : Int32) ≤ 4 := by decide +kernel
theorem z38 : ixp 0 0 6 := ⟨vin _ _ (by decide +kernel), by decide +kernel⟩
theorem z39 : Int32.ofInt 1 = 1 := by decide +kernel
theorem z40 : (112 : Int32) - 96 = 16 := by decide +kernel
theorem z41 : (16 : Int32).toInt64 = 16 := by decide +kernel
theorem z42 : (0 : Int64) ||| 16 = 16 := by decide +kernel
theorem z43 : (16 : Int64) <<< ((5 : Int32).toInt64 &&& 63) = 512 := by decide +kernel
theorem z44 : (97 : Int32) - 96 = 1 := by decide +kernel
theorem z45 : (1 : Int32).toInt64 = 1 := by decide +kernel
theorem z46 : (512 : Int64) ||| 1 = 513 := by decide +kernel
theorem z47 : (513 : Int64) <<< ((5 : Int32).toInt64 &&& 63) = 16416 := by decide +kernel
theorem z48 : (105 : Int32) - 96 = 9 := by decide +kernel
theorem z49 : (9 : Int32).toInt64 = 9 := by decide +kernel
theorem z50 : (16416 : Int64) ||| 9 = 16425 := by decide +kernel
theorem z51 : (16425 : Int64) <<< ((5 : Int32).toInt64 &&& 63) = 525600 := by decide +kernel
theorem z52 : (525600 : Int64) ||| 18 = 525618 := by decide +kernel
theorem z53 : ixp 1 1 6 := ⟨vin _ _ (by decide +kernel), by decide +kernel⟩
theorem z54 : Int32.ofInt 2 = 2 := by decide +kernel
theorem z55 : (0 : Int64) ||| 18 = 18 := by decide +kernel
theorem z56 : (18 : Int64) <<< ((5 : Int32).toInt64 &&& 63) = 576 := by decide +kernel
theorem z57 : (117 : Int32) - 96 = 21 := by decide +kernel
theorem z58 : (21 : Int32).toInt64 = 21 := by decide +kernel
theorem z59 : (576 : Int64) ||| 21 = 597 := by decide +kernel
theorem z60 : (597 : Int64) <<< ((5 : Int32).toInt64 &&& 63) = 19104 := by decide +kernel
theorem z61 : (108 : Int32) - 96 = 12 := by decide +kernel
theorem z62 : (12 : Int32).toInt64 = 12 := by decide +kernel
theorem z63 : (19104 : Int64) ||| 12 = 19116 := by decide +kernel
theorem z64 : (19116 : Int64) <<< ((5 : Int32).toInt64 &&& 63) = 611712 := by decide +kernel
theorem z65 : (101 : Int32) - 96 = 5 := by decide +kernel
theorem z66 : (5 : Int32).toInt64 = 5 := by decide +kernel
theorem z67 : (611712 : Int64) ||| 5 = 611717 := by decide +kernel
theorem z68 : ixp 2 2 6 := ⟨vin _ _ (by decide +kernel), by decide +kernel⟩
theorem z69 : Int32.ofInt 3 = 3 := by decide +kernel
theorem z70 : ¬ (2 : Int32) ≤ 0 := by decide +kernel
theorem z71 : (0 : Int64) ||| 15 = 15 := by decide +kernel
theorem z72 : ¬ (2 : Int32) ≤ 1 := by decide +kernel
theorem z73 : (15 : Int64) <<< ((5 : Int32).toInt64 &&& 63) = 480 := by decide +kernel
theorem z74 : (480 : Int64) ||| 18 = 498 := by decide +kernel
theorem z75 : (2 : Int32) ≤ 2 := by decide +kernel
theorem z76 : ixp 3 3 6 := ⟨vin _ _ (by decide +kernel), by decide +kernel⟩
theorem z77 : Int32.ofInt 4 = 4 := by decide +kernel
theorem z78 : ¬ (6 : Int32) ≤ 0 := by decide +kernel
theorem z79 : (0 : Int64) ||| 12 = 12 := by decide +kernel
theorem z80 : ¬ (6 : Int32) ≤ 1 := by decide +kernel
theorem z81 : (12 : Int64) <<< ((5 : Int32).toInt64 &&& 63) = 384 := by decide +kernel
theorem z82 : (384 : Int64) ||| 5 = 389 := by decide +kernel
theorem z83 : ¬ (6 : Int32) ≤ 2 := by decide +kernel
theorem z84 : (389 : Int64) <<< ((5 : Int32).toInt64 &&& 63) = 12448 := by decide +kernel
theorem z85 : (110 : Int32) - 96 = 14 := by decide +kernel
theorem z86 : (14 : Int32).toInt64 = 14 := by decide +kernel
theorem z87 : (12448 : Int64) ||| 14 = 12462 := by decide +kernel
theorem z88 : ¬ (6 : Int32) ≤ 3 := by decide +kernel
theorem z89 : (12462 : Int64) <<< ((5 : Int32).toInt64 &&& 63) = 398784 := by decide +kernel
theorem z90 : (103 : Int32) - 96 = 7 := by decide +kernel
theorem z91 : (7 : Int32).toInt64 = 7 := by decide +kernel
theorem z92 : (398784 : Int64) ||| 7 = 398791 := by decide +kernel
theorem z93 : ¬ (6 : Int32) ≤ 4 := by decide +kernel
theorem z94 : (398791 : Int64) <<< ((5 : Int32).toInt64 &&& 63) = 12761312 := by decide +kernel
theorem z95 : (116 : Int32) - 96 = 20 := by decide +kernel
theorem z96 : (20 : Int32).toInt64 = 20 := by decide +kernel
theorem z97 : (12761312 : Int64) ||| 20 = 12761332 := by decide +kernel
theorem z98 : (4 : Int32) + Int32.ofInt 1 = 5 := by decide +kernel
theorem z99 : ¬ (6 : Int32) ≤ 5 := by decide +kernel
theorem z100 : (12761332 : Int64) <<< ((5 : Int32).toInt64 &&& 63) = 408362624 := by decide +kernel
theorem z101 : (104 : Int32) - 96 = 8 := by decide +kernel
theorem z102 : (8 : Int32).toInt64 = 8 := by decide +kernel
theorem z103 : (408362624 : Int64) ||| 8 = 408362632 := by decide +kernel
theorem z104 : (5 : Int32) + Int32.ofInt 1 = 6 := by decide +kernel
theorem z105 : (6 : Int32) ≤ 6 := by decide +kernel
theorem z106 : ixp 4 4 6 := ⟨vin _ _ (by decide +kernel), by decide +kernel⟩
theorem z107 : ¬ (5 : Int32) ≤ 0 := by decide +kernel
theorem z108 : (0 : Int64) ||| 20 = 20 := by decide +kernel
theorem z109 : ¬ (5 : Int32) ≤ 1 := by decide +kernel
theorem z110 : (20 : Int64) <<< ((5 : Int32).toInt64 &&& 63) = 640 := by decide +kernel
theorem z111 : (640 : Int64) ||| 21 = 661 := by decide +kernel
theorem z112 : ¬ (5 : Int32) ≤ 2 := by decide +kernel
theorem z113 : (661 : Int64) <<< ((5 : Int32).toInt64 &&& 63) = 21152 := by decide +kernel
theorem z114 : (21152 : Int64) ||| 18 = 21170 := by decide +kernel
theorem z115 : ¬ (5 : Int32) ≤ 3 := by decide +kernel
theorem z116 : (21170 : Int64) <<< ((5 : Int32).toInt64 &&& 63) = 677440 := by decide +kernel
theorem z117 : (677440 : Int64) ||| 14 = 677454 := by decide +kernel
theorem z118 : ¬ (5 : Int32) ≤ 4 := by decide +kernel
theorem z119 : (677454 : Int64) <<< ((5 : Int32).toInt64 &&& 63) = 21678528 := by decide +kernel
theorem z120 : (115 : Int32) - 96 = 19 := by decide +kernel
theorem z121 : (19 : Int32).toInt64 = 19 := by decide +kernel
theorem z122 : (21678528 : Int64) ||| 19 = 21678547 := by decide +kernel
theorem z123 : (5 : Int32) ≤ 5 := by decide +kernel
theorem z124 : ixp 5 5 6 := ⟨vin _ _ (by decide +kernel), by decide +kernel⟩
theorem z125 : ¬ (0 : Int32) < 0 := by decide +kernel
theorem z126 : (0 : Int32).toNatClampNeg = 0 := by decide +kernel
theorem z127 : 0 * componentBytes .byte ≤ 536870912 := by decide +kernel
theorem z128 : Int32.ofInt (-1) = (-1) := by decide +kernel
theorem z129 : yX8_packed.cls ≠ "java/lang/invoke/MethodHandle" ∧ yX8_packed.cls ≠ "java/lang/invoke/VarHandle" ∧ (parseMethodDescriptor yX8_packed.desc).map (fun d => d.parameters.length) = some 1 := by decide +kernel
theorem z130 : (Int8.ofInt 8).toInt32 = 8 := by decide +kernel
theorem z131 : ¬ (8 : Int32) < 0 := by decide +kernel
theorem z132 : (8 : Int32).toNatClampNeg = 8 := by decide +kernel
theorem z133 : 8 * componentBytes .long ≤ 536870912 := by decide +kernel
theorem z134 : (Int8.ofInt 24).toInt32 = 24 := by decide +kernel
theorem z135 : ¬ (24 : Int32) < 0 := by decide +kernel
theorem z136 : (24 : Int32).toNatClampNeg = 24 := by decide +kernel
theorem z137 : 24 * componentBytes .int ≤ 536870912 := by decide +kernel
theorem z138 : (Int8.ofInt 64).toInt32 = 64 := by decide +kernel
theorem z139 : ¬ (64 : Int32) < 0 := by decide +kernel
theorem z140 : (64 : Int32).toNatClampNeg = 64 := by decide +kernel
theorem z141 : 64 * componentBytes .boolean ≤ 536870912 := by decide +kernel
theorem z142 : (Int16.ofInt 192).toInt32 = 192 := by decide +kernel
theorem z143 : ¬ (192 : Int32) < 0 := by decide +kernel
theorem z144 : (192 : Int32).toNatClampNeg = 192 := by decide +kernel
theorem z145 : 192 * componentBytes .int ≤ 536870912 := by decide +kernel
theorem z146 : (Int8.ofInt 9).toInt32 = 9 := by decide +kernel
theorem z147 : ¬ (9 : Int32) < 0 := by decide +kernel
theorem z148 : (9 : Int32).toNatClampNeg = 9 := by decide +kernel
theorem z149 : 9 * componentBytes .int ≤ 536870912 := by decide +kernel
theorem z150 : ¬ (96 : Int32) < 0 := by decide +kernel
theorem z151 : (96 : Int32).toNatClampNeg = 96 := by decide +kernel
theorem z152 : 96 * componentBytes .int ≤ 536870912 := by decide +kernel
theorem z153 : 6 * componentBytes .int ≤ 536870912 := by decide +kernel
theorem z154 : 96 * componentBytes .long ≤ 536870912 := by decide +kernel
theorem z155 : yX8_init.cls ≠ "java/lang/invoke/MethodHandle" ∧ yX8_init.cls ≠ "java/lang/invoke/VarHandle" ∧ (parseMethodDescriptor yX8_init.desc).map (fun d => d.parameters.length) = some 0 := by decide +kernel
theorem z156 : yX4_init.cls ≠ "java/lang/invoke/MethodHandle" ∧ yX4_init.cls ≠ "java/lang/invoke/VarHandle" ∧ (parseMethodDescriptor yX4_init.desc).map (fun d => d.parameters.length) = some 0 := by decide +kernel
theorem z157 : (Int8.ofInt 40).toInt32 = 40 := by decide +kernel
theorem z158 : ¬ (40 : Int32) < 0 := by decide +kernel
theorem z159 : (40 : Int32).toNatClampNeg = 40 := by decide +kernel
theorem z160 : 40 * componentBytes .boolean ≤ 536870912 := by decide +kernel
theorem z161 : 40 * componentBytes .int ≤ 536870912 := by decide +kernel
theorem z162 : ((7 : Nat) : Int) + 13 = ((20 : Nat) : Int) := by decide +kernel
theorem z163 : ((17 : Nat) : Int) + (-12) = ((5 : Nat) : Int) := by decide +kernel
theorem z164 : yJ7_fill_53178.cls ≠ "java/lang/invoke/MethodHandle" ∧ yJ7_fill_53178.cls ≠ "java/lang/invoke/VarHandle" ∧ (parseMethodDescriptor yJ7_fill_53178.desc).map (fun d => d.parameters.length) = some 2 := by decide +kernel
theorem z165 : ixp 0 0 3 := ⟨vin _ _ (by decide +kernel), by decide +kernel⟩
theorem z166 : ixp 1 1 3 := ⟨vin _ _ (by decide +kernel), by decide +kernel⟩
theorem z167 : ixp 2 2 3 := ⟨vin _ _ (by decide +kernel), by decide +kernel⟩
theorem z168 : (Int8.ofInt 112).toInt32 = 112 := by decide +kernel
theorem z169 : ¬ (112 : Int32) < 0 := by decide +kernel
theorem z170 : (112 : Int32).toNatClampNeg = 112 := by decide +kernel
theorem z171 : 112 * componentBytes .long ≤ 536870912 := by decide +kernel
theorem z172 : (Int16.ofInt 784).toInt32 = 784 := by decide +kernel
theorem z173 : ¬ (784 : Int32) < 0 := by decide +kernel
theorem z174 : (784 : Int32).toNatClampNeg = 784 := by decide +kernel
theorem z175 : 784 * componentBytes .int ≤ 536870912 := by decide +kernel
theorem z176 : (Int16.ofInt 3000).toInt32 = 3000 := by decide +kernel
theorem z177 : ¬ (3000 : Int32) < 0 := by decide +kernel
theorem z178 : (3000 : Int32).toNatClampNeg = 3000 := by decide +kernel
theorem z179 : 3000 * componentBytes .int ≤ 536870912 := by decide +kernel
theorem z180 : (Int16.ofInt 9000).toInt32 = 9000 := by decide +kernel
theorem z181 : ¬ (9000 : Int32) < 0 := by decide +kernel
theorem z182 : (9000 : Int32).toNatClampNeg = 9000 := by decide +kernel
theorem z183 : 9000 * componentBytes .int ≤ 536870912 := by decide +kernel
theorem z184 : (Int8.ofInt 30).toInt32 = 30 := by decide +kernel
theorem z185 : ¬ (30 : Int32) < 0 := by decide +kernel
theorem z186 : (30 : Int32).toNatClampNeg = 30 := by decide +kernel
theorem z187 : 30 * componentBytes .int ≤ 536870912 := by decide +kernel
theorem z188 : 30 * componentBytes .boolean ≤ 536870912 := by decide +kernel
theorem z189 : (Int8.ofInt 16).toInt32 = 16 := by decide +kernel
theorem z190 : ¬ (16 : Int32) < 0 := by decide +kernel
theorem z191 : (16 : Int32).toNatClampNeg = 16 := by decide +kernel
theorem z192 : 16 * componentBytes .int ≤ 536870912 := by decide +kernel
theorem z193 : (Int16.ofInt 1620).toInt32 = 1620 := by decide +kernel
theorem z194 : ¬ (1620 : Int32) < 0 := by decide +kernel
theorem z195 : (1620 : Int32).toNatClampNeg = 1620 := by decide +kernel
theorem z196 : 1620 * componentBytes .byte ≤ 536870912 := by decide +kernel
theorem z197 : ¬ (2 : Int32) < 0 := by decide +kernel
theorem z198 : (2 : Int32).toNatClampNeg = 2 := by decide +kernel
theorem z199 : 2 * componentBytes .int ≤ 536870912 := by decide +kernel
theorem z200 : (Int8.ofInt 12).toInt32 = 12 := by decide +kernel
theorem z201 : ¬ (12 : Int32) < 0 := by decide +kernel
theorem z202 : (12 : Int32).toNatClampNeg = 12 := by decide +kernel
theorem z203 : 12 * componentBytes .int ≤ 536870912 := by decide +kernel
theorem z204 : (Int8.ofInt 48).toInt32 = 48 := by decide +kernel
theorem z205 : ¬ (48 : Int32) < 0 := by decide +kernel
theorem z206 : (48 : Int32).toNatClampNeg = 48 := by decide +kernel
theorem z207 : 48 * componentBytes .int ≤ 536870912 := by decide +kernel
theorem z208 : (Int16.ofInt 384).toInt32 = 384 := by decide +kernel
theorem z209 : ¬ (384 : Int32) < 0 := by decide +kernel
theorem z210 : (384 : Int32).toNatClampNeg = 384 := by decide +kernel
theorem z211 : 384 * componentBytes .int ≤ 536870912 := by decide +kernel
theorem z212 : (Int16.ofInt 128).toInt32 = 128 := by decide +kernel
theorem z213 : ¬ (128 : Int32) < 0 := by decide +kernel
theorem z214 : (128 : Int32).toNatClampNeg = 128 := by decide +kernel
theorem z215 : 128 * componentBytes .boolean ≤ 536870912 := by decide +kernel
theorem z216 : 2 * componentBytes .boolean ≤ 536870912 := by decide +kernel
theorem z217 : 16 * componentBytes .long ≤ 536870912 := by decide +kernel
theorem z218 : 192 * componentBytes .long ≤ 536870912 := by decide +kernel
theorem z219 : (Int8.ofInt 56).toInt32 = 56 := by decide +kernel
theorem z220 : ¬ (56 : Int32) < 0 := by decide +kernel
theorem z221 : (56 : Int32).toNatClampNeg = 56 := by decide +kernel
theorem z222 : 56 * componentBytes .int ≤ 536870912 := by decide +kernel
theorem z223 : (Int16.ofInt 448).toInt32 = 448 := by decide +kernel
theorem z224 : ¬ (448 : Int32) < 0 := by decide +kernel
theorem z225 : (448 : Int32).toNatClampNeg = 448 := by decide +kernel
theorem z226 : 448 * componentBytes .long ≤ 536870912 := by decide +kernel
theorem z227 : (Int8.ofInt 7).toInt32 = 7 := by decide +kernel
theorem z228 : ¬ (7 : Int32) < 0 := by decide +kernel
theorem z229 : (7 : Int32).toNatClampNeg = 7 := by decide +kernel
theorem z230 : 7 * componentBytes .long ≤ 536870912 := by decide +kernel
theorem z231 : (Int16.ofInt 3001).toInt32 = 3001 := by decide +kernel
theorem z232 : ¬ (3001 : Int32) < 0 := by decide +kernel
theorem z233 : (3001 : Int32).toNatClampNeg = 3001 := by decide +kernel
theorem z234 : 3001 * componentBytes .int ≤ 536870912 := by decide +kernel
theorem z235 : (Int16.ofInt 9003).toInt32 = 9003 := by decide +kernel
theorem z236 : ¬ (9003 : Int32) < 0 := by decide +kernel
theorem z237 : (9003 : Int32).toNatClampNeg = 9003 := by decide +kernel
theorem z238 : 9003 * componentBytes .int ≤ 536870912 := by decide +kernel
theorem z239 : 7 * componentBytes .int ≤ 536870912 := by decide +kernel
theorem z240 : 8 * componentBytes .int ≤ 536870912 := by decide +kernel
theorem z241 : ¬ (3 : Int32) < 0 := by decide +kernel
theorem z242 : (3 : Int32).toNatClampNeg = 3 := by decide +kernel
theorem z243 : 3 * componentBytes .int ≤ 536870912 := by decide +kernel
theorem z244 : (Int8.ofInt 18).toInt32 = 18 := by decide +kernel
theorem z245 : ¬ (18 : Int32) < 0 := by decide +kernel
theorem z246 : (18 : Int32).toNatClampNeg = 18 := by decide +kernel
theorem z247 : 18 * componentBytes .int ≤ 536870912 := by decide +kernel
theorem z248 : ixp 0 0 2 := ⟨vin _ _ (by decide +kernel), by decide +kernel⟩
theorem z249 : vp_nar .boolean 0 = 0 := by decide +kernel
theorem z250 : (64 : Int32) * 0 = 0 := by decide +kernel
theorem z251 : (0 : Int32) + 64 = 64 := by decide +kernel
theorem z252 : ((89 : Nat) : Int) + 16 = ((105 : Nat) : Int) := by decide +kernel
theorem z253 : ((102 : Nat) : Int) + (-24) = ((78 : Nat) : Int) := by decide +kernel
theorem z254 : (64 : Int32) ≤ 64 := by decide +kernel
theorem z255 : ((20 : Nat) : Int) + 20 = ((40 : Nat) : Int) := by decide +kernel
theorem z256 : ((9 : Nat) : Int) + 9 = ((18 : Nat) : Int) := by decide +kernel
theorem z257 : ¬ (3 : Int32) = 0 := by decide +kernel
theorem z258 : (0 : Int32) - 0 / 3 * 3 = 0 := by decide +kernel
theorem z259 : ((15 : Nat) : Int) + 27 = ((42 : Nat) : Int) := by decide +kernel
theorem z260 : ((37 : Nat) : Int) + (-20) = ((17 : Nat) : Int) := by decide +kernel
theorem z261 : (1 : Int32) - 1 / 3 * 3 = 1 := by decide +kernel
theorem z262 : (2 : Int32) - 2 / 3 * 3 = 2 := by decide +kernel
theorem z263 : (3 : Int32) - 3 / 3 * 3 = 0 := by decide +kernel
theorem z264 : (4 : Int32) - 4 / 3 * 3 = 1 := by decide +kernel
theorem z265 : (5 : Int32) - 5 / 3 * 3 = 2 := by decide +kernel
theorem z266 : yX11_toldTurn.cls ≠ "java/lang/invoke/MethodHandle" ∧ yX11_toldTurn.cls ≠ "java/lang/invoke/VarHandle" ∧ (parseMethodDescriptor yX11_toldTurn.desc).map (fun d => d.parameters.length) = some 1 := by decide +kernel
theorem z267 : ¬ (3 : Int32) ≤ 0 := by decide +kernel
theorem z268 : ((422 : Nat) : Int) + 16 = ((438 : Nat) : Int) := by decide +kernel
theorem z269 : ((435 : Nat) : Int) + (-15) = ((420 : Nat) : Int) := by decide +kernel
theorem z270 : ¬ (3 : Int32) ≤ 1 := by decide +kernel
theorem z271 : ¬ (3 : Int32) ≤ 2 := by decide +kernel
theorem z272 : (3 : Int32) ≤ 3 := by decide +kernel
theorem z273 : yX2_init.cls ≠ "java/lang/invoke/MethodHandle" ∧ yX2_init.cls ≠ "java/lang/invoke/VarHandle" ∧ (parseMethodDescriptor yX2_init.desc).map (fun d => d.parameters.length) = some 0 := by decide +kernel
theorem z274 : yX0_init.cls ≠ "java/lang/invoke/MethodHandle" ∧ yX0_init.cls ≠ "java/lang/invoke/VarHandle" ∧ (parseMethodDescriptor yX0_init.desc).map (fun d => d.parameters.length) = some 0 := by decide +kernel
theorem z275 : yX1_init.cls ≠ "java/lang/invoke/MethodHandle" ∧ yX1_init.cls ≠ "java/lang/invoke/VarHandle" ∧ (parseMethodDescriptor yX1_init.desc).map (fun d => d.parameters.length) = some 0 := by decide +kernel
theorem z276 : yX5_init.cls ≠ "java/lang/invoke/MethodHandle" ∧ yX5_init.cls ≠ "java/lang/invoke/VarHandle" ∧ (parseMethodDescriptor yX5_init.desc).map (fun d => d.parameters.length) = some 0 := by decide +kernel
theorem z277 : yX7_init.cls ≠ "java/lang/invoke/MethodHandle" ∧ yX7_init.cls ≠ "java/lang/invoke/VarHandle" ∧ (parseMethodDescriptor yX7_init.desc).map (fun d => d.parameters.length) = some 0 := by decide +kernel
theorem z278 : yX3_init.cls ≠ "java/lang/invoke/MethodHandle" ∧ yX3_init.cls ≠ "java/lang/invoke/VarHandle" ∧ (parseMethodDescriptor yX3_init.desc).map (fun d => d.parameters.length) = some 0 := by decide +kernel
theorem z279 : yX9_init.cls ≠ "java/lang/invoke/MethodHandle" ∧ yX9_init.cls ≠ "java/lang/invoke/VarHandle" ∧ (parseMethodDescriptor yX9_init.desc).map (fun d => d.parameters.length) = some 0 := by decide +kernel
theorem z280 : yX6_init.cls ≠ "java/lang/invoke/MethodHandle" ∧ yX6_init.cls ≠ "java/lang/invoke/VarHandle" ∧ (parseMethodDescriptor yX6_init.desc).map (fun d => d.parameters.length) = some 0 := by decide +kernel
theorem z281 : yX11_clearBank.cls ≠ "java/lang/invoke/MethodHandle" ∧ yX11_clearBank.cls ≠ "java/lang/invoke/VarHandle" ∧ (parseMethodDescriptor yX11_clearBank.desc).map (fun d => d.parameters.length) = some 0 := by decide +kernel
theorem z282 : yX11_begin.cls ≠ "java/lang/invoke/MethodHandle" ∧ yX11_begin.cls ≠ "java/lang/invoke/VarHandle" ∧ (parseMethodDescriptor yX11_begin.desc).map (fun d => d.parameters.length) = some 0 := by decide +kernel
theorem z283 : yX10_init.cls ≠ "java/lang/invoke/MethodHandle" ∧ yX10_init.cls ≠ "java/lang/invoke/VarHandle" ∧ (parseMethodDescriptor yX10_init.desc).map (fun d => d.parameters.length) = some 0 := by decide +kernel
theorem z284 : yX11_init.cls ≠ "java/lang/invoke/MethodHandle" ∧ yX11_init.cls ≠ "java/lang/invoke/VarHandle" ∧ (parseMethodDescriptor yX11_init.desc).map (fun d => d.parameters.length) = some 0 := by decide +kernel
