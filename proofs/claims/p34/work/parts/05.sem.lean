/-! The pure machine: a heap of numbers, steps, the least fixed point of runs, contracts by depth. -/
abbrev pm_Hp : Type := Nat → Nat → Int
abbrev pm_Lv : Type := List (Nat × Value)
abbrev pm_Q : Type := Option Value → pm_Hp → Prop
abbrev pm_C : Type := Nat → List Value → pm_Hp → pm_Q → Prop
abbrev pm_X : Type := Nat → pm_Lv → List Value → pm_Hp → Prop
abbrev pm_Nx : Type := Nat × pm_Lv × List Value × pm_Hp
def pm_up (h : pm_Hp) (c j : Nat) (v : Int) : pm_Hp := fun c' j' => if c' = c ∧ j' = j then v else h c' j'
def pm_cp (h : pm_Hp) (s d sp dp n : Nat) : pm_Hp := fun c j => if c = d ∧ dp ≤ j ∧ j < dp + n then h s (sp + (j - dp)) else h c j
def pm_lg (lv : pm_Lv) (i : Nat) : Option Value := (lv.find? (fun q => q.1 == i)).map (fun q => q.2)
def pm_l1 (lv : pm_Lv) (i : Nat) (v : Value) : pm_Lv := (i, v) :: lv.filter (fun q => !(q.1 == i) && !(q.1 + 1 == i && q.2.category == 2))
def pm_l2 (lv : pm_Lv) (i : Nat) (v : Value) : pm_Lv := (i, v) :: lv.filter (fun q => !(q.1 == i) && (!(q.1 == i + 1) && !(q.1 + 1 == i && q.2.category == 2)))
def pm_ins (k pc : Nat) : Option pm_Ins := ((pm_I[k]?).bind (fun l => l.find? (fun q => q.1 == pc))).map (fun q => q.2)
def pm_bop (b : Nat) (x y : Int32) : Option Int32 := match b with
  | 0 => some (x + y)
  | 1 => some (x - y)
  | 2 => some (x * y)
  | 3 => some (x &&& y)
  | 4 => some (x ||| y)
  | 5 => some (x ^^^ y)
  | 6 => some (x <<< (y &&& 31))
  | 7 => some (x >>> (y &&& 31))
  | 8 => if y = 0 then none else some (x - x / y * y)
  | 9 => if y = 0 then none else some (x / y)
  | _ => none
def pm_lop (b : Nat) (x y : Int64) : Option Int64 := match b with
  | 0 => some (x + y)
  | 1 => some (x * y)
  | 2 => some (x &&& y)
  | 3 => some (x ||| y)
  | _ => none
def pm_sop (b : Nat) (x : Int64) (y : Int32) : Option Int64 := match b with
  | 0 => some (x <<< (y.toInt64 &&& 63))
  | 1 => some (x >>> (y.toInt64 &&& 63))
  | _ => none
def pm_cnd (b : Nat) (x y : Int32) : Option Bool := match b with
  | 0 => some (decide (x = y))
  | 1 => some (decide (¬ x = y))
  | 2 => some (decide (x < y))
  | 3 => some (decide (y ≤ x))
  | 4 => some (decide (y < x))
  | 5 => some (decide (x ≤ y))
  | _ => none
def pm_sI {α : Type} (st : List Value) (k : Int32 → List Value → Option α) : Option α := match st with
  | .int x :: r => k x r
  | _ => none
def pm_sL {α : Type} (st : List Value) (k : Int64 → List Value → Option α) : Option α := match st with
  | .long x :: r => k x r
  | _ => none
def pm_sR {α : Type} (st : List Value) (k : Nat → List Value → Option α) : Option α := match st with
  | .ref x :: r => k x r
  | _ => none
def pm_s1 {α : Type} (st : List Value) (k : Value → List Value → Option α) : Option α := match st with
  | v :: r => if v.category = 1 then k v r else none
  | _ => none
def pm_gI {α : Type} (v : Option Value) (k : Int32 → Option α) : Option α := match v with
  | some (.int x) => k x
  | _ => none
def pm_gL {α : Type} (v : Option Value) (k : Int64 → Option α) : Option α := match v with
  | some (.long x) => k x
  | _ => none
def pm_gR {α : Type} (v : Option Value) (k : Nat → Option α) : Option α := match v with
  | some (.ref x) => k x
  | _ => none
/-- the kind of a field of a cell of a class: 0 int, 1 long, 2 reference, 4 boolean -/
def pm_fk (q ci a : Nat) : Option Nat := match pm_S[q]? with
  | some (0, c, ks) => if c = ci then ks[a]? else none
  | _ => none
/-- an array cell: its kind (1 int, 2 byte, 3 boolean, 4 long, 5 reference, 6 the constant row) and its length -/
def pm_ak (q : Nat) : Option (Nat × Nat) := match pm_S[q]? with
  | some (g, n, _) => if g = 0 then none else some (g, n)
  | none => none
def pm_ix {α : Type} (i : Int32) (n : Nat) (k : Nat → Option α) : Option α := if 0 ≤ i.toInt ∧ i.toInt < (n : Int) then k i.toNatClampNeg else none
def pm_cat (st : List Value) : Nat := (st.map fun v => v.category).sum
def pm_go (pc : Nat) (off : Int) : Option Nat := if 0 ≤ (pc : Int) + off then some ((pc : Int) + off).toNat else none
def pm_sw (a pc : Nat) (x : Int32) : Option Nat := match pm_SW[a]? with
  | some (d, lo, hi, offs, _) => if x.toInt < lo ∨ hi < x.toInt then pm_go pc d else (offs[(x.toInt - lo).toNat]?).bind (pm_go pc)
  | none => none
def pm_stp (i : pm_Ins) (pc : Nat) (lv : pm_Lv) (st : List Value) (h : pm_Hp) : Option pm_Nx := match i with
  | (f, _, len, z, a, b, _) => match f with
    | 0 => some (pc + len, lv, .int (Int32.ofInt z) :: st, h)
    | 1 => some (pc + len, lv, .long (Int64.ofInt z) :: st, h)
    | 2 => pm_gI (pm_lg lv a) fun x => some (pc + len, lv, .int x :: st, h)
    | 3 => pm_gL (pm_lg lv a) fun x => some (pc + len, lv, .long x :: st, h)
    | 4 => pm_gR (pm_lg lv a) fun x => some (pc + len, lv, .ref x :: st, h)
    | 5 => pm_sI st fun x t => some (pc + len, pm_l1 lv a (.int x), t, h)
    | 6 => pm_sL st fun x t => some (pc + len, pm_l2 lv a (.long x), t, h)
    | 7 => pm_sR st fun x t => some (pc + len, pm_l1 lv a (.ref x), t, h)
    | 8 => pm_gI (pm_lg lv a) fun x => some (pc + len, pm_l1 lv a (.int (x + Int32.ofInt z)), st, h)
    | 9 => pm_sI st fun y t => pm_sI t fun x u => (pm_bop b x y).bind fun v => some (pc + len, lv, .int v :: u, h)
    | 10 => pm_sI st fun x t => some (pc + len, lv, .int (-x) :: t, h)
    | 11 => pm_sL st fun y t => pm_sL t fun x u => (pm_lop b x y).bind fun v => some (pc + len, lv, .long v :: u, h)
    | 12 => pm_sI st fun y t => pm_sL t fun x u => (pm_sop b x y).bind fun v => some (pc + len, lv, .long v :: u, h)
    | 13 => pm_sL st fun y t => pm_sL t fun x u => some (pc + len, lv, .int (lg_cmp x y) :: u, h)
    | 14 => pm_sI st fun x t => some (pc + len, lv, .long x.toInt64 :: t, h)
    | 15 => pm_sL st fun x t => some (pc + len, lv, .int x.toInt32 :: t, h)
    | 16 => pm_sI st fun x t => some (pc + len, lv, .int x.toInt8.toInt32 :: t, h)
    | 17 => pm_s1 st fun v t => some (pc + len, lv, v :: v :: t, h)
    | 18 => pm_s1 st fun _ t => some (pc + len, lv, t, h)
    | 19 => pm_s1 st fun v t => pm_s1 t fun w u => some (pc + len, lv, v :: w :: v :: w :: u, h)
    | 20 => some (a, lv, st, h)
    | 21 => pm_sI st fun x t => (pm_cnd b x 0).bind fun q => some (if q = true then a else pc + len, lv, t, h)
    | 22 => pm_sI st fun y t => pm_sI t fun x u => (pm_cnd b x y).bind fun q => some (if q = true then a else pc + len, lv, u, h)
    | 23 => pm_sI st fun x t => (pm_sw a pc x).bind fun g => some (g, lv, t, h)
    | 24 => pm_sR st fun q t => if pm_fk q b a = some 0 ∨ pm_fk q b a = some 4 then some (pc + len, lv, .int (Int32.ofInt (h q a)) :: t, h) else none
    | 25 => pm_sR st fun q t => if pm_fk q b a = some 1 then some (pc + len, lv, .long (Int64.ofInt (h q a)) :: t, h) else none
    | 26 => pm_sR st fun q t => if pm_fk q b a = some 2 then some (pc + len, lv, .ref (h q a).toNat :: t, h) else none
    | 27 => pm_sI st fun x t => pm_sR t fun q u => if pm_fk q b a = some 0 ∨ (pm_fk q b a = some 4 ∧ (x = 0 ∨ x = 1)) then some (pc + len, lv, u, pm_up h q a x.toInt) else none
    | 28 => pm_sL st fun x t => pm_sR t fun q u => if pm_fk q b a = some 1 then some (pc + len, lv, u, pm_up h q a x.toInt) else none
    | 29 => pm_sR st fun x t => pm_sR t fun q u => if pm_fk q b a = some 2 then some (pc + len, lv, u, pm_up h q a (x : Int)) else none
    | 30 => some (pc + len, lv, .ref 135 :: st, h)
    | 31 => pm_sR st fun q t => (pm_ak q).bind fun g => if g.1 < 5 then some (pc + len, lv, .int (Int32.ofNat g.2) :: t, h) else none
    | 32 => pm_sI st fun i t => pm_sR t fun q u => (pm_ak q).bind fun g => if g.1 = 1 then pm_ix i g.2 fun j => some (pc + len, lv, .int (Int32.ofInt (h q j)) :: u, h) else if g.1 = 6 then pm_ix i 18 fun j => some (pc + len, lv, .int (Int32.ofInt (pm_O.getD j 0)) :: u, h) else none
    | 33 => pm_sI st fun i t => pm_sR t fun q u => (pm_ak q).bind fun g => if g.1 = 2 ∨ g.1 = 3 then pm_ix i g.2 fun j => some (pc + len, lv, .int (Int32.ofInt (h q j)) :: u, h) else none
    | 34 => pm_sI st fun i t => pm_sR t fun q u => (pm_ak q).bind fun g => if g.1 = 4 then pm_ix i g.2 fun j => some (pc + len, lv, .long (Int64.ofInt (h q j)) :: u, h) else none
    | 35 => pm_sI st fun i t => pm_sR t fun q u => (pm_ak q).bind fun g => if g.1 = 5 then pm_ix i g.2 fun j => some (pc + len, lv, .ref (h q j).toNat :: u, h) else none
    | 36 => pm_sI st fun x t => pm_sI t fun i u => pm_sR u fun q w => (pm_ak q).bind fun g => if g.1 = 1 then pm_ix i g.2 fun j => some (pc + len, lv, w, pm_up h q j x.toInt) else none
    | 37 => pm_sI st fun x t => pm_sI t fun i u => pm_sR u fun q w => (pm_ak q).bind fun g => if (g.1 = 2 ∧ -128 ≤ x.toInt ∧ x.toInt ≤ 127) ∨ (g.1 = 3 ∧ (x = 0 ∨ x = 1)) then pm_ix i g.2 fun j => some (pc + len, lv, w, pm_up h q j x.toInt) else none
    | 38 => pm_sL st fun x t => pm_sI t fun i u => pm_sR u fun q w => (pm_ak q).bind fun g => if g.1 = 4 then pm_ix i g.2 fun j => some (pc + len, lv, w, pm_up h q j x.toInt) else none
    | 45 => pm_sI st fun n t => pm_sI t fun dp u => pm_sR u fun d v => pm_sI v fun sp w => pm_sR w fun s r => (pm_ak s).bind fun gs => (pm_ak d).bind fun gd =>
        if (gs.1 = 1 ∨ gs.1 = 4) ∧ gd.1 = gs.1 ∧ 0 ≤ n.toInt ∧ 0 ≤ dp.toInt ∧ 0 ≤ sp.toInt ∧ sp.toNatClampNeg + n.toNatClampNeg ≤ gs.2 ∧ dp.toNatClampNeg + n.toNatClampNeg ≤ gd.2 ∧ pm_cat r ≤ 8
        then some (pc + len, lv, r, pm_cp h s d sp.toNatClampNeg dp.toNatClampNeg n.toNatClampNeg) else none
    | 46 => (match b with
      | 0 => pm_sI st fun y t => pm_sI t fun x u => if pm_cat u ≤ 8 then some (pc + len, lv, .int (if x < y then y else x) :: u, h) else none
      | 1 => pm_sI st fun y t => pm_sI t fun x u => if pm_cat u ≤ 8 then some (pc + len, lv, .int (if y < x then y else x) :: u, h) else none
      | _ => pm_sL st fun y t => pm_sL t fun x u => if pm_cat u ≤ 8 then some (pc + len, lv, .long (if y < x then y else x) :: u, h) else none)
    | _ => none
/-- a return -/
def pm_ret (f r : Nat) (Q : pm_Q) (st : List Value) (h : pm_Hp) : Prop := match f with
  | 39 => ∃ x : Int32, st = [.int x] ∧ (r = 1 → x = 0 ∨ x = 1) ∧ Q (some (.int x)) h
  | 40 => ∃ x : Int64, st = [.long x] ∧ Q (some (.long x)) h
  | 41 => ∃ q : Nat, st = [.ref q] ∧ Q (some (.ref q)) h
  | 42 => st = [] ∧ Q none h
  | _ => False
/-- a call: of an object's method, of a class's -/
def pm_cv (C : pm_C) (X : pm_X) (a len pc : Nat) (lv : pm_Lv) (st : List Value) (h : pm_Hp) : Prop :=
  ∃ (me : pm_Me) (q : Nat) (As rest : List Value) (ks : List Nat), pm_M[a]? = some me ∧ As.length = me.2.2.2.2.1 ∧ st = As.reverse ++ .ref q :: rest ∧ pm_S[q]? = some (0, me.2.2.2.2.2.1, ks) ∧ pm_cat rest ≤ 8 ∧ C a (.ref q :: As) h (fun r h' => X (pc + len) lv (r.toList ++ rest) h')
def pm_cs (C : pm_C) (X : pm_X) (a len pc : Nat) (lv : pm_Lv) (st : List Value) (h : pm_Hp) : Prop :=
  ∃ (me : pm_Me) (As rest : List Value), pm_M[a]? = some me ∧ As.length = me.2.2.2.2.1 ∧ st = As.reverse ++ rest ∧ pm_cat rest ≤ 8 ∧ C a As h (fun r h' => X (pc + len) lv (r.toList ++ rest) h')
def pm_Fi (C : pm_C) (Q : pm_Q) (X : pm_X) (i : pm_Ins) (pc : Nat) (lv : pm_Lv) (st : List Value) (h : pm_Hp) : Prop :=
  if i.1 = 43 then pm_cv C X i.2.2.2.2.1 i.2.2.1 pc lv st h
  else if i.1 = 44 then pm_cs C X i.2.2.2.2.1 i.2.2.1 pc lv st h
  else if 39 ≤ i.1 ∧ i.1 ≤ 42 then pm_ret i.1 i.2.1 Q st h
  else ∃ nx : pm_Nx, pm_stp i pc lv st h = some nx ∧ X nx.1 nx.2.1 nx.2.2.1 nx.2.2.2
def pm_Fs (C : pm_C) (k : Nat) (Q : pm_Q) (X : pm_X) (pc : Nat) (lv : pm_Lv) (st : List Value) (h : pm_Hp) : Prop := ∃ i : pm_Ins, pm_ins k pc = some i ∧ pm_Fi C Q X i pc lv st h
/-- a run: the least predicate that is closed under the steps -/
def pm_run (C : pm_C) (k : Nat) (Q : pm_Q) (pc : Nat) (lv : pm_Lv) (st : List Value) (h : pm_Hp) : Prop :=
  ∀ X : pm_X, (∀ pc lv st h, pm_Fs C k Q X pc lv st h → X pc lv st h) → X pc lv st h
def pm_mono (C : pm_C) : Prop := ∀ (k : Nat) (as : List Value) (h : pm_Hp) (Q Q' : pm_Q), (∀ r h, Q r h → Q' r h) → C k as h Q → C k as h Q'
theorem pm_ret_mono {f r : Nat} {Q Q' : pm_Q} {st : List Value} {h : pm_Hp} (hQ : ∀ r h, Q r h → Q' r h) (H : pm_ret f r Q st h) : pm_ret f r Q' st h := by
  unfold pm_ret at H ⊢
  split at H
  · obtain ⟨x, h1, h2, h3⟩ := H; exact ⟨x, h1, h2, hQ _ _ h3⟩
  · obtain ⟨x, h1, h3⟩ := H; exact ⟨x, h1, hQ _ _ h3⟩
  · obtain ⟨x, h1, h3⟩ := H; exact ⟨x, h1, hQ _ _ h3⟩
  · exact ⟨H.1, hQ _ _ H.2⟩
  · exact H
theorem pm_Fi_mono {C : pm_C} (hC : pm_mono C) {Q Q' : pm_Q} {X Y : pm_X} (hQ : ∀ r h, Q r h → Q' r h) (hX : ∀ pc lv st h, X pc lv st h → Y pc lv st h) {i : pm_Ins} {pc : Nat} {lv : pm_Lv} {st : List Value} {h : pm_Hp} (H : pm_Fi C Q X i pc lv st h) : pm_Fi C Q' Y i pc lv st h := by
  unfold pm_Fi at H ⊢
  by_cases c1 : i.1 = 43
  · rw [if_pos c1] at H ⊢
    obtain ⟨me, q, As, rest, ks, h1, h2, h3, h4, h5, h6⟩ := H
    exact ⟨me, q, As, rest, ks, h1, h2, h3, h4, h5, hC _ _ _ _ _ (fun r h' => hX _ _ _ _) h6⟩
  · rw [if_neg c1] at H ⊢
    by_cases c2 : i.1 = 44
    · rw [if_pos c2] at H ⊢
      obtain ⟨me, As, rest, h1, h2, h3, h4, h5⟩ := H
      exact ⟨me, As, rest, h1, h2, h3, h4, hC _ _ _ _ _ (fun r h' => hX _ _ _ _) h5⟩
    · rw [if_neg c2] at H ⊢
      by_cases c3 : 39 ≤ i.1 ∧ i.1 ≤ 42
      · rw [if_pos c3] at H ⊢
        exact pm_ret_mono hQ H
      · rw [if_neg c3] at H ⊢
        obtain ⟨nx, h1, h2⟩ := H
        exact ⟨nx, h1, hX _ _ _ _ h2⟩
theorem pm_Fs_mono {C : pm_C} (hC : pm_mono C) {k : Nat} {Q Q' : pm_Q} {X Y : pm_X} (hQ : ∀ r h, Q r h → Q' r h) (hX : ∀ pc lv st h, X pc lv st h → Y pc lv st h) {pc : Nat} {lv : pm_Lv} {st : List Value} {h : pm_Hp} (H : pm_Fs C k Q X pc lv st h) : pm_Fs C k Q' Y pc lv st h := by
  obtain ⟨i, h1, h2⟩ := H
  exact ⟨i, h1, pm_Fi_mono hC hQ hX h2⟩
theorem pm_run_mono {C : pm_C} (hC : pm_mono C) {k : Nat} {Q Q' : pm_Q} (hQ : ∀ r h, Q r h → Q' r h) {pc : Nat} {lv : pm_Lv} {st : List Value} {h : pm_Hp} (H : pm_run C k Q pc lv st h) : pm_run C k Q' pc lv st h := by
  intro X hX
  exact H X (fun pc lv st h hF => hX pc lv st h (pm_Fs_mono hC hQ (fun _ _ _ _ q => q) hF))
theorem pm_fold {C : pm_C} (hC : pm_mono C) {k : Nat} {Q : pm_Q} {pc : Nat} {lv : pm_Lv} {st : List Value} {h : pm_Hp} (H : pm_Fs C k Q (pm_run C k Q) pc lv st h) : pm_run C k Q pc lv st h := by
  intro X hX
  exact hX pc lv st h (pm_Fs_mono hC (fun _ _ q => q) (fun pc lv st h q => q X hX) H)
def pm_Cd : Nat → pm_C
  | 0 => fun _ _ _ _ => False
  | d + 1 => fun k as h Q => (∃ me : pm_Me, pm_M[k]? = some me ∧ (lg_sl as).length ≤ me.2.2.1) ∧ pm_run (pm_Cd d) k Q 0 (lv_args 0 as) [] h
theorem pm_Cd_mono : ∀ d : Nat, pm_mono (pm_Cd d)
  | 0 => fun _ _ _ _ _ _ H => H
  | d + 1 => fun _ _ _ _ _ hQ H => ⟨H.1, pm_run_mono (pm_Cd_mono d) hQ H.2⟩
