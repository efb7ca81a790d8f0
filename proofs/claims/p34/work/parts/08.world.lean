/-! The world of cells that a heap of numbers spells, and what holds of a method's frame. -/
def pm_vr (ad : Nat → Nat) (v : Value) : Value := match v with
  | .ref q => .ref (ad q)
  | .int x => .int x
  | .long x => .long x
  | .float x => .float x
  | .double x => .double x
  | .null => .null
  | .retAddr x => .retAddr x
def pm_lr (ad : Nat → Nat) (lv : pm_Lv) : pm_Lv := lv.map (fun q => (q.1, pm_vr ad q.2))
theorem pm_vr_cat (ad : Nat → Nat) (v : Value) : (pm_vr ad v).category = v.category := by cases v <;> rfl
def pm_vK (ad : Nat → Nat) (k : Nat) (z : Int) : Value := match k with
  | 1 => .long (Int64.ofInt z)
  | 2 => .ref (ad z.toNat)
  | _ => .int (Int32.ofInt z)
def pm_mF (ad : Nat → Nat) (f : Nat → Int) : Nat → List Nat → List Value
  | _, [] => []
  | j, k :: ks => pm_vK ad k (f j) :: pm_mF ad f (j + 1) ks
theorem pm_mF_get (ad : Nat → Nat) (f : Nat → Int) : ∀ (ks : List Nat) (j i : Nat), (pm_mF ad f j ks)[i]? = (ks[i]?).map (fun k => pm_vK ad k (f (j + i)))
  | [], _, _ => by simp [pm_mF]
  | k :: ks, j, 0 => by simp [pm_mF]
  | k :: ks, j, i + 1 => by
    simp only [pm_mF, List.getElem?_cons_succ]
    rw [pm_mF_get ad f ks (j + 1) i, show j + 1 + i = j + (i + 1) by omega]
theorem pm_mF_len (ad : Nat → Nat) (f : Nat → Int) : ∀ (ks : List Nat) (j : Nat), (pm_mF ad f j ks).length = ks.length
  | [], _ => rfl
  | k :: ks, j => by simp only [pm_mF, List.length_cons]; rw [pm_mF_len ad f ks (j + 1)]
/-- the five classes of arrays -/
abbrev pm_cK : Type := ClassId × ClassId × ClassId × ClassId × ClassId
abbrev pm_ty (k : pm_cK) : List (ClassId × FieldType) := [(k.1, .byte), (k.2.1, .int), (k.2.2.1, .long), (k.2.2.2.1, .boolean), (k.2.2.2.2, .object "GuildCharter$Image")]
def pm_cE (k : pm_cK) (ad : Nat → Nat) (f : Nat → Int) (sh : pm_Sh) : va_E := match sh.1 with
  | 0 => .inr (sh.2.1, pm_mF ad f 0 sh.2.2)
  | 1 => .inl (k.2.1, sh.2.1, .inl (fun j => Int32.ofInt (f j)))
  | 2 => .inl (k.1, sh.2.1, .inl (fun j => Int32.ofInt (f j)))
  | 3 => .inl (k.2.2.2.1, sh.2.1, .inl (fun j => Int32.ofInt (f j)))
  | 4 => .inl (k.2.2.1, sh.2.1, .inr (.inl (fun j => Int64.ofInt (f j))))
  | _ => .inl (k.2.2.2.2, sh.2.1, .inr (.inr (.inr (.inr (fun j => some (ad (f j).toNat))))))
def pm_Wl (k : pm_cK) (ad : Nat → Nat) (h : pm_Hp) : Nat → List pm_Sh → va_W
  | _, [] => []
  | q, s :: ss => (ad q, pm_cE k ad (h q) s) :: pm_Wl k ad h (q + 1) ss
theorem pm_Wl_get (k : pm_cK) (ad : Nat → Nat) (h : pm_Hp) : ∀ (ss : List pm_Sh) (q i : Nat), (pm_Wl k ad h q ss)[i]? = (ss[i]?).map (fun s => (ad (q + i), pm_cE k ad (h (q + i)) s))
  | [], _, _ => by simp [pm_Wl]
  | s :: ss, q, 0 => by simp [pm_Wl]
  | s :: ss, q, i + 1 => by
    simp only [pm_Wl, List.getElem?_cons_succ]
    rw [pm_Wl_get k ad h ss (q + 1) i, show q + 1 + i = q + (i + 1) by omega]
abbrev pm_Sw : List pm_Sh := pm_S.take 135
/-- the world -/
def pm_Wd (k : pm_cK) (ad : Nat → Nat) (h : pm_Hp) : va_W := pm_Wl k ad h 0 pm_Sw
theorem pm_S_len : pm_S.length = 136 := by decide +kernel
theorem pm_S_last : pm_S[135]? = some (6, 18, []) := by decide +kernel
theorem pm_S_in {q : Nat} {s : pm_Sh} (h : pm_S[q]? = some s) (h6 : s.1 ≠ 6) : pm_Sw[q]? = some s := by
  have hl : q < 136 := by
    have := (List.getElem?_eq_some_iff.mp h).1
    rw [pm_S_len] at this; exact this
  have hq : q < 135 := by
    rcases Nat.lt_or_ge q 135 with a | a
    · exact a
    · have : q = 135 := by omega
      subst this
      rw [pm_S_last] at h
      cases h
      exact absurd rfl h6
  rw [List.getElem?_take_of_lt hq]; exact h
theorem pm_S_6 {q g n : Nat} {x : List Nat} (h : pm_S[q]? = some (g, n, x)) (h6 : g = 6) : q = 135 := by
  subst h6
  have hl : q < 136 := by
    have := (List.getElem?_eq_some_iff.mp h).1
    rw [pm_S_len] at this; exact this
  have hf : ∀ j : Nat, j < 135 → (pm_S[j]?).all (fun s => s.1 != 6) = true := by decide +kernel
  rcases Nat.lt_or_ge q 135 with a | a
  · have := hf q a
    rw [h] at this
    simp at this
  · omega
theorem pm_Wd_at (k : pm_cK) (ad : Nat → Nat) (h : pm_Hp) {q : Nat} {s : pm_Sh} (hs : pm_S[q]? = some s) (h6 : s.1 ≠ 6) : (pm_Wd k ad h)[q]? = some (ad q, pm_cE k ad (h q) s) := by
  unfold pm_Wd
  rw [pm_Wl_get, pm_S_in hs h6, Nat.zero_add]
  rfl
theorem pm_Wd_set (k : pm_cK) (ad : Nat → Nat) {h h' : pm_Hp} {q : Nat} {s : pm_Sh} {x : Nat × va_E} (hs : pm_S[q]? = some s) (h6 : s.1 ≠ 6) (hx : x = (ad q, pm_cE k ad (h' q) s)) (ho : ∀ c, c ≠ q → h' c = h c) : (pm_Wd k ad h).set q x = pm_Wd k ad h' := by
  apply List.ext_getElem?
  intro i
  rw [List.getElem?_set]
  by_cases hi : q = i
  · subst hi
    have hlt : q < (pm_Wd k ad h).length := (List.getElem?_eq_some_iff.mp (pm_Wd_at k ad h hs h6)).1
    rw [if_pos rfl, if_pos hlt, pm_Wd_at k ad h' hs h6, hx]
  · rw [if_neg hi]
    unfold pm_Wd
    rw [pm_Wl_get, pm_Wl_get, Nat.zero_add, ho i (fun e => hi e.symm)]
/-- the words that every method carries -/
def pm_G : List Cond := lw_tbl.filter goodWord
theorem pm_inG {w : Cond} (h : w ∈ lw_tbl) (hg : goodWord w = true) : w ∈ pm_G := List.mem_filter.mpr ⟨h, hg⟩
/-- the constant row, and the two links within the nest -/
def pm_E (ad : Nat → Nat) (A : Nat → Prop) (U : State) (H : Heap) : Prop :=
  va_Z "GuildCharter" "ORDER_GUILDS" "[I" (.ref (ad 135)) A U H ∧ va_T .int (ad 135) 18 (fun j => .int (Int32.ofInt (pm_O.getD j 0))) A U H ∧ va_Nw (.fieldLinkNest RX3 29 RX9 "length" "I" "GuildCharter") U ∧ va_Nw (.fieldLinkNest RX3 34 RX10 "ORDER_GUILDS" "[I" "GuildCharter") U
theorem pm_E_at {ad : Nat → Nat} {A B : Nat → Prop} {s U : State} {H : Heap} {locs : List Loc} (h : pm_E ad A s s.heap) (hS : va_S A s.heap H locs) (hAB : ∀ q, B q → A q) (hU : U.heap = H) (hW : s.WarmedH U.vm) : pm_E ad B U U.heap := by
  subst hU
  obtain ⟨h1, h2, h3, h4⟩ := h
  exact ⟨((h1.moved hW.alike).kept hS.2.1).narrow hAB, ((h2.moved hW.alike).kept hS.2.1).narrow hAB, h3.warmF hW, h4.warmF hW⟩
theorem pm_E_same {ad : Nat → Nat} {A : Nat → Prop} {u U : State} (hv : U.vm = u.vm) (hh : U.heap = u.heap) (h : pm_E ad A u u.heap) : pm_E ad A U U.heap := by
  obtain ⟨h1, h2, h3, h4⟩ := h
  have ha : u.vm.Alike U.vm := by rw [hv]; exact Vm.Alike.refl u.vm
  rw [hh]
  exact ⟨h1.moved ha, h2.moved ha, h3.same rfl hv.symm, h4.same rfl hv.symm⟩
/-- a method's frame: the machine, its code, its class, the words, the tables, the constant row, the room -/
def pm_Gx (p : Program) (s : State) (m : MethodId) (args : Array Value) (c : Code) (R : Room) (D : va_G) (k : pm_cK) (ad : Nat → Nat) (A : Nat → Prop) (me : pm_Me) : Prop :=
  (p.tables.exec = Jvm.exec ∧ c.code = me.2.1 ∧ c.maxLocals = me.2.2.1 ∧ s.vm.findClass (pm_R me.2.2.2.2.2.1) = some m.cls ∧ ∀ w ∈ pm_G, w.before args s = true) ∧ va_K D vwCl (pm_ty k) s ∧ pm_E ad A s s.heap ∧ (∀ q, s.heap.size ≤ q → A q) ∧ 1 ≤ R.frames ∧ 60 ≤ R.locals
def pm_Wo (D : va_G) (k : pm_cK) (ad : Nat → Nat) (A : Nat → Prop) (s : State) (h : pm_Hp) (H : Heap) (locs : List Loc) : Prop := va_P D vwCl (pm_Wd k ad h) H ∧ va_D A (pm_Wd k ad h) ∧ va_S A s.heap H locs
/-- the goal at a place, as a predicate of the pure machine's states -/
def pm_Sx (p : Program) (l : Launch) (e : Env) (R : Room) (s : State) (m : MethodId) (args : Array Value) (below : List Frame) (meth : Method) (c : Code) (cells slots : Nat) (Q : State → Prop) (D : va_G) (k : pm_cK) (ad : Nat → Nat) (A : Nat → Prop) (nL : Nat) : pm_X :=
  fun pc lv st h => ∀ (H : Heap) (locs : List Loc) (ls : Array Slot), pm_Wo D k ad A s h H locs → lv_has ls nL (pm_lr ad lv) → W p l e R s m args below meth c H locs cells slots Q (F0 m pc ls (st.map (pm_vr ad)))
-- small things
theorem pm_sI_some {α : Type} {st : List Value} {k : Int32 → List Value → Option α} {r : α} (h : pm_sI st k = some r) : ∃ x t, st = .int x :: t ∧ k x t = some r := by
  unfold pm_sI at h
  split at h
  · exact ⟨_, _, rfl, h⟩
  · cases h
theorem pm_sL_some {α : Type} {st : List Value} {k : Int64 → List Value → Option α} {r : α} (h : pm_sL st k = some r) : ∃ x t, st = .long x :: t ∧ k x t = some r := by
  unfold pm_sL at h
  split at h
  · exact ⟨_, _, rfl, h⟩
  · cases h
theorem pm_sR_some {α : Type} {st : List Value} {k : Nat → List Value → Option α} {r : α} (h : pm_sR st k = some r) : ∃ x t, st = .ref x :: t ∧ k x t = some r := by
  unfold pm_sR at h
  split at h
  · exact ⟨_, _, rfl, h⟩
  · cases h
theorem pm_s1_some {α : Type} {st : List Value} {k : Value → List Value → Option α} {r : α} (h : pm_s1 st k = some r) : ∃ v t, st = v :: t ∧ v.category = 1 ∧ k v t = some r := by
  unfold pm_s1 at h
  split at h
  · split at h
    · exact ⟨_, _, rfl, by assumption, h⟩
    · cases h
  · cases h
theorem pm_gI_some {α : Type} {v : Option Value} {k : Int32 → Option α} {r : α} (h : pm_gI v k = some r) : ∃ x, v = some (.int x) ∧ k x = some r := by
  unfold pm_gI at h
  split at h
  · exact ⟨_, rfl, h⟩
  · cases h
theorem pm_gL_some {α : Type} {v : Option Value} {k : Int64 → Option α} {r : α} (h : pm_gL v k = some r) : ∃ x, v = some (.long x) ∧ k x = some r := by
  unfold pm_gL at h
  split at h
  · exact ⟨_, rfl, h⟩
  · cases h
theorem pm_gR_some {α : Type} {v : Option Value} {k : Nat → Option α} {r : α} (h : pm_gR v k = some r) : ∃ x, v = some (.ref x) ∧ k x = some r := by
  unfold pm_gR at h
  split at h
  · exact ⟨_, rfl, h⟩
  · cases h
theorem pm_ix_some {α : Type} {i : Int32} {n : Nat} {k : Nat → Option α} {r : α} (h : pm_ix i n k = some r) : vp_in i n ∧ k i.toNatClampNeg = some r := by
  unfold pm_ix at h
  split at h
  · exact ⟨vp_in_iff.mpr (by assumption), h⟩
  · cases h
theorem pm_lg_mem {lv : pm_Lv} {i : Nat} {v : Value} (h : pm_lg lv i = some v) : (i, v) ∈ lv := by
  unfold pm_lg at h
  cases hf : lv.find? (fun q => q.1 == i) with
  | none => rw [hf] at h; cases h
  | some q =>
    rw [hf] at h
    have h1 := List.find?_some hf
    have h2 := List.mem_of_find?_eq_some hf
    simp only [Option.map_some, Option.some.injEq] at h
    have : q = (i, v) := Prod.ext (by simpa using h1) h
    rw [← this]; exact h2
theorem pm_lr_at {ad : Nat → Nat} {lv : pm_Lv} {i : Nat} {v : Value} {ls : Array Slot} {nL : Nat} (hl : lv_has ls nL (pm_lr ad lv)) (h : pm_lg lv i = some v) : ls[i]? = some (.val (pm_vr ad v)) :=
  hl.2.2 (i, pm_vr ad v) (List.mem_map.mpr ⟨(i, v), pm_lg_mem h, rfl⟩)
theorem pm_lr_l1 (ad : Nat → Nat) (lv : pm_Lv) (i : Nat) (v : Value) : pm_lr ad (pm_l1 lv i v) = (i, pm_vr ad v) :: (pm_lr ad lv).filter (fun q => !(q.1 == i) && !(q.1 + 1 == i && q.2.category == 2)) := by
  unfold pm_lr pm_l1
  rw [List.map_cons, List.filter_map]
  congr 2
  apply List.filter_congr
  intro q _
  simp [Function.comp, pm_vr_cat]
theorem pm_lr_l2 (ad : Nat → Nat) (lv : pm_Lv) (i : Nat) (v : Value) : pm_lr ad (pm_l2 lv i v) = (i, pm_vr ad v) :: (pm_lr ad lv).filter (fun q => !(q.1 == i) && (!(q.1 == i + 1) && !(q.1 + 1 == i && q.2.category == 2))) := by
  unfold pm_lr pm_l2
  rw [List.map_cons, List.filter_map]
  congr 2
  apply List.filter_congr
  intro q _
  simp [Function.comp, pm_vr_cat]
theorem pm_lr_args (ad : Nat → Nat) : ∀ (vs : List Value) (i : Nat), pm_lr ad (lv_args i vs) = lv_args i (vs.map (pm_vr ad))
  | [], _ => rfl
  | v :: vs, i => by
    show (i, pm_vr ad v) :: pm_lr ad (lv_args _ vs) = (i, pm_vr ad v) :: lv_args _ _
    rw [pm_lr_args ad vs, pm_vr_cat]
theorem pm_sl_len (ad : Nat → Nat) : ∀ vs : List Value, (lg_sl (vs.map (pm_vr ad))).length = (lg_sl vs).length
  | [] => rfl
  | v :: vs => by
    have ih := pm_sl_len ad vs
    unfold lg_sl at ih ⊢
    simp only [List.map_cons, List.flatMap_cons, List.length_append]
    rw [ih, pm_vr_cat]
    by_cases hc : v.category = 2 <;> simp [hc]
theorem pm_cat_map (ad : Nat → Nat) : ∀ vs : List Value, ((vs.map (pm_vr ad)).map fun v => v.category).sum = pm_cat vs
  | [] => rfl
  | v :: vs => by
    have ih := pm_cat_map ad vs
    unfold pm_cat at ih ⊢
    simp only [List.map_cons, List.sum_cons]
    rw [ih, pm_vr_cat]
