/-! The checker: locals, stacks, what is pushed. -/
abbrev ck_Lc : Type := List (Nat × ck_V)
abbrev ck_T : Type := ck_S × Nat × ck_Lc × List ck_V
def ck_vr (r : ck_R) (a : ck_V) (v : Value) : Prop := match a.1 with
  | 0 => ∃ x : Int32, v = .int x ∧ x.toInt = ck_ev r a.2
  | 1 => ∃ x : Int64, v = .long x ∧ x.toInt = ck_ev r a.2
  | 2 => ∃ q : Nat, v = .ref q ∧ (q : Int) = ck_ev r a.2
  | _ => False
def ck_ss (r : ck_R) : List ck_V → List Value → Prop
  | [], [] => True
  | a :: s, v :: t => ck_vr r a v ∧ ck_ss r s t
  | _, _ => False
def ck_ls (r : ck_R) (loc : ck_Lc) (lv : pm_Lv) : Prop := ∀ p ∈ loc, ∃ v, pm_lg lv p.1 = some v ∧ ck_vr r p.2 v
def ck_H (M : ck_O) (h0 : pm_Hp) (Φ : ck_R → Prop) (T : ck_T) (pc : Nat) (lv : pm_Lv) (st : List Value) (h : pm_Hp) : Prop := T.2.1 = pc ∧ ck_dec h ∧ ck_G T.1.1 (fun r => Φ r ∧ ck_sat M h0 T.1 h r ∧ ck_ls r T.2.2.1 lv ∧ ck_ss r T.2.2.2 st)
noncomputable def ck_lg (loc : ck_Lc) (i : Nat) : Option ck_V := List.rec (motive := fun _ => Option ck_V) none (fun p _ ih => bif Nat.beq p.1 i then some p.2 else ih) loc
theorem ck_lg_ok {r : ck_R} {lv : pm_Lv} {i : Nat} {a : ck_V} : ∀ {loc : ck_Lc}, ck_lg loc i = some a → ck_ls r loc lv → ∃ v, pm_lg lv i = some v ∧ ck_vr r a v
  | [], h, _ => by cases h
  | p :: t, h, hl => by
    have h0 : (bif Nat.beq p.1 i then some p.2 else ck_lg t i) = some a := h
    cases hb : Nat.beq p.1 i with
    | true =>
      rw [hb] at h0
      have e1 := Nat.eq_of_beq_eq_true hb
      have e2 : p.2 = a := Option.some.inj h0
      have h1 := hl p (List.mem_cons_self ..)
      rw [e1, e2] at h1
      exact h1
    | false =>
      rw [hb] at h0
      exact ck_lg_ok h0 (fun q hq => hl q (List.mem_cons_of_mem _ hq))
noncomputable def ck_lf (i : Nat) (two : Bool) (loc : ck_Lc) : ck_Lc := List.rec (motive := fun _ => ck_Lc) [] (fun p _ ih => bif Nat.beq p.1 i then ih else (bif (bif two then Nat.beq p.1 (i + 1) else false) then ih else (bif (bif Nat.beq (p.1 + 1) i then Nat.beq p.2.1 1 else false) then ih else p :: ih))) loc
theorem ck_beq_no {a b : Nat} (h : Nat.beq a b = false) : ¬ a = b := by
  intro e
  rw [e, Nat.beq_refl] at h
  cases h
theorem ck_lf_mem {i : Nat} {two : Bool} {p : Nat × ck_V} : ∀ {loc : ck_Lc}, p ∈ ck_lf i two loc → p ∈ loc ∧ ¬ p.1 = i ∧ (two = true → ¬ p.1 = i + 1) ∧ ¬ (p.1 + 1 = i ∧ p.2.1 = 1)
  | [], h => absurd h List.not_mem_nil
  | q :: t, h => by
    have h0 : p ∈ (bif Nat.beq q.1 i then ck_lf i two t else (bif (bif two then Nat.beq q.1 (i + 1) else false) then ck_lf i two t else (bif (bif Nat.beq (q.1 + 1) i then Nat.beq q.2.1 1 else false) then ck_lf i two t else q :: ck_lf i two t))) := h
    have rest : p ∈ ck_lf i two t → p ∈ q :: t ∧ ¬ p.1 = i ∧ (two = true → ¬ p.1 = i + 1) ∧ ¬ (p.1 + 1 = i ∧ p.2.1 = 1) := fun h1 => by
      have h2 := ck_lf_mem h1
      exact ⟨List.mem_cons_of_mem _ h2.1, h2.2⟩
    cases b1 : Nat.beq q.1 i with
    | true => rw [b1] at h0; exact rest h0
    | false =>
      rw [b1] at h0
      dsimp only [cond_false] at h0
      cases b2 : (bif two then Nat.beq q.1 (i + 1) else false) with
      | true => rw [b2] at h0; exact rest h0
      | false =>
        rw [b2] at h0
        dsimp only [cond_false] at h0
        cases b3 : (bif Nat.beq (q.1 + 1) i then Nat.beq q.2.1 1 else false) with
        | true => rw [b3] at h0; exact rest h0
        | false =>
          rw [b3] at h0
          rcases List.mem_cons.mp h0 with rfl | h1
          · refine ⟨List.mem_cons_self .., ck_beq_no b1, ?_, ?_⟩
            · intro e
              rw [e] at b2
              exact ck_beq_no b2
            · intro e
              rw [e.1, e.2, Nat.beq_refl] at b3
              cases b3
          · exact rest h1
theorem ck_find_filter {α : Type} {p f : α → Bool} {x : α} : ∀ {l : List α}, l.find? p = some x → f x = true → (l.filter f).find? p = some x
  | [], h, _ => by cases h
  | a :: t, h, hf => by
    rw [List.find?_cons] at h
    cases hp : p a with
    | true =>
      rw [hp] at h
      have e1 : a = x := Option.some.inj h
      subst e1
      rw [List.filter_cons_of_pos hf, List.find?_cons, hp]
    | false =>
      rw [hp] at h
      have ih := ck_find_filter (l := t) h hf
      cases ha : f a with
      | true => rw [List.filter_cons_of_pos ha, List.find?_cons, hp]; exact ih
      | false => rw [List.filter_cons_of_neg (by rw [ha]; exact Bool.false_ne_true)]; exact ih
theorem ck_lg_find {lv : pm_Lv} {j : Nat} {w : Value} (h : pm_lg lv j = some w) : lv.find? (fun q => q.1 == j) = some (j, w) := by
  unfold pm_lg at h
  cases hx : lv.find? (fun q => q.1 == j) with
  | none => rw [hx] at h; cases h
  | some x =>
    rw [hx] at h
    have e1 : x.2 = w := Option.some.inj h
    have e2 : x.1 = j := by simpa using List.find?_some hx
    rw [show x = (j, w) from Prod.ext e2 e1]
theorem ck_lg_hd (lv : pm_Lv) (i : Nat) (v : Value) : pm_lg ((i, v) :: lv) i = some v := by
  unfold pm_lg
  rw [List.find?_cons]
  simp
theorem ck_lg_tl {lv : pm_Lv} {i j : Nat} {v : Value} (h : ¬ j = i) : pm_lg ((i, v) :: lv) j = pm_lg lv j := by
  unfold pm_lg
  rw [List.find?_cons]
  have e1 : ((i, v).1 == j) = false := by
    simp only [beq_eq_false_iff_ne, ne_eq]
    intro e
    exact h e.symm
  rw [e1]
theorem ck_lg_l1 {lv : pm_Lv} {i j : Nat} {v w : Value} (h : pm_lg lv j = some w) (h1 : ¬ j = i) (h2 : ¬ (j + 1 = i ∧ w.category = 2)) : pm_lg (pm_l1 lv i v) j = some w := by
  unfold pm_l1
  rw [ck_lg_tl h1]
  unfold pm_lg
  rw [ck_find_filter (ck_lg_find h) (by
    simp only [Bool.and_eq_true, Bool.not_eq_true', beq_eq_false_iff_ne, ne_eq, Bool.and_eq_false_iff]
    refine ⟨h1, ?_⟩
    by_cases e : j + 1 = i
    · exact Or.inr (fun e2 => h2 ⟨e, e2⟩)
    · exact Or.inl e)]
  rfl
theorem ck_lg_l2 {lv : pm_Lv} {i j : Nat} {v w : Value} (h : pm_lg lv j = some w) (h1 : ¬ j = i) (h3 : ¬ j = i + 1) (h2 : ¬ (j + 1 = i ∧ w.category = 2)) : pm_lg (pm_l2 lv i v) j = some w := by
  unfold pm_l2
  rw [ck_lg_tl h1]
  unfold pm_lg
  rw [ck_find_filter (ck_lg_find h) (by
    simp only [Bool.and_eq_true, Bool.not_eq_true', beq_eq_false_iff_ne, ne_eq, Bool.and_eq_false_iff]
    refine ⟨h1, h3, ?_⟩
    by_cases e : j + 1 = i
    · exact Or.inr (fun e2 => h2 ⟨e, e2⟩)
    · exact Or.inl e)]
  rfl
theorem ck_vr_cat {r : ck_R} {a : ck_V} {v : Value} (h : ck_vr r a v) : v.category = (bif Nat.beq a.1 1 then 2 else 1) := by
  obtain ⟨t, f⟩ := a
  match t, h with
  | 0, h => obtain ⟨x, rfl, _⟩ := h; rfl
  | 1, h => obtain ⟨x, rfl, _⟩ := h; rfl
  | 2, h => obtain ⟨x, rfl, _⟩ := h; rfl
  | _ + 3, h => exact h.elim
theorem ck_vr_cat2 {r : ck_R} {a : ck_V} {v : Value} (h : ck_vr r a v) (h2 : v.category = 2) : a.1 = 1 := by
  have h1 := ck_vr_cat h
  cases hb : Nat.beq a.1 1 with
  | true => exact Nat.eq_of_beq_eq_true hb
  | false => rw [hb, h2] at h1; cases h1
theorem ck_ls_l1 {r : ck_R} {loc : ck_Lc} {lv : pm_Lv} {i : Nat} {a : ck_V} {v : Value} (hl : ck_ls r loc lv) (hv : ck_vr r a v) : ck_ls r ((i, a) :: ck_lf i false loc) (pm_l1 lv i v) := by
  intro p hp
  rcases List.mem_cons.mp hp with rfl | hp
  · exact ⟨v, ck_lg_hd _ i v, hv⟩
  · obtain ⟨h1, h2, _, h3⟩ := ck_lf_mem hp
    obtain ⟨w, h4, h5⟩ := hl p h1
    exact ⟨w, ck_lg_l1 h4 h2 (fun e => h3 ⟨e.1, ck_vr_cat2 h5 e.2⟩), h5⟩
theorem ck_ls_l2 {r : ck_R} {loc : ck_Lc} {lv : pm_Lv} {i : Nat} {a : ck_V} {v : Value} (hl : ck_ls r loc lv) (hv : ck_vr r a v) : ck_ls r ((i, a) :: ck_lf i true loc) (pm_l2 lv i v) := by
  intro p hp
  rcases List.mem_cons.mp hp with rfl | hp
  · exact ⟨v, ck_lg_hd _ i v, hv⟩
  · obtain ⟨h1, h2, h6, h3⟩ := ck_lf_mem hp
    obtain ⟨w, h4, h5⟩ := hl p h1
    exact ⟨w, ck_lg_l2 h4 h2 (h6 rfl) (fun e => h3 ⟨e.1, ck_vr_cat2 h5 e.2⟩), h5⟩
noncomputable def ck_cat (s : List ck_V) : Nat := List.rec (motive := fun _ => Nat) 0 (fun a _ ih => (bif Nat.beq a.1 1 then 2 else 1) + ih) s
theorem ck_cat_ok {r : ck_R} : ∀ {s : List ck_V} {st : List Value}, ck_ss r s st → pm_cat st = ck_cat s
  | [], [], _ => rfl
  | [], _ :: _, h => h.elim
  | _ :: _, [], h => h.elim
  | a :: s, v :: t, h => by
    have h1 := ck_cat_ok h.2
    show (v.category :: t.map fun v => v.category).sum = (bif Nat.beq a.1 1 then 2 else 1) + ck_cat s
    rw [List.sum_cons, ck_vr_cat h.1, ← h1]
    rfl
/-- pops -/
def ck_pI {α : Type} (s : List ck_V) (k : ck_F → List ck_V → Option α) : Option α := match s with
  | [] => none
  | a :: t => match a.1 with
    | 0 => k a.2 t
    | _ => none
def ck_pL {α : Type} (s : List ck_V) (k : ck_F → List ck_V → Option α) : Option α := match s with
  | [] => none
  | a :: t => match a.1 with
    | 1 => k a.2 t
    | _ => none
def ck_pR {α : Type} (s : List ck_V) (k : Nat → List ck_V → Option α) : Option α := match s with
  | [] => none
  | a :: t => match a.1 with
    | 2 => (match ck_cI a.2 with
      | none => none
      | some q => k q t)
    | _ => none
theorem ck_pI_ok {α : Type} {s : List ck_V} {k : ck_F → List ck_V → Option α} {y : α} {st : List Value} {r0 : ck_R} (h : ck_pI s k = some y) (h0 : ck_ss r0 s st) : ∃ f t x st', st = .int x :: st' ∧ k f t = some y ∧ ∀ r, ck_ss r s st → x.toInt = ck_ev r f ∧ ck_ss r t st' := by
  match s, st, h, h0 with
  | [], _, h, _ => cases h
  | a :: t, [], _, h0 => exact h0.elim
  | (0, f) :: t, v :: st', h, h0 =>
    obtain ⟨⟨x, rfl, _⟩, _⟩ := h0
    refine ⟨f, t, x, st', rfl, h, fun r hr => ?_⟩
    obtain ⟨⟨x', e1, e2⟩, h2⟩ := hr
    cases e1
    exact ⟨e2, h2⟩
  | (n + 1, f) :: t, v :: st', h, h0 => cases h
theorem ck_pL_ok {α : Type} {s : List ck_V} {k : ck_F → List ck_V → Option α} {y : α} {st : List Value} {r0 : ck_R} (h : ck_pL s k = some y) (h0 : ck_ss r0 s st) : ∃ f t x st', st = .long x :: st' ∧ k f t = some y ∧ ∀ r, ck_ss r s st → x.toInt = ck_ev r f ∧ ck_ss r t st' := by
  match s, st, h, h0 with
  | [], _, h, _ => cases h
  | a :: t, [], _, h0 => exact h0.elim
  | (0, f) :: t, v :: st', h, h0 => cases h
  | (1, f) :: t, v :: st', h, h0 =>
    obtain ⟨⟨x, rfl, _⟩, _⟩ := h0
    refine ⟨f, t, x, st', rfl, h, fun r hr => ?_⟩
    obtain ⟨⟨x', e1, e2⟩, h2⟩ := hr
    cases e1
    exact ⟨e2, h2⟩
  | (n + 2, f) :: t, v :: st', h, h0 => cases h
theorem ck_pR_ok {α : Type} {s : List ck_V} {k : Nat → List ck_V → Option α} {y : α} {st : List Value} {r0 : ck_R} (h : ck_pR s k = some y) (h0 : ck_ss r0 s st) : ∃ q t st', st = .ref q :: st' ∧ k q t = some y ∧ ∀ r, ck_ss r s st → ck_ss r t st' := by
  match s, st, h, h0 with
  | [], _, h, _ => cases h
  | a :: t, [], _, h0 => exact h0.elim
  | (0, f) :: t, v :: st', h, h0 => cases h
  | (1, f) :: t, v :: st', h, h0 => cases h
  | (2, f) :: t, v :: st', h, h0 =>
    obtain ⟨⟨q, rfl, hq⟩, _⟩ := h0
    have h1 : (match ck_cI f with
      | none => none
      | some q => k q t) = some y := h
    cases hc : ck_cI f with
    | none => rw [hc] at h1; cases h1
    | some q' =>
      rw [hc] at h1
      have e1 := ck_cI_ok hc r0
      have e2 : q' = q := by
        have hq' : (q : Int) = ck_ev r0 f := hq
        omega
      subst e2
      exact ⟨q', t, st', rfl, h1, fun r hr => hr.2⟩
  | (n + 3, f) :: t, v :: st', h, h0 => cases h
/-- a result is pushed: a form, or a new name -/
def ck_pu (S : ck_S) (w : ck_W) : ck_S × ck_F := bif w.1 then (S, w.2.1) else ((S.1 + 1, (S.1, w.2.2.1, w.2.2.2) :: S.2.1, S.2.2.1, S.2.2.2.1, S.2.2.2.2), (.ofNat 0, [(S.1, .ofNat 1)]))
theorem ck_pu_ok {M : ck_O} {h0 h : pm_Hp} {S : ck_S} {w : ck_W} {v : Int} {P : ck_R → Prop} (H : ck_G S.1 (fun r => P r ∧ ck_sat M h0 S h r)) (hw : ∀ r, P r → ck_sat M h0 S h r → ck_rz r w v) : ck_G (ck_pu S w).1.1 (fun r => P r ∧ ck_sat M h0 (ck_pu S w).1 h r ∧ v = ck_ev r (ck_pu S w).2) := by
  unfold ck_pu
  cases hb : w.1 with
  | true => exact ck_G_mono H (fun r hr => ⟨hr.1, hr.2, (hw r hr.1 hr.2).1 hb⟩)
  | false =>
    refine ck_G_new H v (fun r hr hv => ?_)
    have h1 := (hw r hr.1 hr.2).2 hb
    refine ⟨hr.1, ⟨ck_es_cons (by show w.2.2.1 ≤ r S.1 ∧ r S.1 ≤ w.2.2.2; rw [hv]; exact h1) hr.2.1, hr.2.2⟩, ?_⟩
    show v = ck_ev r (0, [(S.1, 1)])
    rw [ck_ev_v]
    exact hv.symm
/-- a test: none or one state -/
noncomputable def ck_tw (S : ck_S) (b : Nat) (d : ck_F) : List ck_S := match ck_ts b S.2.1 S.2.2.1 d with
  | none => []
  | some x => [(S.1, x.1, x.2, S.2.2.2.1, S.2.2.2.2)]
theorem ck_tw_ok {M : ck_O} {h0 h : pm_Hp} {S : ck_S} {b : Nat} {d : ck_F} {P : ck_R → Prop} (H : ck_G S.1 (fun r => P r ∧ ck_sat M h0 S h r)) (hw : ∀ r, P r → ck_tc b (ck_ev r d)) : ∃ S' ∈ ck_tw S b d, ck_G S'.1 (fun r => P r ∧ ck_sat M h0 S' h r) := by
  obtain ⟨r0, hr0⟩ := ck_G_ex H
  obtain ⟨x, e1, _⟩ := ck_ts_ok hr0.2.1 hr0.2.2.1 (hw r0 hr0.1)
  unfold ck_tw
  rw [e1]
  refine ⟨_, List.mem_cons_self .., ck_G_mono H (fun r hr => ?_)⟩
  obtain ⟨x', e2, h2, h3⟩ := ck_ts_ok hr.2.1 hr.2.2.1 (hw r hr.1)
  have e3 : x = x' := Option.some.inj (e1.symm.trans e2)
  subst e3
  exact ⟨hr.1, h2, h3, hr.2.2.2⟩
