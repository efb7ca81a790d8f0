/-! The checker: calls, returns, frames. -/
abbrev ck_Of : Type := Nat × Nat × ck_Lc × List ck_V
abbrev ck_Cf : Type := Nat × Nat × pm_Lv × List Value
abbrev ck_Pt : Type := ck_T × ck_F
def ck_RQ : Nat → List ck_Cf → pm_Q → pm_Q
  | _, [], Q => Q
  | d, f :: fs, Q => fun r h => pm_run (pm_Cd (d + 1)) f.1 (ck_RQ (d + 1) fs Q) f.2.1 f.2.2.1 (r.toList ++ f.2.2.2) h
def ck_frs (r : ck_R) : List ck_Of → List ck_Cf → Prop
  | [], [] => True
  | a :: s, b :: t => a.1 = b.1 ∧ a.2.1 = b.2.1 ∧ ck_ls r a.2.2.1 b.2.2.1 ∧ ck_ss r a.2.2.2 b.2.2.2 ∧ ck_frs r s t
  | _, _ => False
/-- arguments off the stack -/
noncomputable def ck_tk (n : Nat) : List ck_V → List ck_V → Option (List ck_V × List ck_V) := Nat.rec (motive := fun _ => List ck_V → List ck_V → Option (List ck_V × List ck_V)) (fun s acc => some (acc, s)) (fun _ ih s acc => match s with
  | [] => none
  | a :: t => ih t (a :: acc)) n
theorem ck_tk_ok {r : ck_R} : ∀ {n : Nat} {s acc : List ck_V} {x : List ck_V × List ck_V} {st cacc : List Value}, ck_tk n s acc = some x → ck_ss r s st → ck_ss r acc cacc → ck_ss r x.1 ((st.take n).reverse ++ cacc) ∧ ck_ss r x.2 (st.drop n) ∧ (st.take n).length = n
  | 0, s, acc, x, st, cacc, h, h1, h2 => by
    have e1 : (acc, s) = x := Option.some.inj h
    subst e1
    exact ⟨h2, h1, rfl⟩
  | n + 1, [], _, _, _, _, h, _, _ => by cases h
  | n + 1, a :: t, acc, x, [], cacc, h, h1, h2 => h1.elim
  | n + 1, a :: t, acc, x, v :: st, cacc, h, h1, h2 => by
    have h0 : ck_tk n t (a :: acc) = some x := h
    obtain ⟨g1, g2, g3⟩ := ck_tk_ok (cacc := v :: cacc) h0 h1.2 ⟨h1.1, h2⟩
    refine ⟨?_, g2, ?_⟩
    · rw [List.take_succ_cons, List.reverse_cons, List.append_assoc]
      exact g1
    · rw [List.take_succ_cons, List.length_cons, g3]
noncomputable def ck_cal (i : pm_Ins) (stk : List ck_V) : Option (List ck_V × List ck_V) := match ck_nth pm_M i.2.2.2.2.1 with
  | none => none
  | some me => bif Nat.beq i.1 43 then (match ck_tk (me.2.2.2.2.1 + 1) stk [] with
    | none => none
    | some x => match x.1 with
      | [] => none
      | v :: _ => match v.1 with
        | 2 => (match ck_cI v.2 with
          | none => none
          | some q => match ck_nth pm_S q with
            | none => none
            | some s => bif (bif Nat.beq s.1 0 then (bif Nat.beq s.2.1 me.2.2.2.2.2.1 then Nat.ble (ck_cat x.2) 8 else false) else false) then some x else none)
        | _ => none) else (bif Nat.beq i.1 44 then (match ck_tk me.2.2.2.2.1 stk [] with
    | none => none
    | some x => bif Nat.ble (ck_cat x.2) 8 then some x else none) else none)
theorem ck_cal_ok {i : pm_Ins} {stk : List ck_V} {x : List ck_V × List ck_V} {st : List Value} {r0 : ck_R} (hs : ck_cal i stk = some x) (h0 : ck_ss r0 stk st) : ∃ cas crest, (∀ r, ck_ss r stk st → ck_ss r x.1 cas ∧ ck_ss r x.2 crest) ∧ ∀ (C : pm_C) (Q : pm_Q) (X : pm_X) (pc : Nat) (lv : pm_Lv) (h : pm_Hp), C i.2.2.2.2.1 cas h (fun rv h' => X (pc + i.2.2.1) lv (rv.toList ++ crest) h') → pm_Fi C Q X i pc lv st h := by
  unfold ck_cal at hs
  rw [ck_nth_ok] at hs
  cases hm : pm_M[i.2.2.2.2.1]? with
  | none => rw [hm] at hs; cases hs
  | some me =>
    rw [hm] at hs
    dsimp only at hs
    cases b1 : Nat.beq i.1 43 with
    | true =>
      rw [b1] at hs
      dsimp only [cond_true] at hs
      have e1 := Nat.eq_of_beq_eq_true b1
      cases ht : ck_tk (me.2.2.2.2.1 + 1) stk [] with
      | none => rw [ht] at hs; cases hs
      | some y =>
        rw [ht] at hs
        obtain ⟨as, rest⟩ := y
        dsimp only at hs
        cases as with
        | nil => cases hs
        | cons v t =>
          obtain ⟨tg, f⟩ := v
          match tg, hs, ht with
          | 0, hs, _ => cases hs
          | 1, hs, _ => cases hs
          | _ + 3, hs, _ => cases hs
          | 2, hs, ht =>
            dsimp only at hs
            cases hq : ck_cI f with
            | none => rw [hq] at hs; cases hs
            | some q =>
              rw [hq] at hs
              dsimp only at hs
              rw [ck_nth_ok] at hs
              cases hS : pm_S[q]? with
              | none => rw [hS] at hs; cases hs
              | some s =>
                rw [hS] at hs
                dsimp only at hs
                cases hb : (bif Nat.beq s.1 0 then (bif Nat.beq s.2.1 me.2.2.2.2.2.1 then Nat.ble (ck_cat rest) 8 else false) else false) with
                | false => rw [hb] at hs; cases hs
                | true =>
                  rw [hb] at hs
                  cases hs
                  obtain ⟨c1, c2⟩ := ck_and hb
                  obtain ⟨c3, c4⟩ := ck_and c2
                  have e2 := Nat.eq_of_beq_eq_true c1
                  have e3 := Nat.eq_of_beq_eq_true c3
                  have base := ck_tk_ok ht h0 (cacc := []) trivial
                  rw [List.append_nil] at base
                  have hlen := base.2.2
                  obtain ⟨g1, g2, _⟩ := base
                  -- the arguments in order
                  cases hca : (st.take (me.2.2.2.2.1 + 1)).reverse with
                  | nil => rw [hca] at g1; exact g1.elim
                  | cons w As =>
                    rw [hca] at g1
                    obtain ⟨⟨q', e4, e5⟩, g3⟩ := g1
                    have e6 := ck_cI_ok hq r0
                    have e7 : q' = q := by
                      have e5' : (q' : Int) = ck_ev r0 f := e5
                      omega
                    subst e7
                    refine ⟨w :: As, st.drop (me.2.2.2.2.1 + 1), fun r hr => ?_, ?_⟩
                    · have g4 := ck_tk_ok ht hr (cacc := []) trivial
                      rw [List.append_nil, hca] at g4
                      exact ⟨g4.1, g4.2.1⟩
                    · intro C Q X pc lv h hC
                      unfold pm_Fi
                      rw [if_pos e1]
                      refine ⟨me, q', As, st.drop (me.2.2.2.2.1 + 1), s.2.2, hm, ?_, ?_, ?_, ?_, by rw [← e4]; exact hC⟩
                      · have e8 : (w :: As).length = me.2.2.2.2.1 + 1 := by rw [← hca, List.length_reverse, hlen]
                        rw [List.length_cons] at e8
                        omega
                      · have e9 : st.take (me.2.2.2.2.1 + 1) = As.reverse ++ [w] := by
                          rw [← List.reverse_reverse (st.take (me.2.2.2.2.1 + 1)), hca, List.reverse_cons]
                        have e10 := List.take_append_drop (me.2.2.2.2.1 + 1) st
                        rw [e9, List.append_assoc] at e10
                        rw [← e4]
                        exact e10.symm
                      · rw [hS, ← e2, ← e3]
                      · rw [ck_cat_ok g2]
                        exact Nat.le_of_ble_eq_true c4
    | false =>
      rw [b1] at hs
      dsimp only [cond_false] at hs
      have e0 := ck_beq_no b1
      cases b2 : Nat.beq i.1 44 with
      | false => rw [b2] at hs; cases hs
      | true =>
        rw [b2] at hs
        dsimp only [cond_true] at hs
        have e1 := Nat.eq_of_beq_eq_true b2
        cases ht : ck_tk me.2.2.2.2.1 stk [] with
        | none => rw [ht] at hs; cases hs
        | some y =>
          rw [ht] at hs
          dsimp only at hs
          cases hb : Nat.ble (ck_cat y.2) 8 with
          | false => rw [hb] at hs; cases hs
          | true =>
            rw [hb] at hs
            cases hs
            have base := ck_tk_ok ht h0 (cacc := []) trivial
            rw [List.append_nil] at base
            obtain ⟨g1, g2, hlen⟩ := base
            refine ⟨(st.take me.2.2.2.2.1).reverse, st.drop me.2.2.2.2.1, fun r hr => ?_, ?_⟩
            · have g4 := ck_tk_ok ht hr (cacc := []) trivial
              rw [List.append_nil] at g4
              exact ⟨g4.1, g4.2.1⟩
            · intro C Q X pc lv h hC
              unfold pm_Fi
              rw [if_neg e0, if_pos e1]
              refine ⟨me, (st.take me.2.2.2.2.1).reverse, st.drop me.2.2.2.2.1, hm, by rw [List.length_reverse, hlen], ?_, ?_, hC⟩
              · rw [List.reverse_reverse]
                exact (List.take_append_drop _ st).symm
              · rw [ck_cat_ok g2]
                exact Nat.le_of_ble_eq_true hb
/-- returns -/
noncomputable def ck_rtn (S : ck_S) (i : pm_Ins) (stk : List ck_V) : Option (List ck_V) := match i.1 with
  | 39 => (match stk with
    | [] => none
    | a :: t => match t with
      | _ :: _ => none
      | [] => bif Nat.beq a.1 0 then (bif (bif Nat.beq i.2.1 1 then ck_in2 (ck_N S) 0 1 a.2 else true) then some [a] else none) else none)
  | 40 => (match stk with
    | [] => none
    | a :: t => match t with
      | _ :: _ => none
      | [] => bif Nat.beq a.1 1 then some [a] else none)
  | 41 => (match stk with
    | [] => none
    | a :: t => match t with
      | _ :: _ => none
      | [] => bif Nat.beq a.1 2 then some [a] else none)
  | 42 => (match stk with
    | [] => some []
    | _ :: _ => none)
  | _ => none
theorem ck_rtn_ok {M : ck_O} {h0 h : pm_Hp} {S : ck_S} {i : pm_Ins} {stk vs : List ck_V} {st : List Value} {r0 : ck_R} (hs : ck_rtn S i stk = some vs) (hst : ck_ss r0 stk st) (hsat : ck_sat M h0 S h r0) : ∃ rv : Option Value, (∀ r, ck_ss r stk st → ck_ss r vs rv.toList) ∧ ∀ (C : pm_C) (Q : pm_Q) (X : pm_X) (pc : Nat) (lv : pm_Lv), Q rv h → pm_Fi C Q X i pc lv st h := by
  obtain ⟨f, rr, len, z, a, b, c⟩ := i
  have one : ∀ (t : Nat) (g : ck_F), ck_ss r0 [(t, g)] st → ∃ v, st = [v] ∧ ck_vr r0 (t, g) v := by
    intro t g hg
    match st, hg with
    | [], hg => exact hg.elim
    | [v], hg => exact ⟨v, rfl, hg.1⟩
    | _ :: _ :: _, hg => exact hg.2.elim
  unfold ck_rtn at hs
  match f, hs with
  | 39, hs =>
    dsimp only at hs
    match stk, hs, hst with
    | [], hs, _ => cases hs
    | _ :: _ :: _, hs, _ => cases hs
    | [(t, g)], hs, hst =>
      dsimp only at hs
      cases hb : Nat.beq t 0 with
      | false => rw [hb] at hs; cases hs
      | true =>
        rw [hb] at hs
        dsimp only [cond_true] at hs
        have e1 := Nat.eq_of_beq_eq_true hb
        subst e1
        cases hc : (bif Nat.beq rr 1 then ck_in2 (ck_N S) 0 1 g else true) with
        | false => rw [hc] at hs; cases hs
        | true =>
          rw [hc] at hs
          cases hs
          obtain ⟨v, rfl, x, rfl, e2⟩ := one 0 g hst
          refine ⟨some (.int x), fun r hr => hr, fun C Q X pc lv hQ => ?_⟩
          refine ⟨x, rfl, fun e3 => ?_, hQ⟩
          have e3' : rr = 1 := e3
          rw [e3'] at hc
          have g1 := ck_in2_ok (ck_N_ok hsat) hc
          have e2' : x.toInt = ck_ev r0 g := e2
          exact ck_b01 (by omega) (by omega)
  | 40, hs =>
    dsimp only at hs
    match stk, hs, hst with
    | [], hs, _ => cases hs
    | _ :: _ :: _, hs, _ => cases hs
    | [(t, g)], hs, hst =>
      dsimp only at hs
      cases hb : Nat.beq t 1 with
      | false => rw [hb] at hs; cases hs
      | true =>
        rw [hb] at hs
        cases hs
        have e1 := Nat.eq_of_beq_eq_true hb
        subst e1
        obtain ⟨v, rfl, x, rfl, e2⟩ := one 1 g hst
        exact ⟨some (.long x), fun r hr => hr, fun C Q X pc lv hQ => ⟨x, rfl, hQ⟩⟩
  | 41, hs =>
    dsimp only at hs
    match stk, hs, hst with
    | [], hs, _ => cases hs
    | _ :: _ :: _, hs, _ => cases hs
    | [(t, g)], hs, hst =>
      dsimp only at hs
      cases hb : Nat.beq t 2 with
      | false => rw [hb] at hs; cases hs
      | true =>
        rw [hb] at hs
        cases hs
        have e1 := Nat.eq_of_beq_eq_true hb
        subst e1
        obtain ⟨v, rfl, x, rfl, e2⟩ := one 2 g hst
        exact ⟨some (.ref x), fun r hr => hr, fun C Q X pc lv hQ => ⟨x, rfl, hQ⟩⟩
  | 42, hs =>
    dsimp only at hs
    match stk, st, hs, hst with
    | _ :: _, _, hs, _ => cases hs
    | [], [], hs, _ =>
      cases hs
      exact ⟨none, fun r hr => hr, fun C Q X pc lv hQ => ⟨rfl, hQ⟩⟩
    | [], _ :: _, _, hst => exact hst.elim
  | 0, hs => cases hs
  | f + 43, hs => cases hs
  | 1, hs | 2, hs | 3, hs | 4, hs | 5, hs | 6, hs | 7, hs | 8, hs | 9, hs | 10, hs | 11, hs | 12, hs | 13, hs | 14, hs | 15, hs | 16, hs | 17, hs | 18, hs | 19, hs | 20, hs | 21, hs | 22, hs | 23, hs | 24, hs | 25, hs | 26, hs | 27, hs | 28, hs | 29, hs | 30, hs | 31, hs | 32, hs | 33, hs | 34, hs | 35, hs | 36, hs | 37, hs | 38, hs => cases hs
/-- the locals of a method that is entered -/
noncomputable def ck_la (as : List ck_V) : Nat → ck_Lc := List.rec (motive := fun _ => Nat → ck_Lc) (fun _ => []) (fun a _ ih i => (i, a) :: ih (bif Nat.beq a.1 1 then i + 2 else i + 1)) as
theorem ck_la_ge : ∀ {as : List ck_V} {i : Nat} {p : Nat × ck_V}, p ∈ ck_la as i → i ≤ p.1
  | [], _, _, h => absurd h List.not_mem_nil
  | a :: t, i, p, h => by
    have h0 : p ∈ (i, a) :: ck_la t (bif Nat.beq a.1 1 then i + 2 else i + 1) := h
    rcases List.mem_cons.mp h0 with rfl | h1
    · exact Nat.le_refl _
    · have h2 := ck_la_ge h1
      cases hb : Nat.beq a.1 1 with
      | true => rw [hb] at h2; have h3 : i + 2 ≤ p.1 := h2; omega
      | false => rw [hb] at h2; have h3 : i + 1 ≤ p.1 := h2; omega
theorem ck_la_ok {r : ck_R} : ∀ {as : List ck_V} {vs : List Value} {i : Nat}, ck_ss r as vs → ck_ls r (ck_la as i) (lv_args i vs)
  | [], [], _, _ => fun _ h => absurd h List.not_mem_nil
  | [], _ :: _, _, h => h.elim
  | _ :: _, [], _, h => h.elim
  | a :: t, v :: vs, i, h => by
    have hc := ck_vr_cat h.1
    have e1 : (if v.category = 2 then i + 2 else i + 1) = (bif Nat.beq a.1 1 then i + 2 else i + 1) := by
      cases hb : Nat.beq a.1 1 with
      | true => rw [hb] at hc; exact if_pos hc
      | false => rw [hb] at hc; exact if_neg (by rw [hc]; decide)
    have ih := ck_la_ok (i := bif Nat.beq a.1 1 then i + 2 else i + 1) h.2
    intro p hp
    have hp0 : p ∈ (i, a) :: ck_la t (bif Nat.beq a.1 1 then i + 2 else i + 1) := hp
    show ∃ w, pm_lg ((i, v) :: lv_args (if v.category = 2 then i + 2 else i + 1) vs) p.1 = some w ∧ ck_vr r p.2 w
    rw [e1]
    rcases List.mem_cons.mp hp0 with rfl | hp1
    · exact ⟨v, ck_lg_hd _ i v, h.1⟩
    · have h2 := ck_la_ge hp1
      have h3 : ¬ p.1 = i := by
        cases hb : Nat.beq a.1 1 with
        | true => rw [hb] at h2; have h4 : i + 2 ≤ p.1 := h2; omega
        | false => rw [hb] at h2; have h4 : i + 1 ≤ p.1 := h2; omega
      rw [ck_lg_tl h3]
      exact ih p hp1
theorem ck_sl_len : ∀ (vs : List Value), (lg_sl vs).length = pm_cat vs
  | [] => rfl
  | v :: vs => by
    have ih := ck_sl_len vs
    show ((v :: vs).flatMap fun v => if v.category = 2 then [Slot.val v, Slot.second] else [Slot.val v]).length = (v.category :: vs.map fun v => v.category).sum
    rw [List.flatMap_cons, List.length_append, List.sum_cons]
    have ih' : (vs.flatMap fun v => if v.category = 2 then [Slot.val v, Slot.second] else [Slot.val v]).length = (vs.map fun v => v.category).sum := ih
    rw [ih']
    have hv : (if v.category = 2 then [Slot.val v, Slot.second] else [Slot.val v]).length = v.category := by
      cases v <;> rfl
    rw [hv]
theorem ck_ss_app {r : ck_R} : ∀ {a b : List ck_V} {u v : List Value}, ck_ss r a u → ck_ss r b v → ck_ss r (a ++ b) (u ++ v)
  | [], _, [], _, _, h2 => h2
  | [], _, _ :: _, _, h1, _ => h1.elim
  | _ :: _, _, [], _, h1, _ => h1.elim
  | _ :: _, _, _ :: _, _, h1, h2 => ⟨h1.1, ck_ss_app h1.2 h2⟩
