/-! The law's calls, checked: a call of the class, the same of the model, the invariant again. -/
/-- one returned int -/
def ck_one (v : List ck_V) : Option ck_F := match v with
  | [] => none
  | a :: t => match t with
    | _ :: _ => none
    | [] => match a.1 with
      | 0 => some a.2
      | _ => none
theorem ck_one_ok {v : List ck_V} {f : ck_F} {r0 : ck_R} {rv : Option Value} (h : ck_one v = some f) (hs : ck_ss r0 v rv.toList) : ∃ x : Int32, rv = some (.int x) ∧ ∀ r, ck_ss r v rv.toList → x.toInt = ck_ev r f := by
  match v, h, hs with
  | [], h, _ => cases h
  | _ :: _ :: _, h, _ => cases h
  | [(_ + 1, _)], h, _ => cases h
  | [(0, g)], h, hs =>
    have e1 : g = f := Option.some.inj h
    subst e1
    cases rv with
    | none => exact hs.elim
    | some w =>
      obtain ⟨⟨x, e2, e3⟩, _⟩ := hs
      have e2' : w = .int x := e2
      subst e2'
      refine ⟨x, rfl, fun r hr => ?_⟩
      obtain ⟨⟨y, e4, e5⟩, _⟩ := hr
      have e4' : Value.int x = .int y := e4
      cases e4'
      exact e5
/-- the invariant's patterns -/
def ck_Inv (SI : List ck_S) (h : pm_Hp) : Prop := ck_dec h ∧ ∃ S ∈ SI, ck_G S.1 (fun r => ck_sa S h r)
noncomputable def ck_l3 (SI : List ck_S) (f : ck_F) (cmp : Bool) (l : List (ck_S × List ck_V)) : List Nat → Option (List Nat) := List.rec (motive := fun _ => List Nat → Option (List Nat)) (fun c => some c) (fun y _ ih c => match c with
  | [] => none
  | j :: c1 => match ck_rTh c1 with
    | none => none
    | some θ => match ck_nth SI j with
      | none => none
      | some P => match ck_one y.2 with
        | none => none
        | some g => bif (bif Nat.beq (ck_len θ.1) P.1 then (bif ck_ms y.1 P θ.1 then (bif cmp then ck_eq0 y.1.2.1 y.1.2.2.1 (ck_fs f g) else true) else false) else false) then ih θ.2 else none) l
noncomputable def ck_l2 (SI : List ck_S) (M : ck_O) (as : List ck_V) (Cm : ck_Co) (cmp : Bool) (l : List (ck_S × List ck_V)) : List Nat → Option (List Nat) := List.rec (motive := fun _ => List Nat → Option (List Nat)) (fun c => some c) (fun y _ ih c => match ck_rTh c with
  | none => none
  | some θ => match ck_one y.2 with
    | none => none
    | some f => match ck_us M y.1 Cm θ.1 ((2, (.ofNat 88, [])) :: as) with
      | none => none
      | some l2 => match ck_l3 SI f cmp l2 θ.2 with
        | none => none
        | some c1 => ih c1) l
noncomputable def ck_lw (SI : List ck_S) (M : ck_O) (S : ck_S) (as : List ck_V) (Cx Cm : ck_Co) (cmp : Bool) (c : List Nat) : Bool := match ck_rTh c with
  | none => false
  | some θ => match ck_us M S Cx θ.1 ((2, (.ofNat 0, [])) :: as) with
    | none => false
    | some l => match ck_l2 SI M as Cm cmp l θ.2 with
      | none => false
      | some _ => true
section
variable {SI : List ck_S} {M : ck_O} {h0 h : pm_Hp} {S : ck_S} {as : List ck_V} {cas : List Value} {Cx Cm : ck_Co} {cmp : Bool} {P : ck_R → Prop}
theorem ck_l3_ok {f : ck_F} {x : Int32} {rv : Option Value} (hd : ck_dec h) (hf : ∀ r, P r → x.toInt = ck_ev r f) : ∀ {l : List (ck_S × List ck_V)} {c c' : List Nat}, ck_l3 SI f cmp l c = some c' → ∀ y ∈ l, ck_G y.1.1 (fun r => P r ∧ ck_sat M h0 y.1 h r ∧ ck_ss r y.2 rv.toList) → ck_Inv SI h ∧ ∃ z : Int32, rv = some (.int z) ∧ (cmp = true → x = z)
  | [], _, _, _ => fun _ hy => absurd hy List.not_mem_nil
  | q :: t, c, c', hs => by
    have hs0 : (match (generalizing := false) c with
      | [] => none
      | j :: c1 => match ck_rTh c1 with
        | none => none
        | some θ => match ck_nth SI j with
          | none => none
          | some P => match ck_one q.2 with
            | none => none
            | some g => bif (bif Nat.beq (ck_len θ.1) P.1 then (bif ck_ms q.1 P θ.1 then (bif cmp then ck_eq0 q.1.2.1 q.1.2.2.1 (ck_fs f g) else true) else false) else false) then ck_l3 SI f cmp t θ.2 else none) = some c' := hs
    cases c with
    | nil => cases hs0
    | cons j c1 =>
      dsimp only at hs0
      cases hθ : ck_rTh c1 with
      | none => rw [hθ] at hs0; cases hs0
      | some θ =>
        rw [hθ] at hs0
        dsimp only at hs0
        rw [ck_nth_ok] at hs0
        cases hj : SI[j]? with
        | none => rw [hj] at hs0; cases hs0
        | some Q =>
          rw [hj] at hs0
          dsimp only at hs0
          cases ho : ck_one q.2 with
          | none => rw [ho] at hs0; cases hs0
          | some g =>
            rw [ho] at hs0
            dsimp only at hs0
            cases hb : (bif Nat.beq (ck_len θ.1) Q.1 then (bif ck_ms q.1 Q θ.1 then (bif cmp then ck_eq0 q.1.2.1 q.1.2.2.1 (ck_fs f g) else true) else false) else false) with
            | false => rw [hb] at hs0; cases hs0
            | true =>
              rw [hb] at hs0
              dsimp only [cond_true] at hs0
              intro y hy HG
              rcases List.mem_cons.mp hy with rfl | hy
              · obtain ⟨b1, b2⟩ := ck_and hb
                obtain ⟨b3, b4⟩ := ck_and b2
                have e1 := Nat.eq_of_beq_eq_true b1
                obtain ⟨r0, H0⟩ := HG
                have H1 := H0 r0 (fun _ _ => rfl)
                have sa0 : ck_sa y.1 h r0 := ⟨H1.2.1.1, H1.2.1.2.1, H1.2.1.2.2.1, H1.2.1.2.2.2.1⟩
                obtain ⟨z, z1, z2⟩ := ck_one_ok ho H1.2.2
                refine ⟨⟨hd, Q, List.mem_of_getElem? hj, (fun i => match θ.1[i]? with
                  | some t => ck_ev r0 t
                  | none => 0), fun r hr => ck_ms_ok b3 sa0 (ck_th_mk e1 hr)⟩, z, z1, fun hc => ?_⟩
                rw [hc] at b4
                have e2 := ck_eq0_ok H1.2.1.1 H1.2.1.2.1 b4
                rw [ck_ev_fs, ← hf r0 H1.1, ← z2 r0 H1.2.2] at e2
                exact Int32.toInt_inj.mp (by omega)
              · exact ck_l3_ok hd hf hs0 y hy HG
theorem ck_l2_ok {rv : Option Value} (hCm : ck_CO Cm) (hd : ck_dec h) (ha : ∀ r, P r → ck_ss r as cas) : ∀ {l : List (ck_S × List ck_V)} {c c' : List Nat}, ck_l2 SI M as Cm cmp l c = some c' → ∀ y ∈ l, ck_G y.1.1 (fun r => P r ∧ ck_sat M h0 y.1 h r ∧ ck_ss r y.2 rv.toList) → ∃ x : Int32, rv = some (.int x) ∧ pm_Cd Cm.2.1 Cm.1 (.ref 88 :: cas) h (fun rv2 h2 => ck_Inv SI h2 ∧ ∃ z : Int32, rv2 = some (.int z) ∧ (cmp = true → x = z))
  | [], _, _, _ => fun _ hy => absurd hy List.not_mem_nil
  | q :: t, c, c', hs => by
    have hs0 : (match ck_rTh c with
      | none => none
      | some θ => match ck_one q.2 with
        | none => none
        | some f => match ck_us M q.1 Cm θ.1 ((2, (.ofNat 88, [])) :: as) with
          | none => none
          | some l2 => match ck_l3 SI f cmp l2 θ.2 with
            | none => none
            | some c1 => ck_l2 SI M as Cm cmp t c1) = some c' := hs
    cases hθ : ck_rTh c with
    | none => rw [hθ] at hs0; cases hs0
    | some θ =>
      rw [hθ] at hs0
      dsimp only at hs0
      cases ho : ck_one q.2 with
      | none => rw [ho] at hs0; cases hs0
      | some f =>
        rw [ho] at hs0
        dsimp only at hs0
        cases hu : ck_us M q.1 Cm θ.1 ((2, (.ofNat 88, [])) :: as) with
        | none => rw [hu] at hs0; cases hs0
        | some l2 =>
          rw [hu] at hs0
          dsimp only at hs0
          cases h3 : ck_l3 SI f cmp l2 θ.2 with
          | none => rw [h3] at hs0; cases hs0
          | some c1 =>
            rw [h3] at hs0
            dsimp only at hs0
            intro y hy HG
            rcases List.mem_cons.mp hy with rfl | hy
            · obtain ⟨r0, hr0⟩ := ck_G_ex HG
              obtain ⟨x, x1, x2⟩ := ck_one_ok ho hr0.2.2
              refine ⟨x, x1, ?_⟩
              have hcall := ck_us_ok (M := M) (h0 := h0) (h := h) (P := fun r => P r ∧ ck_ss r y.2 rv.toList) (cas := .ref 88 :: cas) hu hCm hd (ck_G_mono HG (fun r hr => ⟨⟨hr.1, hr.2.2⟩, hr.2.1⟩)) (fun r hr => ⟨⟨88, rfl, (ck_ev_k r 88).symm⟩, ha r hr.1⟩)
              refine pm_Cd_mono _ _ _ _ _ _ ?_ hcall
              intro rv2 h2 hq
              obtain ⟨hd2, y2, hy2, HG2⟩ := hq
              exact ck_l3_ok (P := fun r => P r ∧ ck_ss r y.2 rv.toList) hd2 (fun r hr => x2 r hr.2) h3 y2 hy2 HG2
            · exact ck_l2_ok hCm hd ha hs0 y hy HG
/-- both calls -/
theorem ck_lw_ok {c : List Nat} (hs : ck_lw SI M S as Cx Cm cmp c = true) (hCx : ck_CO Cx) (hCm : ck_CO Cm) (hd : ck_dec h) (H : ck_G S.1 (fun r => ck_sa S h r ∧ ck_ss r as cas)) : pm_Cd Cx.2.1 Cx.1 (.ref 0 :: cas) h (fun rv h1 => ∃ x : Int32, rv = some (.int x) ∧ pm_Cd Cm.2.1 Cm.1 (.ref 88 :: cas) h1 (fun rv2 h2 => ck_Inv SI h2 ∧ ∃ z : Int32, rv2 = some (.int z) ∧ (cmp = true → x = z))) := by
  unfold ck_lw at hs
  cases hθ : ck_rTh c with
  | none => rw [hθ] at hs; cases hs
  | some θ =>
    rw [hθ] at hs
    dsimp only at hs
    cases hu : ck_us M S Cx θ.1 ((2, (.ofNat 0, [])) :: as) with
    | none => rw [hu] at hs; cases hs
    | some l =>
      rw [hu] at hs
      dsimp only at hs
      cases h2 : ck_l2 SI M as Cm cmp l θ.2 with
      | none => rw [h2] at hs; cases hs
      | some c' =>
        have hcall := ck_us_ok (M := M) (h0 := h) (h := h) (P := fun r => ck_ss r as cas) (cas := .ref 0 :: cas) hu hCx hd (ck_G_mono H (fun r hr => ⟨hr.2, hr.1.1, hr.1.2.1, hr.1.2.2.1, hr.1.2.2.2, fun _ _ => Or.inl rfl⟩)) (fun r hr => ⟨⟨0, rfl, (ck_ev_k r 0).symm⟩, hr⟩)
        refine pm_Cd_mono _ _ _ _ _ _ ?_ hcall
        intro rv h1 hq
        obtain ⟨hd1, y, hy, HG⟩ := hq
        exact ck_l2_ok hCm hd1 (fun r hr => hr) h2 y hy HG
end
