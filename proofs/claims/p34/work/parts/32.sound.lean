/-! The checker is sound. -/
def ck_Mw (n : Nat) (M : ck_O) : Prop := ∀ w ∈ M, ck_wl n w.2.1.2 = true ∧ ck_wl n w.2.2.2 = true
theorem ck_ow_wf {n : Nat} {M : ck_O} {h h' : pm_Hp} {r r' : ck_R} (hM : ck_Mw n M) (hr : ck_agr n r r') (H : ck_ow h h' r M) : ck_ow h h' r' M := by
  intro c j
  rcases H c j with e | ⟨w, hw, e1, e2, e3⟩
  · exact Or.inl e
  · obtain ⟨g1, g2⟩ := hM w hw
    have f1 : ck_ev r' w.2.1 = ck_ev r w.2.1 := by
      show w.2.1.1 + ck_lv r' w.2.1.2 = w.2.1.1 + ck_lv r w.2.1.2
      rw [ck_wl_ok g1 hr]
    have f2 : ck_ev r' w.2.2 = ck_ev r w.2.2 := by
      show w.2.2.1 + ck_lv r' w.2.2.2 = w.2.2.1 + ck_lv r w.2.2.2
      rw [ck_wl_ok g2 hr]
    exact Or.inr ⟨w, hw, e1, by omega, by omega⟩
def ck_Ph (n0 : Nat) (rP : ck_R) (rk : Option ck_F) (z : Int) (outer : List ck_Of) (cfs : List ck_Cf) (r : ck_R) : Prop := ck_agr n0 rP r ∧ (∀ f, rk = some f → ck_ev r f = z) ∧ ck_frs r outer cfs
theorem ck_Fi_st {C : pm_C} {Q : pm_Q} {X : pm_X} {i : pm_Ins} {pc : Nat} {lv : pm_Lv} {st : List Value} {h : pm_Hp} {nx : pm_Nx} (h1 : ¬ i.1 = 43) (h2 : ¬ i.1 = 44) (h3 : ¬ (39 ≤ i.1 ∧ i.1 ≤ 42)) (e : pm_stp i pc lv st h = some nx) (hx : X nx.1 nx.2.1 nx.2.2.1 nx.2.2.2) : pm_Fi C Q X i pc lv st h := by
  unfold pm_Fi
  rw [if_neg h1, if_neg h2, if_neg h3]
  exact ⟨nx, e, hx⟩
section
variable {tab : List ck_Co} {C : ck_Co} {pats : List ck_Pt} {rk : Option ck_F} {rP : ck_R} {h0 : pm_Hp} {z : Int} {dC : Nat}
/-- what is known of the patterns -/
def ck_Pats (C : ck_Co) (pats : List ck_Pt) (rk : Option ck_F) (rP : ck_R) (h0 : pm_Hp) (z : Int) (dC : Nat) : Prop := ∀ (j : Nat) (p : ck_Pt), pats[j]? = some p → ∀ (r1 : ck_R) (lv : pm_Lv) (st : List Value) (h : pm_Hp), ck_dec h → (∀ r, ck_agr p.1.1.1 r1 r → ck_agr C.2.2.1.1 rP r ∧ ck_sat C.2.2.2.2.2 h0 p.1.1 h r ∧ ck_ls r p.1.2.2.1 lv ∧ ck_ss r p.1.2.2.2 st) → (∀ f, rk = some f → ck_ev r1 p.2 + 1 ≤ z) → pm_run (pm_Cd dC) C.1 (ck_QC C rP h0) p.1.2.1 lv st h
theorem ck_th_mk {θ : List ck_F} {r0 r : ck_R} {n : Nat} (hl : ck_len θ = n) (hr : ck_agr n (fun i => match θ[i]? with
    | some t => ck_ev r0 t
    | none => 0) r) : ck_th θ r0 r := by
  intro i t hi
  rw [ck_len_ok] at hl
  have hi2 : i < θ.length := by
    rcases Nat.lt_or_ge i θ.length with q | q
    · exact q
    · rw [List.getElem?_eq_none q] at hi
      cases hi
  rw [hr i (by omega)]
  dsimp only
  rw [hi]
theorem ck_arr_ok {k j d : Nat} {T : ck_T} {θ : List ck_F} {pc : Nat} {lv : pm_Lv} {st : List Value} {h : pm_Hp} {cfs : List ck_Cf} (hMw : ck_Mw C.2.2.1.1 C.2.2.2.2.2) (hP : ck_Pats C pats rk rP h0 z dC) (hs : ck_arr C pats rk k T j θ = true) (hd : d = dC) (H : ck_H C.2.2.2.2.2 h0 (ck_Ph C.2.2.1.1 rP rk z [] cfs) T pc lv st h) : pm_run (pm_Cd d) k (ck_RQ d cfs (ck_QC C rP h0)) pc lv st h := by
  obtain ⟨hpc, hdec, r0, H0⟩ := H
  have H1 := H0 r0 (fun _ _ => rfl)
  have hcf : cfs = [] := by
    cases cfs with
    | nil => rfl
    | cons a b => exact H1.1.2.2.elim
  subst hcf
  subst hd
  unfold ck_arr at hs
  rw [ck_nth_ok] at hs
  cases hp : pats[j]? with
  | none => rw [hp] at hs; cases hs
  | some p =>
    rw [hp] at hs
    dsimp only at hs
    obtain ⟨b1, q⟩ := ck_and hs
    obtain ⟨b2, q⟩ := ck_and q
    obtain ⟨b3, q⟩ := ck_and q
    obtain ⟨b4, q⟩ := ck_and q
    obtain ⟨b5, q⟩ := ck_and q
    obtain ⟨b6, q⟩ := ck_and q
    obtain ⟨b7, b8⟩ := ck_and q
    have e1 := Nat.eq_of_beq_eq_true b1
    have e2 := Nat.eq_of_beq_eq_true b2
    have e3 := Nat.eq_of_beq_eq_true b3
    have sa0 : ck_sa T.1 h r0 := ⟨H1.2.1.1, H1.2.1.2.1, H1.2.1.2.2.1, H1.2.1.2.2.2.1⟩
    rw [e1, ← hpc, e2]
    refine hP j p hp (fun i => match θ[i]? with
      | some t => ck_ev r0 t
      | none => 0) lv st h hdec (fun r hr => ?_) (fun f hf => ?_)
    · have ht := ck_th_mk e3 hr
      have hg := ck_rig_ok sa0 ht b4
      have sp := ck_ms_ok b5 sa0 ht
      refine ⟨fun i hi => by rw [hg i hi]; exact H1.1.1 i hi, ⟨sp.1, sp.2.1, sp.2.2.1, sp.2.2.2, ck_ow_wf hMw hg H1.2.1.2.2.2.2⟩, ck_m6_ok sa0 ht H1.2.2.1 b6, ck_m5_ok sa0 ht b7 H1.2.2.2⟩
    · rw [hf] at b8
      dsimp only at b8
      cases h2 : ck_sb θ p.2 with
      | none => rw [h2] at b8; cases b8
      | some g =>
        rw [h2] at b8
        have ht := ck_th_mk (r0 := r0) (r := fun i => match θ[i]? with
          | some t => ck_ev r0 t
          | none => 0) e3 (fun _ _ => rfl)
        have g1 := ck_sb_ok ht h2
        have g2 := ck_N_ok H1.2.1 _ b8
        rw [ck_ev_fs, ck_ev_fa, ck_ev_k, H1.1.2.1 f hf] at g2
        have g2' : (1 : Int) + ck_ev r0 g - z ≤ 0 := g2
        omega
theorem ck_end_ok {j d : Nat} {T : ck_T} {θ : List ck_F} {vs : List ck_V} {lv : pm_Lv} {h : pm_Hp} {r0 : ck_R} {rv : Option Value} (hMw : ck_Mw C.2.2.1.1 C.2.2.2.2.2) (hs : ck_end C T vs j θ = true) (hdec : ck_dec h) (hag : ck_agr C.2.2.1.1 rP r0) (hsat : ck_sat C.2.2.2.2.2 h0 T.1 h r0) (hv : ck_ss r0 vs rv.toList) : ck_QC C rP h0 rv h := by
  unfold ck_end at hs
  rw [ck_nth_ok] at hs
  cases hp : C.2.2.2.2.1[j]? with
  | none => rw [hp] at hs; cases hs
  | some p =>
    rw [hp] at hs
    dsimp only at hs
    obtain ⟨b1, q⟩ := ck_and hs
    obtain ⟨b2, q⟩ := ck_and q
    obtain ⟨b3, q⟩ := ck_and q
    obtain ⟨b4, b5⟩ := ck_and q
    have e1 := Nat.eq_of_beq_eq_true b1
    have e2 := Nat.le_of_ble_eq_true b2
    have sa0 : ck_sa T.1 h r0 := ⟨hsat.1, hsat.2.1, hsat.2.2.1, hsat.2.2.2.1⟩
    have ht0 := ck_th_mk (r0 := r0) (r := fun i => match θ[i]? with
      | some t => ck_ev r0 t
      | none => 0) e1 (fun _ _ => rfl)
    have hg0 := ck_rig_ok sa0 ht0 b3
    refine ⟨hdec, p, List.mem_of_getElem? hp, (fun i => match θ[i]? with
      | some t => ck_ev r0 t
      | none => 0), fun i hi => by rw [hg0 i hi]; exact hag i hi, fun r hr => ?_⟩
    have ht := ck_th_mk e1 hr
    have hg := ck_rig_ok sa0 ht b3
    exact ⟨ck_ms_ok b4 sa0 ht, ck_m5_ok sa0 ht b5 hv, ck_ow_wf hMw hg hsat.2.2.2.2⟩
theorem ck_ex_ok (htab : ∀ (j : Nat) (Cj : ck_Co), tab[j]? = some Cj → ck_CO Cj) (hMw : ck_Mw C.2.2.1.1 C.2.2.2.2.2) (hP : ck_Pats C pats rk rP h0 z dC) : ∀ (fuel d cr k : Nat) (T : ck_T) (outer : List ck_Of) (c c' : List Nat) (cfs : List ck_Cf) (pc : Nat) (lv : pm_Lv) (st : List Value) (h : pm_Hp), ck_ex tab C pats rk fuel d cr k T outer c = some c' → d + outer.length = dC → ck_H C.2.2.2.2.2 h0 (ck_Ph C.2.2.1.1 rP rk z outer cfs) T pc lv st h → pm_run (pm_Cd d) k (ck_RQ d cfs (ck_QC C rP h0)) pc lv st h
  | 0, _, _, _, _, _, _, _, _, _, _, _, _, hs, _, _ => by cases hs
  | fuel + 1, d, cr, k, T, outer, c, c', cfs, pc, lv, st, h, hs, hdp, H => by
    have IH := ck_ex_ok htab hMw hP fuel
    obtain ⟨S, pc0, loc, stk⟩ := T
    have e0 : pc0 = pc := H.1
    subst e0
    obtain ⟨r0, hr0⟩ := ck_G_ex H.2.2
    -- states of a list, one of which holds
    have fold : ∀ (l : List ck_T) (c1 c2 : List Nat), ck_fo (fun T c => ck_ex tab C pats rk fuel d 0 k T outer c) l c1 = some c2 → ∀ nx : pm_Nx, ck_Sd C.2.2.2.2.2 h0 (ck_Ph C.2.2.1.1 rP rk z outer cfs) l nx → pm_run (pm_Cd d) k (ck_RQ d cfs (ck_QC C rP h0)) nx.1 nx.2.1 nx.2.2.1 nx.2.2.2 := by
      intro l c1 c2 hf nx hsd
      obtain ⟨T1, h1, h2⟩ := hsd
      obtain ⟨c3, c4, h3⟩ := ck_fo_ok hf T1 h1
      exact IH d 0 k T1 outer c3 c4 cfs _ _ _ _ h3 hdp h2
    cases cr with
    | succ cr =>
      have hs1 : ck_x1 (ck_ex tab C pats rk fuel) C.2.2.2.2.2 d cr k (S, pc0, loc, stk) outer c = some c' := hs
      unfold ck_x1 at hs1
      dsimp only at hs1
      cases hi : ck_ins k pc0 with
      | none => rw [hi] at hs1; cases hs1
      | some i =>
        rw [hi] at hs1
        dsimp only at hs1
        have hi1 := ck_ins_ok hi
        refine pm_fold (pm_Cd_mono d) ⟨i, hi1, ?_⟩
        cases b1 : (bif Nat.beq i.1 43 then true else Nat.beq i.1 44) with
        | true =>
          rw [b1] at hs1
          dsimp only [cond_true] at hs1
          cases d with
          | zero => cases hs1
          | succ d' =>
            dsimp only at hs1
            cases hc : ck_cal i stk with
            | none => rw [hc] at hs1; cases hs1
            | some x =>
              rw [hc] at hs1
              dsimp only at hs1
              rw [ck_nth_ok] at hs1
              cases hm : pm_M[i.2.2.2.2.1]? with
              | none => rw [hm] at hs1; cases hs1
              | some me =>
                rw [hm] at hs1
                dsimp only at hs1
                cases hb : Nat.ble (ck_cat x.1) me.2.2.1 with
                | false => rw [hb] at hs1; cases hs1
                | true =>
                  rw [hb] at hs1
                  dsimp only [cond_true] at hs1
                  obtain ⟨cas, crest, g1, g2⟩ := ck_cal_ok hc hr0.2.2.2
                  refine g2 _ _ _ _ _ _ ⟨⟨me, hm, ?_⟩, ?_⟩
                  · rw [ck_sl_len, ck_cat_ok (g1 r0 hr0.2.2.2).1]
                    exact Nat.le_of_ble_eq_true hb
                  · refine IH d' cr i.2.2.2.2.1 _ _ c c' ((k, pc0 + i.2.2.1, lv, crest) :: cfs) 0 (lv_args 0 cas) [] h hs1 (by rw [List.length_cons]; omega) ⟨rfl, H.2.1, ck_G_mono H.2.2 (fun r hr => ?_)⟩
                    have g3 := g1 r hr.2.2.2
                    exact ⟨⟨hr.1.1, hr.1.2.1, rfl, rfl, hr.2.2.1, g3.2, hr.1.2.2⟩, hr.2.1, ck_la_ok g3.1, trivial⟩
        | false =>
          rw [b1] at hs1
          dsimp only [cond_false] at hs1
          cases b2 : (bif Nat.ble 39 i.1 then Nat.ble i.1 42 else false) with
          | true =>
            rw [b2] at hs1
            dsimp only [cond_true] at hs1
            cases outer with
            | nil => cases hs1
            | cons f o =>
              dsimp only at hs1
              cases hc : ck_rtn S i stk with
              | none => rw [hc] at hs1; cases hs1
              | some vs =>
                rw [hc] at hs1
                dsimp only at hs1
                obtain ⟨rv, g1, g2⟩ := ck_rtn_ok hc hr0.2.2.2 hr0.2.1
                cases cfs with
                | nil => exact hr0.1.2.2.elim
                | cons g gs =>
                  refine g2 _ _ _ _ _ ?_
                  have hf0 := hr0.1.2.2
                  show pm_run (pm_Cd (d + 1)) g.1 (ck_RQ (d + 1) gs (ck_QC C rP h0)) g.2.1 g.2.2.1 (rv.toList ++ g.2.2.2) h
                  rw [← hf0.1]
                  refine IH (d + 1) cr f.1 _ o c c' gs g.2.1 g.2.2.1 (rv.toList ++ g.2.2.2) h hs1 (by rw [List.length_cons] at hdp; omega) ⟨hf0.2.1, H.2.1, ck_G_mono H.2.2 (fun r hr => ?_)⟩
                  have hf := hr.1.2.2
                  exact ⟨⟨hr.1.1, hr.1.2.1, hf.2.2.2.2⟩, hr.2.1, hf.2.2.1, ck_ss_app (g1 r hr.2.2.2) hf.2.2.2.1⟩
          | false =>
            rw [b2] at hs1
            dsimp only [cond_false] at hs1
            cases hst : ck_st C.2.2.2.2.2 i (S, pc0, loc, stk) with
            | none => rw [hst] at hs1; cases hs1
            | some l =>
              rw [hst] at hs1
              dsimp only at hs1
              obtain ⟨⟨nx, e1, hsd⟩, n1, n2, n3⟩ := ck_st_ok hst H
              refine ck_Fi_st n1 n2 n3 e1 ?_
              match l, hs1, hsd with
              | [], _, hsd =>
                obtain ⟨T1, h1, _⟩ := hsd
                exact absurd h1 List.not_mem_nil
              | [T1], hs1, hsd =>
                obtain ⟨T2, h1, h2⟩ := hsd
                rcases List.mem_cons.mp h1 with rfl | h1
                · exact IH d cr k T2 outer c c' cfs _ _ _ _ hs1 hdp h2
                · exact absurd h1 List.not_mem_nil
              | T1 :: T2 :: l2, hs1, hsd => exact fold _ c c' hs1 nx hsd
    | zero =>
      cases c with
      | nil => cases hs
      | cons t c1 =>
        match t, hs with
        | 0, hs =>
          cases c1 with
          | nil => cases hs
          | cons n c2 => exact IH d n k _ outer c2 c' cfs pc0 lv st h hs hdp H
        | 1, hs =>
          have hs1 : (match ck_op S c1 with
            | none => none
            | some x => ck_fo (fun T c => ck_ex tab C pats rk fuel d 0 k T outer c) (ck_mp pc0 loc stk x.1 []) x.2) = some c' := hs
          cases ho : ck_op S c1 with
          | none => rw [ho] at hs1; cases hs1
          | some x =>
            rw [ho] at hs1
            dsimp only at hs1
            obtain ⟨S', h1, h2⟩ := ck_op_ok (M := C.2.2.2.2.2) (h0 := h0) (h := h) (P := fun r => ck_Ph C.2.2.1.1 rP rk z outer cfs r ∧ ck_ls r loc lv ∧ ck_ss r stk st) H.2.1 ho (ck_G_mono H.2.2 (fun r hr => ⟨⟨hr.1, hr.2.2.1, hr.2.2.2⟩, hr.2.1⟩))
            exact fold _ _ _ hs1 (pc0, lv, st, h) ⟨_, ck_mp_l h1, rfl, H.2.1, ck_G_mono h2 (fun r hr => ⟨hr.1.1, hr.2, hr.1.2.1, hr.1.2.2⟩)⟩
        | 2, hs =>
          cases c1 with
          | nil => cases hs
          | cons j c2 =>
            have hs1 : (match ck_rTh c2 with
              | none => none
              | some θ => match (generalizing := false) outer with
                | _ :: _ => none
                | [] => bif ck_arr C pats rk k (S, pc0, loc, stk) j θ.1 then some θ.2 else none) = some c' := hs
            cases hθ : ck_rTh c2 with
            | none => rw [hθ] at hs1; cases hs1
            | some θ =>
              rw [hθ] at hs1
              dsimp only at hs1
              cases outer with
              | cons a b => cases hs1
              | nil =>
                dsimp only at hs1
                cases ha : ck_arr C pats rk k (S, pc0, loc, stk) j θ.1 with
                | false => rw [ha] at hs1; cases hs1
                | true => exact ck_arr_ok hMw hP ha hdp H
        | 3, hs =>
          cases c1 with
          | nil => cases hs
          | cons j c2 =>
            have hs1 : (match ck_rTh c2 with
              | none => none
              | some θ => match ck_ins k pc0 with
                | none => none
                | some i => match ck_cal i stk with
                  | none => none
                  | some x => match ck_nth tab j with
                    | none => none
                    | some Cj => bif (bif Nat.beq Cj.1 i.2.2.2.2.1 then Nat.ble Cj.2.1 d else false) then (match ck_us C.2.2.2.2.2 S Cj θ.1 x.1 with
                      | none => none
                      | some l => ck_fo (fun T c => ck_ex tab C pats rk fuel d 0 k T outer c) (ck_mq (pc0 + i.2.2.1) loc x.2 l) θ.2) else none) = some c' := hs
            cases hθ : ck_rTh c2 with
            | none => rw [hθ] at hs1; cases hs1
            | some θ =>
              rw [hθ] at hs1
              dsimp only at hs1
              cases hi : ck_ins k pc0 with
              | none => rw [hi] at hs1; cases hs1
              | some i =>
                rw [hi] at hs1
                dsimp only at hs1
                cases hc : ck_cal i stk with
                | none => rw [hc] at hs1; cases hs1
                | some x =>
                  rw [hc] at hs1
                  dsimp only at hs1
                  rw [ck_nth_ok] at hs1
                  cases hj : tab[j]? with
                  | none => rw [hj] at hs1; cases hs1
                  | some Cj =>
                    rw [hj] at hs1
                    dsimp only at hs1
                    cases hb : (bif Nat.beq Cj.1 i.2.2.2.2.1 then Nat.ble Cj.2.1 d else false) with
                    | false => rw [hb] at hs1; cases hs1
                    | true =>
                      rw [hb] at hs1
                      dsimp only [cond_true] at hs1
                      obtain ⟨b1, b2⟩ := ck_and hb
                      have e1 := Nat.eq_of_beq_eq_true b1
                      have e2 := Nat.le_of_ble_eq_true b2
                      cases hu : ck_us C.2.2.2.2.2 S Cj θ.1 x.1 with
                      | none => rw [hu] at hs1; cases hs1
                      | some l =>
                        rw [hu] at hs1
                        dsimp only at hs1
                        obtain ⟨cas, crest, g1, g2⟩ := ck_cal_ok hc hr0.2.2.2
                        refine pm_fold (pm_Cd_mono d) ⟨i, ck_ins_ok hi, g2 _ _ _ _ _ _ ?_⟩
                        have hcall := ck_us_ok (M := C.2.2.2.2.2) (h0 := h0) (h := h) (P := fun r => ck_Ph C.2.2.1.1 rP rk z outer cfs r ∧ ck_ls r loc lv ∧ ck_ss r x.1 cas ∧ ck_ss r x.2 crest) (cas := cas) hu (htab j Cj hj) H.2.1 (ck_G_mono H.2.2 (fun r hr => ⟨⟨hr.1, hr.2.2.1, g1 r hr.2.2.2⟩, hr.2.1⟩)) (fun r hr => hr.2.2.1)
                        rw [e1] at hcall
                        refine pm_Cd_mono d _ _ _ _ _ ?_ (pm_Cd_le e2 hcall)
                        intro rv h' hq
                        obtain ⟨hd', y, hy, hG⟩ := hq
                        exact fold _ _ _ hs1 (pc0 + i.2.2.1, lv, rv.toList ++ crest, h') ⟨_, ck_mq_mem hy, rfl, hd', ck_G_mono hG (fun r hr => ⟨hr.1.1, hr.2.1, hr.1.2.1, ck_ss_app hr.2.2 hr.1.2.2.2⟩)⟩
        | 4, hs =>
          cases c1 with
          | nil => cases hs
          | cons j c2 =>
            have hs1 : (match ck_rTh c2 with
              | none => none
              | some θ => match (generalizing := false) outer with
                | _ :: _ => none
                | [] => match ck_ins k pc0 with
                  | none => none
                  | some i => match ck_rtn S i stk with
                    | none => none
                    | some vs => bif ck_end C (S, pc0, loc, stk) vs j θ.1 then some θ.2 else none) = some c' := hs
            cases hθ : ck_rTh c2 with
            | none => rw [hθ] at hs1; cases hs1
            | some θ =>
              rw [hθ] at hs1
              dsimp only at hs1
              cases outer with
              | cons a b => cases hs1
              | nil =>
                dsimp only at hs1
                cases hi : ck_ins k pc0 with
                | none => rw [hi] at hs1; cases hs1
                | some i =>
                  rw [hi] at hs1
                  dsimp only at hs1
                  cases hc : ck_rtn S i stk with
                  | none => rw [hc] at hs1; cases hs1
                  | some vs =>
                    rw [hc] at hs1
                    dsimp only at hs1
                    cases ha : ck_end C (S, pc0, loc, stk) vs j θ.1 with
                    | false => rw [ha] at hs1; cases hs1
                    | true =>
                      obtain ⟨rv, g1, g2⟩ := ck_rtn_ok hc hr0.2.2.2 hr0.2.1
                      have hcf : cfs = [] := by
                        cases cfs with
                        | nil => rfl
                        | cons a b => exact hr0.1.2.2.elim
                      subst hcf
                      exact pm_fold (pm_Cd_mono d) ⟨i, ck_ins_ok hi, g2 _ _ _ _ _ (ck_end_ok (d := d) (lv := lv) hMw ha H.2.1 hr0.1.1 hr0.2.1 (g1 r0 hr0.2.2.2))⟩
        | 5, hs =>
          have hs1 : (match ck_ins k pc0 with
            | none => none
            | some i => bif (bif Nat.beq i.1 9 then Nat.beq i.2.2.2.2.2.1 4 else false) then (match ck_io S pc0 i.2.2.1 loc stk with
              | none => none
              | some l => ck_fo (fun T c => ck_ex tab C pats rk fuel d 0 k T outer c) l c1) else none) = some c' := hs
          cases hi : ck_ins k pc0 with
          | none => rw [hi] at hs1; cases hs1
          | some i =>
            rw [hi] at hs1
            dsimp only at hs1
            cases hb : (bif Nat.beq i.1 9 then Nat.beq i.2.2.2.2.2.1 4 else false) with
            | false => rw [hb] at hs1; cases hs1
            | true =>
              rw [hb] at hs1
              dsimp only [cond_true] at hs1
              obtain ⟨b1, b2⟩ := ck_and hb
              obtain ⟨f, rr, len, zz, a, b, cc⟩ := i
              have e1 : f = 9 := Nat.eq_of_beq_eq_true b1
              have e2 : b = 4 := Nat.eq_of_beq_eq_true b2
              subst e1
              subst e2
              dsimp only at hs1
              cases hio : ck_io S pc0 len loc stk with
              | none => rw [hio] at hs1; cases hs1
              | some l =>
                rw [hio] at hs1
                dsimp only at hs1
                obtain ⟨nx, e3, hsd⟩ := ck_io_ok (rr := rr) (a := a) (c := cc) (z := zz) hio H
                exact pm_fold (pm_Cd_mono d) ⟨_, ck_ins_ok hi, ck_Fi_st (by dsimp only; decide) (by dsimp only; decide) (by dsimp only; decide) e3 (fold _ _ _ hs1 nx hsd)⟩
        | _ + 6, hs => cases hs
end
