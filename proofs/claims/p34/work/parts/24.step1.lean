/-! The checker: steps without the heap. -/
def ck_Sd (M : ck_O) (h0 : pm_Hp) (Φ : ck_R → Prop) (L : List ck_T) (nx : pm_Nx) : Prop := ∃ T ∈ L, ck_H M h0 Φ T nx.1 nx.2.1 nx.2.2.1 nx.2.2.2
/-- the step of an instruction is there, and one of the states holds of it -/
def ck_St (M : ck_O) (h0 : pm_Hp) (Φ : ck_R → Prop) (L : List ck_T) (i : pm_Ins) (pc : Nat) (lv : pm_Lv) (st : List Value) (h : pm_Hp) : Prop := ∃ nx, pm_stp i pc lv st h = some nx ∧ ck_Sd M h0 Φ L nx
section
variable {M : ck_O} {h0 h : pm_Hp} {Φ : ck_R → Prop} {S : ck_S} {pc len rr a b c : Nat} {z : Int} {loc : ck_Lc} {stk : List ck_V} {lv : pm_Lv} {st : List Value} {L : List ck_T}
theorem ck_Sd_one {T : ck_T} {nx : pm_Nx} (H : ck_H M h0 Φ T nx.1 nx.2.1 nx.2.2.1 nx.2.2.2) : ck_Sd M h0 Φ [T] nx := ⟨T, List.mem_cons_self .., H⟩
theorem ck_vr_i {r : ck_R} {x : Int32} {f : ck_F} (h : x.toInt = ck_ev r f) : ck_vr r (0, f) (.int x) := ⟨x, rfl, h⟩
theorem ck_vr_l {r : ck_R} {x : Int64} {f : ck_F} (h : x.toInt = ck_ev r f) : ck_vr r (1, f) (.long x) := ⟨x, rfl, h⟩
theorem ck_vr_r {r : ck_R} {q : Nat} {f : ck_F} (h : (q : Int) = ck_ev r f) : ck_vr r (2, f) (.ref q) := ⟨q, rfl, h⟩
/-- constants -/
def ck_o0 (S : ck_S) (pc len : Nat) (z : Int) (loc : ck_Lc) (stk : List ck_V) : Option (List ck_T) := bif ck_sub ck_lo ck_hi (z, z) then some [(S, pc + len, loc, (0, (z, [])) :: stk)] else none
def ck_o1 (S : ck_S) (pc len : Nat) (z : Int) (loc : ck_Lc) (stk : List ck_V) : Option (List ck_T) := bif ck_sub ck_ll ck_lh (z, z) then some [(S, pc + len, loc, (1, (z, [])) :: stk)] else none
theorem ck_o0_ok (hs : ck_o0 S pc len z loc stk = some L) (H : ck_H M h0 Φ (S, pc, loc, stk) pc lv st h) : ck_St M h0 Φ L (0, rr, len, z, a, b, c) pc lv st h := by
  unfold ck_o0 at hs
  cases hb : ck_sub ck_lo ck_hi (z, z) with
  | false => rw [hb] at hs; cases hs
  | true =>
    rw [hb] at hs
    cases hs
    have h1 := ck_sub_ok hb
    rw [ck_lo_eq, ck_hi_eq] at h1
    have e1 : (Int32.ofInt z).toInt = z := Int32.toInt_ofInt_of_le (by omega) (by omega)
    exact ⟨_, rfl, ck_Sd_one ⟨rfl, H.2.1, ck_G_mono H.2.2 (fun r hr => ⟨hr.1, hr.2.1, hr.2.2.1, ck_vr_i (by rw [ck_ev_k]; exact e1), hr.2.2.2⟩)⟩⟩
theorem ck_o1_ok (hs : ck_o1 S pc len z loc stk = some L) (H : ck_H M h0 Φ (S, pc, loc, stk) pc lv st h) : ck_St M h0 Φ L (1, rr, len, z, a, b, c) pc lv st h := by
  unfold ck_o1 at hs
  cases hb : ck_sub ck_ll ck_lh (z, z) with
  | false => rw [hb] at hs; cases hs
  | true =>
    rw [hb] at hs
    cases hs
    have h1 := ck_sub_ok hb
    rw [ck_ll_eq, ck_lh_eq] at h1
    have e1 : (Int64.ofInt z).toInt = z := Int64.toInt_ofInt_of_le (by omega) (by omega)
    exact ⟨_, rfl, ck_Sd_one ⟨rfl, H.2.1, ck_G_mono H.2.2 (fun r hr => ⟨hr.1, hr.2.1, hr.2.2.1, ck_vr_l (by rw [ck_ev_k]; exact e1), hr.2.2.2⟩)⟩⟩
/-- loads -/
noncomputable def ck_o2 (t : Nat) (S : ck_S) (pc len a : Nat) (loc : ck_Lc) (stk : List ck_V) : Option (List ck_T) := match ck_lg loc a with
  | none => none
  | some v => bif Nat.beq v.1 t then some [(S, pc + len, loc, v :: stk)] else none
theorem ck_o2_get {t : Nat} (hs : ck_o2 t S pc len a loc stk = some L) (H : ck_H M h0 Φ (S, pc, loc, stk) pc lv st h) : ∃ f v, pm_lg lv a = some v ∧ L = [(S, pc + len, loc, (t, f) :: stk)] ∧ (∃ r, ck_vr r (t, f) v) ∧ ck_H M h0 Φ (S, pc + len, loc, (t, f) :: stk) (pc + len) lv (v :: st) h := by
  unfold ck_o2 at hs
  cases hg : ck_lg loc a with
  | none => rw [hg] at hs; cases hs
  | some x =>
    rw [hg] at hs
    dsimp only at hs
    cases hb : Nat.beq x.1 t with
    | false => rw [hb] at hs; cases hs
    | true =>
      rw [hb] at hs
      cases hs
      have e1 := Nat.eq_of_beq_eq_true hb
      obtain ⟨t', f⟩ := x
      have e2 : t' = t := e1
      subst e2
      obtain ⟨r0, hr0⟩ := ck_G_ex H.2.2
      obtain ⟨v, h1, h2⟩ := ck_lg_ok hg hr0.2.2.1
      refine ⟨f, v, h1, rfl, ⟨r0, h2⟩, rfl, H.2.1, ck_G_mono H.2.2 (fun r hr => ⟨hr.1, hr.2.1, hr.2.2.1, ?_, hr.2.2.2⟩)⟩
      obtain ⟨v', h3, h4⟩ := ck_lg_ok hg hr.2.2.1
      have e3 : v = v' := Option.some.inj (h1.symm.trans h3)
      subst e3
      exact h4
theorem ck_o2_ok (hs : ck_o2 0 S pc len a loc stk = some L) (H : ck_H M h0 Φ (S, pc, loc, stk) pc lv st h) : ck_St M h0 Φ L (2, rr, len, z, a, b, c) pc lv st h := by
  obtain ⟨f, v, h1, rfl, ⟨r, x, rfl, _⟩, h3⟩ := ck_o2_get hs H
  refine ⟨(pc + len, lv, .int x :: st, h), ?_, ck_Sd_one h3⟩
  show pm_gI (pm_lg lv a) _ = _
  rw [h1]
  rfl
theorem ck_o3_ok (hs : ck_o2 1 S pc len a loc stk = some L) (H : ck_H M h0 Φ (S, pc, loc, stk) pc lv st h) : ck_St M h0 Φ L (3, rr, len, z, a, b, c) pc lv st h := by
  obtain ⟨f, v, h1, rfl, ⟨r, x, rfl, _⟩, h3⟩ := ck_o2_get hs H
  refine ⟨(pc + len, lv, .long x :: st, h), ?_, ck_Sd_one h3⟩
  show pm_gL (pm_lg lv a) _ = _
  rw [h1]
  rfl
theorem ck_o4_ok (hs : ck_o2 2 S pc len a loc stk = some L) (H : ck_H M h0 Φ (S, pc, loc, stk) pc lv st h) : ck_St M h0 Φ L (4, rr, len, z, a, b, c) pc lv st h := by
  obtain ⟨f, v, h1, rfl, ⟨r, x, rfl, _⟩, h3⟩ := ck_o2_get hs H
  refine ⟨(pc + len, lv, .ref x :: st, h), ?_, ck_Sd_one h3⟩
  show pm_gR (pm_lg lv a) _ = _
  rw [h1]
  rfl
/-- stores -/
noncomputable def ck_o5 (S : ck_S) (pc len a : Nat) (loc : ck_Lc) (stk : List ck_V) : Option (List ck_T) := ck_pI stk fun f t => some [(S, pc + len, (a, (0, f)) :: ck_lf a false loc, t)]
noncomputable def ck_o6 (S : ck_S) (pc len a : Nat) (loc : ck_Lc) (stk : List ck_V) : Option (List ck_T) := ck_pL stk fun f t => some [(S, pc + len, (a, (1, f)) :: ck_lf a true loc, t)]
noncomputable def ck_o7 (S : ck_S) (pc len a : Nat) (loc : ck_Lc) (stk : List ck_V) : Option (List ck_T) := ck_pR stk fun q t => some [(S, pc + len, (a, (2, ((q : Int), []))) :: ck_lf a false loc, t)]
theorem ck_o5_ok (hs : ck_o5 S pc len a loc stk = some L) (H : ck_H M h0 Φ (S, pc, loc, stk) pc lv st h) : ck_St M h0 Φ L (5, rr, len, z, a, b, c) pc lv st h := by
  obtain ⟨r0, hr0⟩ := ck_G_ex H.2.2
  obtain ⟨f, t, x, st', rfl, h1, h2⟩ := ck_pI_ok hs hr0.2.2.2
  cases h1
  exact ⟨(pc + len, pm_l1 lv a (.int x), st', h), rfl, ck_Sd_one ⟨rfl, H.2.1, ck_G_mono H.2.2 (fun r hr => ⟨hr.1, hr.2.1, ck_ls_l1 hr.2.2.1 (ck_vr_i (h2 r hr.2.2.2).1), (h2 r hr.2.2.2).2⟩)⟩⟩
theorem ck_o6_ok (hs : ck_o6 S pc len a loc stk = some L) (H : ck_H M h0 Φ (S, pc, loc, stk) pc lv st h) : ck_St M h0 Φ L (6, rr, len, z, a, b, c) pc lv st h := by
  obtain ⟨r0, hr0⟩ := ck_G_ex H.2.2
  obtain ⟨f, t, x, st', rfl, h1, h2⟩ := ck_pL_ok hs hr0.2.2.2
  cases h1
  exact ⟨(pc + len, pm_l2 lv a (.long x), st', h), rfl, ck_Sd_one ⟨rfl, H.2.1, ck_G_mono H.2.2 (fun r hr => ⟨hr.1, hr.2.1, ck_ls_l2 hr.2.2.1 (ck_vr_l (h2 r hr.2.2.2).1), (h2 r hr.2.2.2).2⟩)⟩⟩
theorem ck_o7_ok (hs : ck_o7 S pc len a loc stk = some L) (H : ck_H M h0 Φ (S, pc, loc, stk) pc lv st h) : ck_St M h0 Φ L (7, rr, len, z, a, b, c) pc lv st h := by
  obtain ⟨r0, hr0⟩ := ck_G_ex H.2.2
  obtain ⟨q, t, st', rfl, h1, h2⟩ := ck_pR_ok hs hr0.2.2.2
  cases h1
  exact ⟨(pc + len, pm_l1 lv a (.ref q), st', h), rfl, ck_Sd_one ⟨rfl, H.2.1, ck_G_mono H.2.2 (fun r hr => ⟨hr.1, hr.2.1, ck_ls_l1 hr.2.2.1 (ck_vr_r (by rw [ck_ev_k])), h2 r hr.2.2.2⟩)⟩⟩
/-- a result goes to the stack, or to a local -/
theorem ck_put {w : ck_W} {v : Value} {x : Int} {t : Nat} {u : List ck_V} {su : List Value} {pc' : Nat} (hd : ck_dec h) (HG : ck_G S.1 (fun r => (Φ r ∧ ck_ls r loc lv ∧ ck_ss r u su) ∧ ck_sat M h0 S h r)) (hw : ∀ r, ck_es S.2.1 r → ck_ss r stk st → ck_rz r w x) (hsu : ∀ r, Φ r ∧ ck_ls r loc lv ∧ ck_ss r u su → ck_ss r stk st) (hv : ∀ r f, x = ck_ev r f → ck_vr r (t, f) v) : ck_H M h0 Φ ((ck_pu S w).1, pc', loc, (t, (ck_pu S w).2) :: u) pc' lv (v :: su) h := by
  refine ⟨rfl, hd, ck_G_mono (ck_pu_ok (v := x) HG (fun r hr hsat => hw r hsat.1 (hsu r hr))) (fun r hr => ?_)⟩
  exact ⟨hr.1.1, hr.2.1, hr.1.2.1, hv r _ hr.2.2, hr.1.2.2⟩
theorem ck_res {w : ck_W} {v : Value} {x : Int} {t : Nat} {u : List ck_V} {su : List Value} {pc' : Nat} (H : ck_H M h0 Φ (S, pc, loc, stk) pc lv st h) (hu : ∀ r, ck_ss r stk st → ck_ss r u su) (hw : ∀ r, ck_es S.2.1 r → ck_ss r stk st → ck_rz r w x) (hv : ∀ r f, x = ck_ev r f → ck_vr r (t, f) v) : ck_H M h0 Φ ((ck_pu S w).1, pc', loc, (t, (ck_pu S w).2) :: u) pc' lv (v :: su) h := by
  refine ⟨rfl, H.2.1, ck_G_mono (ck_pu_ok (M := M) (h0 := h0) (h := h) (v := x) (P := fun r => Φ r ∧ ck_ls r loc lv ∧ ck_ss r stk st) (ck_G_mono H.2.2 (fun r hr => ⟨⟨hr.1, hr.2.2.1, hr.2.2.2⟩, hr.2.1⟩)) (fun r hr hsat => hw r hsat.1 hr.2.2)) (fun r hr => ?_)⟩
  exact ⟨hr.1.1, hr.2.1, hr.1.2.1, hv r _ hr.2.2, hu r hr.1.2.2⟩
noncomputable def ck_o8 (S : ck_S) (pc len a : Nat) (z : Int) (loc : ck_Lc) (stk : List ck_V) : Option (List ck_T) := match ck_lg loc a with
  | none => none
  | some v => bif (bif Nat.beq v.1 0 then ck_sub ck_lo ck_hi (z, z) else false) then some [((ck_pu S (ck_fi S.2.1 (ck_fa (z, []) v.2))).1, pc + len, (a, (0, (ck_pu S (ck_fi S.2.1 (ck_fa (z, []) v.2))).2)) :: ck_lf a false loc, stk)] else none
theorem ck_o8_ok (hs : ck_o8 S pc len a z loc stk = some L) (H : ck_H M h0 Φ (S, pc, loc, stk) pc lv st h) : ck_St M h0 Φ L (8, rr, len, z, a, b, c) pc lv st h := by
  unfold ck_o8 at hs
  cases hg : ck_lg loc a with
  | none => rw [hg] at hs; cases hs
  | some q =>
    rw [hg] at hs
    dsimp only at hs
    cases hb : (bif Nat.beq q.1 0 then ck_sub ck_lo ck_hi (z, z) else false) with
    | false => rw [hb] at hs; cases hs
    | true =>
      rw [hb] at hs
      cases hs
      obtain ⟨b1, b2⟩ := ck_and hb
      have e1 := Nat.eq_of_beq_eq_true b1
      obtain ⟨t, f⟩ := q
      have e2 : t = 0 := e1
      subst e2
      have h1 := ck_sub_ok b2
      rw [ck_lo_eq, ck_hi_eq] at h1
      have e3 : (Int32.ofInt z).toInt = z := Int32.toInt_ofInt_of_le (by omega) (by omega)
      obtain ⟨r0, hr0⟩ := ck_G_ex H.2.2
      obtain ⟨v, h2, x, rfl, _⟩ := ck_lg_ok hg hr0.2.2.1
      refine ⟨(pc + len, pm_l1 lv a (.int (x + Int32.ofInt z)), st, h), ?_, ck_Sd_one ⟨rfl, H.2.1, ?_⟩⟩
      · show pm_gI (pm_lg lv a) _ = _
        rw [h2]
        rfl
      · refine ck_G_mono (ck_pu_ok (M := M) (h0 := h0) (h := h) (v := (x + Int32.ofInt z).toInt) (P := fun r => Φ r ∧ ck_ls r loc lv ∧ ck_ss r stk st) (ck_G_mono H.2.2 (fun r hr => ⟨⟨hr.1, hr.2.2.1, hr.2.2.2⟩, hr.2.1⟩)) (fun r hr hsat => ?_)) (fun r hr => ?_)
        · obtain ⟨v', h3, x', e4, e5⟩ := ck_lg_ok hg hr.2.1
          have e6 : Value.int x = v' := Option.some.inj (h2.symm.trans h3)
          rw [← e6] at e4
          cases e4
          refine ck_fi_ok hsat.1 ?_
          rw [Int32.toInt_add, ck_ev_fa, ck_ev_k, e3, ← e5, Int.add_comm]
        · exact ⟨hr.1.1, hr.2.1, ck_ls_l1 hr.1.2.1 (ck_vr_i hr.2.2), hr.1.2.2⟩
noncomputable def ck_o9 (S : ck_S) (pc len b : Nat) (loc : ck_Lc) (stk : List ck_V) : Option (List ck_T) := ck_pI stk fun y t => ck_pI t fun x u => match ck_bo S.2.1 b x y with
  | none => none
  | some w => some [((ck_pu S w).1, pc + len, loc, (0, (ck_pu S w).2) :: u)]
theorem ck_o9_ok (hs : ck_o9 S pc len b loc stk = some L) (H : ck_H M h0 Φ (S, pc, loc, stk) pc lv st h) : ck_St M h0 Φ L (9, rr, len, z, a, b, c) pc lv st h := by
  obtain ⟨r0, hr0⟩ := ck_G_ex H.2.2
  obtain ⟨fy, t, y, st', rfl, h1, h2⟩ := ck_pI_ok hs hr0.2.2.2
  obtain ⟨fx, u, x, su, rfl, h3, h4⟩ := ck_pI_ok h1 (h2 r0 hr0.2.2.2).2
  cases hw : ck_bo S.2.1 b fx fy with
  | none => rw [hw] at h3; cases h3
  | some w =>
    rw [hw] at h3
    cases h3
    obtain ⟨v, e1, _⟩ := ck_bo_ok hw hr0.2.1.1 (h4 r0 (h2 r0 hr0.2.2.2).2).1 (h2 r0 hr0.2.2.2).1
    refine ⟨(pc + len, lv, .int v :: su, h), ?_, ck_Sd_one (ck_res (x := v.toInt) H (fun r hr => (h4 r (h2 r hr).2).2) (fun r hE hr => ?_) (fun r f hf => ck_vr_i hf))⟩
    · show (pm_bop b x y).bind _ = _
      rw [e1]
      rfl
    · obtain ⟨v', e2, h5⟩ := ck_bo_ok hw hE (h4 r (h2 r hr).2).1 (h2 r hr).1
      have e3 : v = v' := Option.some.inj (e1.symm.trans e2)
      subst e3
      exact h5
noncomputable def ck_o10 (S : ck_S) (pc len : Nat) (loc : ck_Lc) (stk : List ck_V) : Option (List ck_T) := ck_pI stk fun x u => some [((ck_pu S (ck_fi S.2.1 (ck_fk (-1) x))).1, pc + len, loc, (0, (ck_pu S (ck_fi S.2.1 (ck_fk (-1) x))).2) :: u)]
theorem ck_o10_ok (hs : ck_o10 S pc len loc stk = some L) (H : ck_H M h0 Φ (S, pc, loc, stk) pc lv st h) : ck_St M h0 Φ L (10, rr, len, z, a, b, c) pc lv st h := by
  obtain ⟨r0, hr0⟩ := ck_G_ex H.2.2
  obtain ⟨fx, u, x, su, rfl, h1, h2⟩ := ck_pI_ok hs hr0.2.2.2
  cases h1
  refine ⟨(pc + len, lv, .int (-x) :: su, h), rfl, ck_Sd_one (ck_res (x := (-x).toInt) H (fun r hr => (h2 r hr).2) (fun r hE hr => ck_fi_ok hE ?_) (fun r f hf => ck_vr_i hf))⟩
  rw [Int32.toInt_neg, ck_ev_fk, (h2 r hr).1]
  congr 1
  omega
noncomputable def ck_o11 (S : ck_S) (pc len b : Nat) (loc : ck_Lc) (stk : List ck_V) : Option (List ck_T) := ck_pL stk fun y t => ck_pL t fun x u => match b with
  | 0 => some [((ck_pu S (ck_fl S.2.1 (ck_fa x y))).1, pc + len, loc, (1, (ck_pu S (ck_fl S.2.1 (ck_fa x y))).2) :: u)]
  | _ => bif Nat.blt b 4 then some [((ck_pu S ck_tol).1, pc + len, loc, (1, (ck_pu S ck_tol).2) :: u)] else none
theorem ck_o11_ok (hs : ck_o11 S pc len b loc stk = some L) (H : ck_H M h0 Φ (S, pc, loc, stk) pc lv st h) : ck_St M h0 Φ L (11, rr, len, z, a, b, c) pc lv st h := by
  obtain ⟨r0, hr0⟩ := ck_G_ex H.2.2
  obtain ⟨fy, t, y, st', rfl, h1, h2⟩ := ck_pL_ok hs hr0.2.2.2
  obtain ⟨fx, u, x, su, rfl, h3, h4⟩ := ck_pL_ok h1 (h2 r0 hr0.2.2.2).2
  have top : ∀ v : Int64, pm_lop b x y = some v → L = [((ck_pu S ck_tol).1, pc + len, loc, (1, (ck_pu S ck_tol).2) :: u)] → ck_St M h0 Φ L (11, rr, len, z, a, b, c) pc lv (.long y :: .long x :: su) h := by
    intro v hv hL
    subst hL
    refine ⟨(pc + len, lv, .long v :: su, h), ?_, ck_Sd_one (ck_res (x := v.toInt) H (fun r hr => (h4 r (h2 r hr).2).2) (fun r hE hr => ck_tol_ok r v) (fun r f hf => ck_vr_l hf))⟩
    show (pm_lop b x y).bind _ = _
    rw [hv]
    rfl
  match b, h3, top with
  | 0, h3, _ =>
    cases h3
    refine ⟨(pc + len, lv, .long (x + y) :: su, h), rfl, ck_Sd_one (ck_res (x := (x + y).toInt) H (fun r hr => (h4 r (h2 r hr).2).2) (fun r hE hr => ck_fl_ok hE ?_) (fun r f hf => ck_vr_l hf))⟩
    rw [Int64.toInt_add, ck_ev_fa, (h4 r (h2 r hr).2).1, (h2 r hr).1]
  | 1, h3, top => cases h3; exact top _ rfl rfl
  | 2, h3, top => cases h3; exact top _ rfl rfl
  | 3, h3, top => cases h3; exact top _ rfl rfl
  | n + 4, h3, _ =>
    have e1 : Nat.blt (n + 4) 4 = false := by
      cases hb : Nat.blt (n + 4) 4 with
      | false => rfl
      | true => simp only [Nat.blt_eq] at hb; omega
    have h3' : (bif Nat.blt (n + 4) 4 then some [((ck_pu S ck_tol).1, pc + len, loc, (1, (ck_pu S ck_tol).2) :: u)] else none) = some L := h3
    rw [e1] at h3'
    cases h3'
noncomputable def ck_o12 (S : ck_S) (pc len b : Nat) (loc : ck_Lc) (stk : List ck_V) : Option (List ck_T) := ck_pI stk fun _ t => ck_pL t fun _ u => match b with
  | 0 => some [((ck_pu S ck_tol).1, pc + len, loc, (1, (ck_pu S ck_tol).2) :: u)]
  | 1 => some [((ck_pu S ck_tol).1, pc + len, loc, (1, (ck_pu S ck_tol).2) :: u)]
  | _ => none
theorem ck_o12_ok (hs : ck_o12 S pc len b loc stk = some L) (H : ck_H M h0 Φ (S, pc, loc, stk) pc lv st h) : ck_St M h0 Φ L (12, rr, len, z, a, b, c) pc lv st h := by
  obtain ⟨r0, hr0⟩ := ck_G_ex H.2.2
  obtain ⟨fy, t, y, st', rfl, h1, h2⟩ := ck_pI_ok hs hr0.2.2.2
  obtain ⟨fx, u, x, su, rfl, h3, h4⟩ := ck_pL_ok h1 (h2 r0 hr0.2.2.2).2
  have top : ∀ v : Int64, ck_H M h0 Φ ((ck_pu S ck_tol).1, pc + len, loc, (1, (ck_pu S ck_tol).2) :: u) (pc + len) lv (.long v :: su) h := fun v => ck_res (x := v.toInt) H (fun r hr => (h4 r (h2 r hr).2).2) (fun r hE hr => ck_tol_ok r v) (fun r f hf => ck_vr_l hf)
  match b, h3 with
  | 0, h3 => cases h3; exact ⟨(pc + len, lv, _ :: su, h), rfl, ck_Sd_one (top _)⟩
  | 1, h3 => cases h3; exact ⟨(pc + len, lv, _ :: su, h), rfl, ck_Sd_one (top _)⟩
  | _ + 2, h3 => cases h3
noncomputable def ck_o14 (S : ck_S) (pc len : Nat) (loc : ck_Lc) (stk : List ck_V) : Option (List ck_T) := ck_pI stk fun x u => some [(S, pc + len, loc, (1, x) :: u)]
theorem ck_o14_ok (hs : ck_o14 S pc len loc stk = some L) (H : ck_H M h0 Φ (S, pc, loc, stk) pc lv st h) : ck_St M h0 Φ L (14, rr, len, z, a, b, c) pc lv st h := by
  obtain ⟨r0, hr0⟩ := ck_G_ex H.2.2
  obtain ⟨fx, u, x, su, rfl, h1, h2⟩ := ck_pI_ok hs hr0.2.2.2
  cases h1
  exact ⟨(pc + len, lv, .long x.toInt64 :: su, h), rfl, ck_Sd_one ⟨rfl, H.2.1, ck_G_mono H.2.2 (fun r hr => ⟨hr.1, hr.2.1, hr.2.2.1, ck_vr_l (by rw [Int32.toInt_toInt64]; exact (h2 r hr.2.2.2).1), (h2 r hr.2.2.2).2⟩)⟩⟩
noncomputable def ck_o15 (S : ck_S) (pc len : Nat) (loc : ck_Lc) (stk : List ck_V) : Option (List ck_T) := ck_pL stk fun x u => some [((ck_pu S (ck_fi S.2.1 x)).1, pc + len, loc, (0, (ck_pu S (ck_fi S.2.1 x)).2) :: u)]
theorem ck_o15_ok (hs : ck_o15 S pc len loc stk = some L) (H : ck_H M h0 Φ (S, pc, loc, stk) pc lv st h) : ck_St M h0 Φ L (15, rr, len, z, a, b, c) pc lv st h := by
  obtain ⟨r0, hr0⟩ := ck_G_ex H.2.2
  obtain ⟨fx, u, x, su, rfl, h1, h2⟩ := ck_pL_ok hs hr0.2.2.2
  cases h1
  exact ⟨(pc + len, lv, .int x.toInt32 :: su, h), rfl, ck_Sd_one (ck_res (x := x.toInt32.toInt) H (fun r hr => (h2 r hr).2) (fun r hE hr => ck_fi_ok hE (by rw [Int64.toInt_toInt32, (h2 r hr).1])) (fun r f hf => ck_vr_i hf))⟩
noncomputable def ck_fb (E : ck_E) (f : ck_F) : ck_W := match ck_pl E f with
  | none => (false, (.ofNat 0, []), -128, 127)
  | some w => bif ck_sub (-128) 127 w then (true, f, .ofNat 0, .ofNat 0) else (false, (.ofNat 0, []), -128, 127)
theorem ck_fb_ok {E : ck_E} {r : ck_R} {f : ck_F} {x : Int32} (hE : ck_es E r) (h : x.toInt = ck_ev r f) : ck_rz r (ck_fb E f) x.toInt8.toInt32.toInt := by
  have e0 : x.toInt8.toInt32.toInt = x.toInt.bmod (2 ^ 8) := by rw [Int8.toInt_toInt32, Int32.toInt_toInt8]
  have h1 : -128 ≤ x.toInt8.toInt32.toInt ∧ x.toInt8.toInt32.toInt ≤ 127 := by
    rw [Int8.toInt_toInt32]
    have g1 := Int8.le_toInt x.toInt8
    have g2 := Int8.toInt_lt x.toInt8
    constructor <;> omega
  unfold ck_fb
  cases hp : ck_pl E f with
  | none => exact ck_rz_i h1.1 h1.2
  | some w =>
    have h2 := ck_pl_ok hE hp
    dsimp only
    cases hb : ck_sub (-128) 127 w with
    | false => exact ck_rz_i h1.1 h1.2
    | true =>
      have h3 := ck_sub_ok hb
      refine ck_rz_f ?_
      rw [e0, ← h]
      exact ck_bm8 (by omega) (by omega)
noncomputable def ck_o16 (S : ck_S) (pc len : Nat) (loc : ck_Lc) (stk : List ck_V) : Option (List ck_T) := ck_pI stk fun x u => some [((ck_pu S (ck_fb S.2.1 x)).1, pc + len, loc, (0, (ck_pu S (ck_fb S.2.1 x)).2) :: u)]
theorem ck_o16_ok (hs : ck_o16 S pc len loc stk = some L) (H : ck_H M h0 Φ (S, pc, loc, stk) pc lv st h) : ck_St M h0 Φ L (16, rr, len, z, a, b, c) pc lv st h := by
  obtain ⟨r0, hr0⟩ := ck_G_ex H.2.2
  obtain ⟨fx, u, x, su, rfl, h1, h2⟩ := ck_pI_ok hs hr0.2.2.2
  cases h1
  exact ⟨(pc + len, lv, .int x.toInt8.toInt32 :: su, h), rfl, ck_Sd_one (ck_res (x := x.toInt8.toInt32.toInt) H (fun r hr => (h2 r hr).2) (fun r hE hr => ck_fb_ok hE (h2 r hr).1) (fun r f hf => ck_vr_i hf))⟩
/-- the stack alone -/
def ck_p1 {α : Type} (s : List ck_V) (k : ck_V → List ck_V → Option α) : Option α := match s with
  | [] => none
  | a :: t => bif Nat.beq a.1 1 then none else k a t
theorem ck_p1_ok {α : Type} {s : List ck_V} {k : ck_V → List ck_V → Option α} {y : α} {st : List Value} {r0 : ck_R} (h : ck_p1 s k = some y) (h0 : ck_ss r0 s st) : ∃ a t v st', st = v :: st' ∧ v.category = 1 ∧ k a t = some y ∧ ∀ r, ck_ss r s st → ck_vr r a v ∧ ck_ss r t st' := by
  match s, st, h, h0 with
  | [], _, h, _ => cases h
  | a :: t, [], _, h0 => exact h0.elim
  | a :: t, v :: st', h, h0 =>
    have h1 : (bif Nat.beq a.1 1 then none else k a t) = some y := h
    have h2 := ck_vr_cat h0.1
    cases hb : Nat.beq a.1 1 with
    | true => rw [hb] at h1; cases h1
    | false =>
      rw [hb] at h1 h2
      exact ⟨a, t, v, st', rfl, h2, h1, fun r hr => hr⟩
noncomputable def ck_o17 (S : ck_S) (pc len : Nat) (loc : ck_Lc) (stk : List ck_V) : Option (List ck_T) := ck_p1 stk fun v t => some [(S, pc + len, loc, v :: v :: t)]
theorem ck_o17_ok (hs : ck_o17 S pc len loc stk = some L) (H : ck_H M h0 Φ (S, pc, loc, stk) pc lv st h) : ck_St M h0 Φ L (17, rr, len, z, a, b, c) pc lv st h := by
  obtain ⟨r0, hr0⟩ := ck_G_ex H.2.2
  obtain ⟨q, t, v, st', rfl, hc, h1, h2⟩ := ck_p1_ok hs hr0.2.2.2
  cases h1
  exact ⟨(pc + len, lv, v :: v :: st', h), if_pos hc, ck_Sd_one ⟨rfl, H.2.1, ck_G_mono H.2.2 (fun r hr => ⟨hr.1, hr.2.1, hr.2.2.1, (h2 r hr.2.2.2).1, h2 r hr.2.2.2⟩)⟩⟩
noncomputable def ck_o18 (S : ck_S) (pc len : Nat) (loc : ck_Lc) (stk : List ck_V) : Option (List ck_T) := ck_p1 stk fun _ t => some [(S, pc + len, loc, t)]
theorem ck_o18_ok (hs : ck_o18 S pc len loc stk = some L) (H : ck_H M h0 Φ (S, pc, loc, stk) pc lv st h) : ck_St M h0 Φ L (18, rr, len, z, a, b, c) pc lv st h := by
  obtain ⟨r0, hr0⟩ := ck_G_ex H.2.2
  obtain ⟨q, t, v, st', rfl, hc, h1, h2⟩ := ck_p1_ok hs hr0.2.2.2
  cases h1
  exact ⟨(pc + len, lv, st', h), if_pos hc, ck_Sd_one ⟨rfl, H.2.1, ck_G_mono H.2.2 (fun r hr => ⟨hr.1, hr.2.1, hr.2.2.1, (h2 r hr.2.2.2).2⟩)⟩⟩
noncomputable def ck_o19 (S : ck_S) (pc len : Nat) (loc : ck_Lc) (stk : List ck_V) : Option (List ck_T) := ck_p1 stk fun v t => ck_p1 t fun w u => some [(S, pc + len, loc, v :: w :: v :: w :: u)]
theorem ck_o19_ok (hs : ck_o19 S pc len loc stk = some L) (H : ck_H M h0 Φ (S, pc, loc, stk) pc lv st h) : ck_St M h0 Φ L (19, rr, len, z, a, b, c) pc lv st h := by
  obtain ⟨r0, hr0⟩ := ck_G_ex H.2.2
  obtain ⟨q, t, v, st', rfl, hc, h1, h2⟩ := ck_p1_ok hs hr0.2.2.2
  obtain ⟨q2, u, w, su, rfl, hc2, h3, h4⟩ := ck_p1_ok h1 (h2 r0 hr0.2.2.2).2
  cases h3
  refine ⟨(pc + len, lv, v :: w :: v :: w :: su, h), ?_, ck_Sd_one ⟨rfl, H.2.1, ck_G_mono H.2.2 (fun r hr => ⟨hr.1, hr.2.1, hr.2.2.1, ?_⟩)⟩⟩
  · show (if v.category = 1 then (if w.category = 1 then some (pc + len, lv, v :: w :: v :: w :: su, h) else none) else none) = _
    rw [if_pos hc, if_pos hc2]
  · have g1 := h2 r hr.2.2.2
    have g2 := h4 r g1.2
    exact ⟨g1.1, g2.1, g1.1, g2.1, g2.2⟩
def ck_o20 (S : ck_S) (a : Nat) (loc : ck_Lc) (stk : List ck_V) : Option (List ck_T) := some [(S, a, loc, stk)]
theorem ck_o20_ok (hs : ck_o20 S a loc stk = some L) (H : ck_H M h0 Φ (S, pc, loc, stk) pc lv st h) : ck_St M h0 Φ L (20, rr, len, z, a, b, c) pc lv st h := by
  cases hs
  exact ⟨(a, lv, st, h), rfl, ck_Sd_one ⟨rfl, H.2⟩⟩
/-- branches -/
def ck_ng (b : Nat) : Nat := match b with
  | 0 => 1
  | 1 => 0
  | 2 => 3
  | 3 => 2
  | 4 => 5
  | _ => 4
noncomputable def ck_mp (pc : Nat) (loc : ck_Lc) (stk : List ck_V) (l : List ck_S) (k : List ck_T) : List ck_T := List.rec (motive := fun _ => List ck_T) k (fun s _ ih => (s, pc, loc, stk) :: ih) l
theorem ck_mp_l {k : List ck_T} {s : ck_S} : ∀ {l : List ck_S}, s ∈ l → (s, pc, loc, stk) ∈ ck_mp pc loc stk l k
  | [], h => absurd h List.not_mem_nil
  | q :: t, h => by
    show _ ∈ (q, pc, loc, stk) :: ck_mp pc loc stk t k
    rcases List.mem_cons.mp h with rfl | h
    · exact List.mem_cons_self ..
    · exact List.mem_cons_of_mem _ (ck_mp_l h)
theorem ck_mp_r {k : List ck_T} {T : ck_T} (h : T ∈ k) : ∀ {l : List ck_S}, T ∈ ck_mp pc loc stk l k
  | [] => h
  | q :: t => by
    show _ ∈ (q, pc, loc, stk) :: ck_mp pc loc stk t k
    exact List.mem_cons_of_mem _ (ck_mp_r h)
theorem ck_cnd_ok {b : Nat} {x y : Int32} (hb : b < 6) : ∃ q, pm_cnd b x y = some q ∧ (q = true → ck_tc b (x.toInt - y.toInt)) ∧ (q = false → ck_tc (ck_ng b) (x.toInt - y.toInt)) := by
  have inj : x = y ↔ x.toInt = y.toInt := Int32.toInt_inj.symm
  have lt : ∀ x y : Int32, x < y ↔ x.toInt < y.toInt := fun x y => Int32.lt_iff_toInt_lt
  have le : ∀ x y : Int32, x ≤ y ↔ x.toInt ≤ y.toInt := fun x y => Int32.le_iff_toInt_le
  match b, hb with
  | 0, _ =>
    refine ⟨_, rfl, fun h => ?_, fun h => ?_⟩
    · have h1 := inj.mp (of_decide_eq_true h); show x.toInt - y.toInt = 0; omega
    · have h1 := of_decide_eq_false h; rw [inj] at h1; show ¬ x.toInt - y.toInt = 0; omega
  | 1, _ =>
    refine ⟨_, rfl, fun h => ?_, fun h => ?_⟩
    · have h1 := of_decide_eq_true h; rw [inj] at h1; show ¬ x.toInt - y.toInt = 0; omega
    · have h1 := of_decide_eq_false h; rw [inj] at h1; show x.toInt - y.toInt = 0; omega
  | 2, _ =>
    refine ⟨_, rfl, fun h => ?_, fun h => ?_⟩
    · have h1 := of_decide_eq_true h; rw [lt] at h1; show x.toInt - y.toInt < 0; omega
    · have h1 := of_decide_eq_false h; rw [lt] at h1; show 0 ≤ x.toInt - y.toInt; omega
  | 3, _ =>
    refine ⟨_, rfl, fun h => ?_, fun h => ?_⟩
    · have h1 := of_decide_eq_true h; rw [le] at h1; show 0 ≤ x.toInt - y.toInt; omega
    · have h1 := of_decide_eq_false h; rw [le] at h1; show x.toInt - y.toInt < 0; omega
  | 4, _ =>
    refine ⟨_, rfl, fun h => ?_, fun h => ?_⟩
    · have h1 := of_decide_eq_true h; rw [lt] at h1; show 0 < x.toInt - y.toInt; omega
    · have h1 := of_decide_eq_false h; rw [lt] at h1; show x.toInt - y.toInt ≤ 0; omega
  | 5, _ =>
    refine ⟨_, rfl, fun h => ?_, fun h => ?_⟩
    · have h1 := of_decide_eq_true h; rw [le] at h1; show x.toInt - y.toInt ≤ 0; omega
    · have h1 := of_decide_eq_false h; rw [le] at h1; show 0 < x.toInt - y.toInt; omega
  | b + 6, hb => omega
noncomputable def ck_b2 (S : ck_S) (pc1 pc2 b : Nat) (d : ck_F) (loc : ck_Lc) (u : List ck_V) : Option (List ck_T) := bif Nat.blt b 6 then some (ck_mp pc1 loc u (ck_tw S b d) (ck_mp pc2 loc u (ck_tw S (ck_ng b) d) [])) else none
noncomputable def ck_o21 (S : ck_S) (pc len a b : Nat) (loc : ck_Lc) (stk : List ck_V) : Option (List ck_T) := ck_pI stk fun x u => ck_b2 S a (pc + len) b x loc u
noncomputable def ck_o22 (S : ck_S) (pc len a b : Nat) (loc : ck_Lc) (stk : List ck_V) : Option (List ck_T) := ck_pI stk fun y t => ck_pI t fun x u => ck_b2 S a (pc + len) b (ck_fs x y) loc u
theorem ck_b2_ok {u : List ck_V} {su : List Value} {d : ck_F} {x y : Int32} {pc1 pc2 : Nat} (hs : ck_b2 S pc1 pc2 b d loc u = some L) (H : ck_H M h0 Φ (S, pc, loc, stk) pc lv st h) (h2 : ∀ r, ck_ss r stk st → ck_ss r u su ∧ x.toInt - y.toInt = ck_ev r d) : ∃ q, pm_cnd b x y = some q ∧ ck_Sd M h0 Φ L (if q = true then pc1 else pc2, lv, su, h) := by
  unfold ck_b2 at hs
  cases hb : Nat.blt b 6 with
  | false => rw [hb] at hs; cases hs
  | true =>
    rw [hb] at hs
    cases hs
    obtain ⟨q, e1, g1, g2⟩ := ck_cnd_ok (b := b) (x := x) (y := y) (by simp only [Nat.blt_eq] at hb; exact hb)
    refine ⟨q, e1, ?_⟩
    have HG : ck_G S.1 (fun r => (Φ r ∧ ck_ls r loc lv ∧ ck_ss r stk st) ∧ ck_sat M h0 S h r) := ck_G_mono H.2.2 (fun r hr => ⟨⟨hr.1, hr.2.2.1, hr.2.2.2⟩, hr.2.1⟩)
    cases q with
    | true =>
      obtain ⟨S', hS', h3⟩ := ck_tw_ok (b := b) (d := d) HG (fun r hr => by rw [← (h2 r hr.2.2).2]; exact g1 rfl)
      exact ⟨_, ck_mp_l hS', rfl, H.2.1, ck_G_mono h3 (fun r hr => ⟨hr.1.1, hr.2, hr.1.2.1, (h2 r hr.1.2.2).1⟩)⟩
    | false =>
      obtain ⟨S', hS', h3⟩ := ck_tw_ok (b := ck_ng b) (d := d) HG (fun r hr => by rw [← (h2 r hr.2.2).2]; exact g2 rfl)
      exact ⟨_, ck_mp_r (ck_mp_l hS'), rfl, H.2.1, ck_G_mono h3 (fun r hr => ⟨hr.1.1, hr.2, hr.1.2.1, (h2 r hr.1.2.2).1⟩)⟩
theorem ck_o21_ok (hs : ck_o21 S pc len a b loc stk = some L) (H : ck_H M h0 Φ (S, pc, loc, stk) pc lv st h) : ck_St M h0 Φ L (21, rr, len, z, a, b, c) pc lv st h := by
  obtain ⟨r0, hr0⟩ := ck_G_ex H.2.2
  obtain ⟨fx, u, x, su, rfl, h1, h2⟩ := ck_pI_ok hs hr0.2.2.2
  obtain ⟨q, e1, h3⟩ := ck_b2_ok (x := x) (y := 0) h1 H (fun r hr => ⟨(h2 r hr).2, by have := (h2 r hr).1; rw [Int32.toInt_zero]; omega⟩)
  refine ⟨_, ?_, h3⟩
  show (pm_cnd b x 0).bind _ = _
  rw [e1]
  rfl
theorem ck_o22_ok (hs : ck_o22 S pc len a b loc stk = some L) (H : ck_H M h0 Φ (S, pc, loc, stk) pc lv st h) : ck_St M h0 Φ L (22, rr, len, z, a, b, c) pc lv st h := by
  obtain ⟨r0, hr0⟩ := ck_G_ex H.2.2
  obtain ⟨fy, t, y, st', rfl, h1, h2⟩ := ck_pI_ok hs hr0.2.2.2
  obtain ⟨fx, u, x, su, rfl, h3, h4⟩ := ck_pI_ok h1 (h2 r0 hr0.2.2.2).2
  obtain ⟨q, e1, h5⟩ := ck_b2_ok (x := x) (y := y) h3 H (fun r hr => ⟨(h4 r (h2 r hr).2).2, by rw [ck_ev_fs, (h4 r (h2 r hr).2).1, (h2 r hr).1]⟩)
  refine ⟨_, ?_, h5⟩
  show (pm_cnd b x y).bind _ = _
  rw [e1]
  rfl
/-- comparing longs, Math -/
noncomputable def ck_o13 (S : ck_S) (pc len : Nat) (loc : ck_Lc) (stk : List ck_V) : Option (List ck_T) := ck_pL stk fun y t => ck_pL t fun x u => some (ck_mp (pc + len) loc ((0, (.negSucc 0, [])) :: u) (ck_tw S 2 (ck_fs x y)) (ck_mp (pc + len) loc ((0, (.ofNat 0, [])) :: u) (ck_tw S 0 (ck_fs x y)) (ck_mp (pc + len) loc ((0, (.ofNat 1, [])) :: u) (ck_tw S 4 (ck_fs x y)) [])))
theorem ck_o13_ok (hs : ck_o13 S pc len loc stk = some L) (H : ck_H M h0 Φ (S, pc, loc, stk) pc lv st h) : ck_St M h0 Φ L (13, rr, len, z, a, b, c) pc lv st h := by
  obtain ⟨r0, hr0⟩ := ck_G_ex H.2.2
  obtain ⟨fy, t, y, st', rfl, h1, h2⟩ := ck_pL_ok hs hr0.2.2.2
  obtain ⟨fx, u, x, su, rfl, h3, h4⟩ := ck_pL_ok h1 (h2 r0 hr0.2.2.2).2
  cases h3
  refine ⟨(pc + len, lv, .int (lg_cmp x y) :: su, h), rfl, ?_⟩
  have HG : ck_G S.1 (fun r => (Φ r ∧ ck_ls r loc lv ∧ ck_ss r stk (.long y :: .long x :: su)) ∧ ck_sat M h0 S h r) := ck_G_mono H.2.2 (fun r hr => ⟨⟨hr.1, hr.2.2.1, hr.2.2.2⟩, hr.2.1⟩)
  have ev : ∀ r, ck_ss r stk (.long y :: .long x :: su) → ck_ev r (ck_fs fx fy) = x.toInt - y.toInt := fun r hr => by rw [ck_ev_fs, (h4 r (h2 r hr).2).1, (h2 r hr).1]
  have fin : ∀ (S' : ck_S) (k : Int), (lg_cmp x y).toInt = k → ck_G S'.1 (fun r => (Φ r ∧ ck_ls r loc lv ∧ ck_ss r stk (.long y :: .long x :: su)) ∧ ck_sat M h0 S' h r) → ck_H M h0 Φ (S', pc + len, loc, (0, (k, [])) :: u) (pc + len) lv (.int (lg_cmp x y) :: su) h := fun S' k hk h3 => ⟨rfl, H.2.1, ck_G_mono h3 (fun r hr => ⟨hr.1.1, hr.2, hr.1.2.1, ck_vr_i (by rw [ck_ev_k]; exact hk), (h4 r (h2 r hr.1.2.2).2).2⟩)⟩
  by_cases hgt : x > y
  · have hlt : y.toInt < x.toInt := Int64.lt_iff_toInt_lt.mp hgt
    obtain ⟨S', hS', h3⟩ := ck_tw_ok (b := 4) (d := ck_fs fx fy) HG (fun r hr => by rw [ev r hr.2.2]; show 0 < x.toInt - y.toInt; omega)
    exact ⟨_, ck_mp_r (ck_mp_r (ck_mp_l hS')), fin S' 1 (by unfold lg_cmp; rw [if_pos hgt]; rfl) h3⟩
  · by_cases heq : x = y
    · obtain ⟨S', hS', h3⟩ := ck_tw_ok (b := 0) (d := ck_fs fx fy) HG (fun r hr => by rw [ev r hr.2.2, heq]; show y.toInt - y.toInt = 0; omega)
      exact ⟨_, ck_mp_r (ck_mp_l hS'), fin S' 0 (by unfold lg_cmp; rw [if_neg hgt, if_pos heq]; rfl) h3⟩
    · have hlt : x.toInt < y.toInt := by
        have g1 : ¬ y.toInt < x.toInt := fun q => hgt (Int64.lt_iff_toInt_lt.mpr q)
        have g2 : ¬ x.toInt = y.toInt := fun q => heq (Int64.toInt_inj.mp q)
        omega
      obtain ⟨S', hS', h3⟩ := ck_tw_ok (b := 2) (d := ck_fs fx fy) HG (fun r hr => by rw [ev r hr.2.2]; show x.toInt - y.toInt < 0; omega)
      exact ⟨_, ck_mp_l hS', fin S' (Int.negSucc 0) (by unfold lg_cmp; rw [if_neg hgt, if_neg heq]; rfl) h3⟩
end
