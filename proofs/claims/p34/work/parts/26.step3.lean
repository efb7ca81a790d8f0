/-! The checker: copies, Math; all steps. -/
section
variable {M : ck_O} {h0 h : pm_Hp} {Φ : ck_R → Prop} {S : ck_S} {pc len rr a b c : Nat} {z : Int} {loc : ck_Lc} {stk : List ck_V} {lv : pm_Lv} {st : List Value} {L : List ck_T}
def ck_c5 (xs xd : Nat × Nat × List (Int × Int)) (ns : Nat) : Bool := match xs.2.2 with
  | [] => false
  | ws :: _ => match xd.2.2 with
    | [] => false
    | wd :: _ => bif Nat.beq xs.1 1 then (bif Nat.beq xd.1 1 then (bif Nat.beq xs.2.1 ns then ck_sub wd.1 wd.2 ws else false) else false) else false
theorem ck_c5_ok {xs xd : Nat × Nat × List (Int × Int)} {ns s d i j : Nat} {w : Int × Int} (h5 : ck_c5 xs xd ns = true) (hs : ck_D[s]? = some xs) (hd : ck_D[d]? = some xd) (hi : i < ns) (hw : ck_dv d j = some w) : ∃ ws, ck_dv s i = some ws ∧ w.1 ≤ ws.1 ∧ ws.2 ≤ w.2 := by
  obtain ⟨ts, ms, vs⟩ := xs
  obtain ⟨td, md, vd⟩ := xd
  unfold ck_c5 at h5
  cases vs with
  | nil => cases h5
  | cons ws vs =>
    cases vd with
    | nil => cases h5
    | cons wd vd =>
      dsimp only at h5
      obtain ⟨b1, b2⟩ := ck_and h5
      obtain ⟨b3, b4⟩ := ck_and b2
      obtain ⟨b5, b6⟩ := ck_and b4
      have e1 := Nat.eq_of_beq_eq_true b1
      have e2 := Nat.eq_of_beq_eq_true b3
      have e3 := Nat.eq_of_beq_eq_true b5
      subst e1
      subst e2
      subst e3
      have h6 := ck_sub_ok b6
      unfold ck_dv at hw ⊢
      rw [hs]
      rw [hd] at hw
      dsimp only at hw ⊢
      have hw' : (if j < md then (wd :: vd)[0]? else none) = some w := hw
      by_cases hj : j < md
      · rw [if_pos hj] at hw'
        have e4 : wd = w := by simpa using hw'
        subst e4
        refine ⟨ws, ?_, h6⟩
        show (if i < ms then (ws :: vs)[0]? else none) = some ws
        rw [if_pos hi]
        rfl
      · rw [if_neg hj] at hw'
        cases hw'
noncomputable def ck_cc (N : ck_F → Bool) (M : ck_O) (s d : Nat) (gs gd : Nat × Nat) (xs xd : Nat × Nat × List (Int × Int)) (sp dp n : ck_F) (u : List ck_V) : Bool :=
  bif (bif Nat.beq gs.1 1 then true else Nat.beq gs.1 4) then (bif Nat.beq gd.1 gs.1 then (bif N (ck_fk (-1) n) then (bif N (ck_fk (-1) dp) then (bif N (ck_fk (-1) sp) then (bif N (ck_fs (ck_fa sp n) ((gs.2 : Int), [])) then (bif N (ck_fs (ck_fa dp n) ((gd.2 : Int), [])) then (bif Nat.ble (ck_cat u) 8 then (bif ck_mw N d dp (ck_fa dp n) M then ck_c5 xs xd gs.2 else false) else false) else false) else false) else false) else false) else false) else false) else false
noncomputable def ck_o45 (M : ck_O) (S : ck_S) (pc len : Nat) (loc : ck_Lc) (stk : List ck_V) : Option (List ck_T) := ck_pI stk fun n t1 => ck_pI t1 fun dp t2 => ck_pR t2 fun d t3 => ck_pI t3 fun sp t4 => ck_pR t4 fun s u => match ck_ak3 s with
  | none => none
  | some gs => match ck_ak3 d with
    | none => none
    | some gd => match ck_nth ck_D s with
      | none => none
      | some xs => match ck_nth ck_D d with
        | none => none
        | some xd => bif ck_cc (ck_N S) M s d gs gd xs xd sp dp n u then some [((S.1, S.2.1, S.2.2.1, ck_ok (ck_N S) [(d, dp, ck_fa dp n)] S.2.2.2.1, ck_fk2 (ck_N S) [(d, dp, ck_fa dp n)] S.2.2.2.2), pc + len, loc, u)] else none
theorem ck_o45_ok (hs : ck_o45 M S pc len loc stk = some L) (H : ck_H M h0 Φ (S, pc, loc, stk) pc lv st h) : ck_St M h0 Φ L (45, rr, len, z, a, b, c) pc lv st h := by
  obtain ⟨r0, hr0⟩ := ck_G_ex H.2.2
  obtain ⟨fn, t1, n, s1, rfl, k1, l1⟩ := ck_pI_ok hs hr0.2.2.2
  obtain ⟨fd, t2, dp, s2, rfl, k2, l2⟩ := ck_pI_ok k1 (l1 r0 hr0.2.2.2).2
  obtain ⟨d, t3, s3, rfl, k3, l3⟩ := ck_pR_ok k2 (l2 r0 (l1 r0 hr0.2.2.2).2).2
  obtain ⟨fp, t4, sp, s4, rfl, k4, l4⟩ := ck_pI_ok k3 (l3 r0 (l2 r0 (l1 r0 hr0.2.2.2).2).2)
  obtain ⟨s, u, su, rfl, k5, l5⟩ := ck_pR_ok k4 (l4 r0 (l3 r0 (l2 r0 (l1 r0 hr0.2.2.2).2).2)).2
  have all : ∀ r, ck_ss r stk (.int n :: .int dp :: .ref d :: .int sp :: .ref s :: su) → n.toInt = ck_ev r fn ∧ dp.toInt = ck_ev r fd ∧ sp.toInt = ck_ev r fp ∧ ck_ss r u su := fun r hr => by
    have q1 := l1 r hr
    have q2 := l2 r q1.2
    have q3 := l3 r q2.2
    have q4 := l4 r q3
    exact ⟨q1.1, q2.1, q4.1, l5 r q4.2⟩
  cases hs1 : ck_ak3 s with
  | none => rw [hs1] at k5; cases k5
  | some gs =>
    rw [hs1] at k5
    dsimp only at k5
    cases hd1 : ck_ak3 d with
    | none => rw [hd1] at k5; cases k5
    | some gd =>
      rw [hd1] at k5
      dsimp only at k5
      cases hs2 : ck_nth ck_D s with
      | none => rw [hs2] at k5; cases k5
      | some xs =>
        rw [hs2] at k5
        dsimp only at k5
        cases hd2 : ck_nth ck_D d with
        | none => rw [hd2] at k5; cases k5
        | some xd =>
          rw [hd2] at k5
          dsimp only at k5
          cases hb : ck_cc (ck_N S) M s d gs gd xs xd fp fd fn u with
          | false => rw [hb] at k5; cases k5
          | true =>
            rw [hb] at k5
            cases k5
            obtain ⟨b1, q⟩ := ck_and hb
            obtain ⟨b2, q⟩ := ck_and q
            obtain ⟨b3, q⟩ := ck_and q
            obtain ⟨b4, q⟩ := ck_and q
            obtain ⟨b5, q⟩ := ck_and q
            obtain ⟨b6, q⟩ := ck_and q
            obtain ⟨b7, q⟩ := ck_and q
            obtain ⟨b8, q⟩ := ck_and q
            obtain ⟨b9, b10⟩ := ck_and q
            have e1 : gs.1 = 1 ∨ gs.1 = 4 := (ck_or b1).imp Nat.eq_of_beq_eq_true Nat.eq_of_beq_eq_true
            have e2 := Nat.eq_of_beq_eq_true b2
            have hN := ck_N_ok hr0.2.1
            have a0 := all r0 hr0.2.2.2
            have g3 := hN _ b3
            have g4 := hN _ b4
            have g5 := hN _ b5
            have g6 := hN _ b6
            have g7 := hN _ b7
            rw [ck_ev_fk] at g3 g4 g5
            rw [ck_ev_fs, ck_ev_fa, ck_ev_k] at g6 g7
            rw [← a0.1] at g3 g6 g7
            rw [← a0.2.1] at g4 g7
            rw [← a0.2.2.1] at g5 g6
            have hcat : pm_cat su ≤ 8 := by rw [ck_cat_ok a0.2.2.2]; exact Nat.le_of_ble_eq_true b8
            have cond : (gs.1 = 1 ∨ gs.1 = 4) ∧ gd.1 = gs.1 ∧ 0 ≤ n.toInt ∧ 0 ≤ dp.toInt ∧ 0 ≤ sp.toInt ∧ sp.toNatClampNeg + n.toNatClampNeg ≤ gs.2 ∧ dp.toNatClampNeg + n.toNatClampNeg ≤ gd.2 ∧ pm_cat su ≤ 8 := by
              rw [ck_cl, ck_cl, ck_cl]
              exact ⟨e1, e2, by omega, by omega, by omega, by omega, by omega, hcat⟩
            have hW : ∀ r, ck_ss r stk (.int n :: .int dp :: .ref d :: .int sp :: .ref s :: su) → ck_ow h (pm_cp h s d sp.toNatClampNeg dp.toNatClampNeg n.toNatClampNeg) r [(d, fd, ck_fa fd fn)] := by
              intro r hr c' j
              have ar := all r hr
              by_cases e : c' = d ∧ dp.toNatClampNeg ≤ j ∧ j < dp.toNatClampNeg + n.toNatClampNeg
              · refine Or.inr ⟨_, List.mem_cons_self .., e.1.symm, ?_, ?_⟩
                · show ck_ev r fd ≤ (j : Int)
                  have := e.2.1
                  rw [ck_cl] at this
                  omega
                · show (j : Int) < ck_ev r (ck_fa fd fn)
                  rw [ck_ev_fa]
                  have := e.2.2
                  rw [ck_cl, ck_cl] at this
                  omega
              · exact Or.inl (if_neg e)
            refine ⟨(pc + len, lv, su, pm_cp h s d sp.toNatClampNeg dp.toNatClampNeg n.toNatClampNeg), ?_, ck_Sd_one ⟨rfl, ?_, ck_G_mono H.2.2 (fun r hr => ?_)⟩⟩
            · show (pm_ak s).bind _ = _
              rw [ck_ak3_ok hs1]
              show (pm_ak d).bind _ = _
              rw [ck_ak3_ok hd1]
              exact if_pos cond
            · intro c' j w hw
              by_cases e : c' = d ∧ dp.toNatClampNeg ≤ j ∧ j < dp.toNatClampNeg + n.toNatClampNeg
              · obtain ⟨rfl, e3, e4⟩ := e
                have hi : sp.toNatClampNeg + (j - dp.toNatClampNeg) < gs.2 := by
                  have := cond.2.2.2.2.2.1
                  omega
                obtain ⟨ws, h1, h2⟩ := ck_c5_ok b10 (by rw [← ck_nth_ok]; exact hs2) (by rw [← ck_nth_ok]; exact hd2) hi hw
                have h3 := H.2.1 s _ ws h1
                have e5 : pm_cp h s c' sp.toNatClampNeg dp.toNatClampNeg n.toNatClampNeg c' j = h s (sp.toNatClampNeg + (j - dp.toNatClampNeg)) := if_pos ⟨rfl, e3, e4⟩
                show w.1 ≤ pm_cp h s c' sp.toNatClampNeg dp.toNatClampNeg n.toNatClampNeg c' j ∧ pm_cp h s c' sp.toNatClampNeg dp.toNatClampNeg n.toNatClampNeg c' j ≤ w.2
                rw [e5]
                omega
              · have e5 : pm_cp h s d sp.toNatClampNeg dp.toNatClampNeg n.toNatClampNeg c' j = h c' j := if_neg e
                show w.1 ≤ pm_cp h s d sp.toNatClampNeg dp.toNatClampNeg n.toNatClampNeg c' j ∧ pm_cp h s d sp.toNatClampNeg dp.toNatClampNeg n.toNatClampNeg c' j ≤ w.2
                rw [e5]
                exact H.2.1 c' j w hw
            · have hNr := ck_N_ok hr.2.1
              have hWr := hW r hr.2.2.2
              refine ⟨hr.1, ⟨hr.2.1.1, hr.2.1.2.1, ck_ok_ok hNr hWr hr.2.1.2.2.1, ck_fk2_ok hNr hWr hr.2.1.2.2.2.1, ?_⟩, hr.2.2.1, (all r hr.2.2.2).2.2.2⟩
              obtain ⟨m, hm, hm1, hm2, hm3⟩ := ck_mw_ok hNr b9
              intro c' j
              rcases hWr c' j with e | ⟨w', hw', e3, e4, e5⟩
              · have g := hr.2.1.2.2.2.2 c' j
                rw [← e] at g
                exact g
              · rcases List.mem_cons.mp hw' with rfl | hw'
                · have e4' : ck_ev r fd ≤ (j : Int) := e4
                  have e5' : (j : Int) < ck_ev r (ck_fa fd fn) := e5
                  exact Or.inr ⟨m, hm, hm1.trans e3, by omega, by omega⟩
                · exact absurd hw' List.not_mem_nil
/-- Math.max, Math.min -/
noncomputable def ck_m2 (S : ck_S) (pc b1 b2 t : Nat) (d x y : ck_F) (loc : ck_Lc) (u : List ck_V) : Option (List ck_T) := bif Nat.ble (ck_cat u) 8 then some (ck_mp pc loc ((t, y) :: u) (ck_tw S b1 d) (ck_mp pc loc ((t, x) :: u) (ck_tw S b2 d) [])) else none
noncomputable def ck_o46 (S : ck_S) (pc len b : Nat) (loc : ck_Lc) (stk : List ck_V) : Option (List ck_T) := match b with
  | 0 => ck_pI stk fun y t => ck_pI t fun x u => ck_m2 S (pc + len) 2 3 0 (ck_fs x y) x y loc u
  | 1 => ck_pI stk fun y t => ck_pI t fun x u => ck_m2 S (pc + len) 4 5 0 (ck_fs x y) x y loc u
  | _ => ck_pL stk fun y t => ck_pL t fun x u => ck_m2 S (pc + len) 4 5 1 (ck_fs x y) x y loc u
theorem ck_m2_ok {pc' b1 b2 t : Nat} {d fx fy : ck_F} {u : List ck_V} {su : List Value} {vx vy : Value} {Q : Prop} [Decidable Q] {w : Int} (hs : ck_m2 S pc' b1 b2 t d fx fy loc u = some L) (H : ck_H M h0 Φ (S, pc, loc, stk) pc lv st h) (h2 : ∀ r, ck_ss r stk st → ck_ss r u su ∧ w = ck_ev r d ∧ ck_vr r (t, fx) vx ∧ ck_vr r (t, fy) vy) (q1 : Q → ck_tc b1 w) (q2 : ¬ Q → ck_tc b2 w) : pm_cat su ≤ 8 ∧ ck_Sd M h0 Φ L (pc', lv, (if Q then vy else vx) :: su, h) := by
  unfold ck_m2 at hs
  obtain ⟨r0, hr0⟩ := ck_G_ex H.2.2
  cases hb : Nat.ble (ck_cat u) 8 with
  | false => rw [hb] at hs; cases hs
  | true =>
    rw [hb] at hs
    cases hs
    refine ⟨by rw [ck_cat_ok (h2 r0 hr0.2.2.2).1]; exact Nat.le_of_ble_eq_true hb, ?_⟩
    have HG : ck_G S.1 (fun r => (Φ r ∧ ck_ls r loc lv ∧ ck_ss r stk st) ∧ ck_sat M h0 S h r) := ck_G_mono H.2.2 (fun r hr => ⟨⟨hr.1, hr.2.2.1, hr.2.2.2⟩, hr.2.1⟩)
    by_cases hQ : Q
    · rw [if_pos hQ]
      obtain ⟨S', hS', h7⟩ := ck_tw_ok (b := b1) (d := d) HG (fun r hr => by rw [← (h2 r hr.2.2).2.1]; exact q1 hQ)
      exact ⟨_, ck_mp_l hS', rfl, H.2.1, ck_G_mono h7 (fun r hr => ⟨hr.1.1, hr.2, hr.1.2.1, (h2 r hr.1.2.2).2.2.2, (h2 r hr.1.2.2).1⟩)⟩
    · rw [if_neg hQ]
      obtain ⟨S', hS', h7⟩ := ck_tw_ok (b := b2) (d := d) HG (fun r hr => by rw [← (h2 r hr.2.2).2.1]; exact q2 hQ)
      exact ⟨_, ck_mp_r (ck_mp_l hS'), rfl, H.2.1, ck_G_mono h7 (fun r hr => ⟨hr.1.1, hr.2, hr.1.2.1, (h2 r hr.1.2.2).2.2.1, (h2 r hr.1.2.2).1⟩)⟩
theorem ck_if_int {Q : Prop} [Decidable Q] {x y : Int32} : (if Q then Value.int x else Value.int y) = Value.int (if Q then x else y) := by
  by_cases h : Q
  · rw [if_pos h, if_pos h]
  · rw [if_neg h, if_neg h]
theorem ck_if_long {Q : Prop} [Decidable Q] {x y : Int64} : (if Q then Value.long x else Value.long y) = Value.long (if Q then x else y) := by
  by_cases h : Q
  · rw [if_pos h, if_pos h]
  · rw [if_neg h, if_neg h]
theorem ck_o46_ok (hs : ck_o46 S pc len b loc stk = some L) (H : ck_H M h0 Φ (S, pc, loc, stk) pc lv st h) : ck_St M h0 Φ L (46, rr, len, z, a, b, c) pc lv st h := by
  obtain ⟨r0, hr0⟩ := ck_G_ex H.2.2
  match b, hs with
  | 0, hs =>
    have hs' : (ck_pI stk fun y t => ck_pI t fun x u => ck_m2 S (pc + len) 2 3 0 (ck_fs x y) x y loc u) = some L := hs
    obtain ⟨fy, t, y, st', rfl, h1, h2⟩ := ck_pI_ok hs' hr0.2.2.2
    obtain ⟨fx, u, x, su, rfl, h3, h4⟩ := ck_pI_ok h1 (h2 r0 hr0.2.2.2).2
    obtain ⟨g1, g2⟩ := ck_m2_ok (Q := x < y) (w := x.toInt - y.toInt) (vx := .int x) (vy := .int y) h3 H (fun r hr => ⟨(h4 r (h2 r hr).2).2, by rw [ck_ev_fs, (h4 r (h2 r hr).2).1, (h2 r hr).1], ck_vr_i (h4 r (h2 r hr).2).1, ck_vr_i (h2 r hr).1⟩) (fun q => by have := Int32.lt_iff_toInt_lt.mp q; show x.toInt - y.toInt < 0; omega) (fun q => by have : ¬ x.toInt < y.toInt := fun q2 => q (Int32.lt_iff_toInt_lt.mpr q2); show 0 ≤ x.toInt - y.toInt; omega)
    rw [ck_if_int] at g2
    exact ⟨_, if_pos g1, g2⟩
  | 1, hs =>
    have hs' : (ck_pI stk fun y t => ck_pI t fun x u => ck_m2 S (pc + len) 4 5 0 (ck_fs x y) x y loc u) = some L := hs
    obtain ⟨fy, t, y, st', rfl, h1, h2⟩ := ck_pI_ok hs' hr0.2.2.2
    obtain ⟨fx, u, x, su, rfl, h3, h4⟩ := ck_pI_ok h1 (h2 r0 hr0.2.2.2).2
    obtain ⟨g1, g2⟩ := ck_m2_ok (Q := y < x) (w := x.toInt - y.toInt) (vx := .int x) (vy := .int y) h3 H (fun r hr => ⟨(h4 r (h2 r hr).2).2, by rw [ck_ev_fs, (h4 r (h2 r hr).2).1, (h2 r hr).1], ck_vr_i (h4 r (h2 r hr).2).1, ck_vr_i (h2 r hr).1⟩) (fun q => by have := Int32.lt_iff_toInt_lt.mp q; show 0 < x.toInt - y.toInt; omega) (fun q => by have : ¬ y.toInt < x.toInt := fun q2 => q (Int32.lt_iff_toInt_lt.mpr q2); show x.toInt - y.toInt ≤ 0; omega)
    rw [ck_if_int] at g2
    exact ⟨_, if_pos g1, g2⟩
  | n + 2, hs =>
    have hs' : (ck_pL stk fun y t => ck_pL t fun x u => ck_m2 S (pc + len) 4 5 1 (ck_fs x y) x y loc u) = some L := hs
    obtain ⟨fy, t, y, st', rfl, h1, h2⟩ := ck_pL_ok hs' hr0.2.2.2
    obtain ⟨fx, u, x, su, rfl, h3, h4⟩ := ck_pL_ok h1 (h2 r0 hr0.2.2.2).2
    obtain ⟨g1, g2⟩ := ck_m2_ok (Q := y < x) (w := x.toInt - y.toInt) (vx := .long x) (vy := .long y) h3 H (fun r hr => ⟨(h4 r (h2 r hr).2).2, by rw [ck_ev_fs, (h4 r (h2 r hr).2).1, (h2 r hr).1], ck_vr_l (h4 r (h2 r hr).2).1, ck_vr_l (h2 r hr).1⟩) (fun q => by have := Int64.lt_iff_toInt_lt.mp q; show 0 < x.toInt - y.toInt; omega) (fun q => by have : ¬ y.toInt < x.toInt := fun q2 => q (Int64.lt_iff_toInt_lt.mpr q2); show x.toInt - y.toInt ≤ 0; omega)
    rw [ck_if_long] at g2
    exact ⟨_, if_pos g1, g2⟩
/-- all steps -/
noncomputable def ck_st (M : ck_O) (i : pm_Ins) (T : ck_T) : Option (List ck_T) := match i with
  | (f, _, len, z, a, b, _) => match T with
    | (S, pc, loc, stk) => match f with
      | 0 => ck_o0 S pc len z loc stk
      | 1 => ck_o1 S pc len z loc stk
      | 2 => ck_o2 0 S pc len a loc stk
      | 3 => ck_o2 1 S pc len a loc stk
      | 4 => ck_o2 2 S pc len a loc stk
      | 5 => ck_o5 S pc len a loc stk
      | 6 => ck_o6 S pc len a loc stk
      | 7 => ck_o7 S pc len a loc stk
      | 8 => ck_o8 S pc len a z loc stk
      | 9 => ck_o9 S pc len b loc stk
      | 10 => ck_o10 S pc len loc stk
      | 11 => ck_o11 S pc len b loc stk
      | 12 => ck_o12 S pc len b loc stk
      | 13 => ck_o13 S pc len loc stk
      | 14 => ck_o14 S pc len loc stk
      | 15 => ck_o15 S pc len loc stk
      | 16 => ck_o16 S pc len loc stk
      | 17 => ck_o17 S pc len loc stk
      | 18 => ck_o18 S pc len loc stk
      | 19 => ck_o19 S pc len loc stk
      | 20 => ck_o20 S a loc stk
      | 21 => ck_o21 S pc len a b loc stk
      | 22 => ck_o22 S pc len a b loc stk
      | 23 => ck_o23 S pc a loc stk
      | 24 => ck_o24 S pc len a b loc stk
      | 25 => ck_o25 S pc len a b loc stk
      | 26 => ck_o26 S pc len a b loc stk
      | 27 => ck_o27 M S pc len a b loc stk
      | 28 => ck_o28 M S pc len a b loc stk
      | 29 => ck_o29 M S pc len a b loc stk
      | 30 => ck_o30 S pc len loc stk
      | 31 => ck_o31 S pc len loc stk
      | 32 => ck_o32 S pc len loc stk
      | 33 => ck_o33 S pc len loc stk
      | 34 => ck_o34 S pc len loc stk
      | 35 => ck_o35 S pc len loc stk
      | 36 => ck_o36 M S pc len loc stk
      | 37 => ck_o37 M S pc len loc stk
      | 38 => ck_o38 M S pc len loc stk
      | 45 => ck_o45 M S pc len loc stk
      | 46 => ck_o46 S pc len b loc stk
      | _ => none
theorem ck_st_ok {i : pm_Ins} {T : ck_T} (hs : ck_st M i T = some L) (H : ck_H M h0 Φ T pc lv st h) : ck_St M h0 Φ L i pc lv st h ∧ ¬ i.1 = 43 ∧ ¬ i.1 = 44 ∧ ¬ (39 ≤ i.1 ∧ i.1 ≤ 42) := by
  obtain ⟨f, rr, len, z, a, b, c⟩ := i
  obtain ⟨S, pc', loc, stk⟩ := T
  have e0 : pc' = pc := H.1
  subst e0
  match f, hs with
  | 0, hs => exact ⟨ck_o0_ok hs H, by dsimp only; decide⟩
  | 1, hs => exact ⟨ck_o1_ok hs H, by dsimp only; decide⟩
  | 2, hs => exact ⟨ck_o2_ok hs H, by dsimp only; decide⟩
  | 3, hs => exact ⟨ck_o3_ok hs H, by dsimp only; decide⟩
  | 4, hs => exact ⟨ck_o4_ok hs H, by dsimp only; decide⟩
  | 5, hs => exact ⟨ck_o5_ok hs H, by dsimp only; decide⟩
  | 6, hs => exact ⟨ck_o6_ok hs H, by dsimp only; decide⟩
  | 7, hs => exact ⟨ck_o7_ok hs H, by dsimp only; decide⟩
  | 8, hs => exact ⟨ck_o8_ok hs H, by dsimp only; decide⟩
  | 9, hs => exact ⟨ck_o9_ok hs H, by dsimp only; decide⟩
  | 10, hs => exact ⟨ck_o10_ok hs H, by dsimp only; decide⟩
  | 11, hs => exact ⟨ck_o11_ok hs H, by dsimp only; decide⟩
  | 12, hs => exact ⟨ck_o12_ok hs H, by dsimp only; decide⟩
  | 13, hs => exact ⟨ck_o13_ok hs H, by dsimp only; decide⟩
  | 14, hs => exact ⟨ck_o14_ok hs H, by dsimp only; decide⟩
  | 15, hs => exact ⟨ck_o15_ok hs H, by dsimp only; decide⟩
  | 16, hs => exact ⟨ck_o16_ok hs H, by dsimp only; decide⟩
  | 17, hs => exact ⟨ck_o17_ok hs H, by dsimp only; decide⟩
  | 18, hs => exact ⟨ck_o18_ok hs H, by dsimp only; decide⟩
  | 19, hs => exact ⟨ck_o19_ok hs H, by dsimp only; decide⟩
  | 20, hs => exact ⟨ck_o20_ok hs H, by dsimp only; decide⟩
  | 21, hs => exact ⟨ck_o21_ok hs H, by dsimp only; decide⟩
  | 22, hs => exact ⟨ck_o22_ok hs H, by dsimp only; decide⟩
  | 23, hs => exact ⟨ck_o23_ok hs H, by dsimp only; decide⟩
  | 24, hs => exact ⟨ck_o24_ok hs H, by dsimp only; decide⟩
  | 25, hs => exact ⟨ck_o25_ok hs H, by dsimp only; decide⟩
  | 26, hs => exact ⟨ck_o26_ok hs H, by dsimp only; decide⟩
  | 27, hs => exact ⟨ck_o27_ok hs H, by dsimp only; decide⟩
  | 28, hs => exact ⟨ck_o28_ok hs H, by dsimp only; decide⟩
  | 29, hs => exact ⟨ck_o29_ok hs H, by dsimp only; decide⟩
  | 30, hs => exact ⟨ck_o30_ok hs H, by dsimp only; decide⟩
  | 31, hs => exact ⟨ck_o31_ok hs H, by dsimp only; decide⟩
  | 32, hs => exact ⟨ck_o32_ok hs H, by dsimp only; decide⟩
  | 33, hs => exact ⟨ck_o33_ok hs H, by dsimp only; decide⟩
  | 34, hs => exact ⟨ck_o34_ok hs H, by dsimp only; decide⟩
  | 35, hs => exact ⟨ck_o35_ok hs H, by dsimp only; decide⟩
  | 36, hs => exact ⟨ck_o36_ok hs H, by dsimp only; decide⟩
  | 37, hs => exact ⟨ck_o37_ok hs H, by dsimp only; decide⟩
  | 38, hs => exact ⟨ck_o38_ok hs H, by dsimp only; decide⟩
  | 39, hs => cases hs
  | 40, hs => cases hs
  | 41, hs => cases hs
  | 42, hs => cases hs
  | 43, hs => cases hs
  | 44, hs => cases hs
  | 45, hs => exact ⟨ck_o45_ok hs H, by dsimp only; decide⟩
  | 46, hs => exact ⟨ck_o46_ok hs H, by dsimp only; decide⟩
  | _ + 47, hs => cases hs
end
