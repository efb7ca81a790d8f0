/-! The checker: states, reading and writing. -/
noncomputable def ck_nth {α : Type} (l : List α) : Nat → Option α := List.rec (motive := fun _ => Nat → Option α) (fun _ => none) (fun a _ ih n => match n with
  | 0 => some a
  | n + 1 => ih n) l
theorem ck_nth_ok {α : Type} : ∀ (l : List α) (n : Nat), ck_nth l n = l[n]?
  | [], n => by simp; rfl
  | a :: t, 0 => by simp; rfl
  | a :: t, n + 1 => by
    rw [List.getElem?_cons_succ]
    exact ck_nth_ok t n
def ck_os (h : pm_Hp) (r : ck_R) (O : ck_O) : Prop := ∀ o ∈ O, 0 ≤ ck_ev r o.2.1 ∧ h o.1 (ck_ev r o.2.1).toNat = ck_ev r o.2.2
def ck_fts (h : pm_Hp) (r : ck_R) (A : ck_O) : Prop := ∀ a ∈ A, ck_ft h a.1 (ck_ev r a.2.1) (ck_ev r a.2.2)
def ck_sat (M : ck_O) (h0 : pm_Hp) (S : ck_S) (h : pm_Hp) (r : ck_R) : Prop := ck_es S.2.1 r ∧ ck_ks S.2.2.1 r ∧ ck_os h r S.2.2.2.1 ∧ ck_fts h r S.2.2.2.2 ∧ ck_ow h0 h r M
def ck_G (n : Nat) (P : ck_R → Prop) : Prop := ∃ r0 : ck_R, ∀ r : ck_R, (∀ i, i < n → r i = r0 i) → P r
theorem ck_G_mono {n : Nat} {P P' : ck_R → Prop} (H : ck_G n P) (h : ∀ r, P r → P' r) : ck_G n P' := by
  obtain ⟨r0, H⟩ := H
  exact ⟨r0, fun r hr => h r (H r hr)⟩
theorem ck_G_new {n : Nat} {P P' : ck_R → Prop} (H : ck_G n P) (v : Int) (h : ∀ r, P r → r n = v → P' r) : ck_G (n + 1) P' := by
  obtain ⟨r0, H⟩ := H
  refine ⟨fun i => if i = n then v else r0 i, fun r hr => h r (H r (fun i hi => ?_)) ?_⟩
  · rw [hr i (by omega)]
    exact if_neg (by omega)
  · rw [hr n (by omega)]
    exact if_pos rfl
theorem ck_G_wf {n : Nat} {P : ck_R → Prop} {f : ck_F} (H : ck_G n P) (hf : ck_wl n f.2 = true) : ∃ z : Int, ck_G n (fun r => P r ∧ ck_ev r f = z) := by
  obtain ⟨r0, H⟩ := H
  refine ⟨ck_ev r0 f, r0, fun r hr => ⟨H r hr, ?_⟩⟩
  show f.1 + ck_lv r f.2 = f.1 + ck_lv r0 f.2
  rw [ck_wl_ok hf hr]
theorem ck_G_ex {n : Nat} {P : ck_R → Prop} (H : ck_G n P) : ∃ r, P r := by
  obtain ⟨r0, H⟩ := H
  exact ⟨r0, H r0 (fun _ _ => rfl)⟩
noncomputable def ck_N (S : ck_S) : ck_F → Bool := ck_np S.2.1 S.2.2.1
theorem ck_N_ok {M : ck_O} {h0 h : pm_Hp} {S : ck_S} {r : ck_R} (H : ck_sat M h0 S h r) : ∀ f, ck_N S f = true → ck_ev r f ≤ 0 := fun _ h1 => ck_np_ok H.1 H.2.1 h1
noncomputable def ck_nm (E : ck_E) (f : ck_F) : ck_F := match f.2 with
  | [] => f
  | _ :: _ => match ck_pl E f with
    | none => f
    | some x => bif ck_z (x.1 - x.2) then (x.1, []) else f
theorem ck_nm_ok {E : ck_E} {r : ck_R} (hE : ck_es E r) (f : ck_F) : ck_ev r (ck_nm E f) = ck_ev r f := by
  obtain ⟨c, l⟩ := f
  unfold ck_nm
  cases l with
  | nil => rfl
  | cons p t =>
    dsimp only
    cases hx : ck_pl E (c, p :: t) with
    | none => rfl
    | some x =>
      have h1 := ck_pl_ok hE hx
      dsimp only
      cases hz : ck_z (x.1 - x.2) with
      | false => rfl
      | true =>
        have h2 := ck_z_iff.mp hz
        show ck_ev r (x.1, []) = _
        rw [ck_ev_k]
        omega
noncomputable def ck_of (E : ck_E) (K : ck_K) (c : Nat) (i : ck_F) (O : ck_O) : Option ck_F := List.rec (motive := fun _ => Option ck_F) none (fun o _ ih => bif Nat.beq o.1 c then (bif ck_eq0 E K (ck_fs o.2.1 i) then some o.2.2 else ih) else ih) O
theorem ck_of_ok {E : ck_E} {K : ck_K} {c : Nat} {i v : ck_F} {h : pm_Hp} {r : ck_R} (hE : ck_es E r) (hK : ck_ks K r) : ∀ {O : ck_O}, ck_os h r O → ck_of E K c i O = some v → h c (ck_ev r i).toNat = ck_ev r v
  | [], _, h1 => by cases h1
  | o :: t, hO, h1 => by
    have ht : ck_os h r t := fun q hq => hO q (List.mem_cons_of_mem _ hq)
    have ho := hO o (List.mem_cons_self ..)
    have h2 : (bif Nat.beq o.1 c then (bif ck_eq0 E K (ck_fs o.2.1 i) then some o.2.2 else ck_of E K c i t) else ck_of E K c i t) = some v := h1
    cases hb : Nat.beq o.1 c with
    | false => rw [hb] at h2; exact ck_of_ok hE hK ht h2
    | true =>
      rw [hb] at h2
      cases hz : ck_eq0 E K (ck_fs o.2.1 i) with
      | false => rw [hz] at h2; exact ck_of_ok hE hK ht h2
      | true =>
        rw [hz] at h2
        have e1 := Nat.eq_of_beq_eq_true hb
        have e2 := ck_eq0_ok hE hK hz
        rw [ck_ev_fs] at e2
        have e3 : ck_ev r i = ck_ev r o.2.1 := by omega
        have e4 : o.2.2 = v := Option.some.inj h2
        rw [e3, ← e1, ← e4]
        exact ho.2
def ck_cI (f : ck_F) : Option Nat := match f.2 with
  | [] => (match f.1 with
    | .ofNat n => some n
    | .negSucc _ => none)
  | _ :: _ => none
theorem ck_cI_ok {f : ck_F} {n : Nat} (h : ck_cI f = some n) (r : ck_R) : ck_ev r f = (n : Int) := by
  obtain ⟨c, l⟩ := f
  unfold ck_cI at h
  cases l with
  | cons p t => cases h
  | nil =>
    cases c with
    | negSucc m => cases h
    | ofNat m =>
      have e1 : m = n := Option.some.inj h
      rw [ck_ev_k, e1]
      rfl
/-- the declared range at an index that stands -/
noncomputable def ck_ix (N : ck_F → Bool) (c : Nat) (i : ck_F) : Option (Int × Int) := match ck_nth ck_D c with
  | none => none
  | some x => match x.1 with
    | 0 => (match ck_cI i with
      | none => none
      | some j => ck_nth x.2.2 j)
    | _ => bif N (ck_fk (-1) i) then (bif N (ck_fa (1 - (x.2.1 : Int), []) i) then ck_nth x.2.2 0 else none) else none
theorem ck_ix_ok {N : ck_F → Bool} {r : ck_R} {c : Nat} {i : ck_F} {v : Int × Int} (hN : ∀ f, N f = true → ck_ev r f ≤ 0) (h : ck_ix N c i = some v) : 0 ≤ ck_ev r i ∧ ck_dv c (ck_ev r i).toNat = some v := by
  unfold ck_ix at h
  unfold ck_dv
  rw [ck_nth_ok] at h
  cases hx : ck_D[c]? with
  | none => rw [hx] at h; cases h
  | some x =>
    rw [hx] at h
    dsimp only at h ⊢
    obtain ⟨t, n, l⟩ := x
    match t, h with
    | 0, h =>
      dsimp only at h ⊢
      cases hj : ck_cI i with
      | none => rw [hj] at h; cases h
      | some j =>
        rw [hj] at h
        dsimp only at h
        rw [ck_nth_ok] at h
        rw [ck_cI_ok hj r]
        exact ⟨by omega, by rw [Int.toNat_natCast]; exact h⟩
    | t + 1, h =>
      dsimp only at h ⊢
      obtain ⟨h1, h2⟩ : N (ck_fk (-1) i) = true ∧ (bif N (ck_fa (1 - (n : Int), []) i) then ck_nth l 0 else none) = some v := by
        cases hb : N (ck_fk (-1) i) with
        | true => rw [hb] at h; exact ⟨rfl, h⟩
        | false => rw [hb] at h; cases h
      have g1 := hN _ h1
      rw [ck_ev_fk] at g1
      cases hb : N (ck_fa (1 - (n : Int), []) i) with
      | false => rw [hb] at h2; cases h2
      | true =>
        rw [hb] at h2
        have g2 := hN _ hb
        rw [ck_ev_fa, ck_ev_k] at g2
        have h3 : ck_nth l 0 = some v := h2
        rw [ck_nth_ok] at h3
        exact ⟨by omega, by rw [if_pos (by omega)]; exact h3⟩
/-- facts of ranges that cover an index -/
noncomputable def ck_rf (N : ck_F → Bool) (c : Nat) (i : ck_F) (v : Int × Int) (A : ck_O) : Int × Int := List.rec (motive := fun _ => Int × Int) v (fun a _ ih => match ck_kd a.1 with
  | (t, B, _, _, _, _, lo, hi) => bif Nat.beq t 1 then (bif Nat.beq B c then (bif N (ck_fs a.2.1 i) then (bif N (ck_fs (ck_fa (1, []) i) a.2.2) then (ck_mx ih.1 lo, ck_mn ih.2 hi) else ih) else ih) else ih) else ih) A
theorem ck_rf_ok {N : ck_F → Bool} {r : ck_R} {c : Nat} {i : ck_F} {v : Int × Int} {h : pm_Hp} (hN : ∀ f, N f = true → ck_ev r f ≤ 0) (hp : 0 ≤ ck_ev r i) (hv : v.1 ≤ h c (ck_ev r i).toNat ∧ h c (ck_ev r i).toNat ≤ v.2) : ∀ {A : ck_O}, ck_fts h r A → (ck_rf N c i v A).1 ≤ h c (ck_ev r i).toNat ∧ h c (ck_ev r i).toNat ≤ (ck_rf N c i v A).2
  | [], _ => hv
  | a :: t, hA => by
    have ht : ck_fts h r t := fun q hq => hA q (List.mem_cons_of_mem _ hq)
    have ha := hA a (List.mem_cons_self ..)
    have ih := ck_rf_ok hN hp hv ht
    have e0 : ck_rf N c i v (a :: t) = (match ck_kd a.1 with
      | (t', B, _, _, _, _, lo, hi) => bif Nat.beq t' 1 then (bif Nat.beq B c then (bif N (ck_fs a.2.1 i) then (bif N (ck_fs (ck_fa (1, []) i) a.2.2) then (ck_mx (ck_rf N c i v t).1 lo, ck_mn (ck_rf N c i v t).2 hi) else ck_rf N c i v t) else ck_rf N c i v t) else ck_rf N c i v t) else ck_rf N c i v t) := rfl
    rw [e0]
    unfold ck_ft at ha
    generalize ck_kd a.1 = d at ha
    obtain ⟨t', B, sa, B', sb, th, lo, hi⟩ := d
    dsimp only
    cases b1 : Nat.beq t' 1 with
    | false => exact ih
    | true =>
      cases b2 : Nat.beq B c with
      | false => exact ih
      | true =>
        cases b3 : N (ck_fs a.2.1 i) with
        | false => exact ih
        | true =>
          cases b4 : N (ck_fs (ck_fa (1, []) i) a.2.2) with
          | false => exact ih
          | true =>
            have e1 := Nat.eq_of_beq_eq_true b1
            have e2 := Nat.eq_of_beq_eq_true b2
            subst e1
            subst e2
            have g1 := hN _ b3
            have g2 := hN _ b4
            rw [ck_ev_fs] at g1 g2
            rw [ck_ev_fa, ck_ev_k] at g2
            have ha1 : ∀ j : Nat, ck_ev r a.2.1 ≤ (j : Int) → (j : Int) < ck_ev r a.2.2 → lo ≤ h B j ∧ h B j ≤ hi := ha
            have g3 := ha1 (ck_ev r i).toNat (by omega) (by omega)
            exact ⟨ck_mx_le ih.1 g3.1, ck_le_mn ih.2 g3.2⟩
noncomputable def ck_rd (S : ck_S) (c : Nat) (idx : ck_F) : Option (ck_S × ck_F) := match ck_ix (ck_N S) c (ck_nm S.2.1 idx) with
  | none => none
  | some v => match ck_of S.2.1 S.2.2.1 c (ck_nm S.2.1 idx) S.2.2.2.1 with
    | some f => some (S, f)
    | none => match ck_rf (ck_N S) c (ck_nm S.2.1 idx) v S.2.2.2.2 with
      | (lo, hi) => bif ck_z (lo - hi) then some (S, (lo, [])) else some ((S.1 + 1, (S.1, lo, hi) :: S.2.1, S.2.2.1, (c, ck_nm S.2.1 idx, (0, [(S.1, 1)])) :: S.2.2.2.1, S.2.2.2.2), (0, [(S.1, 1)]))
theorem ck_rd_ok {M : ck_O} {h0 h : pm_Hp} {S S' : ck_S} {c : Nat} {idx v : ck_F} {z : Int} {P : ck_R → Prop} (hd : ck_dec h) (hr : ck_rd S c idx = some (S', v)) (H : ck_G S.1 (fun r => P r ∧ ck_sat M h0 S h r ∧ ck_ev r idx = z)) : 0 ≤ z ∧ (∃ w, ck_dv c z.toNat = some w) ∧ ck_G S'.1 (fun r => P r ∧ ck_sat M h0 S' h r ∧ ck_ev r v = h c z.toNat) := by
  unfold ck_rd at hr
  cases hi : ck_ix (ck_N S) c (ck_nm S.2.1 idx) with
  | none => rw [hi] at hr; cases hr
  | some iv =>
    rw [hi] at hr
    dsimp only at hr
    obtain ⟨r1, hr1⟩ := ck_G_ex H
    have q1 := ck_ix_ok (ck_N_ok hr1.2.1) hi
    rw [ck_nm_ok hr1.2.1.1, hr1.2.2] at q1
    refine ⟨q1.1, ⟨_, q1.2⟩, ?_⟩
    cases hf : ck_of S.2.1 S.2.2.1 c (ck_nm S.2.1 idx) S.2.2.2.1 with
    | some f =>
      rw [hf] at hr
      cases hr
      refine ck_G_mono H (fun r hr => ⟨hr.1, hr.2.1, ?_⟩)
      have g1 := ck_of_ok hr.2.1.1 hr.2.1.2.1 hr.2.1.2.2.1 hf
      rw [ck_nm_ok hr.2.1.1, hr.2.2] at g1
      exact g1.symm
    | none =>
      rw [hf] at hr
      dsimp only at hr
      generalize hg : ck_rf (ck_N S) c (ck_nm S.2.1 idx) iv S.2.2.2.2 = x at hr
      obtain ⟨lo, hi⟩ := x
      dsimp only at hr
      have key : ∀ r, P r ∧ ck_sat M h0 S h r ∧ ck_ev r idx = z → lo ≤ h c z.toNat ∧ h c z.toNat ≤ hi := by
        intro r hr
        have g1 := ck_rf_ok (N := ck_N S) (c := c) (i := ck_nm S.2.1 idx) (v := iv) (h := h) (ck_N_ok hr.2.1) (by rw [ck_nm_ok hr.2.1.1, hr.2.2]; exact q1.1) (by rw [ck_nm_ok hr.2.1.1, hr.2.2]; exact hd c z.toNat iv q1.2) hr.2.1.2.2.2.1
        rw [hg, ck_nm_ok hr.2.1.1, hr.2.2] at g1
        exact g1
      cases hz : ck_z (lo - hi) with
      | true =>
        rw [hz] at hr
        cases hr
        refine ck_G_mono H (fun r hr => ⟨hr.1, hr.2.1, ?_⟩)
        have g1 := key r hr
        have g2 := ck_z_iff.mp hz
        rw [ck_ev_k]
        omega
      | false =>
        rw [hz] at hr
        cases hr
        refine ck_G_new H (h c z.toNat) (fun r hr hv => ?_)
        have g1 := key r hr
        refine ⟨hr.1, ⟨ck_es_cons (by show lo ≤ r S.1 ∧ r S.1 ≤ hi; rw [hv]; exact g1) hr.2.1.1, hr.2.1.2.1, ?_, hr.2.1.2.2.2⟩, by rw [ck_ev_v]; exact hv⟩
        intro o ho
        rcases List.mem_cons.mp ho with rfl | ho
        · show 0 ≤ ck_ev r (ck_nm S.2.1 idx) ∧ h c (ck_ev r (ck_nm S.2.1 idx)).toNat = ck_ev r (0, [(S.1, 1)])
          rw [ck_nm_ok hr.2.1.1, hr.2.2, ck_ev_v]
          exact ⟨q1.1, hv.symm⟩
        · exact hr.2.1.2.2.1 o ho
