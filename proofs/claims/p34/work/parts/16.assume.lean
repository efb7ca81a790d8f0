/-! The checker: what is taken as true of a form. -/
noncomputable def ck_se (n : Nat) (lo hi : Int) (E : ck_E) : Option ck_E := List.rec (motive := fun _ => Option ck_E) (some []) (fun p t ih => bif Nat.beq n p.1 then (bif ck_le (ck_mx p.2.1 lo) (ck_mn p.2.2 hi) then some ((p.1, ck_mx p.2.1 lo, ck_mn p.2.2 hi) :: t) else none) else (match ih with
  | none => none
  | some t' => some (p :: t'))) E
theorem ck_es_cons {p : Nat × Int × Int} {E : ck_E} {r : ck_R} (h1 : p.2.1 ≤ r p.1 ∧ r p.1 ≤ p.2.2) (h2 : ck_es E r) : ck_es (p :: E) r := by
  intro q hq
  rcases List.mem_cons.mp hq with rfl | h
  · exact h1
  · exact h2 q h
theorem ck_se_ok {n : Nat} {lo hi : Int} {r : ck_R} (h1 : lo ≤ r n) (h2 : r n ≤ hi) : ∀ {E : ck_E}, ck_es E r → ∃ E', ck_se n lo hi E = some E' ∧ ck_es E' r
  | [], h => ⟨[], rfl, h⟩
  | p :: t, h => by
    have ht : ck_es t r := fun q hq => h q (List.mem_cons_of_mem _ hq)
    have hp := h p (List.mem_cons_self ..)
    obtain ⟨t', e1, h3⟩ := ck_se_ok h1 h2 ht
    show ∃ E', (bif Nat.beq n p.1 then (bif ck_le (ck_mx p.2.1 lo) (ck_mn p.2.2 hi) then some ((p.1, ck_mx p.2.1 lo, ck_mn p.2.2 hi) :: t) else none) else (match ck_se n lo hi t with
      | none => none
      | some t' => some (p :: t'))) = some E' ∧ ck_es E' r
    cases hb : Nat.beq n p.1 with
    | true =>
      have e2 := Nat.eq_of_beq_eq_true hb
      subst e2
      have h4 := ck_mx_le hp.1 h1
      have h5 := ck_le_mn hp.2 h2
      rw [ck_le_iff.mpr (Int.le_trans h4 h5)]
      exact ⟨_, rfl, ck_es_cons ⟨h4, h5⟩ ht⟩
    | false =>
      rw [e1]
      exact ⟨_, rfl, ck_es_cons hp h3⟩
theorem ck_pl0_one {E : ck_E} {r : ck_R} {c : Int} (hE : ck_es E r) : ∀ {l : ck_L} {x : Int × Int}, ck_pl0 E c l = some x → ∀ p ∈ l, ∀ q, ck_iv E p.1 = some q → (0 ≤ p.2 → x.1 - p.2 * q.1 + p.2 * r p.1 ≤ c + ck_lv r l) ∧ (p.2 < 0 → x.1 - p.2 * q.2 + p.2 * r p.1 ≤ c + ck_lv r l)
  | [], _, _ => fun _ hp => absurd hp List.not_mem_nil
  | p0 :: t, x, h => by
    intro p hp q hq
    obtain ⟨w, q0, hw, hq0, h1⟩ := ck_pl0_cons h
    have hi := ck_pl0_ok hE hw
    have hv := ck_iv_ok (a := q0.1) (b := q0.2) hq0 hE
    rw [ck_lv_cons]
    rcases List.mem_cons.mp hp with rfl | hp
    · have e1 : q0 = q := Option.some.inj (hq0.symm.trans hq)
      subst e1
      rcases h1 with ⟨h2, rfl⟩ | ⟨h2, rfl⟩
      · refine ⟨fun _ => ?_, fun h3 => by omega⟩
        show w.1 + p.2 * q0.1 - p.2 * q0.1 + p.2 * r p.1 ≤ _
        omega
      · refine ⟨fun h3 => by omega, fun _ => ?_⟩
        show w.1 + p.2 * q0.2 - p.2 * q0.2 + p.2 * r p.1 ≤ _
        omega
    · have h5 := ck_pl0_one hE hw p hp q hq
      rcases h1 with ⟨h2, rfl⟩ | ⟨h2, rfl⟩
      · have h3 := ck_mul_mono h2 hv.1
        refine ⟨fun h6 => ?_, fun h6 => ?_⟩
        · have h7 := h5.1 h6
          show w.1 + p0.2 * q0.1 - p.2 * q.1 + p.2 * r p.1 ≤ _
          omega
        · have h7 := h5.2 h6
          show w.1 + p0.2 * q0.1 - p.2 * q.2 + p.2 * r p.1 ≤ _
          omega
      · have h3 := ck_mul_anti h2 hv.2
        refine ⟨fun h6 => ?_, fun h6 => ?_⟩
        · have h7 := h5.1 h6
          show w.1 + p0.2 * q0.2 - p.2 * q.1 + p.2 * r p.1 ≤ _
          omega
        · have h7 := h5.2 h6
          show w.1 + p0.2 * q0.2 - p.2 * q.2 + p.2 * r p.1 ≤ _
          omega
noncomputable def ck_s1 (E : ck_E) (lo : Int) (p : Nat × Int) (E1 : ck_E) : Option ck_E := match ck_iv E p.1 with
  | none => some E1
  | some q => bif ck_le 1 p.2 then ck_se p.1 q.1 ((p.2 * q.1 - lo) / p.2) E1 else (bif ck_le p.2 (-1) then ck_se p.1 (-((p.2 * q.2 - lo) / (-p.2))) q.2 E1 else some E1)
noncomputable def ck_s2 (E : ck_E) (lo : Int) (l : ck_L) : Option ck_E := List.rec (motive := fun _ => Option ck_E) (some E) (fun p _ ih => match ih with
  | none => none
  | some E1 => ck_s1 E lo p E1) l
/-- intervals, if a form is at most 0 -/
noncomputable def ck_sv (E : ck_E) (f : ck_F) : Option ck_E := match ck_pl E f with
  | none => some E
  | some x => bif ck_le 1 x.1 then none else ck_s2 E x.1 f.2
theorem ck_s1_ok {E E1 : ck_E} {r : ck_R} {c lo : Int} {l : ck_L} {x : Int × Int} {p : Nat × Int} (hE : ck_es E r) (h1 : ck_es E1 r) (hx : ck_pl0 E c l = some x) (hp : p ∈ l) (h0 : c + ck_lv r l ≤ 0) (hlo : lo = x.1) : ∃ E', ck_s1 E lo p E1 = some E' ∧ ck_es E' r := by
  subst hlo
  unfold ck_s1
  cases hq : ck_iv E p.1 with
  | none => exact ⟨_, rfl, h1⟩
  | some q =>
    have hv := ck_iv_ok (a := q.1) (b := q.2) hq hE
    have h2 := ck_pl0_one hE hx p hp q hq
    cases hb : ck_le 1 p.2 with
    | true =>
      have h3 := ck_le_iff.mp hb
      have h4 := h2.1 (by omega)
      refine ck_se_ok hv.1 ?_ h1
      refine Int.le_ediv_of_mul_le (by omega) ?_
      rw [Int.mul_comm]
      omega
    | false =>
      show ∃ E', (bif ck_le p.2 (-1) then ck_se p.1 (-((p.2 * q.2 - x.1) / (-p.2))) q.2 E1 else some E1) = some E' ∧ ck_es E' r
      cases hb2 : ck_le p.2 (-1) with
      | true =>
        have h3 := ck_le_iff.mp hb2
        have h4 := h2.2 (by omega)
        refine ck_se_ok ?_ hv.2 h1
        have h5 : -(r p.1) ≤ (p.2 * q.2 - x.1) / (-p.2) := by
          refine Int.le_ediv_of_mul_le (by omega) ?_
          rw [Int.neg_mul_neg, Int.mul_comm]
          omega
        omega
      | false => exact ⟨_, rfl, h1⟩
theorem ck_s2_ok {E : ck_E} {r : ck_R} {c : Int} {l : ck_L} {x : Int × Int} (hE : ck_es E r) (hx : ck_pl0 E c l = some x) (h0 : c + ck_lv r l ≤ 0) : ∀ l' : ck_L, (∀ p ∈ l', p ∈ l) → ∃ E', ck_s2 E x.1 l' = some E' ∧ ck_es E' r
  | [], _ => ⟨E, rfl, hE⟩
  | p :: t, hl => by
    obtain ⟨E1, e1, h1⟩ := ck_s2_ok hE hx h0 t (fun q hq => hl q (List.mem_cons_of_mem _ hq))
    obtain ⟨E2, e2, h2⟩ := ck_s1_ok hE h1 hx (hl p (List.mem_cons_self ..)) h0 rfl
    refine ⟨E2, ?_, h2⟩
    show (match ck_s2 E x.1 t with
      | none => none
      | some E1 => ck_s1 E x.1 p E1) = some E2
    rw [e1]
    exact e2
theorem ck_sv_ok {E : ck_E} {r : ck_R} {f : ck_F} (hE : ck_es E r) (h0 : ck_ev r f ≤ 0) : ∃ E', ck_sv E f = some E' ∧ ck_es E' r := by
  unfold ck_sv
  cases hx : ck_pl E f with
  | none => exact ⟨E, rfl, hE⟩
  | some x =>
    have h1 := ck_pl_ok hE hx
    dsimp only
    cases hb : ck_le 1 x.1 with
    | true => have h2 := ck_le_iff.mp hb; omega
    | false => exact ck_s2_ok hE hx h0 f.2 (fun _ h => h)
/-- constraints -/
noncomputable def ck_sh (l lp : ck_L) : Bool := List.rec (motive := fun _ => Bool) false (fun p _ ih => bif ck_z (ck_co lp p.1) then ih else true) l
noncomputable def ck_v2 (k : ck_L × Int × Int) (E : ck_E) : Option ck_E := match ck_sv E (-k.2.2, k.1) with
  | none => none
  | some E1 => ck_sv E1 (k.2.1, ck_sc (-1) k.1)
noncomputable def ck_vs (l : ck_L) (E : ck_E) (K : ck_K) : Option ck_E := List.rec (motive := fun _ => Option ck_E) (some E) (fun k _ ih => match ih with
  | none => none
  | some E1 => bif ck_sh l k.1 then ck_v2 k E1 else some E1) K
theorem ck_v2_ok {k : ck_L × Int × Int} {E : ck_E} {r : ck_R} (hE : ck_es E r) (hk : k.2.1 ≤ ck_lv r k.1 ∧ ck_lv r k.1 ≤ k.2.2) : ∃ E', ck_v2 k E = some E' ∧ ck_es E' r := by
  obtain ⟨E1, e1, h1⟩ := ck_sv_ok (f := (-k.2.2, k.1)) hE (by show -k.2.2 + ck_lv r k.1 ≤ 0; omega)
  unfold ck_v2
  rw [e1]
  refine ck_sv_ok (f := (k.2.1, ck_sc (-1) k.1)) h1 ?_
  show k.2.1 + ck_lv r (ck_sc (-1) k.1) ≤ 0
  rw [ck_lv_sc]
  omega
theorem ck_vs_ok {l : ck_L} {E : ck_E} {r : ck_R} (hE : ck_es E r) : ∀ {K : ck_K}, ck_ks K r → ∃ E', ck_vs l E K = some E' ∧ ck_es E' r
  | [], _ => ⟨E, rfl, hE⟩
  | k :: t, hK => by
    obtain ⟨E1, e1, h1⟩ := ck_vs_ok (l := l) hE (fun q hq => hK q (List.mem_cons_of_mem _ hq))
    show ∃ E', (match ck_vs l E t with
      | none => none
      | some E1 => bif ck_sh l k.1 then ck_v2 k E1 else some E1) = some E' ∧ ck_es E' r
    rw [e1]
    cases hb : ck_sh l k.1 with
    | true =>
      obtain ⟨E2, e2, h2⟩ := ck_v2_ok h1 (hK k (List.mem_cons_self ..))
      exact ⟨E2, e2, h2⟩
    | false => exact ⟨E1, rfl, h1⟩
noncomputable def ck_el (l : ck_L) : ck_L → Bool := List.rec (motive := fun _ => ck_L → Bool) (fun m => match m with
  | [] => true
  | _ :: _ => false) (fun p _ ih m => match m with
  | [] => false
  | q :: u => bif Nat.beq p.1 q.1 then (bif ck_z (p.2 - q.2) then ih u else false) else false) l
theorem ck_el_ok : ∀ {l m : ck_L}, ck_el l m = true → l = m
  | [], [], _ => rfl
  | [], _ :: _, h => by cases h
  | _ :: _, [], h => by cases h
  | p :: t, q :: u, h => by
    have h0 : (bif Nat.beq p.1 q.1 then (bif ck_z (p.2 - q.2) then ck_el t u else false) else false) = true := h
    cases hb : Nat.beq p.1 q.1 with
    | false => rw [hb] at h0; cases h0
    | true =>
      rw [hb] at h0
      cases hz : ck_z (p.2 - q.2) with
      | false => rw [hz] at h0; cases h0
      | true =>
        rw [hz] at h0
        have e1 := Nat.eq_of_beq_eq_true hb
        have e2 := ck_z_iff.mp hz
        have e3 : p.2 = q.2 := by omega
        rw [ck_el_ok h0, show p = q from Prod.ext e1 e3]
noncomputable def ck_ak (l : ck_L) (a b : Int) (K : ck_K) : ck_K := List.rec (motive := fun _ => ck_K) [(l, a, b)] (fun k t ih => bif ck_el l k.1 then (k.1, ck_mx k.2.1 a, ck_mn k.2.2 b) :: t else k :: ih) K
theorem ck_ks_cons {k : ck_L × Int × Int} {K : ck_K} {r : ck_R} (h1 : k.2.1 ≤ ck_lv r k.1 ∧ ck_lv r k.1 ≤ k.2.2) (h2 : ck_ks K r) : ck_ks (k :: K) r := by
  intro q hq
  rcases List.mem_cons.mp hq with rfl | h
  · exact h1
  · exact h2 q h
theorem ck_ak_ok {l : ck_L} {a b : Int} {r : ck_R} (h : a ≤ ck_lv r l ∧ ck_lv r l ≤ b) : ∀ {K : ck_K}, ck_ks K r → ck_ks (ck_ak l a b K) r
  | [], hK => ck_ks_cons h hK
  | k :: t, hK => by
    have ht : ck_ks t r := fun q hq => hK q (List.mem_cons_of_mem _ hq)
    have hk := hK k (List.mem_cons_self ..)
    show ck_ks (bif ck_el l k.1 then (k.1, ck_mx k.2.1 a, ck_mn k.2.2 b) :: t else k :: ck_ak l a b t) r
    cases hb : ck_el l k.1 with
    | true =>
      have e1 := ck_el_ok hb
      rw [e1] at h
      exact ck_ks_cons ⟨ck_mx_le hk.1 h.1, ck_le_mn hk.2 h.2⟩ ht
    | false => exact ck_ks_cons hk (ck_ak_ok h ht)
/-- a form at most 0, with at least two names: a constraint -/
noncomputable def ck_ac (E : ck_E) (K : ck_K) (f : ck_F) : ck_K := match f.2 with
  | [] => K
  | p :: t => match t with
    | [] => K
    | _ :: _ => match ck_pl E f with
      | none => K
      | some x => bif ck_le 0 p.2 then ck_ak f.2 (x.1 - f.1) (-f.1) K else ck_ak (ck_sc (-1) f.2) f.1 (f.1 - x.1) K
theorem ck_ac_ok {E : ck_E} {K : ck_K} {f : ck_F} {r : ck_R} (hE : ck_es E r) (hK : ck_ks K r) (h0 : ck_ev r f ≤ 0) : ck_ks (ck_ac E K f) r := by
  obtain ⟨c, l⟩ := f
  unfold ck_ac
  match l, h0 with
  | [], _ => exact hK
  | [_], _ => exact hK
  | p :: q :: t, h0 =>
    dsimp only
    cases hx : ck_pl E (c, p :: q :: t) with
    | none => exact hK
    | some x =>
      have h1 := ck_pl_ok hE hx
      have h2 : ck_ev r (c, p :: q :: t) = c + ck_lv r (p :: q :: t) := rfl
      dsimp only
      cases hb : ck_le 0 p.2 with
      | true => exact ck_ak_ok ⟨by omega, by omega⟩ hK
      | false =>
        refine ck_ak_ok ?_ hK
        rw [ck_lv_sc]
        constructor <;> omega
noncomputable def ck_as (E : ck_E) (K : ck_K) (f : ck_F) : Option (ck_E × ck_K) := match ck_rg 2 E K f with
  | none => some (E, K)
  | some x => bif ck_le 1 x.1 then none else (bif ck_le x.2 0 then some (E, K) else (match ck_sv E f with
    | none => none
    | some E1 => match ck_vs f.2 E1 (ck_ac E K f) with
      | none => none
      | some E2 => some (E2, ck_ac E K f)))
theorem ck_as_ok {E : ck_E} {K : ck_K} {f : ck_F} {r : ck_R} (hE : ck_es E r) (hK : ck_ks K r) (h0 : ck_ev r f ≤ 0) : ∃ x, ck_as E K f = some x ∧ ck_es x.1 r ∧ ck_ks x.2 r := by
  unfold ck_as
  cases hx : ck_rg 2 E K f with
  | none => exact ⟨_, rfl, hE, hK⟩
  | some x =>
    have h1 := ck_rg_ok hE hK 2 f x hx
    dsimp only
    cases hb : ck_le 1 x.1 with
    | true => have h2 := ck_le_iff.mp hb; omega
    | false =>
      cases hb2 : ck_le x.2 0 with
      | true => exact ⟨_, rfl, hE, hK⟩
      | false =>
        obtain ⟨E1, e1, h2⟩ := ck_sv_ok hE h0
        have h3 := ck_ac_ok hE hK h0
        obtain ⟨E2, e2, h4⟩ := ck_vs_ok (l := f.2) h2 h3
        rw [e1]
        dsimp only [cond_false]
        rw [e2]
        exact ⟨_, rfl, h4, h3⟩
/-- a test of a difference: 0 eq, 1 ne, 2 lt, 3 ge, 4 gt, 5 le -/
noncomputable def ck_ts (b : Nat) (E : ck_E) (K : ck_K) (d : ck_F) : Option (ck_E × ck_K) := match b with
  | 0 => (match ck_as E K d with
    | none => none
    | some x => ck_as x.1 x.2 (ck_fk (-1) d))
  | 1 => (match ck_rg 2 E K d with
    | none => some (E, K)
    | some x => bif ck_z x.1 then (bif ck_z x.2 then none else ck_as E K (ck_fs (1, []) d)) else (bif ck_z x.2 then ck_as E K (ck_fa (1, []) d) else some (E, K)))
  | 2 => ck_as E K (ck_fa (1, []) d)
  | 3 => ck_as E K (ck_fk (-1) d)
  | 4 => ck_as E K (ck_fs (1, []) d)
  | _ => ck_as E K d
def ck_tc (b : Nat) (x : Int) : Prop := match b with
  | 0 => x = 0
  | 1 => x ≠ 0
  | 2 => x < 0
  | 3 => 0 ≤ x
  | 4 => 0 < x
  | _ => x ≤ 0
theorem ck_ts_ok {b : Nat} {E : ck_E} {K : ck_K} {d : ck_F} {r : ck_R} (hE : ck_es E r) (hK : ck_ks K r) (h0 : ck_tc b (ck_ev r d)) : ∃ x, ck_ts b E K d = some x ∧ ck_es x.1 r ∧ ck_ks x.2 r := by
  have hm : ck_ev r (ck_fk (-1) d) = - ck_ev r d := by rw [ck_ev_fk]; omega
  have hp : ck_ev r (ck_fa (1, []) d) = 1 + ck_ev r d := by rw [ck_ev_fa, ck_ev_k]
  have hn : ck_ev r (ck_fs (1, []) d) = 1 - ck_ev r d := by rw [ck_ev_fs, ck_ev_k]
  match b, h0 with
  | 0, h0 =>
    have h1 : ck_ev r d = 0 := h0
    obtain ⟨x, e1, h2, h3⟩ := ck_as_ok (f := d) hE hK (by omega)
    show ∃ y, (match ck_as E K d with
      | none => none
      | some x => ck_as x.1 x.2 (ck_fk (-1) d)) = some y ∧ ck_es y.1 r ∧ ck_ks y.2 r
    rw [e1]
    exact ck_as_ok h2 h3 (by omega)
  | 1, h0 =>
    have h1 : ck_ev r d ≠ 0 := h0
    show ∃ y, (match ck_rg 2 E K d with
      | none => some (E, K)
      | some x => bif ck_z x.1 then (bif ck_z x.2 then none else ck_as E K (ck_fs (1, []) d)) else (bif ck_z x.2 then ck_as E K (ck_fa (1, []) d) else some (E, K))) = some y ∧ ck_es y.1 r ∧ ck_ks y.2 r
    cases hx : ck_rg 2 E K d with
    | none => exact ⟨_, rfl, hE, hK⟩
    | some x =>
      have h2 := ck_rg_ok hE hK 2 d x hx
      dsimp only
      cases hz1 : ck_z x.1 with
      | true =>
        have h3 := ck_z_iff.mp hz1
        cases hz2 : ck_z x.2 with
        | true => have h4 := ck_z_iff.mp hz2; omega
        | false => exact ck_as_ok hE hK (by omega)
      | false =>
        cases hz2 : ck_z x.2 with
        | true => have h4 := ck_z_iff.mp hz2; exact ck_as_ok hE hK (by omega)
        | false => exact ⟨_, rfl, hE, hK⟩
  | 2, h0 => have h1 : ck_ev r d < 0 := h0; exact ck_as_ok hE hK (by omega)
  | 3, h0 => have h1 : 0 ≤ ck_ev r d := h0; exact ck_as_ok hE hK (by omega)
  | 4, h0 => have h1 : 0 < ck_ev r d := h0; exact ck_as_ok hE hK (by omega)
  | _ + 5, h0 => exact ck_as_ok hE hK h0
