/-! The checker: what a text of hints can ask: cases, reads, facts used and made. -/
section
variable {M : ck_O} {h0 h : pm_Hp} {S : ck_S} {P : ck_R → Prop}
/-- one of the states holds -/
def ck_Sx (M : ck_O) (h0 h : pm_Hp) (P : ck_R → Prop) (l : List ck_S) : Prop := ∃ S' ∈ l, ck_G S'.1 (fun r => P r ∧ ck_sat M h0 S' h r)
theorem ck_Sx_l {l k : List ck_S} (H : ck_Sx M h0 h P l) : ck_Sx M h0 h P (l ++ k) := by
  obtain ⟨S', h1, h2⟩ := H
  exact ⟨S', List.mem_append_left _ h1, h2⟩
theorem ck_Sx_r {l k : List ck_S} (H : ck_Sx M h0 h P k) : ck_Sx M h0 h P (l ++ k) := by
  obtain ⟨S', h1, h2⟩ := H
  exact ⟨S', List.mem_append_right _ h1, h2⟩
theorem ck_Sx_mono {l : List ck_S} {P' : ck_R → Prop} (H : ck_Sx M h0 h P l) (hp : ∀ r, P r → P' r) : ck_Sx M h0 h P' l := by
  obtain ⟨S', h1, h2⟩ := H
  exact ⟨S', h1, ck_G_mono h2 (fun r hr => ⟨hp r hr.1, hr.2⟩)⟩
/-- cases by a form: at most 0, or more -/
noncomputable def ck_p0 (S : ck_S) (f : ck_F) : List ck_S := ck_tw S 5 f ++ ck_tw S 4 f
theorem ck_p0_ok {f : ck_F} (H : ck_G S.1 (fun r => P r ∧ ck_sat M h0 S h r)) (hf : ck_wl S.1 f.2 = true) : ck_Sx M h0 h P (ck_p0 S f) := by
  obtain ⟨z, H1⟩ := ck_G_wf H hf
  have H2 : ck_G S.1 (fun r => (P r ∧ ck_ev r f = z) ∧ ck_sat M h0 S h r) := ck_G_mono H1 (fun r hr => ⟨⟨hr.1.1, hr.2⟩, hr.1.2⟩)
  rcases Int.lt_or_le 0 z with hz | hz
  · obtain ⟨S', h1, h2⟩ := ck_tw_ok (b := 4) (d := f) H2 (fun r hr => by rw [hr.2]; exact hz)
    exact ck_Sx_r ⟨S', h1, ck_G_mono h2 (fun r hr => ⟨hr.1.1, hr.2⟩)⟩
  · obtain ⟨S', h1, h2⟩ := ck_tw_ok (b := 5) (d := f) H2 (fun r hr => by rw [hr.2]; exact hz)
    exact ck_Sx_l ⟨S', h1, ck_G_mono h2 (fun r hr => ⟨hr.1.1, hr.2⟩)⟩
/-- a value lies between -/
noncomputable def ck_a2 (S : ck_S) (lo hi v : ck_F) : List ck_S := List.rec (motive := fun _ => List ck_S) [] (fun S1 _ ih => ck_tw S1 5 (ck_fs v hi) ++ ih) (ck_tw S 5 (ck_fs lo v))
theorem ck_a2_ok {lo hi v : ck_F} (H : ck_G S.1 (fun r => P r ∧ ck_sat M h0 S h r)) (h1 : ∀ r, P r → ck_ev r lo ≤ ck_ev r v ∧ ck_ev r v ≤ ck_ev r hi) : ck_Sx M h0 h P (ck_a2 S lo hi v) := by
  obtain ⟨S1, h2, h3⟩ := ck_tw_ok (b := 5) (d := ck_fs lo v) H (fun r hr => by rw [ck_ev_fs]; have := (h1 r hr).1; show ck_ev r lo - ck_ev r v ≤ 0; omega)
  obtain ⟨S2, h4, h5⟩ := ck_tw_ok (b := 5) (d := ck_fs v hi) h3 (fun r hr => by rw [ck_ev_fs]; have := (h1 r hr).2; show ck_ev r v - ck_ev r hi ≤ 0; omega)
  unfold ck_a2
  generalize ck_tw S 5 (ck_fs lo v) = l at h2
  induction l with
  | nil => exact absurd h2 List.not_mem_nil
  | cons q t ih =>
    show ck_Sx M h0 h P (ck_tw q 5 (ck_fs v hi) ++ (List.rec (motive := fun _ => List ck_S) [] (fun S1 _ ih => ck_tw S1 5 (ck_fs v hi) ++ ih) t : List ck_S))
    rcases List.mem_cons.mp h2 with rfl | h2
    · exact ck_Sx_l ⟨S2, h4, h5⟩
    · exact ck_Sx_r (ih h2)
/-- a read -/
theorem ck_rd2 {c : Nat} {idx v : ck_F} {S' : ck_S} {z : Int} (hd : ck_dec h) (hr : ck_rd S c idx = some (S', v)) (H : ck_G S.1 (fun r => P r ∧ ck_sat M h0 S h r)) (hz : ∀ r, P r → ck_ev r idx = z) : 0 ≤ z ∧ ck_G S'.1 (fun r => (P r ∧ ck_ev r v = h c z.toNat) ∧ ck_sat M h0 S' h r) := by
  obtain ⟨h1, _, h2⟩ := ck_rd_ok (M := M) (h0 := h0) hd hr (ck_G_mono H (fun r hr => ⟨hr.1, hr.2, hz r hr.1⟩))
  exact ⟨h1, ck_G_mono h2 (fun r hr => ⟨⟨hr.1, hr.2.2⟩, hr.2.1⟩)⟩
noncomputable def ck_pr (S : ck_S) (c : Nat) (idx : ck_F) : Option (List ck_S) := bif ck_wl S.1 idx.2 then (match ck_rd S c idx with
  | none => none
  | some x => some [x.1]) else none
theorem ck_pr_ok {c : Nat} {idx : ck_F} {l : List ck_S} (hd : ck_dec h) (hs : ck_pr S c idx = some l) (H : ck_G S.1 (fun r => P r ∧ ck_sat M h0 S h r)) : ck_Sx M h0 h P l := by
  unfold ck_pr at hs
  cases hw : ck_wl S.1 idx.2 with
  | false => rw [hw] at hs; cases hs
  | true =>
    rw [hw] at hs
    dsimp only [cond_true] at hs
    cases hx : ck_rd S c idx with
    | none => rw [hx] at hs; cases hs
    | some x =>
      rw [hx] at hs
      cases hs
      obtain ⟨z, H1⟩ := ck_G_wf H hw
      obtain ⟨_, h2⟩ := ck_rd2 (S' := x.1) (v := x.2) (P := fun r => P r ∧ ck_ev r idx = z) hd hx (ck_G_mono H1 (fun r hr => ⟨⟨hr.1.1, hr.2⟩, hr.1.2⟩)) (fun r hr => hr.2)
      exact ⟨x.1, List.mem_cons_self .., ck_G_mono h2 (fun r hr => ⟨hr.1.1.1, hr.2⟩)⟩
/-- a fact that covers an index -/
noncomputable def ck_ef (S : ck_S) (k : Nat) (i : ck_F) : Bool := ck_f1 (ck_N S) k i (ck_fa (.ofNat 1, []) i) S.2.2.2.2
theorem ck_ef_ok {k : Nat} {i : ck_F} {r : ck_R} (hs : ck_sat M h0 S h r) (h1 : ck_ef S k i = true) : ck_ft h k (ck_ev r i) (ck_ev r i + 1) := by
  have h2 := ck_f1_ok (ck_N_ok hs) hs.2.2.2.1 h1
  rw [ck_ev_fa, ck_ev_k] at h2
  rw [Int.add_comm]
  exact h2
/-- use of a fact of two sides, at indices a and b -/
noncomputable def ck_u3 (S : ck_S) (A B : Nat) (a b : ck_F) (th lo hi : Int) : Option (List ck_S) := match ck_rd S A a with
  | none => none
  | some x => match ck_rd x.1 B b with
    | none => none
    | some y => some (ck_tw y.1 5 (ck_fs x.2 (th, [])) ++ ck_a2 y.1 (lo, []) (hi, []) y.2)
theorem ck_u3_ok {A B : Nat} {a b : ck_F} {th lo hi za zb : Int} {l : List ck_S} (hd : ck_dec h) (hs : ck_u3 S A B a b th lo hi = some l) (H : ck_G S.1 (fun r => P r ∧ ck_sat M h0 S h r)) (ha : ∀ r, P r → ck_ev r a = za) (hb : ∀ r, P r → ck_ev r b = zb) (hf : h A za.toNat ≤ th ∨ lo ≤ h B zb.toNat ∧ h B zb.toNat ≤ hi) : ck_Sx M h0 h P l := by
  unfold ck_u3 at hs
  cases hx : ck_rd S A a with
  | none => rw [hx] at hs; cases hs
  | some x =>
    rw [hx] at hs
    dsimp only at hs
    cases hy : ck_rd x.1 B b with
    | none => rw [hy] at hs; cases hs
    | some y =>
      rw [hy] at hs
      cases hs
      obtain ⟨_, h1⟩ := ck_rd2 (S' := x.1) (v := x.2) hd hx H ha
      obtain ⟨_, h2⟩ := ck_rd2 (S' := y.1) (v := y.2) hd hy h1 (fun r hr => hb r hr.1)
      rcases hf with hf | hf
      · obtain ⟨S', g1, g2⟩ := ck_tw_ok (b := 5) (d := ck_fs x.2 (th, [])) h2 (fun r hr => by rw [ck_ev_fs, ck_ev_k, hr.1.2]; show h A za.toNat - th ≤ 0; omega)
        exact ck_Sx_l ⟨S', g1, ck_G_mono g2 (fun r hr => ⟨hr.1.1.1, hr.2⟩)⟩
      · exact ck_Sx_r (ck_Sx_mono (ck_a2_ok (lo := (lo, [])) (hi := (hi, [])) (v := y.2) h2 (fun r hr => by rw [ck_ev_k, ck_ev_k, hr.2]; exact hf)) (fun r hr => hr.1.1))
/-- use of a fact of a tree -/
noncomputable def ck_u2b (hi : Int) (B : Nat) (p : ck_F) (S2 : ck_S) : Option (List ck_S) := match ck_rd S2 B p with
  | none => none
  | some y => some (ck_tw y.1 5 (ck_fs y.2 (hi, [])))
noncomputable def ck_u2c (hi : Int) (B : Nat) (p : ck_F) (l : List ck_S) : Option (List ck_S) := List.rec (motive := fun _ => Option (List ck_S)) (some []) (fun S2 _ ih => match ck_u2b hi B p S2 with
  | none => none
  | some k => match ih with
    | none => none
    | some m => some (k ++ m)) l
noncomputable def ck_u2 (S : ck_S) (A B : Nat) (i : ck_F) (hi : Int) : Option (List ck_S) := match ck_rd S A i with
  | none => none
  | some x => ck_u2c hi B x.2 (ck_a2 x.1 (.ofNat 0, []) (ck_fa (.negSucc 0, []) i) x.2)
theorem ck_u2c_ok {hi zp : Int} {B : Nat} {p : ck_F} (hd : ck_dec h) (hp : ∀ r, P r → ck_ev r p = zp) (hf : h B zp.toNat ≤ hi) : ∀ {l k : List ck_S}, ck_u2c hi B p l = some k → ck_Sx M h0 h P l → ck_Sx M h0 h P k
  | [], _, _, H => by
    obtain ⟨S', h1, _⟩ := H
    exact absurd h1 List.not_mem_nil
  | S2 :: t, k, hs, H => by
    have hs' : (match ck_u2b hi B p S2 with
      | none => none
      | some k => match ck_u2c hi B p t with
        | none => none
        | some m => some (k ++ m)) = some k := hs
    cases h1 : ck_u2b hi B p S2 with
    | none => rw [h1] at hs'; cases hs'
    | some k1 =>
      rw [h1] at hs'
      dsimp only at hs'
      cases h2 : ck_u2c hi B p t with
      | none => rw [h2] at hs'; cases hs'
      | some m =>
        rw [h2] at hs'
        cases hs'
        obtain ⟨S', g1, g2⟩ := H
        rcases List.mem_cons.mp g1 with rfl | g1
        · unfold ck_u2b at h1
          cases hy : ck_rd S' B p with
          | none => rw [hy] at h1; cases h1
          | some y =>
            rw [hy] at h1
            cases h1
            obtain ⟨_, h3⟩ := ck_rd2 (S' := y.1) (v := y.2) hd hy g2 hp
            obtain ⟨S3, g3, g4⟩ := ck_tw_ok (b := 5) (d := ck_fs y.2 (hi, [])) h3 (fun r hr => by rw [ck_ev_fs, ck_ev_k, hr.2]; show h B zp.toNat - hi ≤ 0; omega)
            exact ck_Sx_l ⟨S3, g3, ck_G_mono g4 (fun r hr => ⟨hr.1.1, hr.2⟩)⟩
        · exact ck_Sx_r (ck_u2c_ok hd hp hf h2 ⟨S', g1, g2⟩)
theorem ck_u2_ok {A B : Nat} {i : ck_F} {hi zi : Int} {l : List ck_S} (hd : ck_dec h) (hs : ck_u2 S A B i hi = some l) (H : ck_G S.1 (fun r => P r ∧ ck_sat M h0 S h r)) (hz : ∀ r, P r → ck_ev r i = zi) (hf : 0 ≤ h A zi.toNat ∧ h A zi.toNat < zi ∧ h B (h A zi.toNat).toNat ≤ hi) : ck_Sx M h0 h P l := by
  unfold ck_u2 at hs
  cases hx : ck_rd S A i with
  | none => rw [hx] at hs; cases hs
  | some x =>
    rw [hx] at hs
    dsimp only at hs
    obtain ⟨_, h1⟩ := ck_rd2 (S' := x.1) (v := x.2) hd hx H hz
    have h2 := ck_a2_ok (lo := (.ofNat 0, [])) (hi := ck_fa (.negSucc 0, []) i) (v := x.2) h1 (fun r hr => by
      rw [ck_ev_fa, ck_ev_k, ck_ev_k, hr.2, hz r hr.1]
      show (0 : Int) ≤ h A zi.toNat ∧ h A zi.toNat ≤ -1 + zi
      omega)
    exact ck_Sx_mono (ck_u2c_ok hd (fun r hr => hr.2) hf.2.2 hs h2) (fun r hr => hr.1)
noncomputable def ck_sl6 (k : Nat) (A : ck_O) : Option ck_F := List.rec (motive := fun _ => Option ck_F) none (fun q _ ih => bif Nat.beq q.1 k then some q.2.1 else ih) A
theorem ck_sl6_ok {k : Nat} {f : ck_F} : ∀ {A : ck_O}, ck_sl6 k A = some f → ∃ q ∈ A, q.1 = k ∧ q.2.1 = f
  | [], h => by cases h
  | q :: t, h => by
    have h1 : (bif Nat.beq q.1 k then some q.2.1 else ck_sl6 k t) = some f := h
    cases hb : Nat.beq q.1 k with
    | true =>
      rw [hb] at h1
      exact ⟨q, List.mem_cons_self .., Nat.eq_of_beq_eq_true hb, Option.some.inj h1⟩
    | false =>
      rw [hb] at h1
      obtain ⟨q', h2, h3⟩ := ck_sl6_ok h1
      exact ⟨q', List.mem_cons_of_mem _ h2, h3⟩
theorem ck_f6_nn (h : pm_Hp) (A : Nat) : 0 ≤ ck_f6 h A := by
  have h1 : ∀ x : Int, 0 ≤ ck_vl x := by
    intro x
    unfold ck_vl
    split <;> omega
  unfold ck_f6
  have a0 := h1 (h A 0)
  have a1 := h1 (h A 1)
  have a2 := h1 (h A 2)
  have a3 := h1 (h A 3)
  have a4 := h1 (h A 4)
  have a5 := h1 (h A 5)
  have a6 := h1 (h A 6)
  have a7 := h1 (h A 7)
  omega
/-- use of a fact -/
noncomputable def ck_pe (S : ck_S) (k : Nat) (i : ck_F) : Option (List ck_S) := bif ck_wl S.1 i.2 then (match ck_kd k with
  | (t, A, sa, B, sb, th, lo, hi) => match t with
    | 2 => bif (bif ck_ef S k i then ck_N S (ck_fs (.ofNat 1, []) i) else false) then ck_u2 S A B i hi else none
    | 3 => bif ck_ef S k i then ck_u3 S A B i i th lo hi else none
    | 4 => (match ck_sl6 k S.2.2.2.2 with
      | none => none
      | some _ => ck_u3 S A B (.ofNat sa, []) (.ofNat sb, []) th lo hi)
    | 6 => (match ck_sl6 k S.2.2.2.2 with
      | none => none
      | some f => some (ck_tw S 3 f))
    | _ => none) else none
theorem ck_pe_ok {k : Nat} {i : ck_F} {l : List ck_S} (hd : ck_dec h) (hs : ck_pe S k i = some l) (H : ck_G S.1 (fun r => P r ∧ ck_sat M h0 S h r)) : ck_Sx M h0 h P l := by
  unfold ck_pe at hs
  cases hw : ck_wl S.1 i.2 with
  | false => rw [hw] at hs; cases hs
  | true =>
    rw [hw] at hs
    dsimp only [cond_true] at hs
    obtain ⟨z, H1⟩ := ck_G_wf H hw
    have H2 : ck_G S.1 (fun r => (P r ∧ ck_ev r i = z) ∧ ck_sat M h0 S h r) := ck_G_mono H1 (fun r hr => ⟨⟨hr.1.1, hr.2⟩, hr.1.2⟩)
    obtain ⟨r0, hr0⟩ := ck_G_ex H2
    have fact : ck_ef S k i = true → ck_ft0 h (ck_kd k) z (z + 1) := fun q => by
      have q1 := ck_ef_ok hr0.2 q
      rw [hr0.1.2] at q1
      exact q1
    have fact4 : ∀ f, ck_sl6 k S.2.2.2.2 = some f → ∃ b, ∀ r, ck_sat M h0 S h r → ck_ft0 h (ck_kd k) (ck_ev r f) (ck_ev r b) := fun f q => by
      obtain ⟨q', g1, g2, g3⟩ := ck_sl6_ok q
      refine ⟨q'.2.2, fun r hr => ?_⟩
      have g4 := hr.2.2.2.1 q' g1
      rw [g2, g3] at g4
      exact g4
    generalize ck_kd k = d at hs fact fact4
    obtain ⟨t, A, sa, B, sb, th, lo, hi⟩ := d
    match t, hs, fact, fact4 with
    | 0, hs, _, _ => cases hs
    | 1, hs, _, _ => cases hs
    | 2, hs, fact, _ =>
      dsimp only at hs
      cases hb : (bif ck_ef S k i then ck_N S (ck_fs (.ofNat 1, []) i) else false) with
      | false => rw [hb] at hs; cases hs
      | true =>
        rw [hb] at hs
        obtain ⟨b1, b2⟩ := ck_and hb
        have g1 := ck_N_ok hr0.2 _ b2
        rw [ck_ev_fs, ck_ev_k, hr0.1.2] at g1
        have g1' : (1 : Int) - z ≤ 0 := g1
        have f1 : ∀ j : Nat, z ≤ (j : Int) → (j : Int) < z + 1 → 1 ≤ j → 0 ≤ h A j ∧ h A j < (j : Int) ∧ h B (h A j).toNat ≤ hi := fact b1
        have f2 := f1 z.toNat (by omega) (by omega) (by omega)
        have e1 : ((z.toNat : Nat) : Int) = z := by omega
        rw [e1] at f2
        exact ck_Sx_mono (ck_u2_ok hd hs H2 (fun r hr => hr.2) f2) (fun r hr => hr.1)
    | 3, hs, fact, _ =>
      dsimp only at hs
      cases hb : ck_ef S k i with
      | false => rw [hb] at hs; cases hs
      | true =>
        rw [hb] at hs
        dsimp only [cond_true] at hs
        have f1 : ∀ j : Nat, z ≤ (j : Int) → (j : Int) < z + 1 → h A j ≤ th ∨ lo ≤ h B j ∧ h B j ≤ hi := fact hb
        have hz : 0 ≤ z := by
          unfold ck_u3 at hs
          cases hx : ck_rd S A i with
          | none => rw [hx] at hs; cases hs
          | some x => exact (ck_rd2 (S' := x.1) (v := x.2) hd hx H2 (fun r hr => hr.2)).1
        exact ck_Sx_mono (ck_u3_ok hd hs H2 (fun r hr => hr.2) (fun r hr => hr.2) (f1 z.toNat (by omega) (by omega))) (fun r hr => hr.1)
    | 4, hs, _, fact4 =>
      dsimp only at hs
      cases hb : ck_sl6 k S.2.2.2.2 with
      | none => rw [hb] at hs; cases hs
      | some f =>
        rw [hb] at hs
        dsimp only at hs
        obtain ⟨b, f1⟩ := fact4 f hb
        have f2 : h A sa ≤ th ∨ lo ≤ h B sb ∧ h B sb ≤ hi := f1 r0 hr0.2
        exact ck_u3_ok (za := (sa : Int)) (zb := (sb : Int)) hd hs H (fun r hr => by rw [ck_ev_k]; rfl) (fun r hr => by rw [ck_ev_k]; rfl) f2
    | 5, hs, _, _ => cases hs
    | 6, hs, _, fact4 =>
      dsimp only at hs
      cases hb : ck_sl6 k S.2.2.2.2 with
      | none => rw [hb] at hs; cases hs
      | some f =>
        rw [hb] at hs
        cases hs
        obtain ⟨b, f1⟩ := fact4 f hb
        have H3 : ck_G S.1 (fun r => (P r ∧ ck_sat M h0 S h r) ∧ ck_sat M h0 S h r) := ck_G_mono H (fun r hr => ⟨hr, hr.2⟩)
        obtain ⟨S', g1, g2⟩ := ck_tw_ok (b := 3) (d := f) H3 (fun r hr => by
          have g3 : ck_f6 h A ≤ ck_ev r f := f1 r hr.2
          have g4 := ck_f6_nn h A
          show 0 ≤ ck_ev r f
          omega)
        exact ⟨S', g1, ck_G_mono g2 (fun r hr => ⟨hr.1.1, hr.2⟩)⟩
    | _ + 7, hs, _, _ => cases hs
/-- a fact made longer -/
def ck_pt (h : pm_Hp) (d : ck_Ds) (j : Nat) : Prop := match d with
  | (t, A, _, B, _, th, lo, hi) => match t with
    | 1 => lo ≤ h A j ∧ h A j ≤ hi
    | 2 => 1 ≤ j → 0 ≤ h A j ∧ h A j < (j : Int) ∧ h B (h A j).toNat ≤ hi
    | _ => h A j ≤ th ∨ lo ≤ h B j ∧ h B j ≤ hi
theorem ck_pt_of {h : pm_Hp} {d : ck_Ds} {a b : Int} {j : Nat} (ht : d.1 = 1 ∨ d.1 = 2 ∨ d.1 = 3) (H : ck_ft0 h d a b) (h1 : a ≤ (j : Int)) (h2 : (j : Int) < b) : ck_pt h d j := by
  obtain ⟨t, A, sa, B, sb, th, lo, hi⟩ := d
  rcases ht with ht | ht | ht
  · have e1 : t = 1 := ht
    subst e1
    exact H j h1 h2
  · have e1 : t = 2 := ht
    subst e1
    exact H j h1 h2
  · have e1 : t = 3 := ht
    subst e1
    exact H j h1 h2
theorem ck_pt_to {h : pm_Hp} {d : ck_Ds} {a b : Int} (ht : d.1 = 1 ∨ d.1 = 2 ∨ d.1 = 3) (H : ∀ j : Nat, a ≤ (j : Int) → (j : Int) < b → ck_pt h d j) : ck_ft0 h d a b := by
  obtain ⟨t, A, sa, B, sb, th, lo, hi⟩ := d
  rcases ht with ht | ht | ht
  · have e1 : t = 1 := ht
    subst e1
    exact fun j h1 h2 => H j h1 h2
  · have e1 : t = 2 := ht
    subst e1
    exact fun j h1 h2 => H j h1 h2
  · have e1 : t = 3 := ht
    subst e1
    exact fun j h1 h2 => H j h1 h2
noncomputable def ck_fs1 (N : ck_F → Bool) (k : Nat) (i : ck_F) (A : ck_O) : ck_F := List.rec (motive := fun _ => ck_F) i (fun q _ ih => bif Nat.beq q.1 k then (bif (bif N (ck_fs q.2.1 i) then N (ck_fs i q.2.2) else false) then q.2.1 else ih) else ih) A
noncomputable def ck_fe1 (N : ck_F → Bool) (k : Nat) (i : ck_F) (A : ck_O) : ck_F := List.rec (motive := fun _ => ck_F) i (fun q _ ih => bif Nat.beq q.1 k then (bif (bif N (ck_fs q.2.1 i) then N (ck_fs i q.2.2) else false) then q.2.2 else ih) else ih) A
theorem ck_fs1_ok {N : ck_F → Bool} {k : Nat} {i : ck_F} {r : ck_R} (hN : ∀ f, N f = true → ck_ev r f ≤ 0) (ht : (ck_kd k).1 = 1 ∨ (ck_kd k).1 = 2 ∨ (ck_kd k).1 = 3) : ∀ {A : ck_O}, ck_fts h r A → ∀ j : Nat, ck_ev r (ck_fs1 N k i A) ≤ (j : Int) → (j : Int) < ck_ev r i → ck_pt h (ck_kd k) j
  | [], _, j, h1, h2 => by
    have h3 : ck_ev r i ≤ (j : Int) := h1
    omega
  | q :: t, hA, j, h1, h2 => by
    have hT : ck_fts h r t := fun p hp => hA p (List.mem_cons_of_mem _ hp)
    have hq := hA q (List.mem_cons_self ..)
    have h3 : ck_ev r (bif Nat.beq q.1 k then (bif (bif N (ck_fs q.2.1 i) then N (ck_fs i q.2.2) else false) then q.2.1 else ck_fs1 N k i t) else ck_fs1 N k i t) ≤ (j : Int) := h1
    cases hb : Nat.beq q.1 k with
    | false => rw [hb] at h3; exact ck_fs1_ok hN ht hT j h3 h2
    | true =>
      rw [hb] at h3
      dsimp only [cond_true] at h3
      cases hc : (bif N (ck_fs q.2.1 i) then N (ck_fs i q.2.2) else false) with
      | false => rw [hc] at h3; exact ck_fs1_ok hN ht hT j h3 h2
      | true =>
        rw [hc] at h3
        obtain ⟨c1, c2⟩ := ck_and hc
        have g2 := hN _ c2
        rw [ck_ev_fs] at g2
        have e1 := Nat.eq_of_beq_eq_true hb
        unfold ck_ft at hq
        rw [e1] at hq
        exact ck_pt_of ht hq h3 (by omega)
theorem ck_fe1_ok {N : ck_F → Bool} {k : Nat} {i : ck_F} {r : ck_R} (hN : ∀ f, N f = true → ck_ev r f ≤ 0) (ht : (ck_kd k).1 = 1 ∨ (ck_kd k).1 = 2 ∨ (ck_kd k).1 = 3) : ∀ {A : ck_O}, ck_fts h r A → ∀ j : Nat, ck_ev r i ≤ (j : Int) → (j : Int) < ck_ev r (ck_fe1 N k i A) → ck_pt h (ck_kd k) j
  | [], _, j, h1, h2 => by
    have h3 : (j : Int) < ck_ev r i := h2
    omega
  | q :: t, hA, j, h1, h2 => by
    have hT : ck_fts h r t := fun p hp => hA p (List.mem_cons_of_mem _ hp)
    have hq := hA q (List.mem_cons_self ..)
    have h3 : (j : Int) < ck_ev r (bif Nat.beq q.1 k then (bif (bif N (ck_fs q.2.1 i) then N (ck_fs i q.2.2) else false) then q.2.2 else ck_fe1 N k i t) else ck_fe1 N k i t) := h2
    cases hb : Nat.beq q.1 k with
    | false => rw [hb] at h3; exact ck_fe1_ok hN ht hT j h1 h3
    | true =>
      rw [hb] at h3
      dsimp only [cond_true] at h3
      cases hc : (bif N (ck_fs q.2.1 i) then N (ck_fs i q.2.2) else false) with
      | false => rw [hc] at h3; exact ck_fe1_ok hN ht hT j h1 h3
      | true =>
        rw [hc] at h3
        obtain ⟨c1, c2⟩ := ck_and hc
        have g1 := hN _ c1
        rw [ck_ev_fs] at g1
        have e1 := Nat.eq_of_beq_eq_true hb
        unfold ck_ft at hq
        rw [e1] at hq
        exact ck_pt_of ht hq (by omega) h3
/-- the fact with one index more -/
noncomputable def ck_ad1 (S : ck_S) (k : Nat) (i : ck_F) : ck_S := (S.1, S.2.1, S.2.2.1, S.2.2.2.1, (k, ck_fs1 (ck_N S) k i S.2.2.2.2, ck_fe1 (ck_N S) k (ck_fa (.ofNat 1, []) i) S.2.2.2.2) :: S.2.2.2.2)
theorem ck_ad1_ok {k : Nat} {i : ck_F} {r : ck_R} {z : Nat} (hs : ck_sat M h0 S h r) (ht : (ck_kd k).1 = 1 ∨ (ck_kd k).1 = 2 ∨ (ck_kd k).1 = 3) (hz : ck_ev r i = (z : Int)) (hp : ck_pt h (ck_kd k) z) : ck_sat M h0 (ck_ad1 S k i) h r := by
  refine ⟨hs.1, hs.2.1, hs.2.2.1, ?_, hs.2.2.2.2⟩
  intro q hq
  rcases List.mem_cons.mp hq with rfl | hq
  · refine ck_pt_to ht (fun j h1 h2 => ?_)
    have e1 : ck_ev r (ck_fa (.ofNat 1, []) i) = (z : Int) + 1 := by
      rw [ck_ev_fa, ck_ev_k, hz]
      show (1 : Int) + z = z + 1
      omega
    rcases Nat.lt_trichotomy j z with g | g | g
    · exact ck_fs1_ok (ck_N_ok hs) ht hs.2.2.2.1 j h1 (by omega)
    · rw [g]
      exact hp
    · exact ck_fe1_ok (ck_N_ok hs) ht hs.2.2.2.1 j (by omega) h2
  · exact hs.2.2.2.1 q hq
noncomputable def ck_g3 (S : ck_S) (A B : Nat) (a b : ck_F) (th lo hi : Int) : Option ck_S := match ck_rd S A a with
  | none => none
  | some x => match ck_rd x.1 B b with
    | none => none
    | some y => bif (bif ck_N y.1 (ck_fs x.2 (th, [])) then true else ck_in2 (ck_N y.1) lo hi y.2) then some y.1 else none
theorem ck_g3_ok {A B : Nat} {a b : ck_F} {th lo hi za zb : Int} {S' : ck_S} (hd : ck_dec h) (hs : ck_g3 S A B a b th lo hi = some S') (H : ck_G S.1 (fun r => P r ∧ ck_sat M h0 S h r)) (ha : ∀ r, P r → ck_ev r a = za) (hb : ∀ r, P r → ck_ev r b = zb) : 0 ≤ za ∧ (h A za.toNat ≤ th ∨ lo ≤ h B zb.toNat ∧ h B zb.toNat ≤ hi) ∧ ck_G S'.1 (fun r => P r ∧ ck_sat M h0 S' h r) := by
  unfold ck_g3 at hs
  cases hx : ck_rd S A a with
  | none => rw [hx] at hs; cases hs
  | some x =>
    rw [hx] at hs
    dsimp only at hs
    cases hy : ck_rd x.1 B b with
    | none => rw [hy] at hs; cases hs
    | some y =>
      rw [hy] at hs
      dsimp only at hs
      cases hc : (bif ck_N y.1 (ck_fs x.2 (th, [])) then true else ck_in2 (ck_N y.1) lo hi y.2) with
      | false => rw [hc] at hs; cases hs
      | true =>
        rw [hc] at hs
        cases hs
        obtain ⟨h1, h2⟩ := ck_rd2 (S' := x.1) (v := x.2) hd hx H ha
        obtain ⟨_, h3⟩ := ck_rd2 (S' := y.1) (v := y.2) hd hy h2 (fun r hr => hb r hr.1)
        obtain ⟨r0, hr0⟩ := ck_G_ex h3
        refine ⟨h1, ?_, ck_G_mono h3 (fun r hr => ⟨hr.1.1.1, hr.2⟩)⟩
        rcases ck_or hc with g | g
        · have g1 := ck_N_ok hr0.2 _ g
          rw [ck_ev_fs, ck_ev_k, hr0.1.1.2] at g1
          exact Or.inl (by omega)
        · have g1 := ck_in2_ok (ck_N_ok hr0.2) g
          rw [hr0.1.2] at g1
          exact Or.inr g1
noncomputable def ck_h6 (A : Nat) : Bool := match ck_nth ck_D A with
  | none => false
  | some x => match x.2.2 with
    | [] => false
    | w :: _ => bif Nat.beq x.1 1 then (bif Nat.ble 8 x.2.1 then ck_le w.2 1000001 else false) else false
theorem ck_h6_ok {A : Nat} (hd : ck_dec h) (hs : ck_h6 A = true) : ck_f6 h A ≤ 8000008 := by
  unfold ck_h6 at hs
  rw [ck_nth_ok] at hs
  cases hx : ck_D[A]? with
  | none => rw [hx] at hs; cases hs
  | some x =>
    rw [hx] at hs
    obtain ⟨t, n, l⟩ := x
    cases l with
    | nil => cases hs
    | cons w l =>
      dsimp only at hs
      obtain ⟨b1, b2⟩ := ck_and hs
      obtain ⟨b3, b4⟩ := ck_and b2
      have e1 := Nat.eq_of_beq_eq_true b1
      subst e1
      have e2 := Nat.le_of_ble_eq_true b3
      have e3 := ck_le_iff.mp b4
      have key : ∀ j : Nat, j < 8 → ck_vl (h A j) ≤ 1000001 := by
        intro j hj
        have h1 : ck_dv A j = some w := by
          unfold ck_dv
          rw [hx]
          show (if j < n then (w :: l)[0]? else none) = some w
          rw [if_pos (by omega)]
          rfl
        have h2 := hd A j w h1
        unfold ck_vl
        split <;> omega
      have a0 := key 0 (by omega)
      have a1 := key 1 (by omega)
      have a2 := key 2 (by omega)
      have a3 := key 3 (by omega)
      have a4 := key 4 (by omega)
      have a5 := key 5 (by omega)
      have a6 := key 6 (by omega)
      have a7 := key 7 (by omega)
      unfold ck_f6
      omega
noncomputable def ck_pf (S : ck_S) (k : Nat) (i : ck_F) : Option (List ck_S) := bif ck_wl S.1 i.2 then (match ck_kd k with
  | (t, A, sa, B, sb, th, lo, hi) => match t with
    | 1 => (match ck_rd S A i with
      | none => none
      | some x => bif ck_in2 (ck_N x.1) lo hi x.2 then some [ck_ad1 x.1 k i] else none)
    | 2 => (match ck_rd S A i with
      | none => none
      | some x => bif (bif ck_N x.1 (ck_fk (-1) x.2) then ck_N x.1 (ck_fs (ck_fa (.ofNat 1, []) x.2) i) else false) then (match ck_rd x.1 B x.2 with
        | none => none
        | some y => bif ck_N y.1 (ck_fs y.2 (hi, [])) then some [ck_ad1 y.1 k i] else none) else none)
    | 3 => (match ck_g3 S A B i i th lo hi with
      | none => none
      | some S' => some [ck_ad1 S' k i])
    | 4 => (match ck_g3 S A B (.ofNat sa, []) (.ofNat sb, []) th lo hi with
      | none => none
      | some S' => some [(S'.1, S'.2.1, S'.2.2.1, S'.2.2.2.1, (k, (.ofNat 0, []), (.ofNat 0, [])) :: S'.2.2.2.2)])
    | 5 => (match ck_rd S A (.ofNat sa, []) with
      | none => none
      | some x => match ck_rd x.1 A (.ofNat sb, []) with
        | none => none
        | some y => bif (bif ck_eq0 y.1.2.1 y.1.2.2.1 x.2 then ck_eq0 y.1.2.1 y.1.2.2.1 y.2 else false) then some [(y.1.1, y.1.2.1, y.1.2.2.1, y.1.2.2.2.1, (k, (.ofNat 0, []), (.ofNat 0, [])) :: y.1.2.2.2.2)] else none)
    | 6 => bif ck_h6 A then some [(S.1, S.2.1, S.2.2.1, S.2.2.2.1, (k, (.ofNat 8000008, []), (.ofNat 0, [])) :: S.2.2.2.2)] else none
    | _ => none) else none
theorem ck_pf_ok {k : Nat} {i : ck_F} {l : List ck_S} (hd : ck_dec h) (hs : ck_pf S k i = some l) (H : ck_G S.1 (fun r => P r ∧ ck_sat M h0 S h r)) : ck_Sx M h0 h P l := by
  unfold ck_pf at hs
  cases hw : ck_wl S.1 i.2 with
  | false => rw [hw] at hs; cases hs
  | true =>
    rw [hw] at hs
    dsimp only [cond_true] at hs
    obtain ⟨z, H1⟩ := ck_G_wf H hw
    have H2 : ck_G S.1 (fun r => (P r ∧ ck_ev r i = z) ∧ ck_sat M h0 S h r) := ck_G_mono H1 (fun r hr => ⟨⟨hr.1.1, hr.2⟩, hr.1.2⟩)
    have fin : ∀ (S' : ck_S), 0 ≤ z → ((ck_kd k).1 = 1 ∨ (ck_kd k).1 = 2 ∨ (ck_kd k).1 = 3) → ck_pt h (ck_kd k) z.toNat → ck_G S'.1 (fun r => (P r ∧ ck_ev r i = z) ∧ ck_sat M h0 S' h r) → ck_Sx M h0 h P [ck_ad1 S' k i] := by
      intro S' hz ht hp HG
      refine ⟨_, List.mem_cons_self .., ?_⟩
      show ck_G S'.1 _
      exact ck_G_mono HG (fun r hr => ⟨hr.1.1, ck_ad1_ok hr.2 ht (by rw [hr.1.2]; omega) hp⟩)
    have fin6 : ck_ft0 h (ck_kd k) 8000008 0 → ck_Sx M h0 h P [(S.1, S.2.1, S.2.2.1, S.2.2.2.1, (k, (.ofNat 8000008, []), (.ofNat 0, [])) :: S.2.2.2.2)] := by
      intro hf
      refine ⟨_, List.mem_cons_self .., ck_G_mono H (fun r hr => ⟨hr.1, hr.2.1, hr.2.2.1, hr.2.2.2.1, ?_, hr.2.2.2.2.2⟩)⟩
      intro q hq
      rcases List.mem_cons.mp hq with rfl | hq
      · show ck_ft0 h (ck_kd k) (ck_ev r (.ofNat 8000008, [])) (ck_ev r (.ofNat 0, []))
        rw [ck_ev_k, ck_ev_k]
        exact hf
      · exact hr.2.2.2.2.1 q hq
    have fin4 : ∀ (S' : ck_S), ck_ft0 h (ck_kd k) 0 0 → ck_G S'.1 (fun r => P r ∧ ck_sat M h0 S' h r) → ck_Sx M h0 h P [(S'.1, S'.2.1, S'.2.2.1, S'.2.2.2.1, (k, (.ofNat 0, []), (.ofNat 0, [])) :: S'.2.2.2.2)] := by
      intro S' hf HG
      refine ⟨_, List.mem_cons_self .., ck_G_mono HG (fun r hr => ⟨hr.1, hr.2.1, hr.2.2.1, hr.2.2.2.1, ?_, hr.2.2.2.2.2⟩)⟩
      intro q hq
      rcases List.mem_cons.mp hq with rfl | hq
      · show ck_ft0 h (ck_kd k) (ck_ev r (.ofNat 0, [])) (ck_ev r (.ofNat 0, []))
        rw [ck_ev_k]
        exact hf
      · exact hr.2.2.2.2.1 q hq
    generalize ck_kd k = d at hs fin fin4 fin6
    obtain ⟨t, A, sa, B, sb, th, lo, hi⟩ := d
    match t, hs, fin, fin4, fin6 with
    | 0, hs, _, _, _ => cases hs
    | 1, hs, fin, _, _ =>
      dsimp only at hs
      cases hx : ck_rd S A i with
      | none => rw [hx] at hs; cases hs
      | some x =>
        rw [hx] at hs
        dsimp only at hs
        cases hb : ck_in2 (ck_N x.1) lo hi x.2 with
        | false => rw [hb] at hs; cases hs
        | true =>
          rw [hb] at hs
          cases hs
          obtain ⟨h1, h2⟩ := ck_rd2 (S' := x.1) (v := x.2) hd hx H2 (fun r hr => hr.2)
          obtain ⟨r0, hr0⟩ := ck_G_ex h2
          have g1 := ck_in2_ok (ck_N_ok hr0.2) hb
          rw [hr0.1.2] at g1
          exact fin x.1 h1 (Or.inl rfl) g1 (ck_G_mono h2 (fun r hr => ⟨hr.1.1, hr.2⟩))
    | 2, hs, fin, _, _ =>
      dsimp only at hs
      cases hx : ck_rd S A i with
      | none => rw [hx] at hs; cases hs
      | some x =>
        rw [hx] at hs
        dsimp only at hs
        cases hb : (bif ck_N x.1 (ck_fk (-1) x.2) then ck_N x.1 (ck_fs (ck_fa (.ofNat 1, []) x.2) i) else false) with
        | false => rw [hb] at hs; cases hs
        | true =>
          rw [hb] at hs
          dsimp only [cond_true] at hs
          cases hy : ck_rd x.1 B x.2 with
          | none => rw [hy] at hs; cases hs
          | some y =>
            rw [hy] at hs
            dsimp only at hs
            cases hc : ck_N y.1 (ck_fs y.2 (hi, [])) with
            | false => rw [hc] at hs; cases hs
            | true =>
              rw [hc] at hs
              cases hs
              obtain ⟨h1, h2⟩ := ck_rd2 (S' := x.1) (v := x.2) hd hx H2 (fun r hr => hr.2)
              obtain ⟨_, h3⟩ := ck_rd2 (S' := y.1) (v := y.2) hd hy h2 (fun r hr => hr.2)
              obtain ⟨r0, hr0⟩ := ck_G_ex h2
              obtain ⟨r1, hr1⟩ := ck_G_ex h3
              obtain ⟨b1, b2⟩ := ck_and hb
              have g1 := ck_N_ok hr0.2 _ b1
              have g2 := ck_N_ok hr0.2 _ b2
              have g3 := ck_N_ok hr1.2 _ hc
              rw [ck_ev_fk, hr0.1.2] at g1
              rw [ck_ev_fs, ck_ev_fa, ck_ev_k, hr0.1.2, hr0.1.1.2] at g2
              rw [ck_ev_fs, ck_ev_k, hr1.1.2] at g3
              have g2' : (1 : Int) + h A z.toNat - z ≤ 0 := g2
              refine fin y.1 h1 (Or.inr (Or.inl rfl)) ?_ (ck_G_mono h3 (fun r hr => ⟨hr.1.1.1, hr.2⟩))
              show 1 ≤ z.toNat → 0 ≤ h A z.toNat ∧ h A z.toNat < ((z.toNat : Nat) : Int) ∧ h B (h A z.toNat).toNat ≤ hi
              exact fun _ => ⟨by omega, by omega, by omega⟩
    | 3, hs, fin, _, _ =>
      dsimp only at hs
      cases hx : ck_g3 S A B i i th lo hi with
      | none => rw [hx] at hs; cases hs
      | some S' =>
        rw [hx] at hs
        cases hs
        obtain ⟨h1, h2, h3⟩ := ck_g3_ok hd hx H2 (fun r hr => hr.2) (fun r hr => hr.2)
        exact fin S' h1 (Or.inr (Or.inr rfl)) h2 h3
    | 4, hs, _, fin4, _ =>
      dsimp only at hs
      cases hx : ck_g3 S A B (.ofNat sa, []) (.ofNat sb, []) th lo hi with
      | none => rw [hx] at hs; cases hs
      | some S' =>
        rw [hx] at hs
        cases hs
        obtain ⟨_, h2, h3⟩ := ck_g3_ok (za := (sa : Int)) (zb := (sb : Int)) hd hx H (fun r hr => by rw [ck_ev_k]; rfl) (fun r hr => by rw [ck_ev_k]; rfl)
        exact fin4 S' h2 h3
    | 5, hs, _, fin4, _ =>
      dsimp only at hs
      cases hx : ck_rd S A (.ofNat sa, []) with
      | none => rw [hx] at hs; cases hs
      | some x =>
        rw [hx] at hs
        dsimp only at hs
        cases hy : ck_rd x.1 A (.ofNat sb, []) with
        | none => rw [hy] at hs; cases hs
        | some y =>
          rw [hy] at hs
          dsimp only at hs
          cases hb : (bif ck_eq0 y.1.2.1 y.1.2.2.1 x.2 then ck_eq0 y.1.2.1 y.1.2.2.1 y.2 else false) with
          | false => rw [hb] at hs; cases hs
          | true =>
            rw [hb] at hs
            cases hs
            obtain ⟨_, h1⟩ := ck_rd2 (S' := x.1) (v := x.2) (z := (sa : Int)) hd hx H (fun r hr => by rw [ck_ev_k]; rfl)
            obtain ⟨_, h2⟩ := ck_rd2 (S' := y.1) (v := y.2) (z := (sb : Int)) hd hy h1 (fun r hr => by rw [ck_ev_k]; rfl)
            obtain ⟨r0, hr0⟩ := ck_G_ex h2
            obtain ⟨b1, b2⟩ := ck_and hb
            have g1 := ck_eq0_ok hr0.2.1 hr0.2.2.1 b1
            have g2 := ck_eq0_ok hr0.2.1 hr0.2.2.1 b2
            rw [hr0.1.1.2, Int.toNat_natCast] at g1
            rw [hr0.1.2, Int.toNat_natCast] at g2
            refine fin4 y.1 ?_ (ck_G_mono h2 (fun r hr => ⟨hr.1.1.1, hr.2⟩))
            show ck_f5 h A sa B sb 0 0
            unfold ck_f5
            rw [g1, g2]
            exact ⟨by omega, by omega, by omega, by show (0 : Int) ≤ 0; omega, by show (0 : Int) ≤ -0; omega⟩
    | 6, hs, _, _, fin6 =>
      dsimp only at hs
      cases hb : ck_h6 A with
      | false => rw [hb] at hs; cases hs
      | true =>
        rw [hb] at hs
        cases hs
        exact fin6 (ck_h6_ok hd hb)
    | _ + 7, hs, _, _, _ => cases hs
end
