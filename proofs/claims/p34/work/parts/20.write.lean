/-! The checker: writing. -/
noncomputable def ck_mw (N : ck_F → Bool) (c : Nat) (a b : ck_F) (M : ck_O) : Bool := List.rec (motive := fun _ => Bool) false (fun w _ ih => bif Nat.beq w.1 c then (bif N (ck_fs w.2.1 a) then (bif N (ck_fs b w.2.2) then true else ih) else ih) else ih) M
theorem ck_mw_ok {N : ck_F → Bool} {r : ck_R} {c : Nat} {a b : ck_F} (hN : ∀ f, N f = true → ck_ev r f ≤ 0) : ∀ {M : ck_O}, ck_mw N c a b M = true → ∃ w ∈ M, w.1 = c ∧ ck_ev r w.2.1 ≤ ck_ev r a ∧ ck_ev r b ≤ ck_ev r w.2.2
  | [], h => by cases h
  | w :: t, h => by
    have h0 : (bif Nat.beq w.1 c then (bif N (ck_fs w.2.1 a) then (bif N (ck_fs b w.2.2) then true else ck_mw N c a b t) else ck_mw N c a b t) else ck_mw N c a b t) = true := h
    have rest : ck_mw N c a b t = true → ∃ w' ∈ w :: t, w'.1 = c ∧ ck_ev r w'.2.1 ≤ ck_ev r a ∧ ck_ev r b ≤ ck_ev r w'.2.2 := fun h1 => by
      obtain ⟨w', h2, h3⟩ := ck_mw_ok hN h1
      exact ⟨w', List.mem_cons_of_mem _ h2, h3⟩
    cases b1 : Nat.beq w.1 c with
    | false => rw [b1] at h0; exact rest h0
    | true =>
      rw [b1] at h0
      cases b2 : N (ck_fs w.2.1 a) with
      | false => rw [b2] at h0; exact rest h0
      | true =>
        rw [b2] at h0
        cases b3 : N (ck_fs b w.2.2) with
        | false => rw [b3] at h0; exact rest h0
        | true =>
          have g1 := hN _ b2
          have g2 := hN _ b3
          rw [ck_ev_fs] at g1 g2
          exact ⟨w, List.mem_cons_self .., Nat.eq_of_beq_eq_true b1, by omega, by omega⟩
noncomputable def ck_ok (N : ck_F → Bool) (W : ck_O) (O : ck_O) : ck_O := List.rec (motive := fun _ => ck_O) [] (fun o _ ih => bif ck_ko N W o.1 o.2.1 then o :: ih else ih) O
theorem ck_ok_ok {N : ck_F → Bool} {r : ck_R} {W : ck_O} {h h' : pm_Hp} (hN : ∀ f, N f = true → ck_ev r f ≤ 0) (hW : ck_ow h h' r W) : ∀ {O : ck_O}, ck_os h r O → ck_os h' r (ck_ok N W O)
  | [], _ => fun _ h1 => absurd h1 List.not_mem_nil
  | o :: t, hO => by
    have ht := ck_ok_ok hN hW (O := t) (fun q hq => hO q (List.mem_cons_of_mem _ hq))
    have ho := hO o (List.mem_cons_self ..)
    show ck_os h' r (bif ck_ko N W o.1 o.2.1 then o :: ck_ok N W t else ck_ok N W t)
    cases hb : ck_ko N W o.1 o.2.1 with
    | false => exact ht
    | true =>
      intro q hq
      rcases List.mem_cons.mp hq with rfl | hq
      · exact ⟨ho.1, by rw [ck_win_o hN hW hb ho.1]; exact ho.2⟩
      · exact ht q hq
/-- facts behind windows of writes -/
noncomputable def ck_fk2 (N : ck_F → Bool) (W : ck_O) (A : ck_O) : ck_O := List.rec (motive := fun _ => ck_O) [] (fun a _ ih => bif ck_kf N W a then a :: ih else ih) A
theorem ck_fk2_ok {N : ck_F → Bool} {r : ck_R} {W : ck_O} {h h' : pm_Hp} (hN : ∀ f, N f = true → ck_ev r f ≤ 0) (hW : ck_ow h h' r W) : ∀ {A : ck_O}, ck_fts h r A → ck_fts h' r (ck_fk2 N W A)
  | [], _ => fun _ h1 => absurd h1 List.not_mem_nil
  | a :: t, hA => by
    have ht := ck_fk2_ok hN hW (A := t) (fun q hq => hA q (List.mem_cons_of_mem _ hq))
    have ha := hA a (List.mem_cons_self ..)
    show ck_fts h' r (bif ck_kf N W a then a :: ck_fk2 N W t else ck_fk2 N W t)
    cases hb : ck_kf N W a with
    | false => exact ht
    | true =>
      intro q hq
      rcases List.mem_cons.mp hq with rfl | hq
      · exact ck_win_ft hN hW hb ha
      · exact ht q hq
noncomputable def ck_t1 (N : ck_F → Bool) (i : ck_F) (a : Nat × ck_F × ck_F) : ck_O := bif N (ck_fs i a.2.2) then [(a.1, a.2.1, i)] else []
noncomputable def ck_t2 (N : ck_F → Bool) (i : ck_F) (a : Nat × ck_F × ck_F) : ck_O := bif N (ck_fs a.2.1 (ck_fa (1, []) i)) then [(a.1, ck_fa (1, []) i, a.2.2)] else []
noncomputable def ck_in2 (N : ck_F → Bool) (lo hi : Int) (v : ck_F) : Bool := bif N (ck_fs (lo, []) v) then N (ck_fs v (hi, [])) else false
theorem ck_in2_ok {N : ck_F → Bool} {r : ck_R} {lo hi : Int} {v : ck_F} (hN : ∀ f, N f = true → ck_ev r f ≤ 0) (h : ck_in2 N lo hi v = true) : lo ≤ ck_ev r v ∧ ck_ev r v ≤ hi := by
  obtain ⟨h1, h2⟩ := ck_and h
  have g1 := hN _ h1
  have g2 := hN _ h2
  rw [ck_ev_fs, ck_ev_k] at g1 g2
  omega
/-- a fact behind one write: of the cell c at i the value v, where old stood -/
noncomputable def ck_fw (N : ck_F → Bool) (c : Nat) (i v : ck_F) (old : Option ck_F) (a : Nat × ck_F × ck_F) : ck_O := bif ck_k1 N (c, i, ck_fa (1, []) i) a then [a] else (match ck_kd a.1 with
  | (t, A, _, B, _, _, lo, hi) => match t with
    | 1 => bif ck_in2 N lo hi v then [a] else ck_t1 N i a ++ ck_t2 N i a
    | 2 => ck_t1 N i a
    | 3 => bif (bif Nat.beq c A then false else ck_in2 N lo hi v) then [a] else ck_t1 N i a ++ ck_t2 N i a
    | 6 => (match old with
      | none => []
      | some o => bif (bif Nat.beq c A then (bif ck_in2 N 1 1000000 v then (bif N (ck_fs i (7, [])) then (bif N o then true else N (ck_fs (ck_fa (1, []) v) o)) else false) else false) else false) then [(a.1, ck_fs a.2.1 (1, []), a.2.2)] else [])
    | _ => [])
theorem ck_up_ow {h : pm_Hp} {r : ck_R} {c : Nat} {i : ck_F} {x : Int} (hp : 0 ≤ ck_ev r i) : ck_ow h (pm_up h c (ck_ev r i).toNat x) r [(c, i, ck_fa (1, []) i)] := by
  intro c' j
  by_cases e : c' = c ∧ j = (ck_ev r i).toNat
  · refine Or.inr ⟨_, List.mem_cons_self .., e.1.symm, ?_, ?_⟩
    · show ck_ev r i ≤ (j : Int)
      omega
    · show (j : Int) < ck_ev r (ck_fa (1, []) i)
      rw [ck_ev_fa, ck_ev_k]
      omega
  · exact Or.inl (if_neg e)
theorem ck_up_at (h : pm_Hp) (c j : Nat) (x : Int) : pm_up h c j x c j = x := if_pos ⟨rfl, rfl⟩
theorem ck_up_ne {h : pm_Hp} {c j c' j' : Nat} {x : Int} (e : ¬ (c' = c ∧ j' = j)) : pm_up h c j x c' j' = h c' j' := if_neg e
theorem ck_f6_up {h : pm_Hp} {A z : Nat} {x : Int} (hz : z ≤ 7) (hx : 1 ≤ x ∧ x ≤ 1000000) (ho : h A z ≤ 0 ∨ x + 1 ≤ h A z) : ck_f6 (pm_up h A z x) A ≤ ck_f6 h A - 1 := by
  have key : ck_vl x ≤ ck_vl (h A z) - 1 := by
    unfold ck_vl
    rcases ho with ho | ho
    · rw [if_neg (by omega), if_pos ho]
      omega
    · rw [if_neg (by omega), if_neg (by omega)]
      omega
  have at_ : ∀ j : Nat, pm_up h A z x A j = if j = z then x else h A j := by
    intro j
    by_cases e : j = z
    · rw [if_pos e, e]
      exact ck_up_at h A z x
    · rw [if_neg e]
      exact ck_up_ne (fun q => e q.2)
  unfold ck_f6
  rw [at_, at_, at_, at_, at_, at_, at_, at_]
  match z, hz, key with
  | 0, _, key => simp only [if_true, show ((1 : Nat) = 0) = False by simp, show ((2 : Nat) = 0) = False by simp, show ((3 : Nat) = 0) = False by simp, show ((4 : Nat) = 0) = False by simp, show ((5 : Nat) = 0) = False by simp, show ((6 : Nat) = 0) = False by simp, show ((7 : Nat) = 0) = False by simp, if_false]; omega
  | 1, _, key => simp; omega
  | 2, _, key => simp; omega
  | 3, _, key => simp; omega
  | 4, _, key => simp; omega
  | 5, _, key => simp; omega
  | 6, _, key => simp; omega
  | 7, _, key => simp; omega
  | _ + 8, hz, _ => omega
theorem ck_t1_ok {N : ck_F → Bool} {r : ck_R} {h h' : pm_Hp} {i : ck_F} {a : Nat × ck_F × ck_F} (hN : ∀ f, N f = true → ck_ev r f ≤ 0) (hs : ck_sm h h' (ck_kd a.1) (ck_ev r a.2.1) (ck_ev r i)) (ha : ck_ft h a.1 (ck_ev r a.2.1) (ck_ev r a.2.2)) : ck_fts h' r (ck_t1 N i a) := by
  unfold ck_t1
  cases hb : N (ck_fs i a.2.2) with
  | false => exact fun _ h1 => absurd h1 List.not_mem_nil
  | true =>
    have g1 := hN _ hb
    rw [ck_ev_fs] at g1
    intro q hq
    rcases List.mem_cons.mp hq with rfl | hq
    · show ck_ft h' a.1 (ck_ev r a.2.1) (ck_ev r i)
      exact ck_ft0_sem hs (ck_ft0_mono (Int.le_refl _) (by omega) ha)
    · exact absurd hq List.not_mem_nil
theorem ck_t2_ok {N : ck_F → Bool} {r : ck_R} {h h' : pm_Hp} {i : ck_F} {a : Nat × ck_F × ck_F} (hN : ∀ f, N f = true → ck_ev r f ≤ 0) (hs : ck_sm h h' (ck_kd a.1) (ck_ev r i + 1) (ck_ev r a.2.2)) (ha : ck_ft h a.1 (ck_ev r a.2.1) (ck_ev r a.2.2)) : ck_fts h' r (ck_t2 N i a) := by
  unfold ck_t2
  cases hb : N (ck_fs a.2.1 (ck_fa (1, []) i)) with
  | false => exact fun _ h1 => absurd h1 List.not_mem_nil
  | true =>
    have g1 := hN _ hb
    have e1 : ck_ev r (ck_fa (1, []) i) = ck_ev r i + 1 := by rw [ck_ev_fa, ck_ev_k]; omega
    rw [ck_ev_fs, e1] at g1
    intro q hq
    rcases List.mem_cons.mp hq with rfl | hq
    · show ck_ft h' a.1 (ck_ev r (ck_fa (1, []) i)) (ck_ev r a.2.2)
      rw [e1]
      exact ck_ft0_sem hs (ck_ft0_mono (by omega) (Int.le_refl _) ha)
    · exact absurd hq List.not_mem_nil
theorem ck_fts_app {h : pm_Hp} {r : ck_R} {A B : ck_O} (h1 : ck_fts h r A) (h2 : ck_fts h r B) : ck_fts h r (A ++ B) := by
  intro q hq
  rcases List.mem_append.mp hq with hq | hq
  · exact h1 q hq
  · exact h2 q hq
theorem ck_fts_one {h : pm_Hp} {r : ck_R} {a : Nat × ck_F × ck_F} (h1 : ck_ft h a.1 (ck_ev r a.2.1) (ck_ev r a.2.2)) : ck_fts h r [a] := by
  intro q hq
  rcases List.mem_cons.mp hq with rfl | hq
  · exact h1
  · exact absurd hq List.not_mem_nil
theorem ck_fts_nil {h : pm_Hp} {r : ck_R} : ck_fts h r [] := fun _ h1 => absurd h1 List.not_mem_nil
theorem ck_fw_ok {N : ck_F → Bool} {r : ck_R} {h : pm_Hp} {c : Nat} {i v : ck_F} {old : Option ck_F} {a : Nat × ck_F × ck_F} (hN : ∀ f, N f = true → ck_ev r f ≤ 0) (hp : 0 ≤ ck_ev r i) (ho : ∀ o, old = some o → h c (ck_ev r i).toNat = ck_ev r o) (ha : ck_ft h a.1 (ck_ev r a.2.1) (ck_ev r a.2.2)) : ck_fts (pm_up h c (ck_ev r i).toNat (ck_ev r v)) r (ck_fw N c i v old a) := by
  unfold ck_fw
  have hW := ck_up_ow (h := h) (c := c) (x := ck_ev r v) hp
  cases hk : ck_k1 N (c, i, ck_fa (1, []) i) a with
  | true =>
    refine ck_fts_one (ck_win_ft hN hW ?_ ha)
    show (bif ck_k1 N (c, i, ck_fa (1, []) i) a then true else false) = true
    rw [hk]
    rfl
  | false =>
    have hs1 : ck_kd a.1 = ck_kd a.1 → (ck_kd a.1).1 = 1 ∨ (ck_kd a.1).1 = 2 ∨ (ck_kd a.1).1 = 3 → ck_sm h (pm_up h c (ck_ev r i).toNat (ck_ev r v)) (ck_kd a.1) (ck_ev r a.2.1) (ck_ev r i) := by
      intro _ ht
      generalize ck_kd a.1 = d at ht
      obtain ⟨t, A, sa, B, sb, th, lo, hi⟩ := d
      rcases ht with ht | ht | ht
      · have e1 : t = 1 := ht
        subst e1
        exact fun j g1 g2 => ck_up_ne (fun q => by omega)
      · have e1 : t = 2 := ht
        subst e1
        exact fun j g2 => ⟨ck_up_ne (fun q => by omega), ck_up_ne (fun q => by omega)⟩
      · have e1 : t = 3 := ht
        subst e1
        exact fun j g1 g2 => ⟨ck_up_ne (fun q => by omega), ck_up_ne (fun q => by omega)⟩
    have hs2 : (ck_kd a.1).1 = 1 ∨ (ck_kd a.1).1 = 3 → ck_sm h (pm_up h c (ck_ev r i).toNat (ck_ev r v)) (ck_kd a.1) (ck_ev r i + 1) (ck_ev r a.2.2) := by
      intro ht
      generalize ck_kd a.1 = d at ht
      obtain ⟨t, A, sa, B, sb, th, lo, hi⟩ := d
      rcases ht with ht | ht
      · have e1 : t = 1 := ht
        subst e1
        exact fun j g1 g2 => ck_up_ne (fun q => by omega)
      · have e1 : t = 3 := ht
        subst e1
        exact fun j g1 g2 => ⟨ck_up_ne (fun q => by omega), ck_up_ne (fun q => by omega)⟩
    have ha0 := ha
    have t1 := fun ht => ck_t1_ok (N := N) (a := a) hN (hs1 rfl ht) ha0
    have t2 := fun ht => ck_t2_ok (N := N) (a := a) hN (hs2 ht) ha0
    unfold ck_ft at ha
    simp only [cond_false]
    have one : ∀ h' : pm_Hp, ck_ft0 h' (ck_kd a.1) (ck_ev r a.2.1) (ck_ev r a.2.2) → ck_fts h' r [a] := fun h' q => ck_fts_one q
    have six : ∀ (h' : pm_Hp) (b : Int), ck_ft0 h' (ck_kd a.1) (ck_ev r a.2.1 - 1) (ck_ev r a.2.2) → ck_fts h' r [(a.1, ck_fs a.2.1 (1, []), a.2.2)] := fun h' b q => ck_fts_one (by
      show ck_ft0 h' (ck_kd a.1) (ck_ev r (ck_fs a.2.1 (1, []))) (ck_ev r a.2.2)
      rw [ck_ev_fs, ck_ev_k]
      exact q)
    generalize ck_kd a.1 = d at ha t1 t2 one six
    obtain ⟨t, A, sa, B, sb, th, lo, hi⟩ := d
    dsimp only
    match t, ha, t1, t2, one, six with
    | 0, _, _, _, _, _ => exact ck_fts_nil
    | 1, ha, t1, t2, one, six =>
      cases hb : ck_in2 N lo hi v with
      | false => exact ck_fts_app (t1 (Or.inl rfl)) (t2 (Or.inl rfl))
      | true =>
        have g1 := ck_in2_ok hN hb
        refine one _ (fun j q1 q2 => ?_)
        have ha1 : ∀ j : Nat, ck_ev r a.2.1 ≤ (j : Int) → (j : Int) < ck_ev r a.2.2 → lo ≤ h A j ∧ h A j ≤ hi := ha
        by_cases e : A = c ∧ j = (ck_ev r i).toNat
        · rw [e.1, e.2, ck_up_at]
          exact g1
        · rw [ck_up_ne e]
          exact ha1 j q1 q2
    | 2, ha, t1, t2, one, six => exact t1 (Or.inr (Or.inl rfl))
    | 3, ha, t1, t2, one, six =>
      cases hb : (bif Nat.beq c A then false else ck_in2 N lo hi v) with
      | false => exact ck_fts_app (t1 (Or.inr (Or.inr rfl))) (t2 (Or.inr rfl))
      | true =>
        have hA : ¬ A = c := by
          intro e
          have e1 : Nat.beq c A = true := by rw [e]; exact Nat.beq_refl c
          rw [e1] at hb
          cases hb
        have hb2 : ck_in2 N lo hi v = true := by
          cases e1 : Nat.beq c A with
          | true => rw [e1] at hb; cases hb
          | false => rw [e1] at hb; exact hb
        have g1 := ck_in2_ok hN hb2
        refine one _ (fun j q1 q2 => ?_)
        have ha1 : ∀ j : Nat, ck_ev r a.2.1 ≤ (j : Int) → (j : Int) < ck_ev r a.2.2 → h A j ≤ th ∨ lo ≤ h B j ∧ h B j ≤ hi := ha
        by_cases e : B = c ∧ j = (ck_ev r i).toNat
        · right
          rw [e.1, e.2, ck_up_at]
          exact g1
        · rw [ck_up_ne e, ck_up_ne (fun q => hA q.1)]
          exact ha1 j q1 q2
    | 4, _, _, _, _, _ => exact ck_fts_nil
    | 5, _, _, _, _, _ => exact ck_fts_nil
    | 6, ha, t1, t2, one, six =>
      cases old with
      | none => exact ck_fts_nil
      | some o =>
        dsimp only
        cases hb : (bif Nat.beq c A then (bif ck_in2 N 1 1000000 v then (bif N (ck_fs i (7, [])) then (bif N o then true else N (ck_fs (ck_fa (1, []) v) o)) else false) else false) else false) with
        | false => exact ck_fts_nil
        | true =>
          obtain ⟨b1, b2⟩ := ck_and hb
          obtain ⟨b3, b4⟩ := ck_and b2
          obtain ⟨b5, b6⟩ := ck_and b4
          have e1 := Nat.eq_of_beq_eq_true b1
          subst e1
          have g1 := ck_in2_ok hN b3
          have g2 := hN _ b5
          rw [ck_ev_fs, ck_ev_k] at g2
          have g3 := ho o rfl
          have ha1 : ck_f6 h c ≤ ck_ev r a.2.1 := ha
          refine six _ 0 ?_
          have g5 : ck_f6 (pm_up h c (ck_ev r i).toNat (ck_ev r v)) c ≤ ck_f6 h c - 1 := by
            refine ck_f6_up (by omega) g1 ?_
            rw [g3]
            rcases ck_or b6 with b7 | b7
            · exact Or.inl (hN _ b7)
            · have g4 := hN _ b7
              rw [ck_ev_fs, ck_ev_fa, ck_ev_k] at g4
              exact Or.inr (by omega)
          show ck_f6 (pm_up h c (ck_ev r i).toNat (ck_ev r v)) c ≤ ck_ev r a.2.1 - 1
          omega
    | _ + 7, _, _, _, _, _ => exact ck_fts_nil
noncomputable def ck_fwl (N : ck_F → Bool) (c : Nat) (i v : ck_F) (old : Option ck_F) (A : ck_O) : ck_O := List.rec (motive := fun _ => ck_O) [] (fun a _ ih => ck_fw N c i v old a ++ ih) A
theorem ck_fwl_ok {N : ck_F → Bool} {r : ck_R} {h : pm_Hp} {c : Nat} {i v : ck_F} {old : Option ck_F} (hN : ∀ f, N f = true → ck_ev r f ≤ 0) (hp : 0 ≤ ck_ev r i) (ho : ∀ o, old = some o → h c (ck_ev r i).toNat = ck_ev r o) : ∀ {A : ck_O}, ck_fts h r A → ck_fts (pm_up h c (ck_ev r i).toNat (ck_ev r v)) r (ck_fwl N c i v old A)
  | [], _ => ck_fts_nil
  | a :: t, hA => ck_fts_app (ck_fw_ok hN hp ho (hA a (List.mem_cons_self ..))) (ck_fwl_ok hN hp ho (A := t) (fun q hq => hA q (List.mem_cons_of_mem _ hq)))
noncomputable def ck_wr (M : ck_O) (S : ck_S) (c : Nat) (idx v : ck_F) : Option ck_S := match ck_ix (ck_N S) c (ck_nm S.2.1 idx) with
  | none => none
  | some w => bif (bif ck_in2 (ck_N S) w.1 w.2 v then ck_mw (ck_N S) c (ck_nm S.2.1 idx) (ck_fa (1, []) (ck_nm S.2.1 idx)) M else false) then some (S.1, S.2.1, S.2.2.1, (c, ck_nm S.2.1 idx, v) :: ck_ok (ck_N S) [(c, ck_nm S.2.1 idx, ck_fa (1, []) (ck_nm S.2.1 idx))] S.2.2.2.1, ck_fwl (ck_N S) c (ck_nm S.2.1 idx) v (ck_of S.2.1 S.2.2.1 c (ck_nm S.2.1 idx) S.2.2.2.1) S.2.2.2.2) else none
theorem ck_wr_ok {M : ck_O} {h0 h : pm_Hp} {S S' : ck_S} {c : Nat} {idx v : ck_F} {r : ck_R} {z : Nat} {x : Int} (hw : ck_wr M S c idx v = some S') (H : ck_sat M h0 S h r) (hz : ck_ev r idx = (z : Int)) (hx : ck_ev r v = x) (hd : ck_dec h) : S'.1 = S.1 ∧ ck_sat M h0 S' (pm_up h c z x) r ∧ ck_dec (pm_up h c z x) ∧ ∃ w, ck_dv c z = some w ∧ w.1 ≤ x ∧ x ≤ w.2 := by
  subst hx
  unfold ck_wr at hw
  cases hi : ck_ix (ck_N S) c (ck_nm S.2.1 idx) with
  | none => rw [hi] at hw; cases hw
  | some w =>
    rw [hi] at hw
    dsimp only at hw
    cases hb : (bif ck_in2 (ck_N S) w.1 w.2 v then ck_mw (ck_N S) c (ck_nm S.2.1 idx) (ck_fa (1, []) (ck_nm S.2.1 idx)) M else false) with
    | false => rw [hb] at hw; cases hw
    | true =>
      rw [hb] at hw
      cases hw
      have hN := ck_N_ok H
      have e0 := ck_nm_ok H.1 idx
      have q1 := ck_ix_ok hN hi
      obtain ⟨b1, b2⟩ := ck_and hb
      have g1 := ck_in2_ok hN b1
      obtain ⟨m, hm, hm1, hm2, hm3⟩ := ck_mw_ok hN b2
      have ez : (ck_ev r (ck_nm S.2.1 idx)).toNat = z := by rw [e0, hz]; exact Int.toNat_natCast z
      have hW := ck_up_ow (h := h) (c := c) (i := ck_nm S.2.1 idx) (x := ck_ev r v) q1.1
      have hA := ck_fwl_ok (N := ck_N S) (h := h) (c := c) (i := ck_nm S.2.1 idx) (v := v) (old := ck_of S.2.1 S.2.2.1 c (ck_nm S.2.1 idx) S.2.2.2.1) hN q1.1 (fun o ho => ck_of_ok H.1 H.2.1 H.2.2.1 ho) H.2.2.2.1
      have hO := ck_ok_ok (N := ck_N S) hN hW H.2.2.1
      rw [ez] at hA hW hO q1
      refine ⟨rfl, ⟨H.1, H.2.1, ?_, hA, ?_⟩, ?_, w, q1.2, g1⟩
      · intro o ho
        rcases List.mem_cons.mp ho with rfl | ho
        · show 0 ≤ ck_ev r (ck_nm S.2.1 idx) ∧ pm_up h c z (ck_ev r v) c (ck_ev r (ck_nm S.2.1 idx)).toNat = ck_ev r v
          rw [ez, ck_up_at]
          exact ⟨q1.1, rfl⟩
        · exact hO o ho
      · intro c' j
        by_cases e : c' = c ∧ j = z
        · refine Or.inr ⟨m, hm, hm1.trans e.1.symm, ?_, ?_⟩
          · rw [e0, hz] at hm2
            rw [e.2]
            exact hm2
          · rw [ck_ev_fa, ck_ev_k, e0, hz] at hm3
            rw [e.2]
            omega
        · rw [ck_up_ne e]
          exact H.2.2.2.2 c' j
      · intro c' j w' hw'
        by_cases e : c' = c ∧ j = z
        · obtain ⟨rfl, rfl⟩ := e
          rw [ck_up_at]
          have e1 : w = w' := Option.some.inj (q1.2.symm.trans hw')
          rw [← e1]
          exact g1
        · rw [ck_up_ne e]
          exact hd c' j w' hw'
