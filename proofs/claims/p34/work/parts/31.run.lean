/-! The checker: all paths of a method, by a text of hints. -/
def ck_zz (n : Nat) : Int := bif Nat.beq (n % 2) 0 then .ofNat (n / 2) else .negSucc (n / 2)
noncomputable def ck_rL (m : Nat) : List Nat → Option (ck_L × List Nat) := Nat.rec (motive := fun _ => List Nat → Option (ck_L × List Nat)) (fun c => some ([], c)) (fun _ ih c => match c with
  | [] => none
  | n :: c1 => match c1 with
    | [] => none
    | z :: c2 => match ih c2 with
      | none => none
      | some x => some ((n, ck_zz z) :: x.1, x.2)) m
noncomputable def ck_rF (c : List Nat) : Option (ck_F × List Nat) := match c with
  | [] => none
  | z :: c1 => match c1 with
    | [] => none
    | m :: c2 => match ck_rL m c2 with
      | none => none
      | some x => some ((ck_zz z, x.1), x.2)
noncomputable def ck_rT (m : Nat) : List Nat → Option (List ck_F × List Nat) := Nat.rec (motive := fun _ => List Nat → Option (List ck_F × List Nat)) (fun c => some ([], c)) (fun _ ih c => match ck_rF c with
  | none => none
  | some f => match ih f.2 with
    | none => none
    | some x => some (f.1 :: x.1, x.2)) m
noncomputable def ck_rTh (c : List Nat) : Option (List ck_F × List Nat) := match c with
  | [] => none
  | m :: c1 => ck_rT m c1
/-- the first names stay -/
noncomputable def ck_rig (S : ck_S) (θ : List ck_F) (n : Nat) : Bool := Nat.rec (motive := fun _ => Bool) true (fun i ih => match ck_nth θ i with
  | none => false
  | some t => bif ck_eq0 S.2.1 S.2.2.1 (ck_fs t (.ofNat 0, [(i, .ofNat 1)])) then ih else false) n
theorem ck_rig_ok {S : ck_S} {θ : List ck_F} {h : pm_Hp} {r r' : ck_R} (hs : ck_sa S h r) (ht : ck_th θ r r') : ∀ {n : Nat}, ck_rig S θ n = true → ck_agr n r r'
  | 0, _ => fun _ h => absurd h (Nat.not_lt_zero _)
  | n + 1, h1 => by
    have h0 : (match ck_nth θ n with
      | none => false
      | some t => bif ck_eq0 S.2.1 S.2.2.1 (ck_fs t (.ofNat 0, [(n, .ofNat 1)])) then ck_rig S θ n else false) = true := h1
    cases h2 : ck_nth θ n with
    | none => rw [h2] at h0; cases h0
    | some t =>
      rw [h2] at h0
      obtain ⟨h3, h4⟩ := ck_and h0
      rw [ck_nth_ok] at h2
      have e1 := ck_eq0_ok hs.1 hs.2.1 h3
      rw [ck_ev_fs] at e1
      have e2 : ck_ev r (.ofNat 0, [(n, .ofNat 1)]) = r n := ck_ev_v r n
      have e3 := ht n t h2
      intro i hi
      rcases Nat.lt_or_ge i n with q | q
      · exact ck_rig_ok hs ht h4 i q
      · have e4 : i = n := by omega
        rw [e4]
        omega
/-- bits added: a form and a new name -/
noncomputable def ck_io (S : ck_S) (pc len : Nat) (loc : ck_Lc) (stk : List ck_V) : Option (List ck_T) := ck_pI stk fun y t => ck_pI t fun x u => match ck_rg 2 S.2.1 S.2.2.1 x with
  | none => none
  | some p => match ck_rg 2 S.2.1 S.2.2.1 y with
    | none => none
    | some q => bif (bif ck_le 0 p.1 then ck_le 0 q.1 else false) then some (ck_mp (pc + len) loc ((0, ck_fa x (ck_pu S (false, (.ofNat 0, []), .ofNat 0, ck_pw (ck_mx p.2 q.2) - p.1)).2) :: u) (ck_tw (ck_pu S (false, (.ofNat 0, []), .ofNat 0, ck_pw (ck_mx p.2 q.2) - p.1)).1 5 (ck_fs (ck_fa x (ck_pu S (false, (.ofNat 0, []), .ofNat 0, ck_pw (ck_mx p.2 q.2) - p.1)).2) (ck_pw (ck_mx p.2 q.2), []))) []) else none
theorem ck_io_ok {M : ck_O} {h0 h : pm_Hp} {Φ : ck_R → Prop} {S : ck_S} {pc len rr a c : Nat} {z : Int} {loc : ck_Lc} {stk : List ck_V} {lv : pm_Lv} {st : List Value} {L : List ck_T} (hs : ck_io S pc len loc stk = some L) (H : ck_H M h0 Φ (S, pc, loc, stk) pc lv st h) : ck_St M h0 Φ L (9, rr, len, z, a, 4, c) pc lv st h := by
  obtain ⟨r0, hr0⟩ := ck_G_ex H.2.2
  obtain ⟨fy, t, y, st', rfl, h1, h2⟩ := ck_pI_ok hs hr0.2.2.2
  obtain ⟨fx, u, x, su, rfl, h3, h4⟩ := ck_pI_ok h1 (h2 r0 hr0.2.2.2).2
  cases hp : ck_rg 2 S.2.1 S.2.2.1 fx with
  | none => rw [hp] at h3; cases h3
  | some p =>
    rw [hp] at h3
    dsimp only at h3
    cases hq : ck_rg 2 S.2.1 S.2.2.1 fy with
    | none => rw [hq] at h3; cases h3
    | some q =>
      rw [hq] at h3
      dsimp only at h3
      cases hb : (bif ck_le 0 p.1 then ck_le 0 q.1 else false) with
      | false => rw [hb] at h3; cases h3
      | true =>
        rw [hb] at h3
        cases h3
        obtain ⟨b1, b2⟩ := ck_and hb
        have g1 := ck_le_iff.mp b1
        have g2 := ck_le_iff.mp b2
        have v0 := h2 r0 hr0.2.2.2
        have v1 := h4 r0 v0.2
        have px := ck_rg_ok hr0.2.1.1 hr0.2.1.2.1 2 _ _ hp
        have py := ck_rg_ok hr0.2.1.1 hr0.2.1.2.1 2 _ _ hq
        rw [← v1.1] at px
        rw [← v0.1] at py
        have ho := ck_or_ok (x := x) (y := y) (b := ck_mx p.2 q.2) (by omega) (by omega) (Int.le_trans px.2 (ck_mx_l _ _)) (Int.le_trans py.2 (ck_mx_r _ _))
        refine ⟨(pc + len, lv, .int (x ||| y) :: su, h), rfl, ?_⟩
        have HG := ck_pu_ok (M := M) (h0 := h0) (h := h) (S := S) (w := (false, (.ofNat 0, []), .ofNat 0, ck_pw (ck_mx p.2 q.2) - p.1)) (v := (x ||| y).toInt - x.toInt) (P := fun r => Φ r ∧ ck_ls r loc lv ∧ ck_ss r stk (.int y :: .int x :: su)) (ck_G_mono H.2.2 (fun r hr => ⟨⟨hr.1, hr.2.2.1, hr.2.2.2⟩, hr.2.1⟩)) (fun r hr hsat => ck_rz_i (by show (0 : Int) ≤ _; omega) (by omega))
        have HG2 : ck_G (ck_pu S (false, (.ofNat 0, []), .ofNat 0, ck_pw (ck_mx p.2 q.2) - p.1)).1.1 (fun r => ((Φ r ∧ ck_ls r loc lv ∧ ck_ss r stk (.int y :: .int x :: su)) ∧ (x ||| y).toInt - x.toInt = ck_ev r (ck_pu S (false, (.ofNat 0, []), .ofNat 0, ck_pw (ck_mx p.2 q.2) - p.1)).2) ∧ ck_sat M h0 (ck_pu S (false, (.ofNat 0, []), .ofNat 0, ck_pw (ck_mx p.2 q.2) - p.1)).1 h r) := ck_G_mono HG (fun r hr => ⟨⟨hr.1, hr.2.2⟩, hr.2.1⟩)
        have ev : ∀ r, ck_ss r stk (.int y :: .int x :: su) → (x ||| y).toInt - x.toInt = ck_ev r (ck_pu S (false, (.ofNat 0, []), .ofNat 0, ck_pw (ck_mx p.2 q.2) - p.1)).2 → ck_ev r (ck_fa fx (ck_pu S (false, (.ofNat 0, []), .ofNat 0, ck_pw (ck_mx p.2 q.2) - p.1)).2) = (x ||| y).toInt := fun r hr he => by
          rw [ck_ev_fa, ← he, ← (h4 r (h2 r hr).2).1]
          omega
        obtain ⟨S', hS', h7⟩ := ck_tw_ok (b := 5) (d := ck_fs (ck_fa fx (ck_pu S (false, (.ofNat 0, []), .ofNat 0, ck_pw (ck_mx p.2 q.2) - p.1)).2) (ck_pw (ck_mx p.2 q.2), [])) HG2 (fun r hr => by
          rw [ck_ev_fs, ev r hr.1.2.2 hr.2, ck_ev_k]
          show (x ||| y).toInt - ck_pw (ck_mx p.2 q.2) ≤ 0
          omega)
        exact ⟨_, ck_mp_l hS', rfl, H.2.1, ck_G_mono h7 (fun r hr => ⟨hr.1.1.1, hr.2, hr.1.1.2.1, ck_vr_i (ev r hr.1.1.2.2 hr.1.2).symm, (h4 r (h2 r hr.1.1.2.2).2).2⟩)⟩
/-- states with the rest of a frame -/
noncomputable def ck_mq (pc : Nat) (loc : ck_Lc) (rest : List ck_V) (l : List (ck_S × List ck_V)) : List ck_T := List.rec (motive := fun _ => List ck_T) [] (fun y _ ih => (y.1, pc, loc, y.2 ++ rest) :: ih) l
theorem ck_mq_mem {pc : Nat} {loc : ck_Lc} {rest : List ck_V} {y : ck_S × List ck_V} : ∀ {l : List (ck_S × List ck_V)}, y ∈ l → (y.1, pc, loc, y.2 ++ rest) ∈ ck_mq pc loc rest l
  | [], h => absurd h List.not_mem_nil
  | q :: t, h => by
    show _ ∈ (q.1, pc, loc, q.2 ++ rest) :: ck_mq pc loc rest t
    rcases List.mem_cons.mp h with rfl | h
    · exact List.mem_cons_self ..
    · exact List.mem_cons_of_mem _ (ck_mq_mem h)
noncomputable def ck_fo (f : ck_T → List Nat → Option (List Nat)) (l : List ck_T) : List Nat → Option (List Nat) := List.rec (motive := fun _ => List Nat → Option (List Nat)) (fun c => some c) (fun T _ ih c => match f T c with
  | none => none
  | some c' => ih c') l
theorem ck_fo_ok {f : ck_T → List Nat → Option (List Nat)} : ∀ {l : List ck_T} {c c' : List Nat}, ck_fo f l c = some c' → ∀ T ∈ l, ∃ c1 c2, f T c1 = some c2
  | [], _, _, _ => fun _ h => absurd h List.not_mem_nil
  | T :: t, c, c', h => by
    have h0 : (match f T c with
      | none => none
      | some c' => ck_fo f t c') = some c' := h
    cases h1 : f T c with
    | none => rw [h1] at h0; cases h0
    | some c1 =>
      rw [h1] at h0
      intro q hq
      rcases List.mem_cons.mp hq with rfl | hq
      · exact ⟨c, c1, h1⟩
      · exact ck_fo_ok h0 q hq
/-- the hints' operations -/
noncomputable def ck_op (S : ck_S) (c : List Nat) : Option (List ck_S × List Nat) := match c with
  | [] => none
  | o :: c1 => match o with
    | 0 => (match ck_rF c1 with
      | none => none
      | some f => bif ck_wl S.1 f.1.2 then some (ck_p0 S f.1, f.2) else none)
    | 1 => (match c1 with
      | [] => none
      | k :: c2 => match ck_rF c2 with
        | none => none
        | some f => match ck_pr S k f.1 with
          | none => none
          | some l => some (l, f.2))
    | 2 => (match c1 with
      | [] => none
      | k :: c2 => match ck_rF c2 with
        | none => none
        | some f => match ck_pe S k f.1 with
          | none => none
          | some l => some (l, f.2))
    | 3 => (match c1 with
      | [] => none
      | k :: c2 => match ck_rF c2 with
        | none => none
        | some f => match ck_pf S k f.1 with
          | none => none
          | some l => some (l, f.2))
    | _ => none
theorem ck_op_ok {M : ck_O} {h0 h : pm_Hp} {S : ck_S} {P : ck_R → Prop} {c : List Nat} {x : List ck_S × List Nat} (hd : ck_dec h) (hs : ck_op S c = some x) (H : ck_G S.1 (fun r => P r ∧ ck_sat M h0 S h r)) : ck_Sx M h0 h P x.1 := by
  unfold ck_op at hs
  cases c with
  | nil => cases hs
  | cons o c1 =>
    dsimp only at hs
    match o, hs with
    | 0, hs =>
      cases h1 : ck_rF c1 with
      | none => rw [h1] at hs; cases hs
      | some f =>
        rw [h1] at hs
        dsimp only at hs
        cases hw : ck_wl S.1 f.1.2 with
        | false => rw [hw] at hs; cases hs
        | true =>
          rw [hw] at hs
          cases hs
          exact ck_p0_ok H hw
    | 1, hs =>
      cases c1 with
      | nil => cases hs
      | cons k c2 =>
        dsimp only at hs
        cases h1 : ck_rF c2 with
        | none => rw [h1] at hs; cases hs
        | some f =>
          rw [h1] at hs
          dsimp only at hs
          cases h2 : ck_pr S k f.1 with
          | none => rw [h2] at hs; cases hs
          | some l =>
            rw [h2] at hs
            cases hs
            exact ck_pr_ok hd h2 H
    | 2, hs =>
      cases c1 with
      | nil => cases hs
      | cons k c2 =>
        dsimp only at hs
        cases h1 : ck_rF c2 with
        | none => rw [h1] at hs; cases hs
        | some f =>
          rw [h1] at hs
          dsimp only at hs
          cases h2 : ck_pe S k f.1 with
          | none => rw [h2] at hs; cases hs
          | some l =>
            rw [h2] at hs
            cases hs
            exact ck_pe_ok hd h2 H
    | 3, hs =>
      cases c1 with
      | nil => cases hs
      | cons k c2 =>
        dsimp only at hs
        cases h1 : ck_rF c2 with
        | none => rw [h1] at hs; cases hs
        | some f =>
          rw [h1] at hs
          dsimp only at hs
          cases h2 : ck_pf S k f.1 with
          | none => rw [h2] at hs; cases hs
          | some l =>
            rw [h2] at hs
            cases hs
            exact ck_pf_ok hd h2 H
    | _ + 4, hs => cases hs
/-- a pattern met -/
noncomputable def ck_arr (C : ck_Co) (pats : List ck_Pt) (rk : Option ck_F) (k : Nat) (T : ck_T) (j : Nat) (θ : List ck_F) : Bool := match ck_nth pats j with
  | none => false
  | some p => bif Nat.beq k C.1 then (bif Nat.beq T.2.1 p.1.2.1 then (bif Nat.beq (ck_len θ) p.1.1.1 then (bif ck_rig T.1 θ C.2.2.1.1 then (bif ck_ms T.1 p.1.1 θ then (bif ck_m6 T.1 θ T.2.2.1 p.1.2.2.1 then (bif ck_m5 T.1 θ p.1.2.2.2 T.2.2.2 then (match rk with
    | none => true
    | some f => match ck_sb θ p.2 with
      | none => false
      | some g => ck_N T.1 (ck_fs (ck_fa (.ofNat 1, []) g) f)) else false) else false) else false) else false) else false) else false) else false
/-- an end met -/
noncomputable def ck_end (C : ck_Co) (T : ck_T) (vs : List ck_V) (j : Nat) (θ : List ck_F) : Bool := match ck_nth C.2.2.2.2.1 j with
  | none => false
  | some p => bif Nat.beq (ck_len θ) p.1.1 then (bif Nat.ble C.2.2.1.1 p.1.1 then (bif ck_rig T.1 θ C.2.2.1.1 then (bif ck_ms T.1 p.1 θ then ck_m5 T.1 θ p.2 vs else false) else false) else false) else false
/-- one step without a hint -/
noncomputable def ck_x1 (ih : Nat → Nat → Nat → ck_T → List ck_Of → List Nat → Option (List Nat)) (M : ck_O) (d cr k : Nat) (T : ck_T) (outer : List ck_Of) (c : List Nat) : Option (List Nat) := match ck_ins k T.2.1 with
  | none => none
  | some i => bif (bif Nat.beq i.1 43 then true else Nat.beq i.1 44) then (match d with
    | 0 => none
    | d' + 1 => match ck_cal i T.2.2.2 with
      | none => none
      | some x => match ck_nth pm_M i.2.2.2.2.1 with
        | none => none
        | some me => bif Nat.ble (ck_cat x.1) me.2.2.1 then ih d' cr i.2.2.2.2.1 (T.1, 0, ck_la x.1 0, []) ((k, T.2.1 + i.2.2.1, T.2.2.1, x.2) :: outer) c else none) else (bif (bif Nat.ble 39 i.1 then Nat.ble i.1 42 else false) then (match outer with
    | [] => none
    | f :: o => match ck_rtn T.1 i T.2.2.2 with
      | none => none
      | some vs => ih (d + 1) cr f.1 (T.1, f.2.1, f.2.2.1, vs ++ f.2.2.2) o c) else (match ck_st M i T with
    | none => none
    | some l => match l with
      | [] => some c
      | T1 :: l1 => match l1 with
        | [] => ih d cr k T1 outer c
        | _ :: _ => ck_fo (fun T c => ih d 0 k T outer c) l c))
/-- all paths: the steps that are left without a hint, the text of hints -/
noncomputable def ck_ex (tab : List ck_Co) (C : ck_Co) (pats : List ck_Pt) (rk : Option ck_F) (fuel : Nat) : Nat → Nat → Nat → ck_T → List ck_Of → List Nat → Option (List Nat) := Nat.rec (motive := fun _ => Nat → Nat → Nat → ck_T → List ck_Of → List Nat → Option (List Nat)) (fun _ _ _ _ _ _ => none) (fun _ ih d cr k T outer c => match cr with
  | cr + 1 => ck_x1 ih C.2.2.2.2.2 d cr k T outer c
  | 0 => match c with
    | [] => none
    | t :: c1 => match t with
      | 0 => (match c1 with
        | [] => none
        | n :: c2 => ih d n k T outer c2)
      | 1 => (match ck_op T.1 c1 with
        | none => none
        | some x => ck_fo (fun T c => ih d 0 k T outer c) (ck_mp T.2.1 T.2.2.1 T.2.2.2 x.1 []) x.2)
      | 2 => (match c1 with
        | [] => none
        | j :: c2 => match ck_rTh c2 with
          | none => none
          | some θ => match outer with
            | _ :: _ => none
            | [] => bif ck_arr C pats rk k T j θ.1 then some θ.2 else none)
      | 3 => (match c1 with
        | [] => none
        | j :: c2 => match ck_rTh c2 with
          | none => none
          | some θ => match ck_ins k T.2.1 with
            | none => none
            | some i => match ck_cal i T.2.2.2 with
              | none => none
              | some x => match ck_nth tab j with
                | none => none
                | some Cj => bif (bif Nat.beq Cj.1 i.2.2.2.2.1 then Nat.ble Cj.2.1 d else false) then (match ck_us C.2.2.2.2.2 T.1 Cj θ.1 x.1 with
                  | none => none
                  | some l => ck_fo (fun T c => ih d 0 k T outer c) (ck_mq (T.2.1 + i.2.2.1) T.2.2.1 x.2 l) θ.2) else none)
      | 4 => (match c1 with
        | [] => none
        | j :: c2 => match ck_rTh c2 with
          | none => none
          | some θ => match outer with
            | _ :: _ => none
            | [] => match ck_ins k T.2.1 with
              | none => none
              | some i => match ck_rtn T.1 i T.2.2.2 with
                | none => none
                | some vs => bif ck_end C T vs j θ.1 then some θ.2 else none)
      | 5 => (match ck_ins k T.2.1 with
        | none => none
        | some i => bif (bif Nat.beq i.1 9 then Nat.beq i.2.2.2.2.2.1 4 else false) then (match ck_io T.1 T.2.1 i.2.2.1 T.2.2.1 T.2.2.2 with
          | none => none
          | some l => ck_fo (fun T c => ih d 0 k T outer c) l c1) else none)
      | _ => none) fuel
