/-! The checker: steps with the heap. -/
section
variable {M : ck_O} {h0 h : pm_Hp} {Φ : ck_R → Prop} {S : ck_S} {pc len rr a b c : Nat} {z : Int} {loc : ck_Lc} {stk : List ck_V} {lv : pm_Lv} {st : List Value} {L : List ck_T}
/-- a switch -/
noncomputable def ck_s3 (S : ck_S) (pc : Nat) (x : ck_F) (loc : ck_Lc) (u : List ck_V) (offs : List Int) : Int → Option (List ck_T) := List.rec (motive := fun _ => Int → Option (List ck_T)) (fun _ => some []) (fun o _ ih k => match pm_go pc o with
  | none => none
  | some g => match ih (k + 1) with
    | none => none
    | some l => some (ck_mp g loc u (ck_tw S 0 (ck_fs x (k, []))) l)) offs
theorem ck_s3_ok {fx : ck_F} {u : List ck_V} {su : List Value} {x : Int32} (H : ck_H M h0 Φ (S, pc, loc, stk) pc lv st h) (h2 : ∀ r, ck_ss r stk st → x.toInt = ck_ev r fx ∧ ck_ss r u su) : ∀ {offs : List Int} {k : Int} {j : Nat} {o : Int} {L : List ck_T}, ck_s3 S pc fx loc u offs k = some L → offs[j]? = some o → x.toInt = k + j → ∃ g, pm_go pc o = some g ∧ ck_Sd M h0 Φ L (g, lv, su, h)
  | [], _, _, _, _, _, h4, _ => by simp at h4
  | o' :: t, k, j, o, L, h3, h4, h5 => by
    have h6 : (match pm_go pc o' with
      | none => none
      | some g => match ck_s3 S pc fx loc u t (k + 1) with
        | none => none
        | some l => some (ck_mp g loc u (ck_tw S 0 (ck_fs fx (k, []))) l)) = some L := h3
    cases hg : pm_go pc o' with
    | none => rw [hg] at h6; cases h6
    | some g =>
      rw [hg] at h6
      dsimp only at h6
      cases hl : ck_s3 S pc fx loc u t (k + 1) with
      | none => rw [hl] at h6; cases h6
      | some l =>
        rw [hl] at h6
        cases h6
        cases j with
        | zero =>
          have e1 : o' = o := by simpa using h4
          subst e1
          refine ⟨g, hg, ?_⟩
          have HG : ck_G S.1 (fun r => (Φ r ∧ ck_ls r loc lv ∧ ck_ss r stk st) ∧ ck_sat M h0 S h r) := ck_G_mono H.2.2 (fun r hr => ⟨⟨hr.1, hr.2.2.1, hr.2.2.2⟩, hr.2.1⟩)
          obtain ⟨S', hS', h7⟩ := ck_tw_ok (b := 0) (d := ck_fs fx (k, [])) HG (fun r hr => by
            rw [ck_ev_fs, ck_ev_k, ← (h2 r hr.2.2).1]
            show x.toInt - k = 0
            have : x.toInt = k + (0 : Nat) := h5
            omega)
          exact ⟨_, ck_mp_l hS', rfl, H.2.1, ck_G_mono h7 (fun r hr => ⟨hr.1.1, hr.2, hr.1.2.1, (h2 r hr.1.2.2).2⟩)⟩
        | succ j =>
          obtain ⟨g', h7, T, h8, h9⟩ := ck_s3_ok H h2 (offs := t) (k := k + 1) (j := j) (o := o) hl (by simpa using h4) (by omega)
          exact ⟨g', h7, T, ck_mp_r h8, h9⟩
noncomputable def ck_o23 (S : ck_S) (pc a : Nat) (loc : ck_Lc) (stk : List ck_V) : Option (List ck_T) := ck_pI stk fun x u => match pm_SW[a]? with
  | none => none
  | some w => match pm_go pc w.1 with
    | none => none
    | some gd => bif ck_le (w.2.2.1 + 1 - w.2.1) (w.2.2.2.1.length : Int) then (match ck_s3 S pc x loc u w.2.2.2.1 w.2.1 with
      | none => none
      | some l => some (ck_mp gd loc u (ck_tw S 2 (ck_fs x (w.2.1, []))) (ck_mp gd loc u (ck_tw S 4 (ck_fs x (w.2.2.1, []))) l))) else none
theorem ck_o23_ok (hs : ck_o23 S pc a loc stk = some L) (H : ck_H M h0 Φ (S, pc, loc, stk) pc lv st h) : ck_St M h0 Φ L (23, rr, len, z, a, b, c) pc lv st h := by
  obtain ⟨r0, hr0⟩ := ck_G_ex H.2.2
  obtain ⟨fx, u, x, su, rfl, h1, h2⟩ := ck_pI_ok hs hr0.2.2.2
  cases hw : pm_SW[a]? with
  | none => rw [hw] at h1; cases h1
  | some w =>
    rw [hw] at h1
    obtain ⟨d, lo, hi, offs, p⟩ := w
    dsimp only at h1
    cases hg : pm_go pc d with
    | none => rw [hg] at h1; cases h1
    | some gd =>
      rw [hg] at h1
      dsimp only at h1
      cases hb : ck_le (hi + 1 - lo) (offs.length : Int) with
      | false => rw [hb] at h1; cases h1
      | true =>
        rw [hb] at h1
        dsimp only [cond_true] at h1
        have hlen := ck_le_iff.mp hb
        cases hl : ck_s3 S pc fx loc u offs lo with
        | none => rw [hl] at h1; cases h1
        | some l =>
          rw [hl] at h1
          cases h1
          have HG : ck_G S.1 (fun r => (Φ r ∧ ck_ls r loc lv ∧ ck_ss r stk (.int x :: su)) ∧ ck_sat M h0 S h r) := ck_G_mono H.2.2 (fun r hr => ⟨⟨hr.1, hr.2.2.1, hr.2.2.2⟩, hr.2.1⟩)
          have fin : ∀ g, pm_sw a pc x = some g → pm_stp (23, rr, len, z, a, b, c) pc lv (.int x :: su) h = some (g, lv, su, h) := by
            intro g e
            show (pm_sw a pc x).bind _ = _
            rw [e]
            rfl
          have sw : pm_sw a pc x = if x.toInt < lo ∨ hi < x.toInt then pm_go pc d else (offs[(x.toInt - lo).toNat]?).bind (pm_go pc) := by
            unfold pm_sw
            rw [hw]
          by_cases c1 : x.toInt < lo
          · obtain ⟨S', hS', h7⟩ := ck_tw_ok (b := 2) (d := ck_fs fx (lo, [])) HG (fun r hr => by
              rw [ck_ev_fs, ck_ev_k, ← (h2 r hr.2.2).1]
              show x.toInt - lo < 0
              omega)
            exact ⟨_, fin gd (by rw [sw, if_pos (Or.inl c1)]; exact hg), _, ck_mp_l hS', rfl, H.2.1, ck_G_mono h7 (fun r hr => ⟨hr.1.1, hr.2, hr.1.2.1, (h2 r hr.1.2.2).2⟩)⟩
          · by_cases c2 : hi < x.toInt
            · obtain ⟨S', hS', h7⟩ := ck_tw_ok (b := 4) (d := ck_fs fx (hi, [])) HG (fun r hr => by
                rw [ck_ev_fs, ck_ev_k, ← (h2 r hr.2.2).1]
                show 0 < x.toInt - hi
                omega)
              exact ⟨_, fin gd (by rw [sw, if_pos (Or.inr c2)]; exact hg), _, ck_mp_r (ck_mp_l hS'), rfl, H.2.1, ck_G_mono h7 (fun r hr => ⟨hr.1.1, hr.2, hr.1.2.1, (h2 r hr.1.2.2).2⟩)⟩
            · have hj : (x.toInt - lo).toNat < offs.length := by omega
              obtain ⟨g, h8, T, h9, h10⟩ := ck_s3_ok H h2 (j := (x.toInt - lo).toNat) (o := offs[(x.toInt - lo).toNat]) hl (List.getElem?_eq_getElem hj) (by omega)
              refine ⟨_, fin g ?_, T, ck_mp_r (ck_mp_r h9), h10⟩
              rw [sw, if_neg (by omega), List.getElem?_eq_getElem hj]
              exact h8
/-- reading -/
theorem ck_rd1 {q : Nat} {S' : ck_S} {idx v : ck_F} {y : Int} {u : List ck_V} {su : List Value} (H : ck_H M h0 Φ (S, pc, loc, stk) pc lv st h) (hr : ck_rd S q idx = some (S', v)) (h2 : ∀ r, ck_ss r stk st → y = ck_ev r idx ∧ ck_ss r u su) : 0 ≤ y ∧ (∃ w, ck_dv q y.toNat = some w ∧ w.1 ≤ h q y.toNat ∧ h q y.toNat ≤ w.2) ∧ ck_G S'.1 (fun r => Φ r ∧ ck_sat M h0 S' h r ∧ ck_ls r loc lv ∧ ck_ss r u su ∧ ck_ev r v = h q y.toNat) := by
  obtain ⟨h3, ⟨w, h4⟩, h5⟩ := ck_rd_ok (M := M) (h0 := h0) (h := h) (z := y) (P := fun r => Φ r ∧ ck_ls r loc lv ∧ ck_ss r stk st) H.2.1 hr (ck_G_mono H.2.2 (fun r hr => ⟨⟨hr.1, hr.2.2.1, hr.2.2.2⟩, hr.2.1, (h2 r hr.2.2.2).1.symm⟩))
  exact ⟨h3, ⟨w, h4, H.2.1 q y.toNat w h4⟩, ck_G_mono h5 (fun r hr => ⟨hr.1.1, hr.2.1, hr.1.2.1, (h2 r hr.1.2.2).2, hr.2.2⟩)⟩
def ck_k04 (k : Nat) : Bool := bif Nat.beq k 0 then true else Nat.beq k 4
theorem ck_k04_ok {k : Nat} (h : ck_k04 k = true) : k = 0 ∨ k = 4 := by
  rcases ck_or h with h1 | h1
  · exact Or.inl (Nat.eq_of_beq_eq_true h1)
  · exact Or.inr (Nat.eq_of_beq_eq_true h1)
noncomputable def ck_o24 (S : ck_S) (pc len a b : Nat) (loc : ck_Lc) (stk : List ck_V) : Option (List ck_T) := ck_pR stk fun q u => match ck_fk3 q b a with
  | none => none
  | some k => bif ck_k04 k then (match ck_rd S q ((a : Int), []) with
    | none => none
    | some x => some [(x.1, pc + len, loc, (0, x.2) :: u)]) else none
theorem ck_o24_ok (hs : ck_o24 S pc len a b loc stk = some L) (H : ck_H M h0 Φ (S, pc, loc, stk) pc lv st h) : ck_St M h0 Φ L (24, rr, len, z, a, b, c) pc lv st h := by
  obtain ⟨r0, hr0⟩ := ck_G_ex H.2.2
  obtain ⟨q, u, su, rfl, h1, h2⟩ := ck_pR_ok hs hr0.2.2.2
  cases hk : ck_fk3 q b a with
  | none => rw [hk] at h1; cases h1
  | some k =>
    rw [hk] at h1
    dsimp only at h1
    have hk1 := ck_fk3_ok hk
    cases hb : ck_k04 k with
    | false => rw [hb] at h1; cases h1
    | true =>
      rw [hb] at h1
      dsimp only [cond_true] at h1
      have hk2 := ck_k04_ok hb
      cases hx : ck_rd S q ((a : Int), []) with
      | none => rw [hx] at h1; cases h1
      | some x =>
        rw [hx] at h1
        cases h1
        obtain ⟨h3, ⟨w, h4, h5⟩, h6⟩ := ck_rd1 (S' := x.1) (v := x.2) (y := (a : Int)) H hx (fun r hr => ⟨by rw [ck_ev_k], h2 r hr⟩)
        rw [Int.toNat_natCast] at h4 h5 h6
        have h7 := ck_dv_f h4 hk1
        have h8 : -2147483648 ≤ w.1 ∧ w.2 ≤ 2147483647 := by
          rcases hk2 with rfl | rfl
          · exact ck_sub_ok h7
          · have := ck_sub_ok (a := 0) (b := 1) h7
            omega
        have e1 : (Int32.ofInt (h q a)).toInt = h q a := Int32.toInt_ofInt_of_le (by omega) (by omega)
        refine ⟨(pc + len, lv, .int (Int32.ofInt (h q a)) :: su, h), ?_, ck_Sd_one ⟨rfl, H.2.1, ck_G_mono h6 (fun r hr => ⟨hr.1, hr.2.1, hr.2.2.1, ck_vr_i (e1.trans hr.2.2.2.2.symm), hr.2.2.2.1⟩)⟩⟩
        show (if pm_fk q b a = some 0 ∨ pm_fk q b a = some 4 then _ else none) = _
        rw [hk1]
        exact if_pos (hk2.imp (fun e => by rw [e]) (fun e => by rw [e]))
noncomputable def ck_o25 (S : ck_S) (pc len a b : Nat) (loc : ck_Lc) (stk : List ck_V) : Option (List ck_T) := ck_pR stk fun q u => match ck_fk3 q b a with
  | none => none
  | some k => bif Nat.beq k 1 then (match ck_rd S q ((a : Int), []) with
    | none => none
    | some x => some [(x.1, pc + len, loc, (1, x.2) :: u)]) else none
theorem ck_o25_ok (hs : ck_o25 S pc len a b loc stk = some L) (H : ck_H M h0 Φ (S, pc, loc, stk) pc lv st h) : ck_St M h0 Φ L (25, rr, len, z, a, b, c) pc lv st h := by
  obtain ⟨r0, hr0⟩ := ck_G_ex H.2.2
  obtain ⟨q, u, su, rfl, h1, h2⟩ := ck_pR_ok hs hr0.2.2.2
  cases hk : ck_fk3 q b a with
  | none => rw [hk] at h1; cases h1
  | some k =>
    rw [hk] at h1
    dsimp only at h1
    have hk1 := ck_fk3_ok hk
    cases hb : Nat.beq k 1 with
    | false => rw [hb] at h1; cases h1
    | true =>
      rw [hb] at h1
      dsimp only [cond_true] at h1
      have hk2 := Nat.eq_of_beq_eq_true hb
      subst hk2
      cases hx : ck_rd S q ((a : Int), []) with
      | none => rw [hx] at h1; cases h1
      | some x =>
        rw [hx] at h1
        cases h1
        obtain ⟨h3, ⟨w, h4, h5⟩, h6⟩ := ck_rd1 (S' := x.1) (v := x.2) (y := (a : Int)) H hx (fun r hr => ⟨by rw [ck_ev_k], h2 r hr⟩)
        rw [Int.toNat_natCast] at h4 h5 h6
        have h8 : -9223372036854775808 ≤ w.1 ∧ w.2 ≤ 9223372036854775807 := ck_sub_ok (a := ck_ll) (b := ck_lh) (ck_dv_f h4 hk1)
        have e1 : (Int64.ofInt (h q a)).toInt = h q a := Int64.toInt_ofInt_of_le (by omega) (by omega)
        exact ⟨(pc + len, lv, .long (Int64.ofInt (h q a)) :: su, h), if_pos hk1, ck_Sd_one ⟨rfl, H.2.1, ck_G_mono h6 (fun r hr => ⟨hr.1, hr.2.1, hr.2.2.1, ck_vr_l (e1.trans hr.2.2.2.2.symm), hr.2.2.2.1⟩)⟩⟩
noncomputable def ck_o26 (S : ck_S) (pc len a b : Nat) (loc : ck_Lc) (stk : List ck_V) : Option (List ck_T) := ck_pR stk fun q u => match ck_fk3 q b a with
  | none => none
  | some k => bif Nat.beq k 2 then (match ck_rd S q ((a : Int), []) with
    | none => none
    | some x => some [(x.1, pc + len, loc, (2, ck_nm x.1.2.1 x.2) :: u)]) else none
theorem ck_o26_ok (hs : ck_o26 S pc len a b loc stk = some L) (H : ck_H M h0 Φ (S, pc, loc, stk) pc lv st h) : ck_St M h0 Φ L (26, rr, len, z, a, b, c) pc lv st h := by
  obtain ⟨r0, hr0⟩ := ck_G_ex H.2.2
  obtain ⟨q, u, su, rfl, h1, h2⟩ := ck_pR_ok hs hr0.2.2.2
  cases hk : ck_fk3 q b a with
  | none => rw [hk] at h1; cases h1
  | some k =>
    rw [hk] at h1
    dsimp only at h1
    have hk1 := ck_fk3_ok hk
    cases hb : Nat.beq k 2 with
    | false => rw [hb] at h1; cases h1
    | true =>
      rw [hb] at h1
      dsimp only [cond_true] at h1
      have hk2 := Nat.eq_of_beq_eq_true hb
      subst hk2
      cases hx : ck_rd S q ((a : Int), []) with
      | none => rw [hx] at h1; cases h1
      | some x =>
        rw [hx] at h1
        cases h1
        obtain ⟨h3, ⟨w, h4, h5⟩, h6⟩ := ck_rd1 (S' := x.1) (v := x.2) (y := (a : Int)) H hx (fun r hr => ⟨by rw [ck_ev_k], h2 r hr⟩)
        rw [Int.toNat_natCast] at h4 h5 h6
        have h8 : 0 ≤ w.1 := ck_le_iff.mp (ck_dv_f h4 hk1)
        exact ⟨(pc + len, lv, .ref (h q a).toNat :: su, h), if_pos hk1, ck_Sd_one ⟨rfl, H.2.1, ck_G_mono h6 (fun r hr => ⟨hr.1, hr.2.1, hr.2.2.1, ck_vr_r (by rw [ck_nm_ok hr.2.1.1, hr.2.2.2.2]; omega), hr.2.2.2.1⟩)⟩⟩
/-- writing -/
theorem ck_wr_nn {S' : ck_S} {q : Nat} {idx v : ck_F} {r : ck_R} (hw : ck_wr M S q idx v = some S') (hs : ck_sat M h0 S h r) : 0 ≤ ck_ev r idx := by
  unfold ck_wr at hw
  cases hi : ck_ix (ck_N S) q (ck_nm S.2.1 idx) with
  | none => rw [hi] at hw; cases hw
  | some w =>
    have h1 := ck_ix_ok (ck_N_ok hs) hi
    rw [ck_nm_ok hs.1] at h1
    exact h1.1
theorem ck_wr1 {q : Nat} {S' : ck_S} {idx v : ck_F} {y x : Int} {u : List ck_V} {su : List Value} (H : ck_H M h0 Φ (S, pc, loc, stk) pc lv st h) (hw : ck_wr M S q idx v = some S') (h2 : ∀ r, ck_ss r stk st → y = ck_ev r idx ∧ x = ck_ev r v ∧ ck_ss r u su) : 0 ≤ y ∧ (∃ w, ck_dv q y.toNat = some w ∧ w.1 ≤ x ∧ x ≤ w.2) ∧ ∀ pc', ck_H M h0 Φ (S', pc', loc, u) pc' lv su (pm_up h q y.toNat x) := by
  obtain ⟨r0, hr0⟩ := ck_G_ex H.2.2
  have g0 := h2 r0 hr0.2.2.2
  have g1 := ck_wr_nn hw hr0.2.1
  rw [← g0.1] at g1
  have key : ∀ r, ck_sat M h0 S h r → ck_ss r stk st → _ := fun r hs hr => ck_wr_ok (z := y.toNat) (x := x) hw hs (by rw [← (h2 r hr).1]; omega) (h2 r hr).2.1.symm H.2.1
  have k0 := key r0 hr0.2.1 hr0.2.2.2
  refine ⟨g1, k0.2.2.2, fun pc' => ⟨rfl, k0.2.2.1, ?_⟩⟩
  show ck_G S'.1 _
  rw [k0.1]
  exact ck_G_mono H.2.2 (fun r hr => ⟨hr.1, (key r hr.2.1 hr.2.2.2).2.1, hr.2.2.1, (h2 r hr.2.2.2).2.2⟩)
theorem ck_b01 {x : Int32} (h1 : 0 ≤ x.toInt) (h2 : x.toInt ≤ 1) : x = 0 ∨ x = 1 := by
  rcases Int.lt_or_le 0 x.toInt with h | h
  · have e1 : x.toInt = 1 := by omega
    exact Or.inr (ck_of_int e1)
  · have e1 : x.toInt = 0 := by omega
    exact Or.inl (ck_of_int e1)
noncomputable def ck_o27 (M : ck_O) (S : ck_S) (pc len a b : Nat) (loc : ck_Lc) (stk : List ck_V) : Option (List ck_T) := ck_pI stk fun v t => ck_pR t fun q u => match ck_fk3 q b a with
  | none => none
  | some k => bif ck_k04 k then (match ck_wr M S q ((a : Int), []) v with
    | none => none
    | some S' => some [(S', pc + len, loc, u)]) else none
theorem ck_o27_ok (hs : ck_o27 M S pc len a b loc stk = some L) (H : ck_H M h0 Φ (S, pc, loc, stk) pc lv st h) : ck_St M h0 Φ L (27, rr, len, z, a, b, c) pc lv st h := by
  obtain ⟨r0, hr0⟩ := ck_G_ex H.2.2
  obtain ⟨fv, t, x, st', rfl, h1, h2⟩ := ck_pI_ok hs hr0.2.2.2
  obtain ⟨q, u, su, rfl, h3, h4⟩ := ck_pR_ok h1 (h2 r0 hr0.2.2.2).2
  cases hk : ck_fk3 q b a with
  | none => rw [hk] at h3; cases h3
  | some k =>
    rw [hk] at h3
    dsimp only at h3
    have hk1 := ck_fk3_ok hk
    cases hb : ck_k04 k with
    | false => rw [hb] at h3; cases h3
    | true =>
      rw [hb] at h3
      dsimp only [cond_true] at h3
      have hk2 := ck_k04_ok hb
      cases hw : ck_wr M S q ((a : Int), []) fv with
      | none => rw [hw] at h3; cases h3
      | some S' =>
        rw [hw] at h3
        cases h3
        obtain ⟨_, ⟨w, h5, h6⟩, h7⟩ := ck_wr1 (y := (a : Int)) (x := x.toInt) H hw (fun r hr => ⟨by rw [ck_ev_k], (h2 r hr).1, h4 r (h2 r hr).2⟩)
        rw [Int.toNat_natCast] at h5 h7
        refine ⟨(pc + len, lv, su, pm_up h q a x.toInt), ?_, ck_Sd_one (h7 _)⟩
        show (if pm_fk q b a = some 0 ∨ (pm_fk q b a = some 4 ∧ (x = 0 ∨ x = 1)) then _ else none) = _
        have h8 := ck_dv_f h5 hk1
        rw [hk1]
        refine if_pos ?_
        rcases hk2 with rfl | rfl
        · exact Or.inl rfl
        · have h9 := ck_sub_ok (a := 0) (b := 1) h8
          exact Or.inr ⟨rfl, ck_b01 (by omega) (by omega)⟩
noncomputable def ck_o28 (M : ck_O) (S : ck_S) (pc len a b : Nat) (loc : ck_Lc) (stk : List ck_V) : Option (List ck_T) := ck_pL stk fun v t => ck_pR t fun q u => match ck_fk3 q b a with
  | none => none
  | some k => bif Nat.beq k 1 then (match ck_wr M S q ((a : Int), []) v with
    | none => none
    | some S' => some [(S', pc + len, loc, u)]) else none
theorem ck_o28_ok (hs : ck_o28 M S pc len a b loc stk = some L) (H : ck_H M h0 Φ (S, pc, loc, stk) pc lv st h) : ck_St M h0 Φ L (28, rr, len, z, a, b, c) pc lv st h := by
  obtain ⟨r0, hr0⟩ := ck_G_ex H.2.2
  obtain ⟨fv, t, x, st', rfl, h1, h2⟩ := ck_pL_ok hs hr0.2.2.2
  obtain ⟨q, u, su, rfl, h3, h4⟩ := ck_pR_ok h1 (h2 r0 hr0.2.2.2).2
  cases hk : ck_fk3 q b a with
  | none => rw [hk] at h3; cases h3
  | some k =>
    rw [hk] at h3
    dsimp only at h3
    have hk1 := ck_fk3_ok hk
    cases hb : Nat.beq k 1 with
    | false => rw [hb] at h3; cases h3
    | true =>
      rw [hb] at h3
      dsimp only [cond_true] at h3
      have hk2 := Nat.eq_of_beq_eq_true hb
      subst hk2
      cases hw : ck_wr M S q ((a : Int), []) fv with
      | none => rw [hw] at h3; cases h3
      | some S' =>
        rw [hw] at h3
        cases h3
        obtain ⟨_, ⟨w, h5, h6⟩, h7⟩ := ck_wr1 (y := (a : Int)) (x := x.toInt) H hw (fun r hr => ⟨by rw [ck_ev_k], (h2 r hr).1, h4 r (h2 r hr).2⟩)
        rw [Int.toNat_natCast] at h5 h7
        exact ⟨(pc + len, lv, su, pm_up h q a x.toInt), if_pos hk1, ck_Sd_one (h7 _)⟩
noncomputable def ck_o29 (M : ck_O) (S : ck_S) (pc len a b : Nat) (loc : ck_Lc) (stk : List ck_V) : Option (List ck_T) := ck_pR stk fun x t => ck_pR t fun q u => match ck_fk3 q b a with
  | none => none
  | some k => bif Nat.beq k 2 then (match ck_wr M S q ((a : Int), []) ((x : Int), []) with
    | none => none
    | some S' => some [(S', pc + len, loc, u)]) else none
theorem ck_o29_ok (hs : ck_o29 M S pc len a b loc stk = some L) (H : ck_H M h0 Φ (S, pc, loc, stk) pc lv st h) : ck_St M h0 Φ L (29, rr, len, z, a, b, c) pc lv st h := by
  obtain ⟨r0, hr0⟩ := ck_G_ex H.2.2
  obtain ⟨x, t, st', rfl, h1, h2⟩ := ck_pR_ok hs hr0.2.2.2
  obtain ⟨q, u, su, rfl, h3, h4⟩ := ck_pR_ok h1 (h2 r0 hr0.2.2.2)
  cases hk : ck_fk3 q b a with
  | none => rw [hk] at h3; cases h3
  | some k =>
    rw [hk] at h3
    dsimp only at h3
    have hk1 := ck_fk3_ok hk
    cases hb : Nat.beq k 2 with
    | false => rw [hb] at h3; cases h3
    | true =>
      rw [hb] at h3
      dsimp only [cond_true] at h3
      have hk2 := Nat.eq_of_beq_eq_true hb
      subst hk2
      cases hw : ck_wr M S q ((a : Int), []) ((x : Int), []) with
      | none => rw [hw] at h3; cases h3
      | some S' =>
        rw [hw] at h3
        cases h3
        obtain ⟨_, ⟨w, h5, h6⟩, h7⟩ := ck_wr1 (y := (a : Int)) (x := (x : Int)) H hw (fun r hr => ⟨by rw [ck_ev_k], by rw [ck_ev_k], h4 r (h2 r hr)⟩)
        rw [Int.toNat_natCast] at h5 h7
        exact ⟨(pc + len, lv, su, pm_up h q a (x : Int)), if_pos hk1, ck_Sd_one (h7 _)⟩
def ck_o30 (S : ck_S) (pc len : Nat) (loc : ck_Lc) (stk : List ck_V) : Option (List ck_T) := some [(S, pc + len, loc, (2, (.ofNat 135, [])) :: stk)]
theorem ck_o30_ok (hs : ck_o30 S pc len loc stk = some L) (H : ck_H M h0 Φ (S, pc, loc, stk) pc lv st h) : ck_St M h0 Φ L (30, rr, len, z, a, b, c) pc lv st h := by
  cases hs
  exact ⟨_, rfl, ck_Sd_one ⟨rfl, H.2.1, ck_G_mono H.2.2 (fun r hr => ⟨hr.1, hr.2.1, hr.2.2.1, ck_vr_r (by rw [ck_ev_k]; rfl), hr.2.2.2⟩)⟩⟩
noncomputable def ck_o31 (S : ck_S) (pc len : Nat) (loc : ck_Lc) (stk : List ck_V) : Option (List ck_T) := ck_pR stk fun q u => match ck_ak3 q with
  | none => none
  | some g => bif (bif Nat.blt g.1 5 then Nat.blt g.2 2147483648 else false) then some [(S, pc + len, loc, (0, (.ofNat g.2, [])) :: u)] else none
theorem ck_blt {a b : Nat} (h : Nat.blt a b = true) : a < b := by
  simp only [Nat.blt_eq] at h
  exact h
theorem ck_o31_ok (hs : ck_o31 S pc len loc stk = some L) (H : ck_H M h0 Φ (S, pc, loc, stk) pc lv st h) : ck_St M h0 Φ L (31, rr, len, z, a, b, c) pc lv st h := by
  obtain ⟨r0, hr0⟩ := ck_G_ex H.2.2
  obtain ⟨q, u, su, rfl, h1, h2⟩ := ck_pR_ok hs hr0.2.2.2
  cases hk : ck_ak3 q with
  | none => rw [hk] at h1; cases h1
  | some g =>
    rw [hk] at h1
    dsimp only at h1
    cases hb : (bif Nat.blt g.1 5 then Nat.blt g.2 2147483648 else false) with
    | false => rw [hb] at h1; cases h1
    | true =>
      rw [hb] at h1
      cases h1
      obtain ⟨b1, b2⟩ := ck_and hb
      have e1 : (Int32.ofNat g.2).toInt = (g.2 : Int) := Int32.toInt_ofNat_of_lt (by have := ck_blt b2; omega)
      refine ⟨(pc + len, lv, .int (Int32.ofNat g.2) :: su, h), ?_, ck_Sd_one ⟨rfl, H.2.1, ck_G_mono H.2.2 (fun r hr => ⟨hr.1, hr.2.1, hr.2.2.1, ck_vr_i (by rw [ck_ev_k]; exact e1), h2 r hr.2.2.2⟩)⟩⟩
      show (pm_ak q).bind _ = _
      rw [ck_ak3_ok hk]
      exact if_pos (ck_blt b1)
/-- arrays -/
theorem ck_cl (i : Int32) : i.toNatClampNeg = i.toInt.toNat := rfl
theorem ck_ixs {α : Type} {i : Int32} {n : Nat} {k : Nat → Option α} (h1 : 0 ≤ i.toInt) (h2 : i.toInt.toNat < n) : pm_ix i n k = k i.toInt.toNat := by
  unfold pm_ix
  rw [if_pos ⟨h1, by omega⟩, ck_cl]
theorem ck_O_ok (j : Nat) : 0 ≤ pm_O.getD j 0 ∧ pm_O.getD j 0 ≤ 2 := by
  have h1 : ∀ v ∈ pm_O, (0 : Int) ≤ v ∧ v ≤ 2 := by decide
  rcases Nat.lt_or_ge j pm_O.length with q | q
  · rw [List.getD_eq_getElem?_getD, List.getElem?_eq_getElem q]
    exact h1 _ (List.getElem_mem q)
  · rw [List.getD_eq_getElem?_getD, List.getElem?_eq_none q]
    decide
noncomputable def ck_o32 (S : ck_S) (pc len : Nat) (loc : ck_Lc) (stk : List ck_V) : Option (List ck_T) := ck_pI stk fun i t => ck_pR t fun q u => match ck_ak3 q with
  | none => none
  | some g => bif Nat.beq g.1 1 then (match ck_rd S q i with
    | none => none
    | some x => some [(x.1, pc + len, loc, (0, x.2) :: u)]) else (bif (bif Nat.beq g.1 6 then ck_in2 (ck_N S) 0 17 i else false) then (match ck_cI (ck_nm S.2.1 i) with
    | some j => some [(S, pc + len, loc, (0, (pm_O.getD j 0, [])) :: u)]
    | none => some [((ck_pu S (false, (.ofNat 0, []), .ofNat 0, .ofNat 2)).1, pc + len, loc, (0, (ck_pu S (false, (.ofNat 0, []), .ofNat 0, .ofNat 2)).2) :: u)]) else none)
theorem ck_o32_ok (hs : ck_o32 S pc len loc stk = some L) (H : ck_H M h0 Φ (S, pc, loc, stk) pc lv st h) : ck_St M h0 Φ L (32, rr, len, z, a, b, c) pc lv st h := by
  obtain ⟨r0, hr0⟩ := ck_G_ex H.2.2
  obtain ⟨fi, t, i, st', rfl, h1, h2⟩ := ck_pI_ok hs hr0.2.2.2
  obtain ⟨q, u, su, rfl, h3, h4⟩ := ck_pR_ok h1 (h2 r0 hr0.2.2.2).2
  cases hk : ck_ak3 q with
  | none => rw [hk] at h3; cases h3
  | some g =>
    rw [hk] at h3
    dsimp only at h3
    have hk1 := ck_ak3_ok hk
    have st1 : ∀ nx, (if g.1 = 1 then pm_ix i g.2 fun j => some (pc + len, lv, Value.int (Int32.ofInt (h q j)) :: su, h) else if g.1 = 6 then pm_ix i 18 fun j => some (pc + len, lv, Value.int (Int32.ofInt (pm_O.getD j 0)) :: su, h) else none) = some nx → pm_stp (32, rr, len, z, a, b, c) pc lv (.int i :: .ref q :: su) h = some nx := by
      intro nx e
      show (pm_ak q).bind _ = _
      rw [hk1]
      exact e
    cases hb : Nat.beq g.1 1 with
    | true =>
      rw [hb] at h3
      dsimp only [cond_true] at h3
      have e1 := Nat.eq_of_beq_eq_true hb
      cases hx : ck_rd S q fi with
      | none => rw [hx] at h3; cases h3
      | some x =>
        rw [hx] at h3
        cases h3
        obtain ⟨h5, ⟨w, h6, h7⟩, h8⟩ := ck_rd1 (S' := x.1) (v := x.2) (y := i.toInt) H hx (fun r hr => ⟨(h2 r hr).1, h4 r (h2 r hr).2⟩)
        have h9 := ck_dv_a (g := g.1) (n := g.2) h6 hk1
        have h10 : -2147483648 ≤ w.1 ∧ w.2 ≤ 2147483647 := by
          rcases h9.2 with ⟨e, _⟩ | e
          · omega
          · rw [e1] at e
            exact ck_sub_ok (a := ck_lo) (b := ck_hi) e
        have e2 : (Int32.ofInt (h q i.toInt.toNat)).toInt = h q i.toInt.toNat := Int32.toInt_ofInt_of_le (by omega) (by omega)
        refine ⟨(pc + len, lv, .int (Int32.ofInt (h q i.toInt.toNat)) :: su, h), st1 _ ?_, ck_Sd_one ⟨rfl, H.2.1, ck_G_mono h8 (fun r hr => ⟨hr.1, hr.2.1, hr.2.2.1, ck_vr_i (e2.trans hr.2.2.2.2.symm), hr.2.2.2.1⟩)⟩⟩
        rw [if_pos e1, ck_ixs h5 h9.1]
    | false =>
      rw [hb] at h3
      dsimp only [cond_false] at h3
      cases hb2 : (bif Nat.beq g.1 6 then ck_in2 (ck_N S) 0 17 fi else false) with
      | false => rw [hb2] at h3; cases h3
      | true =>
        rw [hb2] at h3
        dsimp only [cond_true] at h3
        obtain ⟨b1, b2⟩ := ck_and hb2
        have e1 := Nat.eq_of_beq_eq_true b1
        have g1 := ck_in2_ok (ck_N_ok hr0.2.1) b2
        rw [← (h2 r0 hr0.2.2.2).1] at g1
        have hO := ck_O_ok i.toInt.toNat
        have e2 : (Int32.ofInt (pm_O.getD i.toInt.toNat 0)).toInt = pm_O.getD i.toInt.toNat 0 := Int32.toInt_ofInt_of_le (by omega) (by omega)
        have st2 : pm_stp (32, rr, len, z, a, b, c) pc lv (.int i :: .ref q :: su) h = some (pc + len, lv, Value.int (Int32.ofInt (pm_O.getD i.toInt.toNat 0)) :: su, h) := st1 _ (by
          rw [if_neg (by omega), if_pos e1, ck_ixs g1.1 (by omega)])
        cases hc : ck_cI (ck_nm S.2.1 fi) with
        | some j =>
          rw [hc] at h3
          cases h3
          refine ⟨_, st2, ck_Sd_one ⟨rfl, H.2.1, ck_G_mono H.2.2 (fun r hr => ⟨hr.1, hr.2.1, hr.2.2.1, ck_vr_i ?_, h4 r (h2 r hr.2.2.2).2⟩)⟩⟩
          have e3 := ck_cI_ok hc r
          rw [ck_nm_ok hr.2.1.1, ← (h2 r hr.2.2.2).1] at e3
          rw [ck_ev_k, e2, e3, Int.toNat_natCast]
        | none =>
          rw [hc] at h3
          cases h3
          exact ⟨_, st2, ck_Sd_one (ck_res (x := pm_O.getD i.toInt.toNat 0) H (fun r hr => h4 r (h2 r hr).2) (fun r hE hr => ck_rz_i hO.1 hO.2) (fun r f hf => ck_vr_i (e2.trans hf)))⟩
noncomputable def ck_o33 (S : ck_S) (pc len : Nat) (loc : ck_Lc) (stk : List ck_V) : Option (List ck_T) := ck_pI stk fun i t => ck_pR t fun q u => match ck_ak3 q with
  | none => none
  | some g => bif (bif Nat.beq g.1 2 then true else Nat.beq g.1 3) then (match ck_rd S q i with
    | none => none
    | some x => some [(x.1, pc + len, loc, (0, x.2) :: u)]) else none
theorem ck_o33_ok (hs : ck_o33 S pc len loc stk = some L) (H : ck_H M h0 Φ (S, pc, loc, stk) pc lv st h) : ck_St M h0 Φ L (33, rr, len, z, a, b, c) pc lv st h := by
  obtain ⟨r0, hr0⟩ := ck_G_ex H.2.2
  obtain ⟨fi, t, i, st', rfl, h1, h2⟩ := ck_pI_ok hs hr0.2.2.2
  obtain ⟨q, u, su, rfl, h3, h4⟩ := ck_pR_ok h1 (h2 r0 hr0.2.2.2).2
  cases hk : ck_ak3 q with
  | none => rw [hk] at h3; cases h3
  | some g =>
    rw [hk] at h3
    dsimp only at h3
    have hk1 := ck_ak3_ok hk
    cases hb : (bif Nat.beq g.1 2 then true else Nat.beq g.1 3) with
    | false => rw [hb] at h3; cases h3
    | true =>
      rw [hb] at h3
      dsimp only [cond_true] at h3
      have e1 : g.1 = 2 ∨ g.1 = 3 := (ck_or hb).imp Nat.eq_of_beq_eq_true Nat.eq_of_beq_eq_true
      cases hx : ck_rd S q fi with
      | none => rw [hx] at h3; cases h3
      | some x =>
        rw [hx] at h3
        cases h3
        obtain ⟨h5, ⟨w, h6, h7⟩, h8⟩ := ck_rd1 (S' := x.1) (v := x.2) (y := i.toInt) H hx (fun r hr => ⟨(h2 r hr).1, h4 r (h2 r hr).2⟩)
        have h9 := ck_dv_a (g := g.1) (n := g.2) h6 hk1
        have h10 : -128 ≤ w.1 ∧ w.2 ≤ 127 := by
          rcases h9.2 with ⟨e, _⟩ | e
          · omega
          · rcases e1 with e1 | e1
            · rw [e1] at e
              exact ck_sub_ok (a := -128) (b := 127) e
            · rw [e1] at e
              have := ck_sub_ok (a := 0) (b := 1) e
              omega
        have e2 : (Int32.ofInt (h q i.toInt.toNat)).toInt = h q i.toInt.toNat := Int32.toInt_ofInt_of_le (by omega) (by omega)
        refine ⟨(pc + len, lv, .int (Int32.ofInt (h q i.toInt.toNat)) :: su, h), ?_, ck_Sd_one ⟨rfl, H.2.1, ck_G_mono h8 (fun r hr => ⟨hr.1, hr.2.1, hr.2.2.1, ck_vr_i (e2.trans hr.2.2.2.2.symm), hr.2.2.2.1⟩)⟩⟩
        show (pm_ak q).bind _ = _
        rw [hk1]
        show (if g.1 = 2 ∨ g.1 = 3 then _ else none) = _
        rw [if_pos e1, ck_ixs h5 h9.1]
noncomputable def ck_o34 (S : ck_S) (pc len : Nat) (loc : ck_Lc) (stk : List ck_V) : Option (List ck_T) := ck_pI stk fun i t => ck_pR t fun q u => match ck_ak3 q with
  | none => none
  | some g => bif Nat.beq g.1 4 then (match ck_rd S q i with
    | none => none
    | some x => some [(x.1, pc + len, loc, (1, x.2) :: u)]) else none
theorem ck_o34_ok (hs : ck_o34 S pc len loc stk = some L) (H : ck_H M h0 Φ (S, pc, loc, stk) pc lv st h) : ck_St M h0 Φ L (34, rr, len, z, a, b, c) pc lv st h := by
  obtain ⟨r0, hr0⟩ := ck_G_ex H.2.2
  obtain ⟨fi, t, i, st', rfl, h1, h2⟩ := ck_pI_ok hs hr0.2.2.2
  obtain ⟨q, u, su, rfl, h3, h4⟩ := ck_pR_ok h1 (h2 r0 hr0.2.2.2).2
  cases hk : ck_ak3 q with
  | none => rw [hk] at h3; cases h3
  | some g =>
    rw [hk] at h3
    dsimp only at h3
    have hk1 := ck_ak3_ok hk
    cases hb : Nat.beq g.1 4 with
    | false => rw [hb] at h3; cases h3
    | true =>
      rw [hb] at h3
      dsimp only [cond_true] at h3
      have e1 := Nat.eq_of_beq_eq_true hb
      cases hx : ck_rd S q fi with
      | none => rw [hx] at h3; cases h3
      | some x =>
        rw [hx] at h3
        cases h3
        obtain ⟨h5, ⟨w, h6, h7⟩, h8⟩ := ck_rd1 (S' := x.1) (v := x.2) (y := i.toInt) H hx (fun r hr => ⟨(h2 r hr).1, h4 r (h2 r hr).2⟩)
        have h9 := ck_dv_a (g := g.1) (n := g.2) h6 hk1
        have h10 : -9223372036854775808 ≤ w.1 ∧ w.2 ≤ 9223372036854775807 := by
          rcases h9.2 with ⟨e, _⟩ | e
          · omega
          · rw [e1] at e
            exact ck_sub_ok (a := ck_ll) (b := ck_lh) e
        have e2 : (Int64.ofInt (h q i.toInt.toNat)).toInt = h q i.toInt.toNat := Int64.toInt_ofInt_of_le (by omega) (by omega)
        refine ⟨(pc + len, lv, .long (Int64.ofInt (h q i.toInt.toNat)) :: su, h), ?_, ck_Sd_one ⟨rfl, H.2.1, ck_G_mono h8 (fun r hr => ⟨hr.1, hr.2.1, hr.2.2.1, ck_vr_l (e2.trans hr.2.2.2.2.symm), hr.2.2.2.1⟩)⟩⟩
        show (pm_ak q).bind _ = _
        rw [hk1]
        show (if g.1 = 4 then _ else none) = _
        rw [if_pos e1, ck_ixs h5 h9.1]
noncomputable def ck_o35 (S : ck_S) (pc len : Nat) (loc : ck_Lc) (stk : List ck_V) : Option (List ck_T) := ck_pI stk fun i t => ck_pR t fun q u => match ck_ak3 q with
  | none => none
  | some g => bif Nat.beq g.1 5 then (match ck_rd S q i with
    | none => none
    | some x => some [(x.1, pc + len, loc, (2, x.2) :: u)]) else none
theorem ck_o35_ok (hs : ck_o35 S pc len loc stk = some L) (H : ck_H M h0 Φ (S, pc, loc, stk) pc lv st h) : ck_St M h0 Φ L (35, rr, len, z, a, b, c) pc lv st h := by
  obtain ⟨r0, hr0⟩ := ck_G_ex H.2.2
  obtain ⟨fi, t, i, st', rfl, h1, h2⟩ := ck_pI_ok hs hr0.2.2.2
  obtain ⟨q, u, su, rfl, h3, h4⟩ := ck_pR_ok h1 (h2 r0 hr0.2.2.2).2
  cases hk : ck_ak3 q with
  | none => rw [hk] at h3; cases h3
  | some g =>
    rw [hk] at h3
    dsimp only at h3
    have hk1 := ck_ak3_ok hk
    cases hb : Nat.beq g.1 5 with
    | false => rw [hb] at h3; cases h3
    | true =>
      rw [hb] at h3
      dsimp only [cond_true] at h3
      have e1 := Nat.eq_of_beq_eq_true hb
      cases hx : ck_rd S q fi with
      | none => rw [hx] at h3; cases h3
      | some x =>
        rw [hx] at h3
        cases h3
        obtain ⟨h5, ⟨w, h6, h7⟩, h8⟩ := ck_rd1 (S' := x.1) (v := x.2) (y := i.toInt) H hx (fun r hr => ⟨(h2 r hr).1, h4 r (h2 r hr).2⟩)
        have h9 := ck_dv_a (g := g.1) (n := g.2) h6 hk1
        have h10 : 0 ≤ w.1 := by
          rcases h9.2 with ⟨_, e⟩ | e
          · exact e
          · rw [e1] at e
            cases e
        refine ⟨(pc + len, lv, .ref (h q i.toInt.toNat).toNat :: su, h), ?_, ck_Sd_one ⟨rfl, H.2.1, ck_G_mono h8 (fun r hr => ⟨hr.1, hr.2.1, hr.2.2.1, ck_vr_r (by rw [hr.2.2.2.2]; omega), hr.2.2.2.1⟩)⟩⟩
        show (pm_ak q).bind _ = _
        rw [hk1]
        show (if g.1 = 5 then _ else none) = _
        rw [if_pos e1, ck_ixs h5 h9.1]
noncomputable def ck_o36 (M : ck_O) (S : ck_S) (pc len : Nat) (loc : ck_Lc) (stk : List ck_V) : Option (List ck_T) := ck_pI stk fun v s => ck_pI s fun i t => ck_pR t fun q u => match ck_ak3 q with
  | none => none
  | some g => bif Nat.beq g.1 1 then (match ck_wr M S q i v with
    | none => none
    | some S' => some [(S', pc + len, loc, u)]) else none
theorem ck_o36_ok (hs : ck_o36 M S pc len loc stk = some L) (H : ck_H M h0 Φ (S, pc, loc, stk) pc lv st h) : ck_St M h0 Φ L (36, rr, len, z, a, b, c) pc lv st h := by
  obtain ⟨r0, hr0⟩ := ck_G_ex H.2.2
  obtain ⟨fv, s, x, st', rfl, h1, h2⟩ := ck_pI_ok hs hr0.2.2.2
  obtain ⟨fi, t, i, st'', rfl, h3, h4⟩ := ck_pI_ok h1 (h2 r0 hr0.2.2.2).2
  obtain ⟨q, u, su, rfl, h5, h6⟩ := ck_pR_ok h3 (h4 r0 (h2 r0 hr0.2.2.2).2).2
  cases hk : ck_ak3 q with
  | none => rw [hk] at h5; cases h5
  | some g =>
    rw [hk] at h5
    dsimp only at h5
    have hk1 := ck_ak3_ok hk
    cases hb : Nat.beq g.1 1 with
    | false => rw [hb] at h5; cases h5
    | true =>
      rw [hb] at h5
      dsimp only [cond_true] at h5
      have e1 := Nat.eq_of_beq_eq_true hb
      cases hw : ck_wr M S q fi fv with
      | none => rw [hw] at h5; cases h5
      | some S' =>
        rw [hw] at h5
        cases h5
        obtain ⟨g1, ⟨w, g2, g3⟩, g4⟩ := ck_wr1 (y := i.toInt) (x := x.toInt) H hw (fun r hr => ⟨(h4 r (h2 r hr).2).1, (h2 r hr).1, h6 r (h4 r (h2 r hr).2).2⟩)
        have g5 := ck_dv_a (g := g.1) (n := g.2) g2 hk1
        refine ⟨(pc + len, lv, su, pm_up h q i.toInt.toNat x.toInt), ?_, ck_Sd_one (g4 _)⟩
        show (pm_ak q).bind _ = _
        rw [hk1]
        show (if g.1 = 1 then _ else none) = _
        rw [if_pos e1, ck_ixs g1 g5.1]
noncomputable def ck_o37 (M : ck_O) (S : ck_S) (pc len : Nat) (loc : ck_Lc) (stk : List ck_V) : Option (List ck_T) := ck_pI stk fun v s => ck_pI s fun i t => ck_pR t fun q u => match ck_ak3 q with
  | none => none
  | some g => bif (bif Nat.beq g.1 2 then true else Nat.beq g.1 3) then (match ck_wr M S q i v with
    | none => none
    | some S' => some [(S', pc + len, loc, u)]) else none
theorem ck_o37_ok (hs : ck_o37 M S pc len loc stk = some L) (H : ck_H M h0 Φ (S, pc, loc, stk) pc lv st h) : ck_St M h0 Φ L (37, rr, len, z, a, b, c) pc lv st h := by
  obtain ⟨r0, hr0⟩ := ck_G_ex H.2.2
  obtain ⟨fv, s, x, st', rfl, h1, h2⟩ := ck_pI_ok hs hr0.2.2.2
  obtain ⟨fi, t, i, st'', rfl, h3, h4⟩ := ck_pI_ok h1 (h2 r0 hr0.2.2.2).2
  obtain ⟨q, u, su, rfl, h5, h6⟩ := ck_pR_ok h3 (h4 r0 (h2 r0 hr0.2.2.2).2).2
  cases hk : ck_ak3 q with
  | none => rw [hk] at h5; cases h5
  | some g =>
    rw [hk] at h5
    dsimp only at h5
    have hk1 := ck_ak3_ok hk
    cases hb : (bif Nat.beq g.1 2 then true else Nat.beq g.1 3) with
    | false => rw [hb] at h5; cases h5
    | true =>
      rw [hb] at h5
      dsimp only [cond_true] at h5
      have e1 : g.1 = 2 ∨ g.1 = 3 := (ck_or hb).imp Nat.eq_of_beq_eq_true Nat.eq_of_beq_eq_true
      cases hw : ck_wr M S q fi fv with
      | none => rw [hw] at h5; cases h5
      | some S' =>
        rw [hw] at h5
        cases h5
        obtain ⟨g1, ⟨w, g2, g3⟩, g4⟩ := ck_wr1 (y := i.toInt) (x := x.toInt) H hw (fun r hr => ⟨(h4 r (h2 r hr).2).1, (h2 r hr).1, h6 r (h4 r (h2 r hr).2).2⟩)
        have g5 := ck_dv_a (g := g.1) (n := g.2) g2 hk1
        refine ⟨(pc + len, lv, su, pm_up h q i.toInt.toNat x.toInt), ?_, ck_Sd_one (g4 _)⟩
        show (pm_ak q).bind _ = _
        rw [hk1]
        show (if (g.1 = 2 ∧ -128 ≤ x.toInt ∧ x.toInt ≤ 127) ∨ (g.1 = 3 ∧ (x = 0 ∨ x = 1)) then _ else none) = _
        rw [if_pos ?_, ck_ixs g1 g5.1]
        rcases g5.2 with ⟨e, _⟩ | e
        · omega
        · rcases e1 with e1 | e1
          · rw [e1] at e
            have := ck_sub_ok (a := -128) (b := 127) e
            exact Or.inl ⟨e1, by omega, by omega⟩
          · rw [e1] at e
            have := ck_sub_ok (a := 0) (b := 1) e
            exact Or.inr ⟨e1, ck_b01 (by omega) (by omega)⟩
noncomputable def ck_o38 (M : ck_O) (S : ck_S) (pc len : Nat) (loc : ck_Lc) (stk : List ck_V) : Option (List ck_T) := ck_pL stk fun v s => ck_pI s fun i t => ck_pR t fun q u => match ck_ak3 q with
  | none => none
  | some g => bif Nat.beq g.1 4 then (match ck_wr M S q i v with
    | none => none
    | some S' => some [(S', pc + len, loc, u)]) else none
theorem ck_o38_ok (hs : ck_o38 M S pc len loc stk = some L) (H : ck_H M h0 Φ (S, pc, loc, stk) pc lv st h) : ck_St M h0 Φ L (38, rr, len, z, a, b, c) pc lv st h := by
  obtain ⟨r0, hr0⟩ := ck_G_ex H.2.2
  obtain ⟨fv, s, x, st', rfl, h1, h2⟩ := ck_pL_ok hs hr0.2.2.2
  obtain ⟨fi, t, i, st'', rfl, h3, h4⟩ := ck_pI_ok h1 (h2 r0 hr0.2.2.2).2
  obtain ⟨q, u, su, rfl, h5, h6⟩ := ck_pR_ok h3 (h4 r0 (h2 r0 hr0.2.2.2).2).2
  cases hk : ck_ak3 q with
  | none => rw [hk] at h5; cases h5
  | some g =>
    rw [hk] at h5
    dsimp only at h5
    have hk1 := ck_ak3_ok hk
    cases hb : Nat.beq g.1 4 with
    | false => rw [hb] at h5; cases h5
    | true =>
      rw [hb] at h5
      dsimp only [cond_true] at h5
      have e1 := Nat.eq_of_beq_eq_true hb
      cases hw : ck_wr M S q fi fv with
      | none => rw [hw] at h5; cases h5
      | some S' =>
        rw [hw] at h5
        cases h5
        obtain ⟨g1, ⟨w, g2, g3⟩, g4⟩ := ck_wr1 (y := i.toInt) (x := x.toInt) H hw (fun r hr => ⟨(h4 r (h2 r hr).2).1, (h2 r hr).1, h6 r (h4 r (h2 r hr).2).2⟩)
        have g5 := ck_dv_a (g := g.1) (n := g.2) g2 hk1
        refine ⟨(pc + len, lv, su, pm_up h q i.toInt.toNat x.toInt), ?_, ck_Sd_one (g4 _)⟩
        show (pm_ak q).bind _ = _
        rw [hk1]
        show (if g.1 = 4 then _ else none) = _
        rw [if_pos e1, ck_ixs g1 g5.1]
end
