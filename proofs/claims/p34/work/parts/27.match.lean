/-! The checker: names put in, patterns met. -/
def ck_sa (S : ck_S) (h : pm_Hp) (r : ck_R) : Prop := ck_es S.2.1 r ∧ ck_ks S.2.2.1 r ∧ ck_os h r S.2.2.2.1 ∧ ck_fts h r S.2.2.2.2
def ck_th (θ : List ck_F) (r r' : ck_R) : Prop := ∀ (i : Nat) (t : ck_F), θ[i]? = some t → r' i = ck_ev r t
noncomputable def ck_sl (θ : List ck_F) (l : ck_L) : Option ck_F := List.rec (motive := fun _ => Option ck_F) (some (.ofNat 0, [])) (fun p _ ih => match ih with
  | none => none
  | some g => match ck_nth θ p.1 with
    | none => none
    | some t => some (ck_fa (ck_fk p.2 t) g)) l
noncomputable def ck_sb (θ : List ck_F) (f : ck_F) : Option ck_F := match ck_sl θ f.2 with
  | none => none
  | some g => some (g.1 + f.1, g.2)
theorem ck_sl_ok {θ : List ck_F} {r r' : ck_R} (ht : ck_th θ r r') : ∀ {l : ck_L} {g : ck_F}, ck_sl θ l = some g → ck_lv r' l = ck_ev r g
  | [], g, h => by
    have e1 : (Int.ofNat 0, []) = g := Option.some.inj h
    subst e1
    exact (ck_ev_k r 0).symm
  | p :: t, g, h => by
    have h0 : (match ck_sl θ t with
      | none => none
      | some g => match ck_nth θ p.1 with
        | none => none
        | some t => some (ck_fa (ck_fk p.2 t) g)) = some g := h
    cases h1 : ck_sl θ t with
    | none => rw [h1] at h0; cases h0
    | some g1 =>
      rw [h1] at h0
      dsimp only at h0
      cases h2 : ck_nth θ p.1 with
      | none => rw [h2] at h0; cases h0
      | some q =>
        rw [h2] at h0
        cases h0
        rw [ck_nth_ok] at h2
        rw [ck_lv_cons, ck_ev_fa, ck_ev_fk, ck_sl_ok ht h1, ht p.1 q h2]
theorem ck_sb_ok {θ : List ck_F} {r r' : ck_R} {f g : ck_F} (ht : ck_th θ r r') (h : ck_sb θ f = some g) : ck_ev r' f = ck_ev r g := by
  unfold ck_sb at h
  cases h1 : ck_sl θ f.2 with
  | none => rw [h1] at h; cases h
  | some g1 =>
    rw [h1] at h
    cases h
    have h2 := ck_sl_ok ht h1
    show f.1 + ck_lv r' f.2 = g1.1 + f.1 + ck_lv r g1.2
    have h3 : ck_ev r g1 = g1.1 + ck_lv r g1.2 := rfl
    omega
/-- intervals -/
noncomputable def ck_m1 (N : ck_F → Bool) (θ : List ck_F) (E : ck_E) : Bool := List.rec (motive := fun _ => Bool) true (fun p _ ih => match ck_nth θ p.1 with
  | none => false
  | some t => bif ck_in2 N p.2.1 p.2.2 t then ih else false) E
theorem ck_m1_ok {N : ck_F → Bool} {θ : List ck_F} {r r' : ck_R} (hN : ∀ f, N f = true → ck_ev r f ≤ 0) (ht : ck_th θ r r') : ∀ {E : ck_E}, ck_m1 N θ E = true → ck_es E r'
  | [], _ => fun _ h => absurd h List.not_mem_nil
  | p :: t, h => by
    have h0 : (match ck_nth θ p.1 with
      | none => false
      | some t' => bif ck_in2 N p.2.1 p.2.2 t' then ck_m1 N θ t else false) = true := h
    cases h1 : ck_nth θ p.1 with
    | none => rw [h1] at h0; cases h0
    | some q =>
      rw [h1] at h0
      obtain ⟨h2, h3⟩ := ck_and h0
      rw [ck_nth_ok] at h1
      refine ck_es_cons ?_ (ck_m1_ok hN ht h3)
      rw [ht p.1 q h1]
      exact ck_in2_ok hN h2
/-- constraints -/
noncomputable def ck_m2k (N : ck_F → Bool) (θ : List ck_F) (K : ck_K) : Bool := List.rec (motive := fun _ => Bool) true (fun k _ ih => match ck_sl θ k.1 with
  | none => false
  | some t => bif ck_in2 N k.2.1 k.2.2 t then ih else false) K
theorem ck_m2k_ok {N : ck_F → Bool} {θ : List ck_F} {r r' : ck_R} (hN : ∀ f, N f = true → ck_ev r f ≤ 0) (ht : ck_th θ r r') : ∀ {K : ck_K}, ck_m2k N θ K = true → ck_ks K r'
  | [], _ => fun _ h => absurd h List.not_mem_nil
  | k :: t, h => by
    have h0 : (match ck_sl θ k.1 with
      | none => false
      | some t' => bif ck_in2 N k.2.1 k.2.2 t' then ck_m2k N θ t else false) = true := h
    cases h1 : ck_sl θ k.1 with
    | none => rw [h1] at h0; cases h0
    | some q =>
      rw [h1] at h0
      obtain ⟨h2, h3⟩ := ck_and h0
      refine ck_ks_cons ?_ (ck_m2k_ok hN ht h3)
      rw [ck_sl_ok ht h1]
      exact ck_in2_ok hN h2
/-- the heap -/
theorem ck_of_nn {E : ck_E} {K : ck_K} {c : Nat} {i v : ck_F} {h : pm_Hp} {r : ck_R} (hE : ck_es E r) (hK : ck_ks K r) : ∀ {O : ck_O}, ck_os h r O → ck_of E K c i O = some v → 0 ≤ ck_ev r i
  | [], _, h1 => by cases h1
  | o :: t, hO, h1 => by
    have ht : ck_os h r t := fun q hq => hO q (List.mem_cons_of_mem _ hq)
    have ho := hO o (List.mem_cons_self ..)
    have h2 : (bif Nat.beq o.1 c then (bif ck_eq0 E K (ck_fs o.2.1 i) then some o.2.2 else ck_of E K c i t) else ck_of E K c i t) = some v := h1
    cases hb : Nat.beq o.1 c with
    | false => rw [hb] at h2; exact ck_of_nn hE hK ht h2
    | true =>
      rw [hb] at h2
      cases hz : ck_eq0 E K (ck_fs o.2.1 i) with
      | false => rw [hz] at h2; exact ck_of_nn hE hK ht h2
      | true =>
        have e2 := ck_eq0_ok hE hK hz
        rw [ck_ev_fs] at e2
        omega
noncomputable def ck_m3 (S : ck_S) (θ : List ck_F) (O : ck_O) : Bool := List.rec (motive := fun _ => Bool) true (fun o _ ih => match ck_sb θ o.2.1 with
  | none => false
  | some f => match ck_sb θ o.2.2 with
    | none => false
    | some v => match ck_of S.2.1 S.2.2.1 o.1 f S.2.2.2.1 with
      | none => false
      | some w => bif ck_eq0 S.2.1 S.2.2.1 (ck_fs w v) then ih else false) O
theorem ck_m3_ok {S : ck_S} {θ : List ck_F} {h : pm_Hp} {r r' : ck_R} (hs : ck_sa S h r) (ht : ck_th θ r r') : ∀ {O : ck_O}, ck_m3 S θ O = true → ck_os h r' O
  | [], _ => fun _ h => absurd h List.not_mem_nil
  | o :: t, h1 => by
    have h0 : (match ck_sb θ o.2.1 with
      | none => false
      | some f => match ck_sb θ o.2.2 with
        | none => false
        | some v => match ck_of S.2.1 S.2.2.1 o.1 f S.2.2.2.1 with
          | none => false
          | some w => bif ck_eq0 S.2.1 S.2.2.1 (ck_fs w v) then ck_m3 S θ t else false) = true := h1
    cases h2 : ck_sb θ o.2.1 with
    | none => rw [h2] at h0; cases h0
    | some f =>
      rw [h2] at h0
      dsimp only at h0
      cases h3 : ck_sb θ o.2.2 with
      | none => rw [h3] at h0; cases h0
      | some v =>
        rw [h3] at h0
        dsimp only at h0
        cases h4 : ck_of S.2.1 S.2.2.1 o.1 f S.2.2.2.1 with
        | none => rw [h4] at h0; cases h0
        | some w =>
          rw [h4] at h0
          obtain ⟨h5, h6⟩ := ck_and h0
          have e1 := ck_sb_ok ht h2
          have e2 := ck_sb_ok ht h3
          have e3 := ck_of_ok hs.1 hs.2.1 hs.2.2.1 h4
          have e4 := ck_of_nn hs.1 hs.2.1 hs.2.2.1 h4
          have e5 := ck_eq0_ok hs.1 hs.2.1 h5
          rw [ck_ev_fs] at e5
          intro q hq
          rcases List.mem_cons.mp hq with rfl | hq
          · rw [e1, e2, e3]
            exact ⟨e4, by omega⟩
          · exact ck_m3_ok hs ht h6 q hq
/-- facts -/
noncomputable def ck_f1 (N : ck_F → Bool) (k : Nat) (a b : ck_F) (A : ck_O) : Bool := List.rec (motive := fun _ => Bool) false (fun q _ ih => bif Nat.beq q.1 k then (bif (bif N (ck_fs q.2.1 a) then N (ck_fs b q.2.2) else false) then true else ih) else ih) A
theorem ck_f1_ok {N : ck_F → Bool} {k : Nat} {a b : ck_F} {h : pm_Hp} {r : ck_R} (hN : ∀ f, N f = true → ck_ev r f ≤ 0) : ∀ {A : ck_O}, ck_fts h r A → ck_f1 N k a b A = true → ck_ft h k (ck_ev r a) (ck_ev r b)
  | [], _, h1 => by cases h1
  | q :: t, hA, h1 => by
    have ht : ck_fts h r t := fun p hp => hA p (List.mem_cons_of_mem _ hp)
    have hq := hA q (List.mem_cons_self ..)
    have h2 : (bif Nat.beq q.1 k then (bif (bif N (ck_fs q.2.1 a) then N (ck_fs b q.2.2) else false) then true else ck_f1 N k a b t) else ck_f1 N k a b t) = true := h1
    cases hb : Nat.beq q.1 k with
    | false => rw [hb] at h2; exact ck_f1_ok hN ht h2
    | true =>
      rw [hb] at h2
      rcases ck_or h2 with h3 | h3
      · obtain ⟨h4, h5⟩ := ck_and h3
        have g1 := hN _ h4
        have g2 := hN _ h5
        rw [ck_ev_fs] at g1 g2
        rw [← Nat.eq_of_beq_eq_true hb]
        exact ck_ft0_mono (by omega) (by omega) hq
      · exact ck_f1_ok hN ht h3
/-- an empty fact -/
noncomputable def ck_f0 (N : ck_F → Bool) (k : Nat) (a b : ck_F) : Bool := match ck_kd k with
  | (t, _) => match t with
    | 1 => N (ck_fs b a)
    | 2 => bif N (ck_fs b a) then true else N (ck_fs b (.ofNat 1, []))
    | 3 => N (ck_fs b a)
    | _ => false
theorem ck_f0_ok {N : ck_F → Bool} {k : Nat} {a b : ck_F} {h : pm_Hp} {r : ck_R} (hN : ∀ f, N f = true → ck_ev r f ≤ 0) (h1 : ck_f0 N k a b = true) : ck_ft h k (ck_ev r a) (ck_ev r b) := by
  unfold ck_f0 at h1
  unfold ck_ft
  generalize ck_kd k = d at h1
  obtain ⟨t, A, sa, B, sb, th, lo, hi⟩ := d
  match t, h1 with
  | 0, h1 => cases h1
  | 1, h1 =>
    have g1 := hN _ h1
    rw [ck_ev_fs] at g1
    exact fun j g2 g3 => by omega
  | 2, h1 =>
    rcases ck_or h1 with h2 | h2
    · have g1 := hN _ h2
      rw [ck_ev_fs] at g1
      exact fun j g2 g3 => by omega
    · have g1 := hN _ h2
      rw [ck_ev_fs, ck_ev_k] at g1
      have g1' : ck_ev r b - 1 ≤ 0 := g1
      exact fun j g2 g3 g4 => by omega
  | 3, h1 =>
    have g1 := hN _ h1
    rw [ck_ev_fs] at g1
    exact fun j g2 g3 => by omega
  | _ + 4, h1 => cases h1
noncomputable def ck_m4 (N : ck_F → Bool) (θ : List ck_F) (A B : ck_O) : Bool := List.rec (motive := fun _ => Bool) true (fun q _ ih => match ck_sb θ q.2.1 with
  | none => false
  | some a => match ck_sb θ q.2.2 with
    | none => false
    | some b => bif (bif ck_f1 N q.1 a b A then true else ck_f0 N q.1 a b) then ih else false) B
theorem ck_m4_ok {N : ck_F → Bool} {θ : List ck_F} {A : ck_O} {h : pm_Hp} {r r' : ck_R} (hN : ∀ f, N f = true → ck_ev r f ≤ 0) (hA : ck_fts h r A) (ht : ck_th θ r r') : ∀ {B : ck_O}, ck_m4 N θ A B = true → ck_fts h r' B
  | [], _ => fun _ h => absurd h List.not_mem_nil
  | q :: t, h1 => by
    have h0 : (match ck_sb θ q.2.1 with
      | none => false
      | some a => match ck_sb θ q.2.2 with
        | none => false
        | some b => bif (bif ck_f1 N q.1 a b A then true else ck_f0 N q.1 a b) then ck_m4 N θ A t else false) = true := h1
    cases h2 : ck_sb θ q.2.1 with
    | none => rw [h2] at h0; cases h0
    | some a =>
      rw [h2] at h0
      dsimp only at h0
      cases h3 : ck_sb θ q.2.2 with
      | none => rw [h3] at h0; cases h0
      | some b =>
        rw [h3] at h0
        obtain ⟨h4, h5⟩ := ck_and h0
        intro p hp
        rcases List.mem_cons.mp hp with rfl | hp
        · rw [ck_sb_ok ht h2, ck_sb_ok ht h3]
          rcases ck_or h4 with h6 | h6
          · exact ck_f1_ok hN hA h6
          · exact ck_f0_ok hN h6
        · exact ck_m4_ok hN hA ht h5 p hp
noncomputable def ck_ms (S P : ck_S) (θ : List ck_F) : Bool := bif ck_m1 (ck_N S) θ P.2.1 then (bif ck_m2k (ck_N S) θ P.2.2.1 then (bif ck_m3 S θ P.2.2.2.1 then ck_m4 (ck_N S) θ S.2.2.2.2 P.2.2.2.2 else false) else false) else false
theorem ck_ms_ok {S P : ck_S} {θ : List ck_F} {h : pm_Hp} {r r' : ck_R} (hm : ck_ms S P θ = true) (hs : ck_sa S h r) (ht : ck_th θ r r') : ck_sa P h r' := by
  obtain ⟨h1, h2⟩ := ck_and hm
  obtain ⟨h3, h4⟩ := ck_and h2
  obtain ⟨h5, h6⟩ := ck_and h4
  have hN : ∀ f, ck_N S f = true → ck_ev r f ≤ 0 := fun _ q => ck_np_ok hs.1 hs.2.1 q
  exact ⟨ck_m1_ok hN ht h1, ck_m2k_ok hN ht h3, ck_m3_ok hs ht h5, ck_m4_ok hN hs.2.2.2 ht h6⟩
/-- values -/
noncomputable def ck_mv (S : ck_S) (θ : List ck_F) (a b : ck_V) : Bool := bif Nat.beq a.1 b.1 then (match ck_sb θ a.2 with
  | none => false
  | some f => ck_eq0 S.2.1 S.2.2.1 (ck_fs b.2 f)) else false
theorem ck_mv_ok {S : ck_S} {θ : List ck_F} {a b : ck_V} {h : pm_Hp} {r r' : ck_R} {v : Value} (hm : ck_mv S θ a b = true) (hs : ck_sa S h r) (ht : ck_th θ r r') (hv : ck_vr r b v) : ck_vr r' a v := by
  obtain ⟨h1, h2⟩ := ck_and hm
  have e1 := Nat.eq_of_beq_eq_true h1
  cases h3 : ck_sb θ a.2 with
  | none => rw [h3] at h2; cases h2
  | some f =>
    rw [h3] at h2
    have e2 := ck_sb_ok ht h3
    have e3 := ck_eq0_ok hs.1 hs.2.1 h2
    rw [ck_ev_fs] at e3
    have e4 : ck_ev r' a.2 = ck_ev r b.2 := by omega
    obtain ⟨ta, fa⟩ := a
    obtain ⟨tb, fb⟩ := b
    have e5 : ta = tb := e1
    subst e5
    have e6 : ck_ev r' fa = ck_ev r fb := e4
    match ta, hv with
    | 0, hv => obtain ⟨x, e7, e8⟩ := hv; exact ⟨x, e7, by rw [e6]; exact e8⟩
    | 1, hv => obtain ⟨x, e7, e8⟩ := hv; exact ⟨x, e7, by rw [e6]; exact e8⟩
    | 2, hv => obtain ⟨x, e7, e8⟩ := hv; exact ⟨x, e7, by rw [e6]; exact e8⟩
    | _ + 3, hv => exact hv.elim
noncomputable def ck_m5 (S : ck_S) (θ : List ck_F) (P : List ck_V) : List ck_V → Bool := List.rec (motive := fun _ => List ck_V → Bool) (fun s => match s with
  | [] => true
  | _ :: _ => false) (fun a _ ih s => match s with
  | [] => false
  | b :: t => bif ck_mv S θ a b then ih t else false) P
theorem ck_m5_ok {S : ck_S} {θ : List ck_F} {h : pm_Hp} {r r' : ck_R} (hs : ck_sa S h r) (ht : ck_th θ r r') : ∀ {P s : List ck_V} {st : List Value}, ck_m5 S θ P s = true → ck_ss r s st → ck_ss r' P st
  | [], [], [], _, _ => trivial
  | [], [], _ :: _, _, h2 => h2.elim
  | [], _ :: _, _, h1, _ => by cases h1
  | _ :: _, [], _, h1, _ => by cases h1
  | _ :: _, _ :: _, [], _, h2 => h2.elim
  | a :: P, b :: s, v :: st, h1, h2 => by
    have h3 : (bif ck_mv S θ a b then ck_m5 S θ P s else false) = true := h1
    obtain ⟨h4, h5⟩ := ck_and h3
    exact ⟨ck_mv_ok h4 hs ht h2.1, ck_m5_ok hs ht h5 h2.2⟩
noncomputable def ck_m6 (S : ck_S) (θ : List ck_F) (loc : ck_Lc) (P : ck_Lc) : Bool := List.rec (motive := fun _ => Bool) true (fun p _ ih => match ck_lg loc p.1 with
  | none => false
  | some b => bif ck_mv S θ p.2 b then ih else false) P
theorem ck_m6_ok {S : ck_S} {θ : List ck_F} {loc : ck_Lc} {h : pm_Hp} {r r' : ck_R} {lv : pm_Lv} (hs : ck_sa S h r) (ht : ck_th θ r r') (hl : ck_ls r loc lv) : ∀ {P : ck_Lc}, ck_m6 S θ loc P = true → ck_ls r' P lv
  | [], _ => fun _ h => absurd h List.not_mem_nil
  | p :: t, h1 => by
    have h0 : (match ck_lg loc p.1 with
      | none => false
      | some b => bif ck_mv S θ p.2 b then ck_m6 S θ loc t else false) = true := h1
    cases h2 : ck_lg loc p.1 with
    | none => rw [h2] at h0; cases h0
    | some b =>
      rw [h2] at h0
      obtain ⟨h3, h4⟩ := ck_and h0
      intro q hq
      rcases List.mem_cons.mp hq with rfl | hq
      · obtain ⟨v, h5, h6⟩ := ck_lg_ok h2 hl
        exact ⟨v, h5, ck_mv_ok h3 hs ht h6⟩
      · exact ck_m6_ok hs ht hl h4 q hq
