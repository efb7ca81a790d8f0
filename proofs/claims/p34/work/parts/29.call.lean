/-! The checker: contracts and their use. -/
abbrev ck_Po : Type := ck_S × List ck_V
abbrev ck_Co : Type := Nat × Nat × ck_S × List ck_V × List ck_Po × ck_O
def ck_agr (n : Nat) (r r' : ck_R) : Prop := ∀ i, i < n → r' i = r i
def ck_QC (C : ck_Co) (r : ck_R) (h : pm_Hp) : pm_Q := fun rv h' => ck_dec h' ∧ ∃ p ∈ C.2.2.2.2.1, ∃ r1 : ck_R, ck_agr C.2.2.1.1 r r1 ∧ ∀ r', ck_agr p.1.1 r1 r' → ck_sa p.1 h' r' ∧ ck_ss r' p.2 rv.toList ∧ ck_ow h h' r' C.2.2.2.2.2
/-- the contract holds -/
def ck_CO (C : ck_Co) : Prop := ∀ (r : ck_R) (as : List Value) (h : pm_Hp), ck_dec h → (∀ r', ck_agr C.2.2.1.1 r r' → ck_sa C.2.2.1 h r' ∧ ck_ss r' C.2.2.2.1 as) → pm_Cd C.2.1 C.1 as h (ck_QC C r h)
/-! deeper contracts hold too -/
theorem pm_Fs_C {C C' : pm_C} (hC : ∀ k as h Q, C k as h Q → C' k as h Q) {k : Nat} {Q : pm_Q} {X : pm_X} {pc : Nat} {lv : pm_Lv} {st : List Value} {h : pm_Hp} (H : pm_Fs C k Q X pc lv st h) : pm_Fs C' k Q X pc lv st h := by
  obtain ⟨i, h1, h2⟩ := H
  refine ⟨i, h1, ?_⟩
  unfold pm_Fi at h2 ⊢
  by_cases c1 : i.1 = 43
  · rw [if_pos c1] at h2 ⊢
    obtain ⟨me, q, As, rest, ks, g1, g2, g3, g4, g5, g6⟩ := h2
    exact ⟨me, q, As, rest, ks, g1, g2, g3, g4, g5, hC _ _ _ _ g6⟩
  · rw [if_neg c1] at h2 ⊢
    by_cases c2 : i.1 = 44
    · rw [if_pos c2] at h2 ⊢
      obtain ⟨me, As, rest, g1, g2, g3, g4, g5⟩ := h2
      exact ⟨me, As, rest, g1, g2, g3, g4, hC _ _ _ _ g5⟩
    · rw [if_neg c2] at h2 ⊢
      exact h2
theorem pm_run_C {C C' : pm_C} (hC : ∀ k as h Q, C k as h Q → C' k as h Q) {k : Nat} {Q : pm_Q} {pc : Nat} {lv : pm_Lv} {st : List Value} {h : pm_Hp} (H : pm_run C k Q pc lv st h) : pm_run C' k Q pc lv st h := fun X hX => H X (fun pc lv st h q => hX pc lv st h (pm_Fs_C hC q))
theorem pm_Cd_up : ∀ (d k : Nat) (as : List Value) (h : pm_Hp) (Q : pm_Q), pm_Cd d k as h Q → pm_Cd (d + 1) k as h Q
  | 0, _, _, _, _, H => H.elim
  | d + 1, _, _, _, _, H => ⟨H.1, pm_run_C (pm_Cd_up d) H.2⟩
theorem pm_Cd_le {d d' k : Nat} {as : List Value} {h : pm_Hp} {Q : pm_Q} (hd : d ≤ d') (H : pm_Cd d k as h Q) : pm_Cd d' k as h Q := by
  obtain ⟨n, rfl⟩ := Nat.le.dest hd
  induction n with
  | zero => exact H
  | succ n ih => exact pm_Cd_up _ _ _ _ _ (ih (by omega))
/-- names that are well formed, a list of them -/
noncomputable def ck_wfs (n : Nat) (θ : List ck_F) : Bool := List.rec (motive := fun _ => Bool) true (fun t _ ih => bif ck_wl n t.2 then ih else false) θ
theorem ck_wfs_ok {n : Nat} : ∀ {θ : List ck_F}, ck_wfs n θ = true → ∀ t ∈ θ, ck_wl n t.2 = true
  | [], _ => fun _ h => absurd h List.not_mem_nil
  | t :: u, h => by
    have h0 : (bif ck_wl n t.2 then ck_wfs n u else false) = true := h
    obtain ⟨h1, h2⟩ := ck_and h0
    intro q hq
    rcases List.mem_cons.mp hq with rfl | hq
    · exact h1
    · exact ck_wfs_ok h2 q hq
noncomputable def ck_len (θ : List ck_F) : Nat := List.rec (motive := fun _ => Nat) 0 (fun _ _ ih => ih + 1) θ
theorem ck_len_ok : ∀ (θ : List ck_F), ck_len θ = θ.length
  | [] => rfl
  | _ :: u => by
    show ck_len u + 1 = u.length + 1
    rw [ck_len_ok u]
noncomputable def ck_nv (m : Nat) : Nat → List ck_F := Nat.rec (motive := fun _ => Nat → List ck_F) (fun _ => []) (fun _ ih n => (.ofNat 0, [(n, .ofNat 1)]) :: ih (n + 1)) m
theorem ck_nv_at : ∀ {m n j : Nat} {t : ck_F}, (ck_nv m n)[j]? = some t → j < m ∧ t = (0, [(n + j, 1)])
  | 0, _, _, _, h => by
    have h1 : ([] : List ck_F)[_]? = some _ := h
    simp at h1
  | m + 1, n, 0, t, h => by
    have h1 : ((Int.ofNat 0, [(n, Int.ofNat 1)]) :: ck_nv m (n + 1) : List ck_F)[0]? = some t := h
    have h2 : (Int.ofNat 0, [(n, Int.ofNat 1)]) = t := by simpa using h1
    exact ⟨by omega, h2.symm⟩
  | m + 1, n, j + 1, t, h => by
    have h1 : ((Int.ofNat 0, [(n, Int.ofNat 1)]) :: ck_nv m (n + 1) : List ck_F)[j + 1]? = some t := h
    rw [List.getElem?_cons_succ] at h1
    obtain ⟨h2, h3⟩ := ck_nv_at h1
    refine ⟨by omega, ?_⟩
    rw [h3, show n + 1 + j = n + (j + 1) by omega]
theorem ck_nv_len : ∀ (m n : Nat), (ck_nv m n).length = m
  | 0, _ => rfl
  | m + 1, n => by
    show (ck_nv m (n + 1)).length + 1 = m + 1
    rw [ck_nv_len m (n + 1)]
/-- windows put in -/
noncomputable def ck_sw (θ : List ck_F) (M : ck_O) : Option ck_O := List.rec (motive := fun _ => Option ck_O) (some []) (fun w _ ih => match ih with
  | none => none
  | some l => match ck_sb θ w.2.1 with
    | none => none
    | some a => match ck_sb θ w.2.2 with
      | none => none
      | some b => some ((w.1, a, b) :: l)) M
theorem ck_sw_ok {θ : List ck_F} {r r' : ck_R} (ht : ck_th θ r r') : ∀ {M W : ck_O}, ck_sw θ M = some W → ∀ w ∈ M, ∃ w' ∈ W, w'.1 = w.1 ∧ ck_ev r w'.2.1 = ck_ev r' w.2.1 ∧ ck_ev r w'.2.2 = ck_ev r' w.2.2
  | [], _, _ => fun _ h => absurd h List.not_mem_nil
  | w :: t, W, h => by
    have h0 : (match ck_sw θ t with
      | none => none
      | some l => match ck_sb θ w.2.1 with
        | none => none
        | some a => match ck_sb θ w.2.2 with
          | none => none
          | some b => some ((w.1, a, b) :: l)) = some W := h
    cases h1 : ck_sw θ t with
    | none => rw [h1] at h0; cases h0
    | some l =>
      rw [h1] at h0
      dsimp only at h0
      cases h2 : ck_sb θ w.2.1 with
      | none => rw [h2] at h0; cases h0
      | some a =>
        rw [h2] at h0
        dsimp only at h0
        cases h3 : ck_sb θ w.2.2 with
        | none => rw [h3] at h0; cases h0
        | some b =>
          rw [h3] at h0
          cases h0
          intro q hq
          rcases List.mem_cons.mp hq with rfl | hq
          · exact ⟨_, List.mem_cons_self .., rfl, (ck_sb_ok ht h2).symm, (ck_sb_ok ht h3).symm⟩
          · obtain ⟨w', g1, g2⟩ := ck_sw_ok ht h1 q hq
            exact ⟨w', List.mem_cons_of_mem _ g1, g2⟩
theorem ck_ow_sub {θ : List ck_F} {r r' : ck_R} {h h' : pm_Hp} {M W : ck_O} (ht : ck_th θ r r') (hs : ck_sw θ M = some W) (H : ck_ow h h' r' M) : ck_ow h h' r W := by
  intro c j
  rcases H c j with e | ⟨w, hw, e1, e2, e3⟩
  · exact Or.inl e
  · obtain ⟨w', g1, g2, g3, g4⟩ := ck_sw_ok ht hs w hw
    exact Or.inr ⟨w', g1, g2.trans e1, by omega, by omega⟩
noncomputable def ck_wm (N : ck_F → Bool) (M W : ck_O) : Bool := List.rec (motive := fun _ => Bool) true (fun w _ ih => bif ck_mw N w.1 w.2.1 w.2.2 M then ih else false) W
theorem ck_wm_ok {N : ck_F → Bool} {r : ck_R} {M : ck_O} (hN : ∀ f, N f = true → ck_ev r f ≤ 0) : ∀ {W : ck_O}, ck_wm N M W = true → ∀ w ∈ W, ∃ m ∈ M, m.1 = w.1 ∧ ck_ev r m.2.1 ≤ ck_ev r w.2.1 ∧ ck_ev r w.2.2 ≤ ck_ev r m.2.2
  | [], _ => fun _ h => absurd h List.not_mem_nil
  | w :: t, h => by
    have h0 : (bif ck_mw N w.1 w.2.1 w.2.2 M then ck_wm N M t else false) = true := h
    obtain ⟨h1, h2⟩ := ck_and h0
    intro q hq
    rcases List.mem_cons.mp hq with rfl | hq
    · exact ck_mw_ok hN h1
    · exact ck_wm_ok hN h2 q hq
theorem ck_ow_trans {r : ck_R} {h0 h h' : pm_Hp} {M W : ck_O} (H0 : ck_ow h0 h r M) (H1 : ck_ow h h' r W) (hW : ∀ w ∈ W, ∃ m ∈ M, m.1 = w.1 ∧ ck_ev r m.2.1 ≤ ck_ev r w.2.1 ∧ ck_ev r w.2.2 ≤ ck_ev r m.2.2) : ck_ow h0 h' r M := by
  intro c j
  rcases H1 c j with e | ⟨w, hw, e1, e2, e3⟩
  · rw [e]
    exact H0 c j
  · obtain ⟨m, g1, g2, g3, g4⟩ := hW w hw
    exact Or.inr ⟨m, g1, g2.trans e1, by omega, by omega⟩
/-- forms taken as at most 0, one after the other -/
noncomputable def ck_al (l : List ck_F) : ck_E × ck_K → Option (ck_E × ck_K) := List.rec (motive := fun _ => ck_E × ck_K → Option (ck_E × ck_K)) (fun x => some x) (fun f _ ih x => match ck_as x.1 x.2 f with
  | none => none
  | some y => ih y) l
theorem ck_al_ok {r : ck_R} : ∀ {l : List ck_F} {x : ck_E × ck_K}, ck_es x.1 r → ck_ks x.2 r → (∀ f ∈ l, ck_ev r f ≤ 0) → ∃ y, ck_al l x = some y ∧ ck_es y.1 r ∧ ck_ks y.2 r
  | [], x, h1, h2, _ => ⟨x, rfl, h1, h2⟩
  | f :: t, x, h1, h2, h3 => by
    obtain ⟨y, e1, g1, g2⟩ := ck_as_ok h1 h2 (h3 f (List.mem_cons_self ..))
    obtain ⟨w, e2, g3, g4⟩ := ck_al_ok (l := t) (x := y) g1 g2 (fun q hq => h3 q (List.mem_cons_of_mem _ hq))
    refine ⟨w, ?_, g3, g4⟩
    show (match ck_as x.1 x.2 f with
      | none => none
      | some y => ck_al t y) = some w
    rw [e1]
    exact e2
/-- the intervals of an end: of new names, of old ones -/
noncomputable def ck_pe1 (θ : List ck_F) (n0 n1 nn : Nat) (E : ck_E) : Option (ck_E × List ck_F) := List.rec (motive := fun _ => Option (ck_E × List ck_F)) (some ([], [])) (fun p _ ih => match ih with
  | none => none
  | some x => bif Nat.blt p.1 n0 then (match ck_nth θ p.1 with
    | none => none
    | some t => some (x.1, ck_fs (p.2.1, []) t :: ck_fs t (p.2.2, []) :: x.2)) else (bif Nat.blt p.1 n1 then some ((nn + (p.1 - n0), p.2.1, p.2.2) :: x.1, x.2) else none)) E
theorem ck_pe1_ok {θ : List ck_F} {n0 n1 nn : Nat} {r r' : ck_R} (ht : ck_th θ r r') (hn : ∀ i, n0 ≤ i → i < n1 → r (nn + (i - n0)) = r' i) : ∀ {E : ck_E} {x : ck_E × List ck_F}, ck_pe1 θ n0 n1 nn E = some x → ck_es E r' → ck_es x.1 r ∧ ∀ f ∈ x.2, ck_ev r f ≤ 0
  | [], x, h, _ => by
    have e1 : (([], []) : ck_E × List ck_F) = x := Option.some.inj h
    subst e1
    exact ⟨fun _ q => absurd q List.not_mem_nil, fun _ q => absurd q List.not_mem_nil⟩
  | p :: t, x, h, hE => by
    have h0 : (match ck_pe1 θ n0 n1 nn t with
      | none => none
      | some x => bif Nat.blt p.1 n0 then (match ck_nth θ p.1 with
        | none => none
        | some t => some (x.1, ck_fs (p.2.1, []) t :: ck_fs t (p.2.2, []) :: x.2)) else (bif Nat.blt p.1 n1 then some ((nn + (p.1 - n0), p.2.1, p.2.2) :: x.1, x.2) else none)) = some x := h
    cases h1 : ck_pe1 θ n0 n1 nn t with
    | none => rw [h1] at h0; cases h0
    | some y =>
      rw [h1] at h0
      dsimp only at h0
      obtain ⟨g1, g2⟩ := ck_pe1_ok ht hn h1 (fun q hq => hE q (List.mem_cons_of_mem _ hq))
      have hp := hE p (List.mem_cons_self ..)
      cases b1 : Nat.blt p.1 n0 with
      | true =>
        rw [b1] at h0
        dsimp only [cond_true] at h0
        cases h2 : ck_nth θ p.1 with
        | none => rw [h2] at h0; cases h0
        | some q =>
          rw [h2] at h0
          cases h0
          rw [ck_nth_ok] at h2
          rw [ht p.1 q h2] at hp
          refine ⟨g1, fun f hf => ?_⟩
          rcases List.mem_cons.mp hf with rfl | hf
          · rw [ck_ev_fs, ck_ev_k]
            omega
          · rcases List.mem_cons.mp hf with rfl | hf
            · rw [ck_ev_fs, ck_ev_k]
              omega
            · exact g2 f hf
      | false =>
        rw [b1] at h0
        dsimp only [cond_false] at h0
        cases b2 : Nat.blt p.1 n1 with
        | false => rw [b2] at h0; cases h0
        | true =>
          rw [b2] at h0
          cases h0
          have c1 : n0 ≤ p.1 := by
            rcases Nat.lt_or_ge p.1 n0 with q | q
            · have : Nat.blt p.1 n0 = true := by simp only [Nat.blt_eq]; exact q
              rw [this] at b1
              cases b1
            · exact q
          refine ⟨ck_es_cons ?_ g1, g2⟩
          show p.2.1 ≤ r (nn + (p.1 - n0)) ∧ r (nn + (p.1 - n0)) ≤ p.2.2
          rw [hn p.1 c1 (ck_blt b2)]
          exact hp
noncomputable def ck_pk1 (θ : List ck_F) (K : ck_K) : Option (List ck_F) := List.rec (motive := fun _ => Option (List ck_F)) (some []) (fun k _ ih => match ih with
  | none => none
  | some x => match ck_sl θ k.1 with
    | none => none
    | some t => some (ck_fs (k.2.1, []) t :: ck_fs t (k.2.2, []) :: x)) K
theorem ck_pk1_ok {θ : List ck_F} {r r' : ck_R} (ht : ck_th θ r r') : ∀ {K : ck_K} {x : List ck_F}, ck_pk1 θ K = some x → ck_ks K r' → ∀ f ∈ x, ck_ev r f ≤ 0
  | [], x, h, _ => by
    have e1 : ([] : List ck_F) = x := Option.some.inj h
    subst e1
    exact fun _ q => absurd q List.not_mem_nil
  | k :: t, x, h, hK => by
    have h0 : (match ck_pk1 θ t with
      | none => none
      | some x => match ck_sl θ k.1 with
        | none => none
        | some t => some (ck_fs (k.2.1, []) t :: ck_fs t (k.2.2, []) :: x)) = some x := h
    cases h1 : ck_pk1 θ t with
    | none => rw [h1] at h0; cases h0
    | some y =>
      rw [h1] at h0
      dsimp only at h0
      have g2 := ck_pk1_ok ht h1 (fun q hq => hK q (List.mem_cons_of_mem _ hq))
      have hp := hK k (List.mem_cons_self ..)
      cases h2 : ck_sl θ k.1 with
      | none => rw [h2] at h0; cases h0
      | some q =>
        rw [h2] at h0
        cases h0
        rw [ck_sl_ok ht h2] at hp
        intro f hf
        rcases List.mem_cons.mp hf with rfl | hf
        · rw [ck_ev_fs, ck_ev_k]
          omega
        · rcases List.mem_cons.mp hf with rfl | hf
          · rw [ck_ev_fs, ck_ev_k]
            omega
          · exact g2 f hf
/-- the heap at an end: new entries, and what follows of old ones -/
noncomputable def ck_po1 (E : ck_E) (K : ck_K) (O1 : ck_O) (θ : List ck_F) (O : ck_O) : Option (ck_O × List ck_F) := List.rec (motive := fun _ => Option (ck_O × List ck_F)) (some ([], [])) (fun o _ ih => match ih with
  | none => none
  | some x => match ck_sb θ o.2.1 with
    | none => none
    | some f => match ck_sb θ o.2.2 with
      | none => none
      | some v => match ck_of E K o.1 f O1 with
        | none => some ((o.1, f, v) :: x.1, x.2)
        | some w => some (x.1, ck_fs w v :: ck_fs v w :: x.2)) O
theorem ck_po1_ok {E : ck_E} {K : ck_K} {O1 : ck_O} {θ : List ck_F} {r r' : ck_R} {h : pm_Hp} (hE : ck_es E r) (hK : ck_ks K r) (hO1 : ck_os h r O1) (ht : ck_th θ r r') : ∀ {O : ck_O} {x : ck_O × List ck_F}, ck_po1 E K O1 θ O = some x → ck_os h r' O → ck_os h r x.1 ∧ ∀ f ∈ x.2, ck_ev r f ≤ 0
  | [], x, h1, _ => by
    have e1 : (([], []) : ck_O × List ck_F) = x := Option.some.inj h1
    subst e1
    exact ⟨fun _ q => absurd q List.not_mem_nil, fun _ q => absurd q List.not_mem_nil⟩
  | o :: t, x, h1, hO => by
    have h0 : (match ck_po1 E K O1 θ t with
      | none => none
      | some x => match ck_sb θ o.2.1 with
        | none => none
        | some f => match ck_sb θ o.2.2 with
          | none => none
          | some v => match ck_of E K o.1 f O1 with
            | none => some ((o.1, f, v) :: x.1, x.2)
            | some w => some (x.1, ck_fs w v :: ck_fs v w :: x.2)) = some x := h1
    cases h2 : ck_po1 E K O1 θ t with
    | none => rw [h2] at h0; cases h0
    | some y =>
      rw [h2] at h0
      dsimp only at h0
      obtain ⟨g1, g2⟩ := ck_po1_ok hE hK hO1 ht h2 (fun q hq => hO q (List.mem_cons_of_mem _ hq))
      have ho := hO o (List.mem_cons_self ..)
      cases h3 : ck_sb θ o.2.1 with
      | none => rw [h3] at h0; cases h0
      | some f =>
        rw [h3] at h0
        dsimp only at h0
        cases h4 : ck_sb θ o.2.2 with
        | none => rw [h4] at h0; cases h0
        | some v =>
          rw [h4] at h0
          dsimp only at h0
          rw [ck_sb_ok ht h3, ck_sb_ok ht h4] at ho
          cases h5 : ck_of E K o.1 f O1 with
          | none =>
            rw [h5] at h0
            cases h0
            refine ⟨?_, g2⟩
            intro q hq
            rcases List.mem_cons.mp hq with rfl | hq
            · exact ho
            · exact g1 q hq
          | some w =>
            rw [h5] at h0
            cases h0
            have e1 := ck_of_ok hE hK hO1 h5
            refine ⟨g1, fun f' hf => ?_⟩
            rcases List.mem_cons.mp hf with rfl | hf
            · rw [ck_ev_fs]
              omega
            · rcases List.mem_cons.mp hf with rfl | hf
              · rw [ck_ev_fs]
                omega
              · exact g2 f' hf
noncomputable def ck_pa1 (θ : List ck_F) (A : ck_O) : Option ck_O := List.rec (motive := fun _ => Option ck_O) (some []) (fun a _ ih => match ih with
  | none => none
  | some x => match ck_sb θ a.2.1 with
    | none => none
    | some f => match ck_sb θ a.2.2 with
      | none => none
      | some v => some ((a.1, f, v) :: x)) A
theorem ck_pa1_ok {θ : List ck_F} {r r' : ck_R} {h : pm_Hp} (ht : ck_th θ r r') : ∀ {A x : ck_O}, ck_pa1 θ A = some x → ck_fts h r' A → ck_fts h r x
  | [], x, h1, _ => by
    have e1 : ([] : ck_O) = x := Option.some.inj h1
    subst e1
    exact fun _ q => absurd q List.not_mem_nil
  | o :: t, x, h1, hO => by
    have h0 : (match ck_pa1 θ t with
      | none => none
      | some x => match ck_sb θ o.2.1 with
        | none => none
        | some f => match ck_sb θ o.2.2 with
          | none => none
          | some v => some ((o.1, f, v) :: x)) = some x := h1
    cases h2 : ck_pa1 θ t with
    | none => rw [h2] at h0; cases h0
    | some y =>
      rw [h2] at h0
      dsimp only at h0
      have g1 := ck_pa1_ok ht h2 (fun q hq => hO q (List.mem_cons_of_mem _ hq))
      have ho := hO o (List.mem_cons_self ..)
      cases h3 : ck_sb θ o.2.1 with
      | none => rw [h3] at h0; cases h0
      | some f =>
        rw [h3] at h0
        dsimp only at h0
        cases h4 : ck_sb θ o.2.2 with
        | none => rw [h4] at h0; cases h0
        | some v =>
          rw [h4] at h0
          cases h0
          rw [ck_sb_ok ht h3, ck_sb_ok ht h4] at ho
          intro q hq
          rcases List.mem_cons.mp hq with rfl | hq
          · exact ho
          · exact g1 q hq
noncomputable def ck_pv1 (θ : List ck_F) (l : List ck_V) : Option (List ck_V) := List.rec (motive := fun _ => Option (List ck_V)) (some []) (fun a _ ih => match ih with
  | none => none
  | some x => match ck_sb θ a.2 with
    | none => none
    | some f => some ((a.1, f) :: x)) l
theorem ck_vr_sub {r r' : ck_R} {t : Nat} {f g : ck_F} {v : Value} (he : ck_ev r' f = ck_ev r g) (hv : ck_vr r' (t, f) v) : ck_vr r (t, g) v := by
  match t, hv with
  | 0, hv => obtain ⟨x, e7, e8⟩ := hv; exact ⟨x, e7, e8.trans he⟩
  | 1, hv => obtain ⟨x, e7, e8⟩ := hv; exact ⟨x, e7, e8.trans he⟩
  | 2, hv => obtain ⟨x, e7, e8⟩ := hv; exact ⟨x, e7, e8.trans he⟩
  | _ + 3, hv => exact hv.elim
theorem ck_pv1_ok {θ : List ck_F} {r r' : ck_R} (ht : ck_th θ r r') : ∀ {l x : List ck_V} {st : List Value}, ck_pv1 θ l = some x → ck_ss r' l st → ck_ss r x st
  | [], x, [], h1, _ => by
    have e1 : ([] : List ck_V) = x := Option.some.inj h1
    subst e1
    exact trivial
  | [], _, _ :: _, _, h2 => h2.elim
  | _ :: _, _, [], _, h2 => h2.elim
  | a :: t, x, v :: st, h1, h2 => by
    have h0 : (match ck_pv1 θ t with
      | none => none
      | some x => match ck_sb θ a.2 with
        | none => none
        | some f => some ((a.1, f) :: x)) = some x := h1
    cases h3 : ck_pv1 θ t with
    | none => rw [h3] at h0; cases h0
    | some y =>
      rw [h3] at h0
      dsimp only at h0
      cases h4 : ck_sb θ a.2 with
      | none => rw [h4] at h0; cases h0
      | some f =>
        rw [h4] at h0
        cases h0
        exact ⟨ck_vr_sub (ck_sb_ok ht h4) h2.1, ck_pv1_ok ht h3 h2.2⟩
/-- one end of a contract: none or one state, and what is returned -/
noncomputable def ck_ap1 (S : ck_S) (θ : List ck_F) (W : ck_O) (n0 : Nat) (p : ck_Po) : Option (List (ck_S × List ck_V)) := bif Nat.ble n0 p.1.1 then (match ck_pe1 (θ ++ ck_nv (p.1.1 - n0) S.1) n0 p.1.1 S.1 p.1.2.1 with
  | none => none
  | some e => match ck_pk1 (θ ++ ck_nv (p.1.1 - n0) S.1) p.1.2.2.1 with
    | none => none
    | some k => match ck_po1 (e.1 ++ S.2.1) S.2.2.1 (ck_ok (ck_N S) W S.2.2.2.1) (θ ++ ck_nv (p.1.1 - n0) S.1) p.1.2.2.2.1 with
      | none => none
      | some o => match ck_pa1 (θ ++ ck_nv (p.1.1 - n0) S.1) p.1.2.2.2.2 with
        | none => none
        | some a => match ck_pv1 (θ ++ ck_nv (p.1.1 - n0) S.1) p.2 with
          | none => none
          | some v => match ck_al (e.2 ++ (k ++ o.2)) (e.1 ++ S.2.1, S.2.2.1) with
            | none => some []
            | some x => some [((S.1 + (p.1.1 - n0), x.1, x.2, o.1 ++ ck_ok (ck_N S) W S.2.2.2.1, a ++ ck_fk2 (ck_N S) W S.2.2.2.2), v)]) else none
noncomputable def ck_aps (S : ck_S) (θ : List ck_F) (W : ck_O) (n0 : Nat) (l : List ck_Po) : Option (List (ck_S × List ck_V)) := List.rec (motive := fun _ => Option (List (ck_S × List ck_V))) (some []) (fun p _ ih => match ck_ap1 S θ W n0 p with
  | none => none
  | some x => match ih with
    | none => none
    | some y => some (x ++ y)) l
theorem ck_aps_mem {S : ck_S} {θ : List ck_F} {W : ck_O} {n0 : Nat} {p : ck_Po} : ∀ {l : List ck_Po} {L : List (ck_S × List ck_V)}, ck_aps S θ W n0 l = some L → p ∈ l → ∃ x, ck_ap1 S θ W n0 p = some x ∧ ∀ y ∈ x, y ∈ L
  | [], _, _, h => absurd h List.not_mem_nil
  | q :: t, L, h1, h2 => by
    have h0 : (match ck_ap1 S θ W n0 q with
      | none => none
      | some x => match ck_aps S θ W n0 t with
        | none => none
        | some y => some (x ++ y)) = some L := h1
    cases h3 : ck_ap1 S θ W n0 q with
    | none => rw [h3] at h0; cases h0
    | some x =>
      rw [h3] at h0
      dsimp only at h0
      cases h4 : ck_aps S θ W n0 t with
      | none => rw [h4] at h0; cases h0
      | some y =>
        rw [h4] at h0
        cases h0
        rcases List.mem_cons.mp h2 with rfl | h2
        · exact ⟨x, h3, fun q hq => List.mem_append_left _ hq⟩
        · obtain ⟨x', g1, g2⟩ := ck_aps_mem h4 h2
          exact ⟨x', g1, fun q hq => List.mem_append_right _ (g2 q hq)⟩
theorem ck_es_app {A B : ck_E} {r : ck_R} (h1 : ck_es A r) (h2 : ck_es B r) : ck_es (A ++ B) r := by
  intro q hq
  rcases List.mem_append.mp hq with hq | hq
  · exact h1 q hq
  · exact h2 q hq
theorem ck_os_app {A B : ck_O} {h : pm_Hp} {r : ck_R} (h1 : ck_os h r A) (h2 : ck_os h r B) : ck_os h r (A ++ B) := by
  intro q hq
  rcases List.mem_append.mp hq with hq | hq
  · exact h1 q hq
  · exact h2 q hq
section
variable {M : ck_O} {h0 h h' : pm_Hp} {S : ck_S} {P : ck_R → Prop} {θ : List ck_F} {W : ck_O} {C : ck_Co}
/-- behind a call: the state of the end that was met -/
theorem ck_ap1_ok {p : ck_Po} {L : List (ck_S × List ck_V)} {rv : List Value} {n0 : Nat} {r0 r1 : ck_R} {Md : ck_O} (hs : ck_ap1 S θ W n0 p = some L) (H : ∀ r, ck_agr S.1 r0 r → P r ∧ ck_sat M h0 S h r) (hwf : ck_wfs S.1 θ = true) (hlen : θ.length = n0) (hW : ck_sw θ Md = some W) (hM : ck_wm (ck_N S) M W = true) (h1 : ∀ i t, θ[i]? = some t → r1 i = ck_ev r0 t) (h2 : ∀ r', ck_agr p.1.1 r1 r' → ck_sa p.1 h' r' ∧ ck_ss r' p.2 rv ∧ ck_ow h h' r' Md) : ∃ y ∈ L, ck_G y.1.1 (fun r => P r ∧ ck_sat M h0 y.1 h' r ∧ ck_ss r y.2 rv) := by
  unfold ck_ap1 at hs
  cases b1 : Nat.ble n0 p.1.1 with
  | false => rw [b1] at hs; cases hs
  | true =>
    rw [b1] at hs
    dsimp only [cond_true] at hs
    have hn := Nat.le_of_ble_eq_true b1
    cases h3 : ck_pe1 (θ ++ ck_nv (p.1.1 - n0) S.1) n0 p.1.1 S.1 p.1.2.1 with
    | none => rw [h3] at hs; cases hs
    | some e =>
      rw [h3] at hs
      dsimp only at hs
      cases h4 : ck_pk1 (θ ++ ck_nv (p.1.1 - n0) S.1) p.1.2.2.1 with
      | none => rw [h4] at hs; cases hs
      | some k =>
        rw [h4] at hs
        dsimp only at hs
        cases h5 : ck_po1 (e.1 ++ S.2.1) S.2.2.1 (ck_ok (ck_N S) W S.2.2.2.1) (θ ++ ck_nv (p.1.1 - n0) S.1) p.1.2.2.2.1 with
        | none => rw [h5] at hs; cases hs
        | some o =>
          rw [h5] at hs
          dsimp only at hs
          cases h6 : ck_pa1 (θ ++ ck_nv (p.1.1 - n0) S.1) p.1.2.2.2.2 with
          | none => rw [h6] at hs; cases hs
          | some a =>
            rw [h6] at hs
            dsimp only at hs
            cases h7 : ck_pv1 (θ ++ ck_nv (p.1.1 - n0) S.1) p.2 with
            | none => rw [h7] at hs; cases hs
            | some v =>
              rw [h7] at hs
              dsimp only at hs
              -- the names behind the call
              let rb : ck_R := fun i => if i < S.1 then r0 i else r1 (n0 + (i - S.1))
              have key : ∀ r, ck_agr (S.1 + (p.1.1 - n0)) rb r → (P r ∧ ck_sat M h0 S h r) ∧ ∃ r', ck_th (θ ++ ck_nv (p.1.1 - n0) S.1) r r' ∧ ck_agr p.1.1 r1 r' ∧ ∀ i, n0 ≤ i → i < p.1.1 → r (S.1 + (i - n0)) = r' i := by
                intro r hr
                have hr0 : ck_agr S.1 r0 r := fun i hi => by
                  rw [hr i (by omega)]
                  exact if_pos hi
                refine ⟨H r hr0, fun i => match (θ ++ ck_nv (p.1.1 - n0) S.1)[i]? with
                  | some t => ck_ev r t
                  | none => 0, ?_, ?_, ?_⟩
                · intro i t hi
                  dsimp only
                  rw [hi]
                · intro i hi
                  dsimp only
                  rcases Nat.lt_or_ge i n0 with q | q
                  · have e1 : (θ ++ ck_nv (p.1.1 - n0) S.1)[i]? = some θ[i] := by
                      rw [List.getElem?_append_left (by omega)]
                      exact List.getElem?_eq_getElem (by omega)
                    rw [e1]
                    have g1 := h1 i θ[i] (List.getElem?_eq_getElem (by omega))
                    rw [g1]
                    have g2 := ck_wfs_ok hwf θ[i] (List.getElem_mem _)
                    show (θ[i]).1 + ck_lv r (θ[i]).2 = (θ[i]).1 + ck_lv r0 (θ[i]).2
                    rw [ck_wl_ok g2 hr0]
                  · have e1 : (θ ++ ck_nv (p.1.1 - n0) S.1)[i]? = (ck_nv (p.1.1 - n0) S.1)[i - n0]? := by
                      rw [List.getElem?_append_right (by omega), hlen]
                    have hl := ck_nv_len (p.1.1 - n0) S.1
                    have e2 : (ck_nv (p.1.1 - n0) S.1)[i - n0]? = some (ck_nv (p.1.1 - n0) S.1)[i - n0] := List.getElem?_eq_getElem (by omega)
                    rw [e1, e2]
                    dsimp only
                    rw [(ck_nv_at e2).2, ck_ev_v, hr _ (by omega)]
                    show (if S.1 + (i - n0) < S.1 then r0 (S.1 + (i - n0)) else r1 (n0 + (S.1 + (i - n0) - S.1))) = r1 i
                    rw [if_neg (by omega), show n0 + (S.1 + (i - n0) - S.1) = i by omega]
                · intro i hi1 hi2
                  dsimp only
                  have e1 : (θ ++ ck_nv (p.1.1 - n0) S.1)[i]? = (ck_nv (p.1.1 - n0) S.1)[i - n0]? := by
                    rw [List.getElem?_append_right (by omega), hlen]
                  have hl := ck_nv_len (p.1.1 - n0) S.1
                  have e2 : (ck_nv (p.1.1 - n0) S.1)[i - n0]? = some (ck_nv (p.1.1 - n0) S.1)[i - n0] := List.getElem?_eq_getElem (by omega)
                  rw [e1, e2]
                  dsimp only
                  rw [(ck_nv_at e2).2, ck_ev_v]
              have tho : ∀ r r', ck_th (θ ++ ck_nv (p.1.1 - n0) S.1) r r' → ck_th θ r r' := fun r r' ht i t hi => ht i t (by
                rw [List.getElem?_append_left (by
                  rcases Nat.lt_or_ge i θ.length with q | q
                  · exact q
                  · rw [List.getElem?_eq_none q] at hi
                    cases hi)]
                exact hi)
              have all : ∀ r, ck_agr (S.1 + (p.1.1 - n0)) rb r → P r ∧ ck_es (e.1 ++ S.2.1) r ∧ ck_ks S.2.2.1 r ∧ (∀ f ∈ e.2 ++ (k ++ o.2), ck_ev r f ≤ 0) ∧ ck_os h' r (o.1 ++ ck_ok (ck_N S) W S.2.2.2.1) ∧ ck_fts h' r (a ++ ck_fk2 (ck_N S) W S.2.2.2.2) ∧ ck_ow h0 h' r M ∧ ck_ss r v rv := by
                intro r hr
                obtain ⟨⟨g1, g2⟩, r', ht, ha, hnew⟩ := key r hr
                obtain ⟨q1, q2, q3⟩ := h2 r' ha
                have hN := ck_N_ok g2
                have hWr : ck_ow h h' r W := ck_ow_sub (tho r r' ht) hW q3
                obtain ⟨u1, u2⟩ := ck_pe1_ok ht hnew h3 q1.1
                have u3 := ck_pk1_ok ht h4 q1.2.1
                have u4 := ck_ok_ok hN hWr g2.2.2.1
                have u5 := ck_es_app u1 g2.1
                obtain ⟨u6, u7⟩ := ck_po1_ok u5 g2.2.1 u4 ht h5 q1.2.2.1
                refine ⟨g1, u5, g2.2.1, fun f hf => ?_, ck_os_app u6 u4, ck_fts_app (ck_pa1_ok ht h6 q1.2.2.2) (ck_fk2_ok hN hWr g2.2.2.2.1), ck_ow_trans g2.2.2.2.2 hWr (ck_wm_ok hN hM), ck_pv1_ok ht h7 q2⟩
                rcases List.mem_append.mp hf with hf | hf
                · exact u2 f hf
                · rcases List.mem_append.mp hf with hf | hf
                  · exact u3 f hf
                  · exact u7 f hf
              obtain ⟨z1, z2, z3, z4, _⟩ := all rb (fun _ _ => rfl)
              obtain ⟨y, e1, _⟩ := ck_al_ok (x := (e.1 ++ S.2.1, S.2.2.1)) z2 z3 z4
              rw [e1] at hs
              cases hs
              refine ⟨_, List.mem_cons_self .., rb, fun r hr => ?_⟩
              obtain ⟨v1, v2, v3, v4, v5, v6, v7, v8⟩ := all r hr
              obtain ⟨y', e2, v9, v10⟩ := ck_al_ok (x := (e.1 ++ S.2.1, S.2.2.1)) v2 v3 v4
              have e3 : y = y' := Option.some.inj (e1.symm.trans e2)
              subst e3
              exact ⟨v1, ⟨v9, v10, v5, v6, v7⟩, v8⟩
/-- a contract used -/
noncomputable def ck_us (M : ck_O) (S : ck_S) (C : ck_Co) (θ : List ck_F) (as : List ck_V) : Option (List (ck_S × List ck_V)) := bif (bif ck_wfs S.1 θ then (bif Nat.beq (ck_len θ) C.2.2.1.1 then (bif ck_ms S C.2.2.1 θ then ck_m5 S θ C.2.2.2.1 as else false) else false) else false) then (match ck_sw θ C.2.2.2.2.2 with
  | none => none
  | some W => bif ck_wm (ck_N S) M W then ck_aps S θ W C.2.2.1.1 C.2.2.2.2.1 else none) else none
theorem ck_us_ok {L : List (ck_S × List ck_V)} {as : List ck_V} {cas : List Value} (hs : ck_us M S C θ as = some L) (hC : ck_CO C) (hd : ck_dec h) (H : ck_G S.1 (fun r => P r ∧ ck_sat M h0 S h r)) (ha : ∀ r, P r → ck_ss r as cas) : pm_Cd C.2.1 C.1 cas h (fun rv h' => ck_dec h' ∧ ∃ y ∈ L, ck_G y.1.1 (fun r => P r ∧ ck_sat M h0 y.1 h' r ∧ ck_ss r y.2 rv.toList)) := by
  unfold ck_us at hs
  cases hb : (bif ck_wfs S.1 θ then (bif Nat.beq (ck_len θ) C.2.2.1.1 then (bif ck_ms S C.2.2.1 θ then ck_m5 S θ C.2.2.2.1 as else false) else false) else false) with
  | false => rw [hb] at hs; cases hs
  | true =>
    rw [hb] at hs
    dsimp only [cond_true] at hs
    obtain ⟨b1, q⟩ := ck_and hb
    obtain ⟨b2, q⟩ := ck_and q
    obtain ⟨b3, b4⟩ := ck_and q
    have hlen : θ.length = C.2.2.1.1 := by rw [← ck_len_ok]; exact Nat.eq_of_beq_eq_true b2
    cases hW : ck_sw θ C.2.2.2.2.2 with
    | none => rw [hW] at hs; cases hs
    | some W =>
      rw [hW] at hs
      dsimp only at hs
      cases hM : ck_wm (ck_N S) M W with
      | false => rw [hM] at hs; cases hs
      | true =>
        rw [hM] at hs
        dsimp only [cond_true] at hs
        obtain ⟨r0, H0⟩ := H
        have H1 := H0 r0 (fun _ _ => rfl)
        let rp : ck_R := fun i => match θ[i]? with
          | some t => ck_ev r0 t
          | none => 0
        have hrp : ∀ i t, θ[i]? = some t → rp i = ck_ev r0 t := fun i t hi => by
          show (match θ[i]? with
            | some t => ck_ev r0 t
            | none => 0) = _
          rw [hi]
        have hth : ∀ r', ck_agr C.2.2.1.1 rp r' → ck_th θ r0 r' := fun r' hr i t hi => by
          have hi2 : i < θ.length := by
            rcases Nat.lt_or_ge i θ.length with q | q
            · exact q
            · rw [List.getElem?_eq_none q] at hi
              cases hi
          rw [hr i (by omega)]
          exact hrp i t hi
        have sa0 : ck_sa S h r0 := ⟨H1.2.1, H1.2.2.1, H1.2.2.2.1, H1.2.2.2.2.1⟩
        refine pm_Cd_mono _ _ _ _ _ _ ?_ (hC rp cas h hd (fun r' hr => ⟨ck_ms_ok b3 sa0 (hth r' hr), ck_m5_ok sa0 (hth r' hr) b4 (ha r0 H1.1)⟩))
        intro rv h' hq
        obtain ⟨hd', p, hp, r1, hr1, h2⟩ := hq
        obtain ⟨x, g1, g2⟩ := ck_aps_mem hs hp
        obtain ⟨y, g3, g4⟩ := ck_ap1_ok (Md := C.2.2.2.2.2) (rv := rv.toList) g1 H0 b1 hlen hW hM (fun i t hi => by
          have hi2 : i < θ.length := by
            rcases Nat.lt_or_ge i θ.length with q | q
            · exact q
            · rw [List.getElem?_eq_none q] at hi
              cases hi
          rw [hr1 i (by omega)]
          exact hrp i t hi) h2
        exact ⟨hd', y, g2 y g3, g4⟩
end
