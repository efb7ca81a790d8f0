/-! Acts: the words among them are counted, by hand. -/
theorem ck_cn_ge (h : pm_Hp) (c i : Nat) : ∀ m : Nat, 0 ≤ ck_cn h c i m
  | 0 => Int.le_refl 0
  | m + 1 => by
    have := ck_cn_ge h c i m
    show 0 ≤ ck_cn h c i m + _
    split <;> omega
theorem ck_cn_eq {h h' : pm_Hp} {c i : Nat} : ∀ {m : Nat}, (∀ j, i ≤ j → j < i + m → h' c j = h c j) → ck_cn h' c i m = ck_cn h c i m
  | 0, _ => rfl
  | m + 1, H => by
    show ck_cn h' c i m + _ = ck_cn h c i m + _
    rw [ck_cn_eq (m := m) (fun j h1 h2 => H j h1 (by omega)), H (i + m) (by omega) (by omega)]
theorem ck_cn_front (h : pm_Hp) (c i : Nat) : ∀ m : Nat, ck_cn h c i (m + 1) = (if h c i = -1 then 1 else 0) + ck_cn h c (i + 1) m
  | 0 => by
    show (0 : Int) + _ = _ + (0 : Int)
    rw [Nat.add_zero]
    omega
  | m + 1 => by
    have ih := ck_cn_front h c i m
    show ck_cn h c i (m + 1) + (if h c (i + (m + 1)) = -1 then 1 else 0) = _ + (ck_cn h c (i + 1) m + (if h c (i + 1 + m) = -1 then 1 else 0))
    rw [ih, show i + (m + 1) = i + 1 + m by omega]
    omega
theorem ck_cn_shift {h h' : pm_Hp} {c i : Nat} : ∀ {m : Nat}, (∀ j, j < m → h' c (i + j) = h c (i + 1 + j)) → ck_cn h' c i m = ck_cn h c (i + 1) m
  | 0, _ => rfl
  | m + 1, H => by
    show ck_cn h' c i m + _ = ck_cn h c (i + 1) m + _
    rw [ck_cn_shift (m := m) (fun j h1 => H j (by omega)), H m (by omega)]
theorem ck_cn_last (h : pm_Hp) (c i m : Nat) : ck_cn h c i (m + 1) = ck_cn h c i m + (if h c (i + m) = -1 then 1 else 0) := rfl
theorem ck_ev_o (r : ck_R) (n : Nat) : ck_ev r (.ofNat 0, [(n, .ofNat 1)]) = r n := ck_ev_v r n
theorem ck_ev_c (r : ck_R) (c : Int) (n : Nat) : ck_ev r (c, [(n, .ofNat 1)]) = c + r n := by
  show c + (1 * r n + 0) = c + r n
  omega
theorem ck_os_cons {o : Nat × ck_F × ck_F} {O : ck_O} {h : pm_Hp} {r : ck_R} (h1 : 0 ≤ ck_ev r o.2.1 ∧ h o.1 (ck_ev r o.2.1).toNat = ck_ev r o.2.2) (h2 : ck_os h r O) : ck_os h r (o :: O) := by
  intro q hq
  rcases List.mem_cons.mp hq with rfl | hq
  · exact h1
  · exact h2 q hq
theorem ck_fts_cons {a : Nat × ck_F × ck_F} {A : ck_O} {h : pm_Hp} {r : ck_R} (h1 : ck_ft h a.1 (ck_ev r a.2.1) (ck_ev r a.2.2)) (h2 : ck_fts h r A) : ck_fts h r (a :: A) := by
  intro q hq
  rcases List.mem_cons.mp hq with rfl | hq
  · exact h1
  · exact h2 q hq
theorem ck_es_nil {r : ck_R} : ck_es [] r := fun _ h => absurd h List.not_mem_nil
theorem ck_ks_nil {r : ck_R} : ck_ks [] r := fun _ h => absurd h List.not_mem_nil
theorem ck_os_nil {h : pm_Hp} {r : ck_R} : ck_os h r [] := fun _ h => absurd h List.not_mem_nil
theorem ck_at117 : ck_D[117]? = some (1, 40, [(.negSucc 0, .ofNat 5)]) := rfl
theorem ck_at118 : ck_D[118]? = some (1, 40, [(.ofNat 0, .ofNat 7)]) := rfl
theorem ck_dcP {h : pm_Hp} (hd : ck_dec h) {j : Nat} (hj : j < 40) : -1 ≤ h 117 j ∧ h 117 j ≤ 5 := hd 117 j (.negSucc 0, .ofNat 5) (by
  unfold ck_dv
  rw [ck_at117]
  exact if_pos hj)
theorem ck_dcW {h : pm_Hp} (hd : ck_dec h) {j : Nat} (hj : j < 40) : 0 ≤ h 118 j ∧ h 118 j ≤ 7 := hd 118 j (.ofNat 0, .ofNat 7) (by
  unfold ck_dv
  rw [ck_at118]
  exact if_pos hj)
theorem ck_dcA {h : pm_Hp} (hd : ck_dec h) : 0 ≤ h 88 42 ∧ h 88 42 ≤ 40 := hd 88 42 (.ofNat 0, .ofNat 40) rfl
theorem ck_dcU {h : pm_Hp} (hd : ck_dec h) : 0 ≤ h 88 43 ∧ h 88 43 ≤ 40 := hd 88 43 (.ofNat 0, .ofNat 40) rfl
theorem ck_dcM {h : pm_Hp} (hd : ck_dec h) : 0 ≤ h 88 39 ∧ h 88 39 ≤ 6 := hd 88 39 (.ofNat 0, .ofNat 6) rfl
/-- outside of the windows nothing changes -/
theorem ck_ow_ne {h h' : pm_Hp} {r : ck_R} {W : ck_O} {c j : Nat} (H : ck_ow h h' r W) (hn : ∀ w ∈ W, w.1 = c → ck_ev r w.2.1 ≤ (j : Int) → (j : Int) < ck_ev r w.2.2 → False) : h' c j = h c j := by
  rcases H c j with e | ⟨w, hw, h1, h2, h3⟩
  · exact e
  · exact (hn w hw h1 h2 h3).elim

theorem hd_ka {h : pm_Hp} {P W : Int32} (hd : ck_dec h) (hP : -1 ≤ P.toInt ∧ P.toInt ≤ 5) (hW : 0 ≤ W.toInt ∧ W.toInt ≤ 7) {n : Nat} (hn : h 88 42 = (n : Int)) (hn2 : n ≤ 39) : pm_Cd 1 172 [.ref 88, .int P, .int W] h (fun rv h' => ck_dec h' ∧ rv = none ∧ h' 88 42 = (n : Int) + 1 ∧ h' 88 43 = 0 ∧ h' 117 n = P.toInt ∧ h' 118 n = W.toInt ∧ ∀ c j : Nat, ¬ (c = 88 ∧ (j = 42 ∨ j = 43)) → ¬ ((c = 117 ∨ c = 118) ∧ j = n) → h' c j = h c j) := by
  refine pm_Cd_mono _ _ _ _ _ _ ?_ (ckco_0 (fun i => match i with
    | 0 => P.toInt
    | 1 => W.toInt
    | _ => (n : Int)) [.ref 88, .int P, .int W] h hd (fun r' hr' => ?_))
  · intro rv h' hq
    obtain ⟨hd', p, hp, r1, hr1, hall⟩ := hq
    have hp' := List.mem_singleton.mp hp
    subst hp'
    obtain ⟨sa, ss, ow⟩ := hall r1 (fun _ _ => rfl)
    have e0 : r1 0 = P.toInt := hr1 0 (by decide)
    have e1 : r1 1 = W.toInt := hr1 1 (by decide)
    have e2 : r1 2 = (n : Int) := hr1 2 (by decide)
    have o0 : 0 ≤ ck_ev r1 (.ofNat 42, []) ∧ h' 88 (ck_ev r1 (.ofNat 42, [])).toNat = ck_ev r1 (.ofNat 1, [(2, .ofNat 1)]) := sa.2.2.1 (88, (.ofNat 42, []), (.ofNat 1, [(2, .ofNat 1)])) (List.mem_of_getElem? (i := 0) rfl)
    have o1 : 0 ≤ ck_ev r1 (.ofNat 43, []) ∧ h' 88 (ck_ev r1 (.ofNat 43, [])).toNat = ck_ev r1 (.ofNat 0, []) := sa.2.2.1 (88, (.ofNat 43, []), (.ofNat 0, [])) (List.mem_of_getElem? (i := 1) rfl)
    have o2 : 0 ≤ ck_ev r1 (.ofNat 0, [(2, .ofNat 1)]) ∧ h' 117 (ck_ev r1 (.ofNat 0, [(2, .ofNat 1)])).toNat = ck_ev r1 (.ofNat 0, [(0, .ofNat 1)]) := sa.2.2.1 (117, (.ofNat 0, [(2, .ofNat 1)]), (.ofNat 0, [(0, .ofNat 1)])) (List.mem_of_getElem? (i := 2) rfl)
    have o3 : 0 ≤ ck_ev r1 (.ofNat 0, [(2, .ofNat 1)]) ∧ h' 118 (ck_ev r1 (.ofNat 0, [(2, .ofNat 1)])).toNat = ck_ev r1 (.ofNat 0, [(1, .ofNat 1)]) := sa.2.2.1 (118, (.ofNat 0, [(2, .ofNat 1)]), (.ofNat 0, [(1, .ofNat 1)])) (List.mem_of_getElem? (i := 3) rfl)
    rw [ck_ev_k, ck_ev_c, e2] at o0
    rw [ck_ev_k, ck_ev_k] at o1
    rw [ck_ev_o, ck_ev_o, e2, e0, Int.toNat_natCast] at o2
    rw [ck_ev_o, ck_ev_o, e2, e1, Int.toNat_natCast] at o3
    refine ⟨hd', ?_, ?_, o1.2, o2.2, o3.2, ?_⟩
    · cases rv with
      | none => rfl
      | some v => exact ss.elim
    · have q : h' 88 42 = 1 + (n : Int) := o0.2
      omega
    · intro c j h1 h2
      refine ck_ow_ne ow (fun w hw e3 e4 e5 => ?_)
      rcases List.mem_cons.mp hw with rfl | hw
      · have e3' : 88 = c := e3
        have e4' : ck_ev r1 (.ofNat 42, []) ≤ (j : Int) := e4
        have e5' : (j : Int) < ck_ev r1 (.ofNat 43, []) := e5
        rw [ck_ev_k] at e4' e5'
        have e6 : (42 : Int) ≤ j := e4'
        have e7 : (j : Int) < 43 := e5'
        exact h1 ⟨e3'.symm, Or.inl (by omega)⟩
      rcases List.mem_cons.mp hw with rfl | hw
      · have e3' : 88 = c := e3
        have e4' : ck_ev r1 (.ofNat 43, []) ≤ (j : Int) := e4
        have e5' : (j : Int) < ck_ev r1 (.ofNat 44, []) := e5
        rw [ck_ev_k] at e4' e5'
        have e6 : (43 : Int) ≤ j := e4'
        have e7 : (j : Int) < 44 := e5'
        exact h1 ⟨e3'.symm, Or.inr (by omega)⟩
      rcases List.mem_cons.mp hw with rfl | hw
      · have e3' : 117 = c := e3
        have e4' : ck_ev r1 (.ofNat 0, [(2, .ofNat 1)]) ≤ (j : Int) := e4
        have e5' : (j : Int) < ck_ev r1 (.ofNat 1, [(2, .ofNat 1)]) := e5
        rw [ck_ev_o, e2] at e4'
        rw [ck_ev_c, e2] at e5'
        have e7 : (j : Int) < 1 + (n : Int) := e5'
        exact h2 ⟨Or.inl e3'.symm, by omega⟩
      rcases List.mem_cons.mp hw with rfl | hw
      · have e3' : 118 = c := e3
        have e4' : ck_ev r1 (.ofNat 0, [(2, .ofNat 1)]) ≤ (j : Int) := e4
        have e5' : (j : Int) < ck_ev r1 (.ofNat 1, [(2, .ofNat 1)]) := e5
        rw [ck_ev_o, e2] at e4'
        rw [ck_ev_c, e2] at e5'
        have e7 : (j : Int) < 1 + (n : Int) := e5'
        exact h2 ⟨Or.inr e3'.symm, by omega⟩
      exact absurd hw List.not_mem_nil
  · have a0 : r' 0 = P.toInt := hr' 0 (by decide)
    have a1 : r' 1 = W.toInt := hr' 1 (by decide)
    have a2 : r' 2 = (n : Int) := hr' 2 (by decide)
    refine ⟨⟨(ck_es_cons (p := (0, .negSucc 0, .ofNat 5)) (by show (-1 : Int) ≤ r' 0 ∧ r' 0 ≤ 5; have q := a0; omega) (ck_es_cons (p := (1, .ofNat 0, .ofNat 7)) (by show (0 : Int) ≤ r' 1 ∧ r' 1 ≤ 7; have q := a1; omega) (ck_es_cons (p := (2, .ofNat 0, .ofNat 39)) (by show (0 : Int) ≤ r' 2 ∧ r' 2 ≤ 39; have q := a2; omega) ck_es_nil))), ck_ks_nil, ck_os_cons (by
      show 0 ≤ ck_ev r' (.ofNat 42, []) ∧ h 88 (ck_ev r' (.ofNat 42, [])).toNat = ck_ev r' (.ofNat 0, [(2, .ofNat 1)])
      rw [ck_ev_k, ck_ev_o, a2]
      exact ⟨by decide, hn⟩) ck_os_nil, ck_fts_nil⟩, ⟨88, rfl, (ck_ev_k r' 88).symm⟩, ⟨P, rfl, by rw [ck_ev_o, a0]⟩, ⟨W, rfl, by rw [ck_ev_o, a1]⟩, trivial⟩

theorem hd_kb {h : pm_Hp} {P W : Int32} (hd : ck_dec h) (hP : -1 ≤ P.toInt ∧ P.toInt ≤ 5) (hW : 0 ≤ W.toInt ∧ W.toInt ≤ 7) (hn : h 88 42 = 40) : pm_Cd 1 172 [.ref 88, .int P, .int W] h (fun rv h' => ck_dec h' ∧ rv = none ∧ h' 88 42 = 40 ∧ h' 88 43 = 0 ∧ (∀ j, j < 39 → h' 117 j = h 117 (j + 1)) ∧ (∀ j, j < 39 → h' 118 j = h 118 (j + 1)) ∧ h' 117 39 = P.toInt ∧ h' 118 39 = W.toInt ∧ ∀ c j : Nat, ¬ (c = 88 ∧ (j = 42 ∨ j = 43)) → ¬ ((c = 117 ∨ c = 118) ∧ j < 1000000000) → h' c j = h c j) := by
  refine pm_Cd_mono _ _ _ _ _ _ ?_ (ckco_1 (fun i => if i = 0 then P.toInt else if i = 1 then W.toInt else if i < 41 then h 117 (i - 1) else h 118 (i - 40)) [.ref 88, .int P, .int W] h hd (fun r' hr' => ?_))
  · intro rv h' hq
    obtain ⟨hd', p, hp, r1, hr1, hall⟩ := hq
    have hp' := List.mem_singleton.mp hp
    subst hp'
    obtain ⟨sa, ss, ow⟩ := hall r1 (fun _ _ => rfl)
    have o0 : 0 ≤ ck_ev r1 (.ofNat 42, []) ∧ h' 88 (ck_ev r1 (.ofNat 42, [])).toNat = ck_ev r1 (.ofNat 40, []) := sa.2.2.1 (88, (.ofNat 42, []), (.ofNat 40, [])) (List.mem_of_getElem? (i := 0) rfl)
    have o1 : 0 ≤ ck_ev r1 (.ofNat 43, []) ∧ h' 88 (ck_ev r1 (.ofNat 43, [])).toNat = ck_ev r1 (.ofNat 0, []) := sa.2.2.1 (88, (.ofNat 43, []), (.ofNat 0, [])) (List.mem_of_getElem? (i := 1) rfl)
    rw [ck_ev_k, ck_ev_k] at o0 o1
    have gen : ∀ (c k nm : Nat), (0 ≤ ck_ev r1 (Int.ofNat k, []) ∧ h' c (ck_ev r1 (Int.ofNat k, [])).toNat = ck_ev r1 (Int.ofNat 0, [(nm, Int.ofNat 1)])) → h' c k = r1 nm := by
      intro c k nm o
      have o' := o.2
      rw [ck_ev_k, ck_ev_o] at o'
      exact o'
    refine ⟨hd', ?_, o0.2, o1.2, ?_, ?_, ?_, ?_, ?_⟩
    · cases rv with
      | none => rfl
      | some v => exact ss.elim
    · intro j hj
      match j, hj with
      | 0, _ => exact (gen 117 0 2 (sa.2.2.1 (117, (.ofNat 0, []), (.ofNat 0, [(2, .ofNat 1)])) (List.mem_of_getElem? (i := 2) rfl))).trans (hr1 2 (by decide))
      | 1, _ => exact (gen 117 1 3 (sa.2.2.1 (117, (.ofNat 1, []), (.ofNat 0, [(3, .ofNat 1)])) (List.mem_of_getElem? (i := 3) rfl))).trans (hr1 3 (by decide))
      | 2, _ => exact (gen 117 2 4 (sa.2.2.1 (117, (.ofNat 2, []), (.ofNat 0, [(4, .ofNat 1)])) (List.mem_of_getElem? (i := 4) rfl))).trans (hr1 4 (by decide))
      | 3, _ => exact (gen 117 3 5 (sa.2.2.1 (117, (.ofNat 3, []), (.ofNat 0, [(5, .ofNat 1)])) (List.mem_of_getElem? (i := 5) rfl))).trans (hr1 5 (by decide))
      | 4, _ => exact (gen 117 4 6 (sa.2.2.1 (117, (.ofNat 4, []), (.ofNat 0, [(6, .ofNat 1)])) (List.mem_of_getElem? (i := 6) rfl))).trans (hr1 6 (by decide))
      | 5, _ => exact (gen 117 5 7 (sa.2.2.1 (117, (.ofNat 5, []), (.ofNat 0, [(7, .ofNat 1)])) (List.mem_of_getElem? (i := 7) rfl))).trans (hr1 7 (by decide))
      | 6, _ => exact (gen 117 6 8 (sa.2.2.1 (117, (.ofNat 6, []), (.ofNat 0, [(8, .ofNat 1)])) (List.mem_of_getElem? (i := 8) rfl))).trans (hr1 8 (by decide))
      | 7, _ => exact (gen 117 7 9 (sa.2.2.1 (117, (.ofNat 7, []), (.ofNat 0, [(9, .ofNat 1)])) (List.mem_of_getElem? (i := 9) rfl))).trans (hr1 9 (by decide))
      | 8, _ => exact (gen 117 8 10 (sa.2.2.1 (117, (.ofNat 8, []), (.ofNat 0, [(10, .ofNat 1)])) (List.mem_of_getElem? (i := 10) rfl))).trans (hr1 10 (by decide))
      | 9, _ => exact (gen 117 9 11 (sa.2.2.1 (117, (.ofNat 9, []), (.ofNat 0, [(11, .ofNat 1)])) (List.mem_of_getElem? (i := 11) rfl))).trans (hr1 11 (by decide))
      | 10, _ => exact (gen 117 10 12 (sa.2.2.1 (117, (.ofNat 10, []), (.ofNat 0, [(12, .ofNat 1)])) (List.mem_of_getElem? (i := 12) rfl))).trans (hr1 12 (by decide))
      | 11, _ => exact (gen 117 11 13 (sa.2.2.1 (117, (.ofNat 11, []), (.ofNat 0, [(13, .ofNat 1)])) (List.mem_of_getElem? (i := 13) rfl))).trans (hr1 13 (by decide))
      | 12, _ => exact (gen 117 12 14 (sa.2.2.1 (117, (.ofNat 12, []), (.ofNat 0, [(14, .ofNat 1)])) (List.mem_of_getElem? (i := 14) rfl))).trans (hr1 14 (by decide))
      | 13, _ => exact (gen 117 13 15 (sa.2.2.1 (117, (.ofNat 13, []), (.ofNat 0, [(15, .ofNat 1)])) (List.mem_of_getElem? (i := 15) rfl))).trans (hr1 15 (by decide))
      | 14, _ => exact (gen 117 14 16 (sa.2.2.1 (117, (.ofNat 14, []), (.ofNat 0, [(16, .ofNat 1)])) (List.mem_of_getElem? (i := 16) rfl))).trans (hr1 16 (by decide))
      | 15, _ => exact (gen 117 15 17 (sa.2.2.1 (117, (.ofNat 15, []), (.ofNat 0, [(17, .ofNat 1)])) (List.mem_of_getElem? (i := 17) rfl))).trans (hr1 17 (by decide))
      | 16, _ => exact (gen 117 16 18 (sa.2.2.1 (117, (.ofNat 16, []), (.ofNat 0, [(18, .ofNat 1)])) (List.mem_of_getElem? (i := 18) rfl))).trans (hr1 18 (by decide))
      | 17, _ => exact (gen 117 17 19 (sa.2.2.1 (117, (.ofNat 17, []), (.ofNat 0, [(19, .ofNat 1)])) (List.mem_of_getElem? (i := 19) rfl))).trans (hr1 19 (by decide))
      | 18, _ => exact (gen 117 18 20 (sa.2.2.1 (117, (.ofNat 18, []), (.ofNat 0, [(20, .ofNat 1)])) (List.mem_of_getElem? (i := 20) rfl))).trans (hr1 20 (by decide))
      | 19, _ => exact (gen 117 19 21 (sa.2.2.1 (117, (.ofNat 19, []), (.ofNat 0, [(21, .ofNat 1)])) (List.mem_of_getElem? (i := 21) rfl))).trans (hr1 21 (by decide))
      | 20, _ => exact (gen 117 20 22 (sa.2.2.1 (117, (.ofNat 20, []), (.ofNat 0, [(22, .ofNat 1)])) (List.mem_of_getElem? (i := 22) rfl))).trans (hr1 22 (by decide))
      | 21, _ => exact (gen 117 21 23 (sa.2.2.1 (117, (.ofNat 21, []), (.ofNat 0, [(23, .ofNat 1)])) (List.mem_of_getElem? (i := 23) rfl))).trans (hr1 23 (by decide))
      | 22, _ => exact (gen 117 22 24 (sa.2.2.1 (117, (.ofNat 22, []), (.ofNat 0, [(24, .ofNat 1)])) (List.mem_of_getElem? (i := 24) rfl))).trans (hr1 24 (by decide))
      | 23, _ => exact (gen 117 23 25 (sa.2.2.1 (117, (.ofNat 23, []), (.ofNat 0, [(25, .ofNat 1)])) (List.mem_of_getElem? (i := 25) rfl))).trans (hr1 25 (by decide))
      | 24, _ => exact (gen 117 24 26 (sa.2.2.1 (117, (.ofNat 24, []), (.ofNat 0, [(26, .ofNat 1)])) (List.mem_of_getElem? (i := 26) rfl))).trans (hr1 26 (by decide))
      | 25, _ => exact (gen 117 25 27 (sa.2.2.1 (117, (.ofNat 25, []), (.ofNat 0, [(27, .ofNat 1)])) (List.mem_of_getElem? (i := 27) rfl))).trans (hr1 27 (by decide))
      | 26, _ => exact (gen 117 26 28 (sa.2.2.1 (117, (.ofNat 26, []), (.ofNat 0, [(28, .ofNat 1)])) (List.mem_of_getElem? (i := 28) rfl))).trans (hr1 28 (by decide))
      | 27, _ => exact (gen 117 27 29 (sa.2.2.1 (117, (.ofNat 27, []), (.ofNat 0, [(29, .ofNat 1)])) (List.mem_of_getElem? (i := 29) rfl))).trans (hr1 29 (by decide))
      | 28, _ => exact (gen 117 28 30 (sa.2.2.1 (117, (.ofNat 28, []), (.ofNat 0, [(30, .ofNat 1)])) (List.mem_of_getElem? (i := 30) rfl))).trans (hr1 30 (by decide))
      | 29, _ => exact (gen 117 29 31 (sa.2.2.1 (117, (.ofNat 29, []), (.ofNat 0, [(31, .ofNat 1)])) (List.mem_of_getElem? (i := 31) rfl))).trans (hr1 31 (by decide))
      | 30, _ => exact (gen 117 30 32 (sa.2.2.1 (117, (.ofNat 30, []), (.ofNat 0, [(32, .ofNat 1)])) (List.mem_of_getElem? (i := 32) rfl))).trans (hr1 32 (by decide))
      | 31, _ => exact (gen 117 31 33 (sa.2.2.1 (117, (.ofNat 31, []), (.ofNat 0, [(33, .ofNat 1)])) (List.mem_of_getElem? (i := 33) rfl))).trans (hr1 33 (by decide))
      | 32, _ => exact (gen 117 32 34 (sa.2.2.1 (117, (.ofNat 32, []), (.ofNat 0, [(34, .ofNat 1)])) (List.mem_of_getElem? (i := 34) rfl))).trans (hr1 34 (by decide))
      | 33, _ => exact (gen 117 33 35 (sa.2.2.1 (117, (.ofNat 33, []), (.ofNat 0, [(35, .ofNat 1)])) (List.mem_of_getElem? (i := 35) rfl))).trans (hr1 35 (by decide))
      | 34, _ => exact (gen 117 34 36 (sa.2.2.1 (117, (.ofNat 34, []), (.ofNat 0, [(36, .ofNat 1)])) (List.mem_of_getElem? (i := 36) rfl))).trans (hr1 36 (by decide))
      | 35, _ => exact (gen 117 35 37 (sa.2.2.1 (117, (.ofNat 35, []), (.ofNat 0, [(37, .ofNat 1)])) (List.mem_of_getElem? (i := 37) rfl))).trans (hr1 37 (by decide))
      | 36, _ => exact (gen 117 36 38 (sa.2.2.1 (117, (.ofNat 36, []), (.ofNat 0, [(38, .ofNat 1)])) (List.mem_of_getElem? (i := 38) rfl))).trans (hr1 38 (by decide))
      | 37, _ => exact (gen 117 37 39 (sa.2.2.1 (117, (.ofNat 37, []), (.ofNat 0, [(39, .ofNat 1)])) (List.mem_of_getElem? (i := 39) rfl))).trans (hr1 39 (by decide))
      | 38, _ => exact (gen 117 38 40 (sa.2.2.1 (117, (.ofNat 38, []), (.ofNat 0, [(40, .ofNat 1)])) (List.mem_of_getElem? (i := 40) rfl))).trans (hr1 40 (by decide))
      | j + 39, hj => omega
    · intro j hj
      match j, hj with
      | 0, _ => exact (gen 118 0 41 (sa.2.2.1 (118, (.ofNat 0, []), (.ofNat 0, [(41, .ofNat 1)])) (List.mem_of_getElem? (i := 41) rfl))).trans (hr1 41 (by decide))
      | 1, _ => exact (gen 118 1 42 (sa.2.2.1 (118, (.ofNat 1, []), (.ofNat 0, [(42, .ofNat 1)])) (List.mem_of_getElem? (i := 42) rfl))).trans (hr1 42 (by decide))
      | 2, _ => exact (gen 118 2 43 (sa.2.2.1 (118, (.ofNat 2, []), (.ofNat 0, [(43, .ofNat 1)])) (List.mem_of_getElem? (i := 43) rfl))).trans (hr1 43 (by decide))
      | 3, _ => exact (gen 118 3 44 (sa.2.2.1 (118, (.ofNat 3, []), (.ofNat 0, [(44, .ofNat 1)])) (List.mem_of_getElem? (i := 44) rfl))).trans (hr1 44 (by decide))
      | 4, _ => exact (gen 118 4 45 (sa.2.2.1 (118, (.ofNat 4, []), (.ofNat 0, [(45, .ofNat 1)])) (List.mem_of_getElem? (i := 45) rfl))).trans (hr1 45 (by decide))
      | 5, _ => exact (gen 118 5 46 (sa.2.2.1 (118, (.ofNat 5, []), (.ofNat 0, [(46, .ofNat 1)])) (List.mem_of_getElem? (i := 46) rfl))).trans (hr1 46 (by decide))
      | 6, _ => exact (gen 118 6 47 (sa.2.2.1 (118, (.ofNat 6, []), (.ofNat 0, [(47, .ofNat 1)])) (List.mem_of_getElem? (i := 47) rfl))).trans (hr1 47 (by decide))
      | 7, _ => exact (gen 118 7 48 (sa.2.2.1 (118, (.ofNat 7, []), (.ofNat 0, [(48, .ofNat 1)])) (List.mem_of_getElem? (i := 48) rfl))).trans (hr1 48 (by decide))
      | 8, _ => exact (gen 118 8 49 (sa.2.2.1 (118, (.ofNat 8, []), (.ofNat 0, [(49, .ofNat 1)])) (List.mem_of_getElem? (i := 49) rfl))).trans (hr1 49 (by decide))
      | 9, _ => exact (gen 118 9 50 (sa.2.2.1 (118, (.ofNat 9, []), (.ofNat 0, [(50, .ofNat 1)])) (List.mem_of_getElem? (i := 50) rfl))).trans (hr1 50 (by decide))
      | 10, _ => exact (gen 118 10 51 (sa.2.2.1 (118, (.ofNat 10, []), (.ofNat 0, [(51, .ofNat 1)])) (List.mem_of_getElem? (i := 51) rfl))).trans (hr1 51 (by decide))
      | 11, _ => exact (gen 118 11 52 (sa.2.2.1 (118, (.ofNat 11, []), (.ofNat 0, [(52, .ofNat 1)])) (List.mem_of_getElem? (i := 52) rfl))).trans (hr1 52 (by decide))
      | 12, _ => exact (gen 118 12 53 (sa.2.2.1 (118, (.ofNat 12, []), (.ofNat 0, [(53, .ofNat 1)])) (List.mem_of_getElem? (i := 53) rfl))).trans (hr1 53 (by decide))
      | 13, _ => exact (gen 118 13 54 (sa.2.2.1 (118, (.ofNat 13, []), (.ofNat 0, [(54, .ofNat 1)])) (List.mem_of_getElem? (i := 54) rfl))).trans (hr1 54 (by decide))
      | 14, _ => exact (gen 118 14 55 (sa.2.2.1 (118, (.ofNat 14, []), (.ofNat 0, [(55, .ofNat 1)])) (List.mem_of_getElem? (i := 55) rfl))).trans (hr1 55 (by decide))
      | 15, _ => exact (gen 118 15 56 (sa.2.2.1 (118, (.ofNat 15, []), (.ofNat 0, [(56, .ofNat 1)])) (List.mem_of_getElem? (i := 56) rfl))).trans (hr1 56 (by decide))
      | 16, _ => exact (gen 118 16 57 (sa.2.2.1 (118, (.ofNat 16, []), (.ofNat 0, [(57, .ofNat 1)])) (List.mem_of_getElem? (i := 57) rfl))).trans (hr1 57 (by decide))
      | 17, _ => exact (gen 118 17 58 (sa.2.2.1 (118, (.ofNat 17, []), (.ofNat 0, [(58, .ofNat 1)])) (List.mem_of_getElem? (i := 58) rfl))).trans (hr1 58 (by decide))
      | 18, _ => exact (gen 118 18 59 (sa.2.2.1 (118, (.ofNat 18, []), (.ofNat 0, [(59, .ofNat 1)])) (List.mem_of_getElem? (i := 59) rfl))).trans (hr1 59 (by decide))
      | 19, _ => exact (gen 118 19 60 (sa.2.2.1 (118, (.ofNat 19, []), (.ofNat 0, [(60, .ofNat 1)])) (List.mem_of_getElem? (i := 60) rfl))).trans (hr1 60 (by decide))
      | 20, _ => exact (gen 118 20 61 (sa.2.2.1 (118, (.ofNat 20, []), (.ofNat 0, [(61, .ofNat 1)])) (List.mem_of_getElem? (i := 61) rfl))).trans (hr1 61 (by decide))
      | 21, _ => exact (gen 118 21 62 (sa.2.2.1 (118, (.ofNat 21, []), (.ofNat 0, [(62, .ofNat 1)])) (List.mem_of_getElem? (i := 62) rfl))).trans (hr1 62 (by decide))
      | 22, _ => exact (gen 118 22 63 (sa.2.2.1 (118, (.ofNat 22, []), (.ofNat 0, [(63, .ofNat 1)])) (List.mem_of_getElem? (i := 63) rfl))).trans (hr1 63 (by decide))
      | 23, _ => exact (gen 118 23 64 (sa.2.2.1 (118, (.ofNat 23, []), (.ofNat 0, [(64, .ofNat 1)])) (List.mem_of_getElem? (i := 64) rfl))).trans (hr1 64 (by decide))
      | 24, _ => exact (gen 118 24 65 (sa.2.2.1 (118, (.ofNat 24, []), (.ofNat 0, [(65, .ofNat 1)])) (List.mem_of_getElem? (i := 65) rfl))).trans (hr1 65 (by decide))
      | 25, _ => exact (gen 118 25 66 (sa.2.2.1 (118, (.ofNat 25, []), (.ofNat 0, [(66, .ofNat 1)])) (List.mem_of_getElem? (i := 66) rfl))).trans (hr1 66 (by decide))
      | 26, _ => exact (gen 118 26 67 (sa.2.2.1 (118, (.ofNat 26, []), (.ofNat 0, [(67, .ofNat 1)])) (List.mem_of_getElem? (i := 67) rfl))).trans (hr1 67 (by decide))
      | 27, _ => exact (gen 118 27 68 (sa.2.2.1 (118, (.ofNat 27, []), (.ofNat 0, [(68, .ofNat 1)])) (List.mem_of_getElem? (i := 68) rfl))).trans (hr1 68 (by decide))
      | 28, _ => exact (gen 118 28 69 (sa.2.2.1 (118, (.ofNat 28, []), (.ofNat 0, [(69, .ofNat 1)])) (List.mem_of_getElem? (i := 69) rfl))).trans (hr1 69 (by decide))
      | 29, _ => exact (gen 118 29 70 (sa.2.2.1 (118, (.ofNat 29, []), (.ofNat 0, [(70, .ofNat 1)])) (List.mem_of_getElem? (i := 70) rfl))).trans (hr1 70 (by decide))
      | 30, _ => exact (gen 118 30 71 (sa.2.2.1 (118, (.ofNat 30, []), (.ofNat 0, [(71, .ofNat 1)])) (List.mem_of_getElem? (i := 71) rfl))).trans (hr1 71 (by decide))
      | 31, _ => exact (gen 118 31 72 (sa.2.2.1 (118, (.ofNat 31, []), (.ofNat 0, [(72, .ofNat 1)])) (List.mem_of_getElem? (i := 72) rfl))).trans (hr1 72 (by decide))
      | 32, _ => exact (gen 118 32 73 (sa.2.2.1 (118, (.ofNat 32, []), (.ofNat 0, [(73, .ofNat 1)])) (List.mem_of_getElem? (i := 73) rfl))).trans (hr1 73 (by decide))
      | 33, _ => exact (gen 118 33 74 (sa.2.2.1 (118, (.ofNat 33, []), (.ofNat 0, [(74, .ofNat 1)])) (List.mem_of_getElem? (i := 74) rfl))).trans (hr1 74 (by decide))
      | 34, _ => exact (gen 118 34 75 (sa.2.2.1 (118, (.ofNat 34, []), (.ofNat 0, [(75, .ofNat 1)])) (List.mem_of_getElem? (i := 75) rfl))).trans (hr1 75 (by decide))
      | 35, _ => exact (gen 118 35 76 (sa.2.2.1 (118, (.ofNat 35, []), (.ofNat 0, [(76, .ofNat 1)])) (List.mem_of_getElem? (i := 76) rfl))).trans (hr1 76 (by decide))
      | 36, _ => exact (gen 118 36 77 (sa.2.2.1 (118, (.ofNat 36, []), (.ofNat 0, [(77, .ofNat 1)])) (List.mem_of_getElem? (i := 77) rfl))).trans (hr1 77 (by decide))
      | 37, _ => exact (gen 118 37 78 (sa.2.2.1 (118, (.ofNat 37, []), (.ofNat 0, [(78, .ofNat 1)])) (List.mem_of_getElem? (i := 78) rfl))).trans (hr1 78 (by decide))
      | 38, _ => exact (gen 118 38 79 (sa.2.2.1 (118, (.ofNat 38, []), (.ofNat 0, [(79, .ofNat 1)])) (List.mem_of_getElem? (i := 79) rfl))).trans (hr1 79 (by decide))
      | j + 39, hj => omega
    · exact (gen 117 39 0 (sa.2.2.1 (117, (.ofNat 39, []), (.ofNat 0, [(0, .ofNat 1)])) (List.mem_of_getElem? (i := 80) rfl))).trans (hr1 0 (by decide))
    · exact (gen 118 39 1 (sa.2.2.1 (118, (.ofNat 39, []), (.ofNat 0, [(1, .ofNat 1)])) (List.mem_of_getElem? (i := 81) rfl))).trans (hr1 1 (by decide))
    · intro c j h1 h2
      refine ck_ow_ne ow (fun w hw e3 e4 e5 => ?_)
      rcases List.mem_cons.mp hw with rfl | hw
      · have e3' : 88 = c := e3
        have e4' : ck_ev r1 (.ofNat 42, []) ≤ (j : Int) := e4
        have e5' : (j : Int) < ck_ev r1 (.ofNat 43, []) := e5
        rw [ck_ev_k] at e4' e5'
        have e6 : (42 : Int) ≤ j := e4'
        have e7 : (j : Int) < 43 := e5'
        exact h1 ⟨e3'.symm, Or.inl (by omega)⟩
      rcases List.mem_cons.mp hw with rfl | hw
      · have e3' : 88 = c := e3
        have e4' : ck_ev r1 (.ofNat 43, []) ≤ (j : Int) := e4
        have e5' : (j : Int) < ck_ev r1 (.ofNat 44, []) := e5
        rw [ck_ev_k] at e4' e5'
        have e6 : (43 : Int) ≤ j := e4'
        have e7 : (j : Int) < 44 := e5'
        exact h1 ⟨e3'.symm, Or.inr (by omega)⟩
      rcases List.mem_cons.mp hw with rfl | hw
      · have e3' : 117 = c := e3
        have e5' : (j : Int) < ck_ev r1 (.ofNat 1000000000, []) := e5
        rw [ck_ev_k] at e5'
        have e7 : (j : Int) < 1000000000 := e5'
        exact h2 ⟨Or.inl e3'.symm, by omega⟩
      rcases List.mem_cons.mp hw with rfl | hw
      · have e3' : 118 = c := e3
        have e5' : (j : Int) < ck_ev r1 (.ofNat 1000000000, []) := e5
        rw [ck_ev_k] at e5'
        have e7 : (j : Int) < 1000000000 := e5'
        exact h2 ⟨Or.inr e3'.symm, by omega⟩
      exact absurd hw List.not_mem_nil
  · have a0 : r' 0 = P.toInt := hr' 0 (by decide)
    have a1 : r' 1 = W.toInt := hr' 1 (by decide)
    have a2 : r' 2 = h 117 1 := hr' 2 (by decide)
    have b2 := @ck_dcP h hd 1 (by decide)
    have a3 : r' 3 = h 117 2 := hr' 3 (by decide)
    have b3 := @ck_dcP h hd 2 (by decide)
    have a4 : r' 4 = h 117 3 := hr' 4 (by decide)
    have b4 := @ck_dcP h hd 3 (by decide)
    have a5 : r' 5 = h 117 4 := hr' 5 (by decide)
    have b5 := @ck_dcP h hd 4 (by decide)
    have a6 : r' 6 = h 117 5 := hr' 6 (by decide)
    have b6 := @ck_dcP h hd 5 (by decide)
    have a7 : r' 7 = h 117 6 := hr' 7 (by decide)
    have b7 := @ck_dcP h hd 6 (by decide)
    have a8 : r' 8 = h 117 7 := hr' 8 (by decide)
    have b8 := @ck_dcP h hd 7 (by decide)
    have a9 : r' 9 = h 117 8 := hr' 9 (by decide)
    have b9 := @ck_dcP h hd 8 (by decide)
    have a10 : r' 10 = h 117 9 := hr' 10 (by decide)
    have b10 := @ck_dcP h hd 9 (by decide)
    have a11 : r' 11 = h 117 10 := hr' 11 (by decide)
    have b11 := @ck_dcP h hd 10 (by decide)
    have a12 : r' 12 = h 117 11 := hr' 12 (by decide)
    have b12 := @ck_dcP h hd 11 (by decide)
    have a13 : r' 13 = h 117 12 := hr' 13 (by decide)
    have b13 := @ck_dcP h hd 12 (by decide)
    have a14 : r' 14 = h 117 13 := hr' 14 (by decide)
    have b14 := @ck_dcP h hd 13 (by decide)
    have a15 : r' 15 = h 117 14 := hr' 15 (by decide)
    have b15 := @ck_dcP h hd 14 (by decide)
    have a16 : r' 16 = h 117 15 := hr' 16 (by decide)
    have b16 := @ck_dcP h hd 15 (by decide)
    have a17 : r' 17 = h 117 16 := hr' 17 (by decide)
    have b17 := @ck_dcP h hd 16 (by decide)
    have a18 : r' 18 = h 117 17 := hr' 18 (by decide)
    have b18 := @ck_dcP h hd 17 (by decide)
    have a19 : r' 19 = h 117 18 := hr' 19 (by decide)
    have b19 := @ck_dcP h hd 18 (by decide)
    have a20 : r' 20 = h 117 19 := hr' 20 (by decide)
    have b20 := @ck_dcP h hd 19 (by decide)
    have a21 : r' 21 = h 117 20 := hr' 21 (by decide)
    have b21 := @ck_dcP h hd 20 (by decide)
    have a22 : r' 22 = h 117 21 := hr' 22 (by decide)
    have b22 := @ck_dcP h hd 21 (by decide)
    have a23 : r' 23 = h 117 22 := hr' 23 (by decide)
    have b23 := @ck_dcP h hd 22 (by decide)
    have a24 : r' 24 = h 117 23 := hr' 24 (by decide)
    have b24 := @ck_dcP h hd 23 (by decide)
    have a25 : r' 25 = h 117 24 := hr' 25 (by decide)
    have b25 := @ck_dcP h hd 24 (by decide)
    have a26 : r' 26 = h 117 25 := hr' 26 (by decide)
    have b26 := @ck_dcP h hd 25 (by decide)
    have a27 : r' 27 = h 117 26 := hr' 27 (by decide)
    have b27 := @ck_dcP h hd 26 (by decide)
    have a28 : r' 28 = h 117 27 := hr' 28 (by decide)
    have b28 := @ck_dcP h hd 27 (by decide)
    have a29 : r' 29 = h 117 28 := hr' 29 (by decide)
    have b29 := @ck_dcP h hd 28 (by decide)
    have a30 : r' 30 = h 117 29 := hr' 30 (by decide)
    have b30 := @ck_dcP h hd 29 (by decide)
    have a31 : r' 31 = h 117 30 := hr' 31 (by decide)
    have b31 := @ck_dcP h hd 30 (by decide)
    have a32 : r' 32 = h 117 31 := hr' 32 (by decide)
    have b32 := @ck_dcP h hd 31 (by decide)
    have a33 : r' 33 = h 117 32 := hr' 33 (by decide)
    have b33 := @ck_dcP h hd 32 (by decide)
    have a34 : r' 34 = h 117 33 := hr' 34 (by decide)
    have b34 := @ck_dcP h hd 33 (by decide)
    have a35 : r' 35 = h 117 34 := hr' 35 (by decide)
    have b35 := @ck_dcP h hd 34 (by decide)
    have a36 : r' 36 = h 117 35 := hr' 36 (by decide)
    have b36 := @ck_dcP h hd 35 (by decide)
    have a37 : r' 37 = h 117 36 := hr' 37 (by decide)
    have b37 := @ck_dcP h hd 36 (by decide)
    have a38 : r' 38 = h 117 37 := hr' 38 (by decide)
    have b38 := @ck_dcP h hd 37 (by decide)
    have a39 : r' 39 = h 117 38 := hr' 39 (by decide)
    have b39 := @ck_dcP h hd 38 (by decide)
    have a40 : r' 40 = h 117 39 := hr' 40 (by decide)
    have b40 := @ck_dcP h hd 39 (by decide)
    have a41 : r' 41 = h 118 1 := hr' 41 (by decide)
    have b41 := @ck_dcW h hd 1 (by decide)
    have a42 : r' 42 = h 118 2 := hr' 42 (by decide)
    have b42 := @ck_dcW h hd 2 (by decide)
    have a43 : r' 43 = h 118 3 := hr' 43 (by decide)
    have b43 := @ck_dcW h hd 3 (by decide)
    have a44 : r' 44 = h 118 4 := hr' 44 (by decide)
    have b44 := @ck_dcW h hd 4 (by decide)
    have a45 : r' 45 = h 118 5 := hr' 45 (by decide)
    have b45 := @ck_dcW h hd 5 (by decide)
    have a46 : r' 46 = h 118 6 := hr' 46 (by decide)
    have b46 := @ck_dcW h hd 6 (by decide)
    have a47 : r' 47 = h 118 7 := hr' 47 (by decide)
    have b47 := @ck_dcW h hd 7 (by decide)
    have a48 : r' 48 = h 118 8 := hr' 48 (by decide)
    have b48 := @ck_dcW h hd 8 (by decide)
    have a49 : r' 49 = h 118 9 := hr' 49 (by decide)
    have b49 := @ck_dcW h hd 9 (by decide)
    have a50 : r' 50 = h 118 10 := hr' 50 (by decide)
    have b50 := @ck_dcW h hd 10 (by decide)
    have a51 : r' 51 = h 118 11 := hr' 51 (by decide)
    have b51 := @ck_dcW h hd 11 (by decide)
    have a52 : r' 52 = h 118 12 := hr' 52 (by decide)
    have b52 := @ck_dcW h hd 12 (by decide)
    have a53 : r' 53 = h 118 13 := hr' 53 (by decide)
    have b53 := @ck_dcW h hd 13 (by decide)
    have a54 : r' 54 = h 118 14 := hr' 54 (by decide)
    have b54 := @ck_dcW h hd 14 (by decide)
    have a55 : r' 55 = h 118 15 := hr' 55 (by decide)
    have b55 := @ck_dcW h hd 15 (by decide)
    have a56 : r' 56 = h 118 16 := hr' 56 (by decide)
    have b56 := @ck_dcW h hd 16 (by decide)
    have a57 : r' 57 = h 118 17 := hr' 57 (by decide)
    have b57 := @ck_dcW h hd 17 (by decide)
    have a58 : r' 58 = h 118 18 := hr' 58 (by decide)
    have b58 := @ck_dcW h hd 18 (by decide)
    have a59 : r' 59 = h 118 19 := hr' 59 (by decide)
    have b59 := @ck_dcW h hd 19 (by decide)
    have a60 : r' 60 = h 118 20 := hr' 60 (by decide)
    have b60 := @ck_dcW h hd 20 (by decide)
    have a61 : r' 61 = h 118 21 := hr' 61 (by decide)
    have b61 := @ck_dcW h hd 21 (by decide)
    have a62 : r' 62 = h 118 22 := hr' 62 (by decide)
    have b62 := @ck_dcW h hd 22 (by decide)
    have a63 : r' 63 = h 118 23 := hr' 63 (by decide)
    have b63 := @ck_dcW h hd 23 (by decide)
    have a64 : r' 64 = h 118 24 := hr' 64 (by decide)
    have b64 := @ck_dcW h hd 24 (by decide)
    have a65 : r' 65 = h 118 25 := hr' 65 (by decide)
    have b65 := @ck_dcW h hd 25 (by decide)
    have a66 : r' 66 = h 118 26 := hr' 66 (by decide)
    have b66 := @ck_dcW h hd 26 (by decide)
    have a67 : r' 67 = h 118 27 := hr' 67 (by decide)
    have b67 := @ck_dcW h hd 27 (by decide)
    have a68 : r' 68 = h 118 28 := hr' 68 (by decide)
    have b68 := @ck_dcW h hd 28 (by decide)
    have a69 : r' 69 = h 118 29 := hr' 69 (by decide)
    have b69 := @ck_dcW h hd 29 (by decide)
    have a70 : r' 70 = h 118 30 := hr' 70 (by decide)
    have b70 := @ck_dcW h hd 30 (by decide)
    have a71 : r' 71 = h 118 31 := hr' 71 (by decide)
    have b71 := @ck_dcW h hd 31 (by decide)
    have a72 : r' 72 = h 118 32 := hr' 72 (by decide)
    have b72 := @ck_dcW h hd 32 (by decide)
    have a73 : r' 73 = h 118 33 := hr' 73 (by decide)
    have b73 := @ck_dcW h hd 33 (by decide)
    have a74 : r' 74 = h 118 34 := hr' 74 (by decide)
    have b74 := @ck_dcW h hd 34 (by decide)
    have a75 : r' 75 = h 118 35 := hr' 75 (by decide)
    have b75 := @ck_dcW h hd 35 (by decide)
    have a76 : r' 76 = h 118 36 := hr' 76 (by decide)
    have b76 := @ck_dcW h hd 36 (by decide)
    have a77 : r' 77 = h 118 37 := hr' 77 (by decide)
    have b77 := @ck_dcW h hd 37 (by decide)
    have a78 : r' 78 = h 118 38 := hr' 78 (by decide)
    have b78 := @ck_dcW h hd 38 (by decide)
    have a79 : r' 79 = h 118 39 := hr' 79 (by decide)
    have b79 := @ck_dcW h hd 39 (by decide)
    have os : ∀ c k nm : Nat, h c k = r' nm → 0 ≤ ck_ev r' (Int.ofNat k, []) ∧ h c (ck_ev r' (Int.ofNat k, [])).toNat = ck_ev r' (Int.ofNat 0, [(nm, Int.ofNat 1)]) := by
      intro c k nm e
      rw [ck_ev_k, ck_ev_o]
      exact ⟨Int.natCast_nonneg k, e⟩
    refine ⟨⟨(ck_es_cons (p := (0, .negSucc 0, .ofNat 5)) (by show (-1 : Int) ≤ r' 0 ∧ r' 0 ≤ 5; rw [a0]; exact hP) (ck_es_cons (p := (1, .ofNat 0, .ofNat 7)) (by show (0 : Int) ≤ r' 1 ∧ r' 1 ≤ 7; rw [a1]; exact hW) (ck_es_cons (p := (2, .negSucc 0, .ofNat 5)) (by show (-1 : Int) ≤ r' 2 ∧ r' 2 ≤ 5; rw [a2]; exact b2) (ck_es_cons (p := (3, .negSucc 0, .ofNat 5)) (by show (-1 : Int) ≤ r' 3 ∧ r' 3 ≤ 5; rw [a3]; exact b3) (ck_es_cons (p := (4, .negSucc 0, .ofNat 5)) (by show (-1 : Int) ≤ r' 4 ∧ r' 4 ≤ 5; rw [a4]; exact b4) (ck_es_cons (p := (5, .negSucc 0, .ofNat 5)) (by show (-1 : Int) ≤ r' 5 ∧ r' 5 ≤ 5; rw [a5]; exact b5) (ck_es_cons (p := (6, .negSucc 0, .ofNat 5)) (by show (-1 : Int) ≤ r' 6 ∧ r' 6 ≤ 5; rw [a6]; exact b6) (ck_es_cons (p := (7, .negSucc 0, .ofNat 5)) (by show (-1 : Int) ≤ r' 7 ∧ r' 7 ≤ 5; rw [a7]; exact b7) (ck_es_cons (p := (8, .negSucc 0, .ofNat 5)) (by show (-1 : Int) ≤ r' 8 ∧ r' 8 ≤ 5; rw [a8]; exact b8) (ck_es_cons (p := (9, .negSucc 0, .ofNat 5)) (by show (-1 : Int) ≤ r' 9 ∧ r' 9 ≤ 5; rw [a9]; exact b9) (ck_es_cons (p := (10, .negSucc 0, .ofNat 5)) (by show (-1 : Int) ≤ r' 10 ∧ r' 10 ≤ 5; rw [a10]; exact b10) (ck_es_cons (p := (11, .negSucc 0, .ofNat 5)) (by show (-1 : Int) ≤ r' 11 ∧ r' 11 ≤ 5; rw [a11]; exact b11) (ck_es_cons (p := (12, .negSucc 0, .ofNat 5)) (by show (-1 : Int) ≤ r' 12 ∧ r' 12 ≤ 5; rw [a12]; exact b12) (ck_es_cons (p := (13, .negSucc 0, .ofNat 5)) (by show (-1 : Int) ≤ r' 13 ∧ r' 13 ≤ 5; rw [a13]; exact b13) (ck_es_cons (p := (14, .negSucc 0, .ofNat 5)) (by show (-1 : Int) ≤ r' 14 ∧ r' 14 ≤ 5; rw [a14]; exact b14) (ck_es_cons (p := (15, .negSucc 0, .ofNat 5)) (by show (-1 : Int) ≤ r' 15 ∧ r' 15 ≤ 5; rw [a15]; exact b15) (ck_es_cons (p := (16, .negSucc 0, .ofNat 5)) (by show (-1 : Int) ≤ r' 16 ∧ r' 16 ≤ 5; rw [a16]; exact b16) (ck_es_cons (p := (17, .negSucc 0, .ofNat 5)) (by show (-1 : Int) ≤ r' 17 ∧ r' 17 ≤ 5; rw [a17]; exact b17) (ck_es_cons (p := (18, .negSucc 0, .ofNat 5)) (by show (-1 : Int) ≤ r' 18 ∧ r' 18 ≤ 5; rw [a18]; exact b18) (ck_es_cons (p := (19, .negSucc 0, .ofNat 5)) (by show (-1 : Int) ≤ r' 19 ∧ r' 19 ≤ 5; rw [a19]; exact b19) (ck_es_cons (p := (20, .negSucc 0, .ofNat 5)) (by show (-1 : Int) ≤ r' 20 ∧ r' 20 ≤ 5; rw [a20]; exact b20) (ck_es_cons (p := (21, .negSucc 0, .ofNat 5)) (by show (-1 : Int) ≤ r' 21 ∧ r' 21 ≤ 5; rw [a21]; exact b21) (ck_es_cons (p := (22, .negSucc 0, .ofNat 5)) (by show (-1 : Int) ≤ r' 22 ∧ r' 22 ≤ 5; rw [a22]; exact b22) (ck_es_cons (p := (23, .negSucc 0, .ofNat 5)) (by show (-1 : Int) ≤ r' 23 ∧ r' 23 ≤ 5; rw [a23]; exact b23) (ck_es_cons (p := (24, .negSucc 0, .ofNat 5)) (by show (-1 : Int) ≤ r' 24 ∧ r' 24 ≤ 5; rw [a24]; exact b24) (ck_es_cons (p := (25, .negSucc 0, .ofNat 5)) (by show (-1 : Int) ≤ r' 25 ∧ r' 25 ≤ 5; rw [a25]; exact b25) (ck_es_cons (p := (26, .negSucc 0, .ofNat 5)) (by show (-1 : Int) ≤ r' 26 ∧ r' 26 ≤ 5; rw [a26]; exact b26) (ck_es_cons (p := (27, .negSucc 0, .ofNat 5)) (by show (-1 : Int) ≤ r' 27 ∧ r' 27 ≤ 5; rw [a27]; exact b27) (ck_es_cons (p := (28, .negSucc 0, .ofNat 5)) (by show (-1 : Int) ≤ r' 28 ∧ r' 28 ≤ 5; rw [a28]; exact b28) (ck_es_cons (p := (29, .negSucc 0, .ofNat 5)) (by show (-1 : Int) ≤ r' 29 ∧ r' 29 ≤ 5; rw [a29]; exact b29) (ck_es_cons (p := (30, .negSucc 0, .ofNat 5)) (by show (-1 : Int) ≤ r' 30 ∧ r' 30 ≤ 5; rw [a30]; exact b30) (ck_es_cons (p := (31, .negSucc 0, .ofNat 5)) (by show (-1 : Int) ≤ r' 31 ∧ r' 31 ≤ 5; rw [a31]; exact b31) (ck_es_cons (p := (32, .negSucc 0, .ofNat 5)) (by show (-1 : Int) ≤ r' 32 ∧ r' 32 ≤ 5; rw [a32]; exact b32) (ck_es_cons (p := (33, .negSucc 0, .ofNat 5)) (by show (-1 : Int) ≤ r' 33 ∧ r' 33 ≤ 5; rw [a33]; exact b33) (ck_es_cons (p := (34, .negSucc 0, .ofNat 5)) (by show (-1 : Int) ≤ r' 34 ∧ r' 34 ≤ 5; rw [a34]; exact b34) (ck_es_cons (p := (35, .negSucc 0, .ofNat 5)) (by show (-1 : Int) ≤ r' 35 ∧ r' 35 ≤ 5; rw [a35]; exact b35) (ck_es_cons (p := (36, .negSucc 0, .ofNat 5)) (by show (-1 : Int) ≤ r' 36 ∧ r' 36 ≤ 5; rw [a36]; exact b36) (ck_es_cons (p := (37, .negSucc 0, .ofNat 5)) (by show (-1 : Int) ≤ r' 37 ∧ r' 37 ≤ 5; rw [a37]; exact b37) (ck_es_cons (p := (38, .negSucc 0, .ofNat 5)) (by show (-1 : Int) ≤ r' 38 ∧ r' 38 ≤ 5; rw [a38]; exact b38) (ck_es_cons (p := (39, .negSucc 0, .ofNat 5)) (by show (-1 : Int) ≤ r' 39 ∧ r' 39 ≤ 5; rw [a39]; exact b39) (ck_es_cons (p := (40, .negSucc 0, .ofNat 5)) (by show (-1 : Int) ≤ r' 40 ∧ r' 40 ≤ 5; rw [a40]; exact b40) (ck_es_cons (p := (41, .ofNat 0, .ofNat 7)) (by show (0 : Int) ≤ r' 41 ∧ r' 41 ≤ 7; rw [a41]; exact b41) (ck_es_cons (p := (42, .ofNat 0, .ofNat 7)) (by show (0 : Int) ≤ r' 42 ∧ r' 42 ≤ 7; rw [a42]; exact b42) (ck_es_cons (p := (43, .ofNat 0, .ofNat 7)) (by show (0 : Int) ≤ r' 43 ∧ r' 43 ≤ 7; rw [a43]; exact b43) (ck_es_cons (p := (44, .ofNat 0, .ofNat 7)) (by show (0 : Int) ≤ r' 44 ∧ r' 44 ≤ 7; rw [a44]; exact b44) (ck_es_cons (p := (45, .ofNat 0, .ofNat 7)) (by show (0 : Int) ≤ r' 45 ∧ r' 45 ≤ 7; rw [a45]; exact b45) (ck_es_cons (p := (46, .ofNat 0, .ofNat 7)) (by show (0 : Int) ≤ r' 46 ∧ r' 46 ≤ 7; rw [a46]; exact b46) (ck_es_cons (p := (47, .ofNat 0, .ofNat 7)) (by show (0 : Int) ≤ r' 47 ∧ r' 47 ≤ 7; rw [a47]; exact b47) (ck_es_cons (p := (48, .ofNat 0, .ofNat 7)) (by show (0 : Int) ≤ r' 48 ∧ r' 48 ≤ 7; rw [a48]; exact b48) (ck_es_cons (p := (49, .ofNat 0, .ofNat 7)) (by show (0 : Int) ≤ r' 49 ∧ r' 49 ≤ 7; rw [a49]; exact b49) (ck_es_cons (p := (50, .ofNat 0, .ofNat 7)) (by show (0 : Int) ≤ r' 50 ∧ r' 50 ≤ 7; rw [a50]; exact b50) (ck_es_cons (p := (51, .ofNat 0, .ofNat 7)) (by show (0 : Int) ≤ r' 51 ∧ r' 51 ≤ 7; rw [a51]; exact b51) (ck_es_cons (p := (52, .ofNat 0, .ofNat 7)) (by show (0 : Int) ≤ r' 52 ∧ r' 52 ≤ 7; rw [a52]; exact b52) (ck_es_cons (p := (53, .ofNat 0, .ofNat 7)) (by show (0 : Int) ≤ r' 53 ∧ r' 53 ≤ 7; rw [a53]; exact b53) (ck_es_cons (p := (54, .ofNat 0, .ofNat 7)) (by show (0 : Int) ≤ r' 54 ∧ r' 54 ≤ 7; rw [a54]; exact b54) (ck_es_cons (p := (55, .ofNat 0, .ofNat 7)) (by show (0 : Int) ≤ r' 55 ∧ r' 55 ≤ 7; rw [a55]; exact b55) (ck_es_cons (p := (56, .ofNat 0, .ofNat 7)) (by show (0 : Int) ≤ r' 56 ∧ r' 56 ≤ 7; rw [a56]; exact b56) (ck_es_cons (p := (57, .ofNat 0, .ofNat 7)) (by show (0 : Int) ≤ r' 57 ∧ r' 57 ≤ 7; rw [a57]; exact b57) (ck_es_cons (p := (58, .ofNat 0, .ofNat 7)) (by show (0 : Int) ≤ r' 58 ∧ r' 58 ≤ 7; rw [a58]; exact b58) (ck_es_cons (p := (59, .ofNat 0, .ofNat 7)) (by show (0 : Int) ≤ r' 59 ∧ r' 59 ≤ 7; rw [a59]; exact b59) (ck_es_cons (p := (60, .ofNat 0, .ofNat 7)) (by show (0 : Int) ≤ r' 60 ∧ r' 60 ≤ 7; rw [a60]; exact b60) (ck_es_cons (p := (61, .ofNat 0, .ofNat 7)) (by show (0 : Int) ≤ r' 61 ∧ r' 61 ≤ 7; rw [a61]; exact b61) (ck_es_cons (p := (62, .ofNat 0, .ofNat 7)) (by show (0 : Int) ≤ r' 62 ∧ r' 62 ≤ 7; rw [a62]; exact b62) (ck_es_cons (p := (63, .ofNat 0, .ofNat 7)) (by show (0 : Int) ≤ r' 63 ∧ r' 63 ≤ 7; rw [a63]; exact b63) (ck_es_cons (p := (64, .ofNat 0, .ofNat 7)) (by show (0 : Int) ≤ r' 64 ∧ r' 64 ≤ 7; rw [a64]; exact b64) (ck_es_cons (p := (65, .ofNat 0, .ofNat 7)) (by show (0 : Int) ≤ r' 65 ∧ r' 65 ≤ 7; rw [a65]; exact b65) (ck_es_cons (p := (66, .ofNat 0, .ofNat 7)) (by show (0 : Int) ≤ r' 66 ∧ r' 66 ≤ 7; rw [a66]; exact b66) (ck_es_cons (p := (67, .ofNat 0, .ofNat 7)) (by show (0 : Int) ≤ r' 67 ∧ r' 67 ≤ 7; rw [a67]; exact b67) (ck_es_cons (p := (68, .ofNat 0, .ofNat 7)) (by show (0 : Int) ≤ r' 68 ∧ r' 68 ≤ 7; rw [a68]; exact b68) (ck_es_cons (p := (69, .ofNat 0, .ofNat 7)) (by show (0 : Int) ≤ r' 69 ∧ r' 69 ≤ 7; rw [a69]; exact b69) (ck_es_cons (p := (70, .ofNat 0, .ofNat 7)) (by show (0 : Int) ≤ r' 70 ∧ r' 70 ≤ 7; rw [a70]; exact b70) (ck_es_cons (p := (71, .ofNat 0, .ofNat 7)) (by show (0 : Int) ≤ r' 71 ∧ r' 71 ≤ 7; rw [a71]; exact b71) (ck_es_cons (p := (72, .ofNat 0, .ofNat 7)) (by show (0 : Int) ≤ r' 72 ∧ r' 72 ≤ 7; rw [a72]; exact b72) (ck_es_cons (p := (73, .ofNat 0, .ofNat 7)) (by show (0 : Int) ≤ r' 73 ∧ r' 73 ≤ 7; rw [a73]; exact b73) (ck_es_cons (p := (74, .ofNat 0, .ofNat 7)) (by show (0 : Int) ≤ r' 74 ∧ r' 74 ≤ 7; rw [a74]; exact b74) (ck_es_cons (p := (75, .ofNat 0, .ofNat 7)) (by show (0 : Int) ≤ r' 75 ∧ r' 75 ≤ 7; rw [a75]; exact b75) (ck_es_cons (p := (76, .ofNat 0, .ofNat 7)) (by show (0 : Int) ≤ r' 76 ∧ r' 76 ≤ 7; rw [a76]; exact b76) (ck_es_cons (p := (77, .ofNat 0, .ofNat 7)) (by show (0 : Int) ≤ r' 77 ∧ r' 77 ≤ 7; rw [a77]; exact b77) (ck_es_cons (p := (78, .ofNat 0, .ofNat 7)) (by show (0 : Int) ≤ r' 78 ∧ r' 78 ≤ 7; rw [a78]; exact b78) (ck_es_cons (p := (79, .ofNat 0, .ofNat 7)) (by show (0 : Int) ≤ r' 79 ∧ r' 79 ≤ 7; rw [a79]; exact b79) ck_es_nil)))))))))))))))))))))))))))))))))))))))))))))))))))))))))))))))))))))))))))))))), ck_ks_nil, ck_os_cons (by
      show 0 ≤ ck_ev r' (.ofNat 42, []) ∧ h 88 (ck_ev r' (.ofNat 42, [])).toNat = ck_ev r' (.ofNat 40, [])
      rw [ck_ev_k, ck_ev_k]
      exact ⟨by decide, hn⟩) (ck_os_cons (o := (117, (.ofNat 1, []), (.ofNat 0, [(2, .ofNat 1)]))) (os 117 1 2 a2.symm) (ck_os_cons (o := (117, (.ofNat 2, []), (.ofNat 0, [(3, .ofNat 1)]))) (os 117 2 3 a3.symm) (ck_os_cons (o := (117, (.ofNat 3, []), (.ofNat 0, [(4, .ofNat 1)]))) (os 117 3 4 a4.symm) (ck_os_cons (o := (117, (.ofNat 4, []), (.ofNat 0, [(5, .ofNat 1)]))) (os 117 4 5 a5.symm) (ck_os_cons (o := (117, (.ofNat 5, []), (.ofNat 0, [(6, .ofNat 1)]))) (os 117 5 6 a6.symm) (ck_os_cons (o := (117, (.ofNat 6, []), (.ofNat 0, [(7, .ofNat 1)]))) (os 117 6 7 a7.symm) (ck_os_cons (o := (117, (.ofNat 7, []), (.ofNat 0, [(8, .ofNat 1)]))) (os 117 7 8 a8.symm) (ck_os_cons (o := (117, (.ofNat 8, []), (.ofNat 0, [(9, .ofNat 1)]))) (os 117 8 9 a9.symm) (ck_os_cons (o := (117, (.ofNat 9, []), (.ofNat 0, [(10, .ofNat 1)]))) (os 117 9 10 a10.symm) (ck_os_cons (o := (117, (.ofNat 10, []), (.ofNat 0, [(11, .ofNat 1)]))) (os 117 10 11 a11.symm) (ck_os_cons (o := (117, (.ofNat 11, []), (.ofNat 0, [(12, .ofNat 1)]))) (os 117 11 12 a12.symm) (ck_os_cons (o := (117, (.ofNat 12, []), (.ofNat 0, [(13, .ofNat 1)]))) (os 117 12 13 a13.symm) (ck_os_cons (o := (117, (.ofNat 13, []), (.ofNat 0, [(14, .ofNat 1)]))) (os 117 13 14 a14.symm) (ck_os_cons (o := (117, (.ofNat 14, []), (.ofNat 0, [(15, .ofNat 1)]))) (os 117 14 15 a15.symm) (ck_os_cons (o := (117, (.ofNat 15, []), (.ofNat 0, [(16, .ofNat 1)]))) (os 117 15 16 a16.symm) (ck_os_cons (o := (117, (.ofNat 16, []), (.ofNat 0, [(17, .ofNat 1)]))) (os 117 16 17 a17.symm) (ck_os_cons (o := (117, (.ofNat 17, []), (.ofNat 0, [(18, .ofNat 1)]))) (os 117 17 18 a18.symm) (ck_os_cons (o := (117, (.ofNat 18, []), (.ofNat 0, [(19, .ofNat 1)]))) (os 117 18 19 a19.symm) (ck_os_cons (o := (117, (.ofNat 19, []), (.ofNat 0, [(20, .ofNat 1)]))) (os 117 19 20 a20.symm) (ck_os_cons (o := (117, (.ofNat 20, []), (.ofNat 0, [(21, .ofNat 1)]))) (os 117 20 21 a21.symm) (ck_os_cons (o := (117, (.ofNat 21, []), (.ofNat 0, [(22, .ofNat 1)]))) (os 117 21 22 a22.symm) (ck_os_cons (o := (117, (.ofNat 22, []), (.ofNat 0, [(23, .ofNat 1)]))) (os 117 22 23 a23.symm) (ck_os_cons (o := (117, (.ofNat 23, []), (.ofNat 0, [(24, .ofNat 1)]))) (os 117 23 24 a24.symm) (ck_os_cons (o := (117, (.ofNat 24, []), (.ofNat 0, [(25, .ofNat 1)]))) (os 117 24 25 a25.symm) (ck_os_cons (o := (117, (.ofNat 25, []), (.ofNat 0, [(26, .ofNat 1)]))) (os 117 25 26 a26.symm) (ck_os_cons (o := (117, (.ofNat 26, []), (.ofNat 0, [(27, .ofNat 1)]))) (os 117 26 27 a27.symm) (ck_os_cons (o := (117, (.ofNat 27, []), (.ofNat 0, [(28, .ofNat 1)]))) (os 117 27 28 a28.symm) (ck_os_cons (o := (117, (.ofNat 28, []), (.ofNat 0, [(29, .ofNat 1)]))) (os 117 28 29 a29.symm) (ck_os_cons (o := (117, (.ofNat 29, []), (.ofNat 0, [(30, .ofNat 1)]))) (os 117 29 30 a30.symm) (ck_os_cons (o := (117, (.ofNat 30, []), (.ofNat 0, [(31, .ofNat 1)]))) (os 117 30 31 a31.symm) (ck_os_cons (o := (117, (.ofNat 31, []), (.ofNat 0, [(32, .ofNat 1)]))) (os 117 31 32 a32.symm) (ck_os_cons (o := (117, (.ofNat 32, []), (.ofNat 0, [(33, .ofNat 1)]))) (os 117 32 33 a33.symm) (ck_os_cons (o := (117, (.ofNat 33, []), (.ofNat 0, [(34, .ofNat 1)]))) (os 117 33 34 a34.symm) (ck_os_cons (o := (117, (.ofNat 34, []), (.ofNat 0, [(35, .ofNat 1)]))) (os 117 34 35 a35.symm) (ck_os_cons (o := (117, (.ofNat 35, []), (.ofNat 0, [(36, .ofNat 1)]))) (os 117 35 36 a36.symm) (ck_os_cons (o := (117, (.ofNat 36, []), (.ofNat 0, [(37, .ofNat 1)]))) (os 117 36 37 a37.symm) (ck_os_cons (o := (117, (.ofNat 37, []), (.ofNat 0, [(38, .ofNat 1)]))) (os 117 37 38 a38.symm) (ck_os_cons (o := (117, (.ofNat 38, []), (.ofNat 0, [(39, .ofNat 1)]))) (os 117 38 39 a39.symm) (ck_os_cons (o := (117, (.ofNat 39, []), (.ofNat 0, [(40, .ofNat 1)]))) (os 117 39 40 a40.symm) (ck_os_cons (o := (118, (.ofNat 1, []), (.ofNat 0, [(41, .ofNat 1)]))) (os 118 1 41 a41.symm) (ck_os_cons (o := (118, (.ofNat 2, []), (.ofNat 0, [(42, .ofNat 1)]))) (os 118 2 42 a42.symm) (ck_os_cons (o := (118, (.ofNat 3, []), (.ofNat 0, [(43, .ofNat 1)]))) (os 118 3 43 a43.symm) (ck_os_cons (o := (118, (.ofNat 4, []), (.ofNat 0, [(44, .ofNat 1)]))) (os 118 4 44 a44.symm) (ck_os_cons (o := (118, (.ofNat 5, []), (.ofNat 0, [(45, .ofNat 1)]))) (os 118 5 45 a45.symm) (ck_os_cons (o := (118, (.ofNat 6, []), (.ofNat 0, [(46, .ofNat 1)]))) (os 118 6 46 a46.symm) (ck_os_cons (o := (118, (.ofNat 7, []), (.ofNat 0, [(47, .ofNat 1)]))) (os 118 7 47 a47.symm) (ck_os_cons (o := (118, (.ofNat 8, []), (.ofNat 0, [(48, .ofNat 1)]))) (os 118 8 48 a48.symm) (ck_os_cons (o := (118, (.ofNat 9, []), (.ofNat 0, [(49, .ofNat 1)]))) (os 118 9 49 a49.symm) (ck_os_cons (o := (118, (.ofNat 10, []), (.ofNat 0, [(50, .ofNat 1)]))) (os 118 10 50 a50.symm) (ck_os_cons (o := (118, (.ofNat 11, []), (.ofNat 0, [(51, .ofNat 1)]))) (os 118 11 51 a51.symm) (ck_os_cons (o := (118, (.ofNat 12, []), (.ofNat 0, [(52, .ofNat 1)]))) (os 118 12 52 a52.symm) (ck_os_cons (o := (118, (.ofNat 13, []), (.ofNat 0, [(53, .ofNat 1)]))) (os 118 13 53 a53.symm) (ck_os_cons (o := (118, (.ofNat 14, []), (.ofNat 0, [(54, .ofNat 1)]))) (os 118 14 54 a54.symm) (ck_os_cons (o := (118, (.ofNat 15, []), (.ofNat 0, [(55, .ofNat 1)]))) (os 118 15 55 a55.symm) (ck_os_cons (o := (118, (.ofNat 16, []), (.ofNat 0, [(56, .ofNat 1)]))) (os 118 16 56 a56.symm) (ck_os_cons (o := (118, (.ofNat 17, []), (.ofNat 0, [(57, .ofNat 1)]))) (os 118 17 57 a57.symm) (ck_os_cons (o := (118, (.ofNat 18, []), (.ofNat 0, [(58, .ofNat 1)]))) (os 118 18 58 a58.symm) (ck_os_cons (o := (118, (.ofNat 19, []), (.ofNat 0, [(59, .ofNat 1)]))) (os 118 19 59 a59.symm) (ck_os_cons (o := (118, (.ofNat 20, []), (.ofNat 0, [(60, .ofNat 1)]))) (os 118 20 60 a60.symm) (ck_os_cons (o := (118, (.ofNat 21, []), (.ofNat 0, [(61, .ofNat 1)]))) (os 118 21 61 a61.symm) (ck_os_cons (o := (118, (.ofNat 22, []), (.ofNat 0, [(62, .ofNat 1)]))) (os 118 22 62 a62.symm) (ck_os_cons (o := (118, (.ofNat 23, []), (.ofNat 0, [(63, .ofNat 1)]))) (os 118 23 63 a63.symm) (ck_os_cons (o := (118, (.ofNat 24, []), (.ofNat 0, [(64, .ofNat 1)]))) (os 118 24 64 a64.symm) (ck_os_cons (o := (118, (.ofNat 25, []), (.ofNat 0, [(65, .ofNat 1)]))) (os 118 25 65 a65.symm) (ck_os_cons (o := (118, (.ofNat 26, []), (.ofNat 0, [(66, .ofNat 1)]))) (os 118 26 66 a66.symm) (ck_os_cons (o := (118, (.ofNat 27, []), (.ofNat 0, [(67, .ofNat 1)]))) (os 118 27 67 a67.symm) (ck_os_cons (o := (118, (.ofNat 28, []), (.ofNat 0, [(68, .ofNat 1)]))) (os 118 28 68 a68.symm) (ck_os_cons (o := (118, (.ofNat 29, []), (.ofNat 0, [(69, .ofNat 1)]))) (os 118 29 69 a69.symm) (ck_os_cons (o := (118, (.ofNat 30, []), (.ofNat 0, [(70, .ofNat 1)]))) (os 118 30 70 a70.symm) (ck_os_cons (o := (118, (.ofNat 31, []), (.ofNat 0, [(71, .ofNat 1)]))) (os 118 31 71 a71.symm) (ck_os_cons (o := (118, (.ofNat 32, []), (.ofNat 0, [(72, .ofNat 1)]))) (os 118 32 72 a72.symm) (ck_os_cons (o := (118, (.ofNat 33, []), (.ofNat 0, [(73, .ofNat 1)]))) (os 118 33 73 a73.symm) (ck_os_cons (o := (118, (.ofNat 34, []), (.ofNat 0, [(74, .ofNat 1)]))) (os 118 34 74 a74.symm) (ck_os_cons (o := (118, (.ofNat 35, []), (.ofNat 0, [(75, .ofNat 1)]))) (os 118 35 75 a75.symm) (ck_os_cons (o := (118, (.ofNat 36, []), (.ofNat 0, [(76, .ofNat 1)]))) (os 118 36 76 a76.symm) (ck_os_cons (o := (118, (.ofNat 37, []), (.ofNat 0, [(77, .ofNat 1)]))) (os 118 37 77 a77.symm) (ck_os_cons (o := (118, (.ofNat 38, []), (.ofNat 0, [(78, .ofNat 1)]))) (os 118 38 78 a78.symm) (ck_os_cons (o := (118, (.ofNat 39, []), (.ofNat 0, [(79, .ofNat 1)]))) (os 118 39 79 a79.symm) ck_os_nil)))))))))))))))))))))))))))))))))))))))))))))))))))))))))))))))))))))))))))))), ck_fts_nil⟩, ⟨88, rfl, (ck_ev_k r' 88).symm⟩, ⟨P, rfl, by rw [ck_ev_o, a0]⟩, ⟨W, rfl, by rw [ck_ev_o, a1]⟩, trivial⟩
theorem hd_u0 {h : pm_Hp} (hd : ck_dec h) (hn : h 88 42 = 0) : pm_Cd 1 223 [.ref 88] h (fun rv h' => ck_dec h' ∧ (∃ x : Int32, rv = some (.int x) ∧ x.toInt = 0) ∧ ∀ c j : Nat, True → h' c j = h c j) := by
  refine pm_Cd_mono _ _ _ _ _ _ ?_ (ckco_2 (fun i => match i with
    | _ => 0) [.ref 88] h hd (fun r' hr' => ?_))
  · intro rv h' hq
    obtain ⟨hd', p, hp, r1, hr1, hall⟩ := hq
    have hp' := List.mem_singleton.mp hp
    subst hp'
    obtain ⟨sa, ss, ow⟩ := hall r1 (fun _ _ => rfl)
    refine ⟨hd', ?_, ?_⟩
    · match rv, ss with
      | some v, ss =>
        obtain ⟨⟨x, e1, e2⟩, _⟩ := ss
        have e3 : v = Value.int x := e1
        rw [ck_ev_k] at e2
        exact ⟨x, by rw [e3], e2⟩
      | none, ss => exact ss.elim
    · intro c j h1
      refine ck_ow_ne ow (fun w hw e3 e4 e5 => ?_)
      exact absurd hw List.not_mem_nil
  · skip
    refine ⟨⟨ck_es_nil, ck_ks_nil, (ck_os_cons (o := (88, (.ofNat 42, []), (.ofNat 0, []))) (by
      show 0 ≤ ck_ev r' (.ofNat 42, []) ∧ h 88 (ck_ev r' (.ofNat 42, [])).toNat = ck_ev r' (.ofNat 0, [])
      rw [ck_ev_k, ck_ev_k]
      exact ⟨by decide, hn⟩) ck_os_nil), ck_fts_nil⟩, ⟨88, rfl, (ck_ev_k r' 88).symm⟩, trivial⟩
theorem hd_r0 {h : pm_Hp} (hd : ck_dec h) (hn : h 88 43 = 0) : pm_Cd 1 205 [.ref 88] h (fun rv h' => ck_dec h' ∧ (∃ x : Int32, rv = some (.int x) ∧ x.toInt = 0) ∧ ∀ c j : Nat, True → h' c j = h c j) := by
  refine pm_Cd_mono _ _ _ _ _ _ ?_ (ckco_3 (fun i => match i with
    | _ => 0) [.ref 88] h hd (fun r' hr' => ?_))
  · intro rv h' hq
    obtain ⟨hd', p, hp, r1, hr1, hall⟩ := hq
    have hp' := List.mem_singleton.mp hp
    subst hp'
    obtain ⟨sa, ss, ow⟩ := hall r1 (fun _ _ => rfl)
    refine ⟨hd', ?_, ?_⟩
    · match rv, ss with
      | some v, ss =>
        obtain ⟨⟨x, e1, e2⟩, _⟩ := ss
        have e3 : v = Value.int x := e1
        rw [ck_ev_k] at e2
        exact ⟨x, by rw [e3], e2⟩
      | none, ss => exact ss.elim
    · intro c j h1
      refine ck_ow_ne ow (fun w hw e3 e4 e5 => ?_)
      exact absurd hw List.not_mem_nil
  · skip
    refine ⟨⟨ck_es_nil, ck_ks_nil, (ck_os_cons (o := (88, (.ofNat 43, []), (.ofNat 0, []))) (by
      show 0 ≤ ck_ev r' (.ofNat 43, []) ∧ h 88 (ck_ev r' (.ofNat 43, [])).toNat = ck_ev r' (.ofNat 0, [])
      rw [ck_ev_k, ck_ev_k]
      exact ⟨by decide, hn⟩) ck_os_nil), ck_fts_nil⟩, ⟨88, rfl, (ck_ev_k r' 88).symm⟩, trivial⟩
theorem hd_uw {h : pm_Hp} (hd : ck_dec h) {n u a : Nat} (hn : h 88 42 = (n : Int) + 1) (hn2 : n ≤ 39) (hu : h 88 43 = (u : Int)) (hu2 : u ≤ 39) (ha : h 88 39 = (a : Int) + 1) (ha2 : a ≤ 5) (hp0 : h 117 n = -1) : pm_Cd 2 223 [.ref 88] h (fun rv h' => ck_dec h' ∧ (∃ x : Int32, rv = some (.int x) ∧ x.toInt = 1) ∧ h' 88 42 = (n : Int) ∧ h' 88 43 = (u : Int) + 1 ∧ h' 88 39 = (a : Int) ∧ ∀ c j : Nat, ¬ (c = 88 ∧ (j = 39 ∨ j = 42 ∨ j = 43)) → h' c j = h c j) := by
  refine pm_Cd_mono _ _ _ _ _ _ ?_ (ckco_4 (fun i => match i with
    | 0 => ((n : Int) + 1)
    | 1 => (u : Int)
    | _ => ((a : Int) + 1)) [.ref 88] h hd (fun r' hr' => ?_))
  · intro rv h' hq
    obtain ⟨hd', p, hp, r1, hr1, hall⟩ := hq
    have hp' := List.mem_singleton.mp hp
    subst hp'
    obtain ⟨sa, ss, ow⟩ := hall r1 (fun _ _ => rfl)
    have w0 : r1 0 = ((n : Int) + 1) := hr1 0 (by decide)
    have w1 : r1 1 = (u : Int) := hr1 1 (by decide)
    have w2 : r1 2 = ((a : Int) + 1) := hr1 2 (by decide)
    have o0 : 0 ≤ ck_ev r1 (.ofNat 42, []) ∧ h' 88 (ck_ev r1 (.ofNat 42, [])).toNat = ck_ev r1 (.negSucc 0, [(0, .ofNat 1)]) := sa.2.2.1 (88, (.ofNat 42, []), (.negSucc 0, [(0, .ofNat 1)])) (List.mem_of_getElem? (i := 0) rfl)
    rw [ck_ev_k, ck_ev_c] at o0
    have o1 : 0 ≤ ck_ev r1 (.ofNat 43, []) ∧ h' 88 (ck_ev r1 (.ofNat 43, [])).toNat = ck_ev r1 (.ofNat 1, [(1, .ofNat 1)]) := sa.2.2.1 (88, (.ofNat 43, []), (.ofNat 1, [(1, .ofNat 1)])) (List.mem_of_getElem? (i := 1) rfl)
    rw [ck_ev_k, ck_ev_c] at o1
    have o2 : 0 ≤ ck_ev r1 (.ofNat 39, []) ∧ h' 88 (ck_ev r1 (.ofNat 39, [])).toNat = ck_ev r1 (.negSucc 0, [(2, .ofNat 1)]) := sa.2.2.1 (88, (.ofNat 39, []), (.negSucc 0, [(2, .ofNat 1)])) (List.mem_of_getElem? (i := 2) rfl)
    rw [ck_ev_k, ck_ev_c] at o2
    refine ⟨hd', ?_, ?_, ?_, ?_, ?_⟩
    · match rv, ss with
      | some v, ss =>
        obtain ⟨⟨x, e1, e2⟩, _⟩ := ss
        have e3 : v = Value.int x := e1
        rw [ck_ev_k] at e2
        exact ⟨x, by rw [e3], e2⟩
      | none, ss => exact ss.elim
    · have q : h' 88 42 = -1 + r1 0 := o0.2
      omega
    · have q : h' 88 43 = 1 + r1 1 := o1.2
      omega
    · have q : h' 88 39 = -1 + r1 2 := o2.2
      omega
    · intro c j h1
      refine ck_ow_ne ow (fun w hw e3 e4 e5 => ?_)
      rcases List.mem_cons.mp hw with rfl | hw
      · have e3' : 88 = c := e3
        have e4' : ck_ev r1 (.ofNat 39, []) ≤ (j : Int) := e4
        have e5' : (j : Int) < ck_ev r1 (.ofNat 40, []) := e5
        rw [ck_ev_k] at e4'
        rw [ck_ev_k] at e5'
        have e6 : (39 : Int) ≤ j := e4'
        have e7 : (j : Int) < 40 := e5'
        exact h1 ⟨e3'.symm, by omega⟩
      rcases List.mem_cons.mp hw with rfl | hw
      · have e3' : 88 = c := e3
        have e4' : ck_ev r1 (.ofNat 42, []) ≤ (j : Int) := e4
        have e5' : (j : Int) < ck_ev r1 (.ofNat 43, []) := e5
        rw [ck_ev_k] at e4'
        rw [ck_ev_k] at e5'
        have e6 : (42 : Int) ≤ j := e4'
        have e7 : (j : Int) < 43 := e5'
        exact h1 ⟨e3'.symm, by omega⟩
      rcases List.mem_cons.mp hw with rfl | hw
      · have e3' : 88 = c := e3
        have e4' : ck_ev r1 (.ofNat 43, []) ≤ (j : Int) := e4
        have e5' : (j : Int) < ck_ev r1 (.ofNat 44, []) := e5
        rw [ck_ev_k] at e4'
        rw [ck_ev_k] at e5'
        have e6 : (43 : Int) ≤ j := e4'
        have e7 : (j : Int) < 44 := e5'
        exact h1 ⟨e3'.symm, by omega⟩
      exact absurd hw List.not_mem_nil
  · have a0 : r' 0 = ((n : Int) + 1) := hr' 0 (by decide)
    have a1 : r' 1 = (u : Int) := hr' 1 (by decide)
    have a2 : r' 2 = ((a : Int) + 1) := hr' 2 (by decide)
    refine ⟨⟨(ck_es_cons (p := (0, .ofNat 1, .ofNat 40)) (by show (1 : Int) ≤ r' 0 ∧ r' 0 ≤ 40; have q := a0; omega) (ck_es_cons (p := (1, .ofNat 0, .ofNat 39)) (by show (0 : Int) ≤ r' 1 ∧ r' 1 ≤ 39; have q := a1; omega) (ck_es_cons (p := (2, .ofNat 1, .ofNat 6)) (by show (1 : Int) ≤ r' 2 ∧ r' 2 ≤ 6; have q := a2; omega) ck_es_nil))), ck_ks_nil, (ck_os_cons (o := (88, (.ofNat 42, []), (.ofNat 0, [(0, .ofNat 1)]))) (by
      show 0 ≤ ck_ev r' (.ofNat 42, []) ∧ h 88 (ck_ev r' (.ofNat 42, [])).toNat = ck_ev r' (.ofNat 0, [(0, .ofNat 1)])
      rw [ck_ev_k, ck_ev_c, a0]
      exact ⟨by decide, by show h 88 42 = 0 + _; omega⟩) (ck_os_cons (o := (88, (.ofNat 43, []), (.ofNat 0, [(1, .ofNat 1)]))) (by
      show 0 ≤ ck_ev r' (.ofNat 43, []) ∧ h 88 (ck_ev r' (.ofNat 43, [])).toNat = ck_ev r' (.ofNat 0, [(1, .ofNat 1)])
      rw [ck_ev_k, ck_ev_c, a1]
      exact ⟨by decide, by show h 88 43 = 0 + _; omega⟩) (ck_os_cons (o := (88, (.ofNat 39, []), (.ofNat 0, [(2, .ofNat 1)]))) (by
      show 0 ≤ ck_ev r' (.ofNat 39, []) ∧ h 88 (ck_ev r' (.ofNat 39, [])).toNat = ck_ev r' (.ofNat 0, [(2, .ofNat 1)])
      rw [ck_ev_k, ck_ev_c, a2]
      exact ⟨by decide, by show h 88 39 = 0 + _; omega⟩) (ck_os_cons (o := (117, (.negSucc 0, [(0, .ofNat 1)]), (.negSucc 0, []))) (by
      show 0 ≤ ck_ev r' (.negSucc 0, [(0, .ofNat 1)]) ∧ h 117 (ck_ev r' (.negSucc 0, [(0, .ofNat 1)])).toNat = ck_ev r' (.negSucc 0, [])
      rw [ck_ev_c, a0, ck_ev_k]
      have e : (Int.negSucc 0 + ((n : Int) + 1)) = (n : Int) := by show (-1 : Int) + _ = _; omega
      rw [e, Int.toNat_natCast]
      exact ⟨by omega, hp0⟩) ck_os_nil)))), ck_fts_nil⟩, ⟨88, rfl, (ck_ev_k r' 88).symm⟩, trivial⟩
theorem hd_rw {h : pm_Hp} (hd : ck_dec h) {n u a : Nat} (hn : h 88 42 = (n : Int)) (hn2 : n ≤ 39) (hu : h 88 43 = (u : Int) + 1) (hu2 : u ≤ 39) (ha : h 88 39 = (a : Int)) (ha2 : a ≤ 5) (hp0 : h 117 n = -1) : pm_Cd 2 205 [.ref 88] h (fun rv h' => ck_dec h' ∧ (∃ x : Int32, rv = some (.int x) ∧ x.toInt = 1) ∧ h' 88 42 = (n : Int) + 1 ∧ h' 88 43 = (u : Int) ∧ h' 88 39 = (a : Int) + 1 ∧ ∀ c j : Nat, ¬ ((c = 88 ∧ (j = 39 ∨ j = 42 ∨ j = 43)) ∨ (c = 114 ∧ j < 1000000000)) → h' c j = h c j) := by
  refine pm_Cd_mono _ _ _ _ _ _ ?_ (ckco_6 (fun i => match i with
    | 0 => (n : Int)
    | 1 => ((u : Int) + 1)
    | _ => (a : Int)) [.ref 88] h hd (fun r' hr' => ?_))
  · intro rv h' hq
    obtain ⟨hd', p, hp, r1, hr1, hall⟩ := hq
    have hp' := List.mem_singleton.mp hp
    subst hp'
    obtain ⟨sa, ss, ow⟩ := hall r1 (fun _ _ => rfl)
    have w0 : r1 0 = (n : Int) := hr1 0 (by decide)
    have w1 : r1 1 = ((u : Int) + 1) := hr1 1 (by decide)
    have w2 : r1 2 = (a : Int) := hr1 2 (by decide)
    have o0 : 0 ≤ ck_ev r1 (.ofNat 42, []) ∧ h' 88 (ck_ev r1 (.ofNat 42, [])).toNat = ck_ev r1 (.ofNat 1, [(0, .ofNat 1)]) := sa.2.2.1 (88, (.ofNat 42, []), (.ofNat 1, [(0, .ofNat 1)])) (List.mem_of_getElem? (i := 0) rfl)
    rw [ck_ev_k, ck_ev_c] at o0
    have o1 : 0 ≤ ck_ev r1 (.ofNat 43, []) ∧ h' 88 (ck_ev r1 (.ofNat 43, [])).toNat = ck_ev r1 (.negSucc 0, [(1, .ofNat 1)]) := sa.2.2.1 (88, (.ofNat 43, []), (.negSucc 0, [(1, .ofNat 1)])) (List.mem_of_getElem? (i := 1) rfl)
    rw [ck_ev_k, ck_ev_c] at o1
    have o2 : 0 ≤ ck_ev r1 (.ofNat 39, []) ∧ h' 88 (ck_ev r1 (.ofNat 39, [])).toNat = ck_ev r1 (.ofNat 1, [(2, .ofNat 1)]) := sa.2.2.1 (88, (.ofNat 39, []), (.ofNat 1, [(2, .ofNat 1)])) (List.mem_of_getElem? (i := 2) rfl)
    rw [ck_ev_k, ck_ev_c] at o2
    refine ⟨hd', ?_, ?_, ?_, ?_, ?_⟩
    · match rv, ss with
      | some v, ss =>
        obtain ⟨⟨x, e1, e2⟩, _⟩ := ss
        have e3 : v = Value.int x := e1
        rw [ck_ev_k] at e2
        exact ⟨x, by rw [e3], e2⟩
      | none, ss => exact ss.elim
    · have q : h' 88 42 = 1 + r1 0 := o0.2
      omega
    · have q : h' 88 43 = -1 + r1 1 := o1.2
      omega
    · have q : h' 88 39 = 1 + r1 2 := o2.2
      omega
    · intro c j h1
      refine ck_ow_ne ow (fun w hw e3 e4 e5 => ?_)
      rcases List.mem_cons.mp hw with rfl | hw
      · have e3' : 88 = c := e3
        have e4' : ck_ev r1 (.ofNat 39, []) ≤ (j : Int) := e4
        have e5' : (j : Int) < ck_ev r1 (.ofNat 40, []) := e5
        rw [ck_ev_k] at e4'
        rw [ck_ev_k] at e5'
        have e6 : (39 : Int) ≤ j := e4'
        have e7 : (j : Int) < 40 := e5'
        exact h1 (Or.inl ⟨e3'.symm, by omega⟩)
      rcases List.mem_cons.mp hw with rfl | hw
      · have e3' : 88 = c := e3
        have e4' : ck_ev r1 (.ofNat 42, []) ≤ (j : Int) := e4
        have e5' : (j : Int) < ck_ev r1 (.ofNat 43, []) := e5
        rw [ck_ev_k] at e4'
        rw [ck_ev_k] at e5'
        have e6 : (42 : Int) ≤ j := e4'
        have e7 : (j : Int) < 43 := e5'
        exact h1 (Or.inl ⟨e3'.symm, by omega⟩)
      rcases List.mem_cons.mp hw with rfl | hw
      · have e3' : 88 = c := e3
        have e4' : ck_ev r1 (.ofNat 43, []) ≤ (j : Int) := e4
        have e5' : (j : Int) < ck_ev r1 (.ofNat 44, []) := e5
        rw [ck_ev_k] at e4'
        rw [ck_ev_k] at e5'
        have e6 : (43 : Int) ≤ j := e4'
        have e7 : (j : Int) < 44 := e5'
        exact h1 (Or.inl ⟨e3'.symm, by omega⟩)
      rcases List.mem_cons.mp hw with rfl | hw
      · have e3' : 114 = c := e3
        have e4' : ck_ev r1 (.ofNat 0, []) ≤ (j : Int) := e4
        have e5' : (j : Int) < ck_ev r1 (.ofNat 1000000000, []) := e5
        rw [ck_ev_k] at e4'
        rw [ck_ev_k] at e5'
        have e6 : (0 : Int) ≤ j := e4'
        have e7 : (j : Int) < 1000000000 := e5'
        exact h1 (Or.inr ⟨e3'.symm, by omega⟩)
      exact absurd hw List.not_mem_nil
  · have a0 : r' 0 = (n : Int) := hr' 0 (by decide)
    have a1 : r' 1 = ((u : Int) + 1) := hr' 1 (by decide)
    have a2 : r' 2 = (a : Int) := hr' 2 (by decide)
    refine ⟨⟨(ck_es_cons (p := (0, .ofNat 0, .ofNat 39)) (by show (0 : Int) ≤ r' 0 ∧ r' 0 ≤ 39; have q := a0; omega) (ck_es_cons (p := (1, .ofNat 1, .ofNat 40)) (by show (1 : Int) ≤ r' 1 ∧ r' 1 ≤ 40; have q := a1; omega) (ck_es_cons (p := (2, .ofNat 0, .ofNat 5)) (by show (0 : Int) ≤ r' 2 ∧ r' 2 ≤ 5; have q := a2; omega) ck_es_nil))), ck_ks_nil, (ck_os_cons (o := (88, (.ofNat 42, []), (.ofNat 0, [(0, .ofNat 1)]))) (by
      show 0 ≤ ck_ev r' (.ofNat 42, []) ∧ h 88 (ck_ev r' (.ofNat 42, [])).toNat = ck_ev r' (.ofNat 0, [(0, .ofNat 1)])
      rw [ck_ev_k, ck_ev_c, a0]
      exact ⟨by decide, by show h 88 42 = 0 + _; omega⟩) (ck_os_cons (o := (88, (.ofNat 43, []), (.ofNat 0, [(1, .ofNat 1)]))) (by
      show 0 ≤ ck_ev r' (.ofNat 43, []) ∧ h 88 (ck_ev r' (.ofNat 43, [])).toNat = ck_ev r' (.ofNat 0, [(1, .ofNat 1)])
      rw [ck_ev_k, ck_ev_c, a1]
      exact ⟨by decide, by show h 88 43 = 0 + _; omega⟩) (ck_os_cons (o := (88, (.ofNat 39, []), (.ofNat 0, [(2, .ofNat 1)]))) (by
      show 0 ≤ ck_ev r' (.ofNat 39, []) ∧ h 88 (ck_ev r' (.ofNat 39, [])).toNat = ck_ev r' (.ofNat 0, [(2, .ofNat 1)])
      rw [ck_ev_k, ck_ev_c, a2]
      exact ⟨by decide, by show h 88 39 = 0 + _; omega⟩) (ck_os_cons (o := (117, (.ofNat 0, [(0, .ofNat 1)]), (.negSucc 0, []))) (by
      show 0 ≤ ck_ev r' (.ofNat 0, [(0, .ofNat 1)]) ∧ h 117 (ck_ev r' (.ofNat 0, [(0, .ofNat 1)])).toNat = ck_ev r' (.negSucc 0, [])
      rw [ck_ev_c, a0, ck_ev_k]
      have e : (Int.ofNat 0 + (n : Int)) = (n : Int) := by show (0 : Int) + _ = _; omega
      rw [e, Int.toNat_natCast]
      exact ⟨by omega, hp0⟩) ck_os_nil)))), ck_fts_nil⟩, ⟨88, rfl, (ck_ev_k r' 88).symm⟩, trivial⟩
theorem hd_ut {h : pm_Hp} (hd : ck_dec h) {n u : Nat} (hn : h 88 42 = ((n : Int) + 1)) (hn2 : n ≤ 39) (hu : h 88 43 = (u : Int)) (hu2 : u ≤ 39) (hp0 : 0 ≤ h 117 n ∧ h 117 n ≤ 5) (hq0 : 0 ≤ h 118 n ∧ h 118 n ≤ 2) : pm_Cd 2 223 [.ref 88] h (fun rv h' => ck_dec h' ∧ (∃ x : Int32, rv = some (.int x) ∧ x.toInt = 1) ∧ h' 88 42 = (n : Int) ∧ h' 88 43 = (u : Int) + 1 ∧ (0 ≤ h' 118 n ∧ h' 118 n ≤ 2) ∧ ∀ c j : Nat, ¬ ((c = 88 ∧ (j = 42 ∨ j = 43)) ∨ (c = 115 ∧ j < 1000000000) ∨ (c = 118 ∧ j = n)) → h' c j = h c j) := by
  refine pm_Cd_mono _ _ _ _ _ _ ?_ (ckco_5 (fun i => match i with
    | 0 => ((n : Int) + 1)
    | 1 => (u : Int)
    | 2 => h 117 n
    | _ => h 118 n) [.ref 88] h hd (fun r' hr' => ?_))
  · intro rv h' hq
    obtain ⟨hd', p, hp, r1, hr1, hall⟩ := hq
    have hp' := List.mem_singleton.mp hp
    subst hp'
    obtain ⟨sa, ss, ow⟩ := hall r1 (fun _ _ => rfl)
    have w0 : r1 0 = ((n : Int) + 1) := hr1 0 (by decide)
    have w1 : r1 1 = (u : Int) := hr1 1 (by decide)
    have w2 : r1 2 = h 117 n := hr1 2 (by decide)
    have w3 : r1 3 = h 118 n := hr1 3 (by decide)
    have o0 : 0 ≤ ck_ev r1 (.ofNat 42, []) ∧ h' 88 (ck_ev r1 (.ofNat 42, [])).toNat = ck_ev r1 (.negSucc 0, [(0, .ofNat 1)]) := sa.2.2.1 (88, (.ofNat 42, []), (.negSucc 0, [(0, .ofNat 1)])) (List.mem_of_getElem? (i := 0) rfl)
    rw [ck_ev_k, ck_ev_c] at o0
    have o1 : 0 ≤ ck_ev r1 (.ofNat 43, []) ∧ h' 88 (ck_ev r1 (.ofNat 43, [])).toNat = ck_ev r1 (.ofNat 1, [(1, .ofNat 1)]) := sa.2.2.1 (88, (.ofNat 43, []), (.ofNat 1, [(1, .ofNat 1)])) (List.mem_of_getElem? (i := 1) rfl)
    rw [ck_ev_k, ck_ev_c] at o1
    have o2 : 0 ≤ ck_ev r1 (.negSucc 0, [(0, .ofNat 1)]) ∧ h' 118 (ck_ev r1 (.negSucc 0, [(0, .ofNat 1)])).toNat = ck_ev r1 (.ofNat 0, [(4, .ofNat 1)]) := sa.2.2.1 (118, (.negSucc 0, [(0, .ofNat 1)]), (.ofNat 0, [(4, .ofNat 1)])) (List.mem_of_getElem? (i := 2) rfl)
    rw [ck_ev_c, ck_ev_c] at o2
    have n4 : (0 : Int) ≤ r1 4 ∧ r1 4 ≤ 2 := sa.1 (4, .ofNat 0, .ofNat 2) (List.mem_of_getElem? (i := 0) rfl)
    refine ⟨hd', ?_, ?_, ?_, ?_, ?_⟩
    · match rv, ss with
      | some v, ss =>
        obtain ⟨⟨x, e1, e2⟩, _⟩ := ss
        have e3 : v = Value.int x := e1
        rw [ck_ev_k] at e2
        exact ⟨x, by rw [e3], e2⟩
      | none, ss => exact ss.elim
    · have q : h' 88 42 = -1 + r1 0 := o0.2
      omega
    · have q : h' 88 43 = 1 + r1 1 := o1.2
      omega
    · have q : h' 118 ((-1 : Int) + r1 0).toNat = 0 + r1 4 := o2.2
      have e : ((-1 : Int) + r1 0).toNat = n := by omega
      rw [e] at q
      omega
    · intro c j h1
      refine ck_ow_ne ow (fun w hw e3 e4 e5 => ?_)
      rcases List.mem_cons.mp hw with rfl | hw
      · have e3' : 88 = c := e3
        have e4' : ck_ev r1 (.ofNat 42, []) ≤ (j : Int) := e4
        have e5' : (j : Int) < ck_ev r1 (.ofNat 43, []) := e5
        rw [ck_ev_k] at e4'
        rw [ck_ev_k] at e5'
        have e6 : (42 : Int) ≤ j := e4'
        have e7 : (j : Int) < 43 := e5'
        exact h1 (Or.inl ⟨e3'.symm, by omega⟩)
      rcases List.mem_cons.mp hw with rfl | hw
      · have e3' : 88 = c := e3
        have e4' : ck_ev r1 (.ofNat 43, []) ≤ (j : Int) := e4
        have e5' : (j : Int) < ck_ev r1 (.ofNat 44, []) := e5
        rw [ck_ev_k] at e4'
        rw [ck_ev_k] at e5'
        have e6 : (43 : Int) ≤ j := e4'
        have e7 : (j : Int) < 44 := e5'
        exact h1 (Or.inl ⟨e3'.symm, by omega⟩)
      rcases List.mem_cons.mp hw with rfl | hw
      · have e3' : 115 = c := e3
        have e4' : ck_ev r1 (.ofNat 0, []) ≤ (j : Int) := e4
        have e5' : (j : Int) < ck_ev r1 (.ofNat 1000000000, []) := e5
        rw [ck_ev_k] at e4'
        rw [ck_ev_k] at e5'
        have e6 : (0 : Int) ≤ j := e4'
        have e7 : (j : Int) < 1000000000 := e5'
        exact h1 (Or.inr (Or.inl ⟨e3'.symm, by omega⟩))
      rcases List.mem_cons.mp hw with rfl | hw
      · have e3' : 118 = c := e3
        have e4' : ck_ev r1 (.negSucc 0, [(0, .ofNat 1)]) ≤ (j : Int) := e4
        have e5' : (j : Int) < ck_ev r1 (.ofNat 0, [(0, .ofNat 1)]) := e5
        rw [ck_ev_c, w0] at e4'
        rw [ck_ev_c, w0] at e5'
        have e6 : ((-1) + ((n : Int) + 1) : Int) ≤ j := e4'
        have e7 : (j : Int) < (0) + ((n : Int) + 1) := e5'
        exact h1 (Or.inr (Or.inr ⟨e3'.symm, by omega⟩))
      exact absurd hw List.not_mem_nil
  · have a0 : r' 0 = ((n : Int) + 1) := hr' 0 (by decide)
    have a1 : r' 1 = (u : Int) := hr' 1 (by decide)
    have a2 : r' 2 = h 117 n := hr' 2 (by decide)
    have a3 : r' 3 = h 118 n := hr' 3 (by decide)
    refine ⟨⟨(ck_es_cons (p := (0, .ofNat 1, .ofNat 40)) (by show (1 : Int) ≤ r' 0 ∧ r' 0 ≤ 40; have q := a0; omega) (ck_es_cons (p := (1, .ofNat 0, .ofNat 39)) (by show (0 : Int) ≤ r' 1 ∧ r' 1 ≤ 39; have q := a1; omega) (ck_es_cons (p := (2, .ofNat 0, .ofNat 5)) (by show (0 : Int) ≤ r' 2 ∧ r' 2 ≤ 5; have q := a2; omega) (ck_es_cons (p := (3, .ofNat 0, .ofNat 2)) (by show (0 : Int) ≤ r' 3 ∧ r' 3 ≤ 2; have q := a3; omega) ck_es_nil)))), ck_ks_nil, (ck_os_cons (o := (88, (.ofNat 42, []), (.ofNat 0, [(0, .ofNat 1)]))) (by
      show 0 ≤ ck_ev r' (.ofNat 42, []) ∧ h 88 (ck_ev r' (.ofNat 42, [])).toNat = ck_ev r' (.ofNat 0, [(0, .ofNat 1)])
      rw [ck_ev_k, ck_ev_c, a0]
      exact ⟨by decide, by show h 88 42 = 0 + _; omega⟩) (ck_os_cons (o := (88, (.ofNat 43, []), (.ofNat 0, [(1, .ofNat 1)]))) (by
      show 0 ≤ ck_ev r' (.ofNat 43, []) ∧ h 88 (ck_ev r' (.ofNat 43, [])).toNat = ck_ev r' (.ofNat 0, [(1, .ofNat 1)])
      rw [ck_ev_k, ck_ev_c, a1]
      exact ⟨by decide, by show h 88 43 = 0 + _; omega⟩) (ck_os_cons (o := (117, (.negSucc 0, [(0, .ofNat 1)]), (.ofNat 0, [(2, .ofNat 1)]))) (by
      show 0 ≤ ck_ev r' (.negSucc 0, [(0, .ofNat 1)]) ∧ h 117 (ck_ev r' (.negSucc 0, [(0, .ofNat 1)])).toNat = ck_ev r' (.ofNat 0, [(2, .ofNat 1)])
      rw [ck_ev_c, a0, ck_ev_c, a2]
      have e : (Int.negSucc 0 + ((n : Int) + 1)) = (n : Int) := by show (-1 : Int) + _ = _; omega
      rw [e, Int.toNat_natCast]
      exact ⟨by omega, by show h 117 n = 0 + _; omega⟩) (ck_os_cons (o := (118, (.negSucc 0, [(0, .ofNat 1)]), (.ofNat 0, [(3, .ofNat 1)]))) (by
      show 0 ≤ ck_ev r' (.negSucc 0, [(0, .ofNat 1)]) ∧ h 118 (ck_ev r' (.negSucc 0, [(0, .ofNat 1)])).toNat = ck_ev r' (.ofNat 0, [(3, .ofNat 1)])
      rw [ck_ev_c, a0, ck_ev_c, a3]
      have e : (Int.negSucc 0 + ((n : Int) + 1)) = (n : Int) := by show (-1 : Int) + _ = _; omega
      rw [e, Int.toNat_natCast]
      exact ⟨by omega, by show h 118 n = 0 + _; omega⟩) ck_os_nil)))), ck_fts_nil⟩, ⟨88, rfl, (ck_ev_k r' 88).symm⟩, trivial⟩
theorem hd_rt {h : pm_Hp} (hd : ck_dec h) {n u : Nat} (hn : h 88 42 = (n : Int)) (hn2 : n ≤ 39) (hu : h 88 43 = ((u : Int) + 1)) (hu2 : u ≤ 39) (hp0 : 0 ≤ h 117 n ∧ h 117 n ≤ 5) (hq0 : 0 ≤ h 118 n ∧ h 118 n ≤ 2) : pm_Cd 2 205 [.ref 88] h (fun rv h' => ck_dec h' ∧ (∃ x : Int32, rv = some (.int x) ∧ x.toInt = 1) ∧ h' 88 42 = (n : Int) + 1 ∧ h' 88 43 = (u : Int) ∧ (0 ≤ h' 118 n ∧ h' 118 n ≤ 2) ∧ ∀ c j : Nat, ¬ ((c = 88 ∧ (j = 42 ∨ j = 43)) ∨ (c = 115 ∧ j < 1000000000) ∨ (c = 118 ∧ j = n)) → h' c j = h c j) := by
  refine pm_Cd_mono _ _ _ _ _ _ ?_ (ckco_7 (fun i => match i with
    | 0 => (n : Int)
    | 1 => ((u : Int) + 1)
    | 2 => h 117 n
    | _ => h 118 n) [.ref 88] h hd (fun r' hr' => ?_))
  · intro rv h' hq
    obtain ⟨hd', p, hp, r1, hr1, hall⟩ := hq
    have hp' := List.mem_singleton.mp hp
    subst hp'
    obtain ⟨sa, ss, ow⟩ := hall r1 (fun _ _ => rfl)
    have w0 : r1 0 = (n : Int) := hr1 0 (by decide)
    have w1 : r1 1 = ((u : Int) + 1) := hr1 1 (by decide)
    have w2 : r1 2 = h 117 n := hr1 2 (by decide)
    have w3 : r1 3 = h 118 n := hr1 3 (by decide)
    have o0 : 0 ≤ ck_ev r1 (.ofNat 42, []) ∧ h' 88 (ck_ev r1 (.ofNat 42, [])).toNat = ck_ev r1 (.ofNat 1, [(0, .ofNat 1)]) := sa.2.2.1 (88, (.ofNat 42, []), (.ofNat 1, [(0, .ofNat 1)])) (List.mem_of_getElem? (i := 0) rfl)
    rw [ck_ev_k, ck_ev_c] at o0
    have o1 : 0 ≤ ck_ev r1 (.ofNat 43, []) ∧ h' 88 (ck_ev r1 (.ofNat 43, [])).toNat = ck_ev r1 (.negSucc 0, [(1, .ofNat 1)]) := sa.2.2.1 (88, (.ofNat 43, []), (.negSucc 0, [(1, .ofNat 1)])) (List.mem_of_getElem? (i := 1) rfl)
    rw [ck_ev_k, ck_ev_c] at o1
    have o2 : 0 ≤ ck_ev r1 (.ofNat 0, [(0, .ofNat 1)]) ∧ h' 118 (ck_ev r1 (.ofNat 0, [(0, .ofNat 1)])).toNat = ck_ev r1 (.ofNat 0, [(4, .ofNat 1)]) := sa.2.2.1 (118, (.ofNat 0, [(0, .ofNat 1)]), (.ofNat 0, [(4, .ofNat 1)])) (List.mem_of_getElem? (i := 2) rfl)
    rw [ck_ev_c, ck_ev_c] at o2
    have n4 : (0 : Int) ≤ r1 4 ∧ r1 4 ≤ 2 := sa.1 (4, .ofNat 0, .ofNat 2) (List.mem_of_getElem? (i := 0) rfl)
    refine ⟨hd', ?_, ?_, ?_, ?_, ?_⟩
    · match rv, ss with
      | some v, ss =>
        obtain ⟨⟨x, e1, e2⟩, _⟩ := ss
        have e3 : v = Value.int x := e1
        rw [ck_ev_k] at e2
        exact ⟨x, by rw [e3], e2⟩
      | none, ss => exact ss.elim
    · have q : h' 88 42 = 1 + r1 0 := o0.2
      omega
    · have q : h' 88 43 = -1 + r1 1 := o1.2
      omega
    · have q : h' 118 ((0 : Int) + r1 0).toNat = 0 + r1 4 := o2.2
      have e : ((0 : Int) + r1 0).toNat = n := by omega
      rw [e] at q
      omega
    · intro c j h1
      refine ck_ow_ne ow (fun w hw e3 e4 e5 => ?_)
      rcases List.mem_cons.mp hw with rfl | hw
      · have e3' : 88 = c := e3
        have e4' : ck_ev r1 (.ofNat 42, []) ≤ (j : Int) := e4
        have e5' : (j : Int) < ck_ev r1 (.ofNat 43, []) := e5
        rw [ck_ev_k] at e4'
        rw [ck_ev_k] at e5'
        have e6 : (42 : Int) ≤ j := e4'
        have e7 : (j : Int) < 43 := e5'
        exact h1 (Or.inl ⟨e3'.symm, by omega⟩)
      rcases List.mem_cons.mp hw with rfl | hw
      · have e3' : 88 = c := e3
        have e4' : ck_ev r1 (.ofNat 43, []) ≤ (j : Int) := e4
        have e5' : (j : Int) < ck_ev r1 (.ofNat 44, []) := e5
        rw [ck_ev_k] at e4'
        rw [ck_ev_k] at e5'
        have e6 : (43 : Int) ≤ j := e4'
        have e7 : (j : Int) < 44 := e5'
        exact h1 (Or.inl ⟨e3'.symm, by omega⟩)
      rcases List.mem_cons.mp hw with rfl | hw
      · have e3' : 115 = c := e3
        have e4' : ck_ev r1 (.ofNat 0, []) ≤ (j : Int) := e4
        have e5' : (j : Int) < ck_ev r1 (.ofNat 1000000000, []) := e5
        rw [ck_ev_k] at e4'
        rw [ck_ev_k] at e5'
        have e6 : (0 : Int) ≤ j := e4'
        have e7 : (j : Int) < 1000000000 := e5'
        exact h1 (Or.inr (Or.inl ⟨e3'.symm, by omega⟩))
      rcases List.mem_cons.mp hw with rfl | hw
      · have e3' : 118 = c := e3
        have e4' : ck_ev r1 (.ofNat 0, [(0, .ofNat 1)]) ≤ (j : Int) := e4
        have e5' : (j : Int) < ck_ev r1 (.ofNat 1, [(0, .ofNat 1)]) := e5
        rw [ck_ev_c, w0] at e4'
        rw [ck_ev_c, w0] at e5'
        have e6 : ((0) + (n : Int) : Int) ≤ j := e4'
        have e7 : (j : Int) < (1) + (n : Int) := e5'
        exact h1 (Or.inr (Or.inr ⟨e3'.symm, by omega⟩))
      exact absurd hw List.not_mem_nil
  · have a0 : r' 0 = (n : Int) := hr' 0 (by decide)
    have a1 : r' 1 = ((u : Int) + 1) := hr' 1 (by decide)
    have a2 : r' 2 = h 117 n := hr' 2 (by decide)
    have a3 : r' 3 = h 118 n := hr' 3 (by decide)
    refine ⟨⟨(ck_es_cons (p := (0, .ofNat 0, .ofNat 39)) (by show (0 : Int) ≤ r' 0 ∧ r' 0 ≤ 39; have q := a0; omega) (ck_es_cons (p := (1, .ofNat 1, .ofNat 40)) (by show (1 : Int) ≤ r' 1 ∧ r' 1 ≤ 40; have q := a1; omega) (ck_es_cons (p := (2, .ofNat 0, .ofNat 5)) (by show (0 : Int) ≤ r' 2 ∧ r' 2 ≤ 5; have q := a2; omega) (ck_es_cons (p := (3, .ofNat 0, .ofNat 2)) (by show (0 : Int) ≤ r' 3 ∧ r' 3 ≤ 2; have q := a3; omega) ck_es_nil)))), ck_ks_nil, (ck_os_cons (o := (88, (.ofNat 42, []), (.ofNat 0, [(0, .ofNat 1)]))) (by
      show 0 ≤ ck_ev r' (.ofNat 42, []) ∧ h 88 (ck_ev r' (.ofNat 42, [])).toNat = ck_ev r' (.ofNat 0, [(0, .ofNat 1)])
      rw [ck_ev_k, ck_ev_c, a0]
      exact ⟨by decide, by show h 88 42 = 0 + _; omega⟩) (ck_os_cons (o := (88, (.ofNat 43, []), (.ofNat 0, [(1, .ofNat 1)]))) (by
      show 0 ≤ ck_ev r' (.ofNat 43, []) ∧ h 88 (ck_ev r' (.ofNat 43, [])).toNat = ck_ev r' (.ofNat 0, [(1, .ofNat 1)])
      rw [ck_ev_k, ck_ev_c, a1]
      exact ⟨by decide, by show h 88 43 = 0 + _; omega⟩) (ck_os_cons (o := (117, (.ofNat 0, [(0, .ofNat 1)]), (.ofNat 0, [(2, .ofNat 1)]))) (by
      show 0 ≤ ck_ev r' (.ofNat 0, [(0, .ofNat 1)]) ∧ h 117 (ck_ev r' (.ofNat 0, [(0, .ofNat 1)])).toNat = ck_ev r' (.ofNat 0, [(2, .ofNat 1)])
      rw [ck_ev_c, a0, ck_ev_c, a2]
      have e : (Int.ofNat 0 + (n : Int)) = (n : Int) := by show (0 : Int) + _ = _; omega
      rw [e, Int.toNat_natCast]
      exact ⟨by omega, by show h 117 n = 0 + _; omega⟩) (ck_os_cons (o := (118, (.ofNat 0, [(0, .ofNat 1)]), (.ofNat 0, [(3, .ofNat 1)]))) (by
      show 0 ≤ ck_ev r' (.ofNat 0, [(0, .ofNat 1)]) ∧ h 118 (ck_ev r' (.ofNat 0, [(0, .ofNat 1)])).toNat = ck_ev r' (.ofNat 0, [(3, .ofNat 1)])
      rw [ck_ev_c, a0, ck_ev_c, a3]
      have e : (Int.ofNat 0 + (n : Int)) = (n : Int) := by show (0 : Int) + _ = _; omega
      rw [e, Int.toNat_natCast]
      exact ⟨by omega, by show h 118 n = 0 + _; omega⟩) ck_os_nil)))), ck_fts_nil⟩, ⟨88, rfl, (ck_ev_k r' 88).symm⟩, trivial⟩

/-- keepAct -/
theorem hd_keep {h : pm_Hp} {P W : Int32} {x : Int} (hd : ck_dec h) (hP : -1 ≤ P.toInt ∧ P.toInt ≤ 5) (hW : 0 ≤ W.toInt ∧ W.toInt ≤ 7) (h5 : ck_f5 h 88 42 117 43 x (-40)) (hD : ∀ j : Nat, j < 40 → h 117 j ≤ -1 ∨ 0 ≤ h 118 j ∧ h 118 j ≤ 2) (hPW : P.toInt = -1 ∨ 0 ≤ W.toInt ∧ W.toInt ≤ 2) : pm_Cd 10 172 [.ref 88, .int P, .int W] h (fun rv h' => ck_dec h' ∧ rv = none ∧ h' 88 43 = 0 ∧ ck_f5 h' 88 42 117 43 (x + (if P.toInt = -1 then 1 else 0)) 0 ∧ (∀ j : Nat, j < 40 → h' 117 j ≤ -1 ∨ 0 ≤ h' 118 j ∧ h' 118 j ≤ 2) ∧ ∀ c j : Nat, ¬ (c = 88 ∧ (j = 42 ∨ j = 43)) → ¬ ((c = 117 ∨ c = 118) ∧ j < 1000000000) → h' c j = h c j) := by
  obtain ⟨f1, f2, f3, f4, f5⟩ := h5
  rcases Int.lt_or_le 39 (h 88 42) with hc | hc
  · have hn : h 88 42 = 40 := by have := (ck_dcA hd).2; omega
    refine pm_Cd_le (d := 1) (by decide) (pm_Cd_mono _ _ _ _ _ _ ?_ (hd_kb hd hP hW hn))
    intro rv h' hq
    obtain ⟨hd', q1, q2, q3, q4, q5, q6, q7, q8⟩ := hq
    refine ⟨hd', q1, q3, ?_, ?_, q8⟩
    · have g1 : ck_cn h' 117 0 39 = ck_cn h 117 1 39 := ck_cn_shift (fun j hj => by rw [Nat.zero_add, show 0 + 1 + j = j + 1 by omega]; exact q4 j hj)
      have g2 := ck_cn_front h 117 0 39
      have g3 : (h 88 42).toNat = 40 := by omega
      rw [g3] at f4
      have g4 := ck_cn_last h' 117 0 39
      have g5 : h' 117 (0 + 39) = P.toInt := q6
      rw [g5] at g4
      unfold ck_f5
      rw [q2, q3]
      refine ⟨by omega, by omega, by omega, ?_, ?_⟩
      · show ck_cn h' 117 0 40 ≤ _
        have g6 : (0 : Int) ≤ (if h 117 0 = -1 then 1 else 0) := by split <;> omega
        have g7 : ck_cn h 117 0 40 = (if h 117 0 = -1 then 1 else 0) + ck_cn h 117 1 39 := g2
        have g8 : ck_cn h' 117 0 40 = ck_cn h' 117 0 39 + (if P.toInt = -1 then 1 else 0) := g4
        omega
      · show (0 : Int) ≤ -0
        omega
    · intro j hj
      rcases Nat.lt_or_ge j 39 with g | g
      · rw [q4 j g, q5 j g]
        exact hD (j + 1) (by omega)
      · have e : j = 39 := by omega
        rw [e, q6, q7]
        rcases hPW with g1 | g1
        · exact Or.inl (by omega)
        · exact Or.inr g1
  · have hn : h 88 42 = ((h 88 42).toNat : Int) := by omega
    refine pm_Cd_le (d := 1) (by decide) (pm_Cd_mono _ _ _ _ _ _ ?_ (hd_ka hd hP hW hn (by omega)))
    intro rv h' hq
    obtain ⟨hd', q1, q2, q3, q4, q5, q6⟩ := hq
    refine ⟨hd', q1, q3, ?_, ?_, fun c j h1 h2 => q6 c j h1 (fun e => h2 ⟨e.1, by omega⟩)⟩
    · unfold ck_f5
      rw [q2, q3]
      have g1 : (((h 88 42).toNat : Int) + 1).toNat = (h 88 42).toNat + 1 := by omega
      rw [g1]
      refine ⟨by omega, by omega, by omega, ?_, ?_⟩
      · have g2 := ck_cn_last h' 117 0 (h 88 42).toNat
        rw [Nat.zero_add, q4] at g2
        have g3 : ck_cn h' 117 0 (h 88 42).toNat = ck_cn h 117 0 (h 88 42).toNat := ck_cn_eq (fun j _ hj => q6 117 j (fun e => by omega) (fun e => by omega))
        omega
      · show (0 : Int) ≤ -0
        omega
    · intro j hj
      by_cases e : j = (h 88 42).toNat
      · rw [e, q4, q5]
        rcases hPW with g1 | g1
        · exact Or.inl (by omega)
        · exact Or.inr g1
      · rw [q6 117 j (fun e2 => by omega) (fun e2 => e e2.2), q6 118 j (fun e2 => by omega) (fun e2 => e e2.2)]
        exact hD j hj
theorem ck_kd12 : ck_kd 12 = (5, 88, 42, 117, 43, .ofNat 0, .ofNat 0, .ofNat 0) := rfl
theorem ck_kd13 : ck_kd 13 = (3, 117, 0, 118, 0, .negSucc 0, .ofNat 0, .ofNat 2) := rfl
theorem ck_ft12 {h : pm_Hp} {a b : Int} : ck_ft h 12 a b ↔ ck_f5 h 88 42 117 43 a b := by
  unfold ck_ft
  rw [ck_kd12]
  exact Iff.rfl
theorem ck_ft13 {h : pm_Hp} : ck_ft h 13 (.ofNat 0) (.ofNat 40) ↔ ∀ j : Nat, j < 40 → h 117 j ≤ -1 ∨ 0 ≤ h 118 j ∧ h 118 j ≤ 2 := by
  unfold ck_ft
  rw [ck_kd13]
  constructor
  · intro H j hj
    exact H j (Int.natCast_nonneg j) (by show (j : Int) < 40; omega)
  · intro H j _ hj
    have hj' : (j : Int) < 40 := hj
    exact H j (by omega)
theorem ck_ss3 {r : ck_R} {a b c : ck_V} {as : List Value} (hs : ck_ss r [a, b, c] as) : ∃ x y z, as = [x, y, z] ∧ ck_vr r a x ∧ ck_vr r b y ∧ ck_vr r c z := by
  match as, hs with
  | [], hs => exact hs.elim
  | [_], hs => exact hs.2.elim
  | [_, _], hs => exact hs.2.2.elim
  | [x, y, z], hs => exact ⟨x, y, z, rfl, hs.1, hs.2.1, hs.2.2.1⟩
  | _ :: _ :: _ :: _ :: _, hs => exact hs.2.2.2.elim
theorem ck_ss1 {r : ck_R} {a : ck_V} {as : List Value} (hs : ck_ss r [a] as) : ∃ x, as = [x] ∧ ck_vr r a x := by
  match as, hs with
  | [], hs => exact hs.elim
  | [x], hs => exact ⟨x, rfl, hs.1⟩
  | _ :: _ :: _, hs => exact hs.2.elim
theorem hd_kow {h h' : pm_Hp} {r : ck_R} (H : ∀ c j : Nat, ¬ (c = 88 ∧ (j = 42 ∨ j = 43)) → ¬ ((c = 117 ∨ c = 118) ∧ j < 1000000000) → h' c j = h c j) : ck_ow h h' r [(117, (.ofNat 0, []), (.ofNat 1000000000, [])), (118, (.ofNat 0, []), (.ofNat 1000000000, [])), (88, (.ofNat 42, []), (.ofNat 43, [])), (88, (.ofNat 43, []), (.ofNat 44, []))] := by
  have ev : ∀ k : Nat, ck_ev r (.ofNat k, []) = (k : Int) := fun k => ck_ev_k r _
  intro c j
  rcases Nat.lt_or_ge j 1000000000 with hj | hj
  · by_cases e1 : c = 117
    · exact Or.inr ⟨_, List.mem_of_getElem? (i := 0) rfl, e1.symm, by rw [ev]; omega, by rw [ev]; omega⟩
    · by_cases e2 : c = 118
      · exact Or.inr ⟨_, List.mem_of_getElem? (i := 1) rfl, e2.symm, by rw [ev]; omega, by rw [ev]; omega⟩
      · by_cases e3 : c = 88 ∧ j = 42
        · exact Or.inr ⟨_, List.mem_of_getElem? (i := 2) rfl, e3.1.symm, by rw [ev]; omega, by rw [ev]; omega⟩
        · by_cases e4 : c = 88 ∧ j = 43
          · exact Or.inr ⟨_, List.mem_of_getElem? (i := 3) rfl, e4.1.symm, by rw [ev]; omega, by rw [ev]; omega⟩
          · exact Or.inl (H c j (fun q => by omega) (fun q => by omega))
  · exact Or.inl (H c j (fun q => by omega) (fun q => by omega))

theorem ckco_301 : ck_CO ckcn_301 := by
  intro r as h hd hpre
  obtain ⟨sa, ss⟩ := hpre r (fun _ _ => rfl)
  obtain ⟨v0, v1, v2, rfl, ⟨q, e0, e0'⟩, ⟨P, e1, e1'⟩, ⟨W, e2, e2'⟩⟩ := ck_ss3 ss
  have z0 : (q : Int) = ck_ev r (.ofNat 88, []) := e0'
  have z1 : P.toInt = ck_ev r (.negSucc 0, []) := e1'
  have z2 : W.toInt = ck_ev r (.ofNat 0, [(0, .ofNat 1)]) := e2'
  rw [ck_ev_k] at z0 z1
  rw [ck_ev_o] at z2
  have z0' : (q : Int) = 88 := z0
  have z1' : P.toInt = -1 := z1
  have eq : q = 88 := by omega
  subst eq
  rw [e0, e1, e2]
  have b0 : (0 : Int) ≤ r 0 ∧ r 0 ≤ 7 := sa.1 (0, .ofNat 0, .ofNat 7) (List.mem_of_getElem? (i := 0) rfl)
  have f5 := sa.2.2.2 (12, (.ofNat 0, [(1, .ofNat 1)]), (.negSucc 39, [])) (List.mem_of_getElem? (i := 0) rfl)
  have f3 := sa.2.2.2 (13, (.ofNat 0, []), (.ofNat 40, [])) (List.mem_of_getElem? (i := 1) rfl)
  dsimp only at f5 f3
  rw [ck_ev_o, ck_ev_k] at f5
  rw [ck_ev_k, ck_ev_k] at f3
  refine pm_Cd_mono _ _ _ _ _ _ ?_ (hd_keep (x := r 1) hd (by omega) (by omega) (ck_ft12.mp f5) (ck_ft13.mp f3) (Or.inl z1'))
  intro rv h' hq
  obtain ⟨hd', q1, q2, q3, q4, q5⟩ := hq
  subst q1
  rw [if_pos z1'] at q3
  refine ⟨hd', _, List.mem_of_getElem? (i := 0) rfl, r, fun _ _ => rfl, fun r' hr' => ⟨⟨ck_es_nil, ck_ks_nil, ck_os_cons (by
    show 0 ≤ ck_ev r' (.ofNat 43, []) ∧ h' 88 (ck_ev r' (.ofNat 43, [])).toNat = ck_ev r' (.ofNat 0, [])
    rw [ck_ev_k, ck_ev_k]
    exact ⟨by decide, q2⟩) ck_os_nil, ck_fts_cons (by
    show ck_ft h' 12 (ck_ev r' (.ofNat 1, [(1, .ofNat 1)])) (ck_ev r' (.ofNat 0, []))
    rw [ck_ev_c, ck_ev_k, hr' 1 (by decide)]
    refine ck_ft12.mpr ?_
    have e : Int.ofNat 1 + r 1 = r 1 + 1 := by show (1 : Int) + r 1 = r 1 + 1; omega
    rw [e]
    exact q3) (ck_fts_cons (by
    show ck_ft h' 13 (ck_ev r' (.ofNat 0, [])) (ck_ev r' (.ofNat 40, []))
    rw [ck_ev_k, ck_ev_k]
    exact ck_ft13.mpr q4) ck_fts_nil)⟩, trivial, hd_kow q5⟩⟩

theorem ckco_302 : ck_CO ckcn_302 := by
  intro r as h hd hpre
  obtain ⟨sa, ss⟩ := hpre r (fun _ _ => rfl)
  obtain ⟨v0, v1, v2, rfl, ⟨q, e0, e0'⟩, ⟨P, e1, e1'⟩, ⟨W, e2, e2'⟩⟩ := ck_ss3 ss
  have z0 : (q : Int) = ck_ev r (.ofNat 88, []) := e0'
  have z1 : P.toInt = ck_ev r (.ofNat 0, [(0, .ofNat 1)]) := e1'
  have z2 : W.toInt = ck_ev r (.ofNat 0, [(1, .ofNat 1)]) := e2'
  rw [ck_ev_k] at z0
  rw [ck_ev_o] at z1 z2
  have z0' : (q : Int) = 88 := z0
  have eq : q = 88 := by omega
  subst eq
  rw [e0, e1, e2]
  have b0 : (0 : Int) ≤ r 0 ∧ r 0 ≤ 5 := sa.1 (0, .ofNat 0, .ofNat 5) (List.mem_of_getElem? (i := 0) rfl)
  have b1 : (0 : Int) ≤ r 1 ∧ r 1 ≤ 2 := sa.1 (1, .ofNat 0, .ofNat 2) (List.mem_of_getElem? (i := 1) rfl)
  have f5 := sa.2.2.2 (12, (.ofNat 0, [(2, .ofNat 1)]), (.negSucc 39, [])) (List.mem_of_getElem? (i := 0) rfl)
  have f3 := sa.2.2.2 (13, (.ofNat 0, []), (.ofNat 40, [])) (List.mem_of_getElem? (i := 1) rfl)
  dsimp only at f5 f3
  rw [ck_ev_o, ck_ev_k] at f5
  rw [ck_ev_k, ck_ev_k] at f3
  refine pm_Cd_mono _ _ _ _ _ _ ?_ (hd_keep (x := r 2) hd (by omega) (by omega) (ck_ft12.mp f5) (ck_ft13.mp f3) (Or.inr (by omega)))
  intro rv h' hq
  obtain ⟨hd', q1, q2, q3, q4, q5⟩ := hq
  subst q1
  rw [if_neg (by omega)] at q3
  refine ⟨hd', _, List.mem_of_getElem? (i := 0) rfl, r, fun _ _ => rfl, fun r' hr' => ⟨⟨ck_es_nil, ck_ks_nil, ck_os_cons (by
    show 0 ≤ ck_ev r' (.ofNat 43, []) ∧ h' 88 (ck_ev r' (.ofNat 43, [])).toNat = ck_ev r' (.ofNat 0, [])
    rw [ck_ev_k, ck_ev_k]
    exact ⟨by decide, q2⟩) ck_os_nil, ck_fts_cons (by
    show ck_ft h' 12 (ck_ev r' (.ofNat 0, [(2, .ofNat 1)])) (ck_ev r' (.ofNat 0, []))
    rw [ck_ev_o, ck_ev_k, hr' 2 (by decide)]
    refine ck_ft12.mpr ?_
    have e : r 2 + 0 = r 2 := by omega
    rw [e] at q3
    exact q3) (ck_fts_cons (by
    show ck_ft h' 13 (ck_ev r' (.ofNat 0, [])) (ck_ev r' (.ofNat 40, []))
    rw [ck_ev_k, ck_ev_k]
    exact ck_ft13.mpr q4) ck_fts_nil)⟩, trivial, hd_kow q5⟩⟩
theorem hd_undo {h : pm_Hp} {a c : Int} (hd : ck_dec h) (h5 : ck_f5 h 88 42 117 43 a (-c)) (hD : ∀ j : Nat, j < 40 → h 117 j ≤ -1 ∨ 0 ≤ h 118 j ∧ h 118 j ≤ 2) (ha : h 88 39 = a) (hac : a + c ≤ 6) : pm_Cd 10 223 [.ref 88] h (fun rv h' => ck_dec h' ∧ (∃ x : Int32, rv = some (.int x) ∧ (x.toInt = 0 ∨ x.toInt = 1)) ∧ (∃ a' c' : Int, h' 88 39 = a' ∧ a' + c' = a + c ∧ 0 ≤ c' ∧ ck_f5 h' 88 42 117 43 a' (-c')) ∧ (∀ j : Nat, j < 40 → h' 117 j ≤ -1 ∨ 0 ≤ h' 118 j ∧ h' 118 j ≤ 2) ∧ ∀ cc j : Nat, ¬ (cc = 88 ∧ (j = 39 ∨ j = 42 ∨ j = 43)) → ¬ ((cc = 115 ∨ cc = 118) ∧ j < 1000000000) → h' cc j = h cc j) := by
  have hA := ck_dcA hd
  have hU := ck_dcU hd
  have hMm := ck_dcM hd
  have h5' := h5
  obtain ⟨f1, f2, f3, f4, f5⟩ := h5'
  have cge := ck_cn_ge h 117 (h 88 42).toNat (h 88 43).toNat
  rcases Int.lt_or_le 0 (h 88 42) with hc | hc
  · obtain ⟨n, hn⟩ : ∃ n : Nat, h 88 42 = (n : Int) + 1 := ⟨(h 88 42 - 1).toNat, by omega⟩
    obtain ⟨u, hu⟩ : ∃ u : Nat, h 88 43 = (u : Int) := ⟨(h 88 43).toNat, by omega⟩
    have t1 : (h 88 42).toNat = n + 1 := by omega
    have t2 : (h 88 43).toNat = u := by omega
    rw [t1] at f4 f5
    rw [t2] at f5
    rw [ck_cn_last, Nat.zero_add] at f4
    have fr := ck_cn_front h 117 n u
    have g0 := ck_cn_ge h 117 0 n
    have g00 := ck_cn_ge h 117 (n + 1) u
    by_cases hp : h 117 n = -1
    · rw [if_pos hp] at f4 fr
      obtain ⟨b, hb⟩ : ∃ b : Nat, h 88 39 = (b : Int) + 1 := ⟨(h 88 39 - 1).toNat, by omega⟩
      refine pm_Cd_le (d := 2) (by decide) (pm_Cd_mono _ _ _ _ _ _ ?_ (hd_uw hd hn (by omega) hu (by omega) hb (by omega) hp))
      intro rv h' hq
      obtain ⟨hd', ⟨x, x1, x2⟩, q1, q2, q3, q4⟩ := hq
      have same : ∀ j, h' 117 j = h 117 j := fun j => q4 117 j (fun e => by omega)
      have same2 : ∀ j, h' 118 j = h 118 j := fun j => q4 118 j (fun e => by omega)
      refine ⟨hd', ⟨x, x1, Or.inr x2⟩, ⟨(b : Int), c + 1, q3, by omega, by omega, ?_⟩, fun j hj => by rw [same, same2]; exact hD j hj, fun cc j z1 z2 => q4 cc j z1⟩
      unfold ck_f5
      rw [q1, q2]
      have t3 : ((n : Int)).toNat = n := Int.toNat_natCast n
      have t4 : ((u : Int) + 1).toNat = u + 1 := by omega
      rw [t3, t4, ck_cn_same same, ck_cn_same same]
      exact ⟨by omega, by omega, by omega, by omega, by omega⟩
    · rw [if_neg hp] at f4 fr
      have dp := @ck_dcP h hd n (by omega)
      have dw : 0 ≤ h 118 n ∧ h 118 n ≤ 2 := by
        rcases hD n (by omega) with g | g
        · omega
        · exact g
      refine pm_Cd_le (d := 2) (by decide) (pm_Cd_mono _ _ _ _ _ _ ?_ (hd_ut hd hn (by omega) hu (by omega) ⟨by omega, dp.2⟩ dw))
      intro rv h' hq
      obtain ⟨hd', ⟨x, x1, x2⟩, q1, q2, q3, q4⟩ := hq
      have same : ∀ j, h' 117 j = h 117 j := fun j => q4 117 j (fun e => by omega)
      refine ⟨hd', ⟨x, x1, Or.inr x2⟩, ⟨a, c, by rw [q4 88 39 (fun e => by omega)]; exact ha, rfl, by omega, ?_⟩, fun j hj => ?_, fun cc j z1 z2 => q4 cc j (fun e => by omega)⟩
      · unfold ck_f5
        rw [q1, q2]
        have t3 : ((n : Int)).toNat = n := Int.toNat_natCast n
        have t4 : ((u : Int) + 1).toNat = u + 1 := by omega
        rw [t3, t4, ck_cn_same same, ck_cn_same same]
        exact ⟨by omega, by omega, by omega, by omega, by omega⟩
      · by_cases e : j = n
        · rw [e]
          exact Or.inr q3
        · rw [same, q4 118 j (fun e2 => by omega)]
          exact hD j hj
  · have hn : h 88 42 = 0 := by omega
    refine pm_Cd_le (d := 1) (by decide) (pm_Cd_mono _ _ _ _ _ _ ?_ (hd_u0 hd hn))
    intro rv h' hq
    obtain ⟨hd', ⟨x, x1, x2⟩, q4⟩ := hq
    have e : h' = h := funext (fun cc => funext (fun j => q4 cc j trivial))
    subst e
    exact ⟨hd', ⟨x, x1, Or.inl x2⟩, ⟨a, c, ha, rfl, by omega, h5⟩, hD, fun _ _ _ _ => rfl⟩
theorem hd_redo {h : pm_Hp} {a c : Int} (hd : ck_dec h) (h5 : ck_f5 h 88 42 117 43 a (-c)) (hD : ∀ j : Nat, j < 40 → h 117 j ≤ -1 ∨ 0 ≤ h 118 j ∧ h 118 j ≤ 2) (ha : h 88 39 = a) (hac : a + c ≤ 6) : pm_Cd 10 205 [.ref 88] h (fun rv h' => ck_dec h' ∧ (∃ x : Int32, rv = some (.int x) ∧ (x.toInt = 0 ∨ x.toInt = 1)) ∧ (∃ a' c' : Int, h' 88 39 = a' ∧ a' + c' = a + c ∧ 0 ≤ c' ∧ ck_f5 h' 88 42 117 43 a' (-c')) ∧ (∀ j : Nat, j < 40 → h' 117 j ≤ -1 ∨ 0 ≤ h' 118 j ∧ h' 118 j ≤ 2) ∧ ∀ cc j : Nat, ¬ (cc = 88 ∧ (j = 39 ∨ j = 42 ∨ j = 43)) → ¬ ((cc = 114 ∨ cc = 115 ∨ cc = 118) ∧ j < 1000000000) → h' cc j = h cc j) := by
  have hA := ck_dcA hd
  have hU := ck_dcU hd
  have hMm := ck_dcM hd
  have h5' := h5
  obtain ⟨f1, f2, f3, f4, f5⟩ := h5'
  have cge := ck_cn_ge h 117 (h 88 42).toNat (h 88 43).toNat
  rcases Int.lt_or_le 0 (h 88 43) with hc | hc
  · obtain ⟨n, hn⟩ : ∃ n : Nat, h 88 42 = (n : Int) := ⟨(h 88 42).toNat, by omega⟩
    obtain ⟨u, hu⟩ : ∃ u : Nat, h 88 43 = (u : Int) + 1 := ⟨(h 88 43 - 1).toNat, by omega⟩
    have t1 : (h 88 42).toNat = n := by omega
    have t2 : (h 88 43).toNat = u + 1 := by omega
    rw [t1] at f4 f5
    rw [t2, ck_cn_front] at f5
    have la := ck_cn_last h 117 0 n
    rw [Nat.zero_add] at la
    have g0 := ck_cn_ge h 117 0 n
    have g00 := ck_cn_ge h 117 (n + 1) u
    by_cases hp : h 117 n = -1
    · rw [if_pos hp] at f5 la
      obtain ⟨b, hb⟩ : ∃ b : Nat, h 88 39 = (b : Int) := ⟨(h 88 39).toNat, by omega⟩
      refine pm_Cd_le (d := 2) (by decide) (pm_Cd_mono _ _ _ _ _ _ ?_ (hd_rw hd hn (by omega) hu (by omega) hb (by omega) hp))
      intro rv h' hq
      obtain ⟨hd', ⟨x, x1, x2⟩, q1, q2, q3, q4⟩ := hq
      have same : ∀ j, h' 117 j = h 117 j := fun j => q4 117 j (fun e => by omega)
      have same2 : ∀ j, h' 118 j = h 118 j := fun j => q4 118 j (fun e => by omega)
      refine ⟨hd', ⟨x, x1, Or.inr x2⟩, ⟨(b : Int) + 1, c - 1, q3, by omega, by omega, ?_⟩, fun j hj => by rw [same, same2]; exact hD j hj, fun cc j z1 z2 => q4 cc j (fun e => by omega)⟩
      unfold ck_f5
      rw [q1, q2]
      have t3 : ((n : Int) + 1).toNat = n + 1 := by omega
      have t4 : ((u : Int)).toNat = u := Int.toNat_natCast u
      rw [t3, t4, ck_cn_same same, ck_cn_same same]
      exact ⟨by omega, by omega, by omega, by omega, by omega⟩
    · rw [if_neg hp] at f5 la
      have dp := @ck_dcP h hd n (by omega)
      have dw : 0 ≤ h 118 n ∧ h 118 n ≤ 2 := by
        rcases hD n (by omega) with g | g
        · omega
        · exact g
      refine pm_Cd_le (d := 2) (by decide) (pm_Cd_mono _ _ _ _ _ _ ?_ (hd_rt hd hn (by omega) hu (by omega) ⟨by omega, dp.2⟩ dw))
      intro rv h' hq
      obtain ⟨hd', ⟨x, x1, x2⟩, q1, q2, q3, q4⟩ := hq
      have same : ∀ j, h' 117 j = h 117 j := fun j => q4 117 j (fun e => by omega)
      refine ⟨hd', ⟨x, x1, Or.inr x2⟩, ⟨a, c, by rw [q4 88 39 (fun e => by omega)]; exact ha, rfl, by omega, ?_⟩, fun j hj => ?_, fun cc j z1 z2 => q4 cc j (fun e => by omega)⟩
      · unfold ck_f5
        rw [q1, q2]
        have t3 : ((n : Int) + 1).toNat = n + 1 := by omega
        have t4 : ((u : Int)).toNat = u := Int.toNat_natCast u
        rw [t3, t4, ck_cn_same same, ck_cn_same same]
        exact ⟨by omega, by omega, by omega, by omega, by omega⟩
      · by_cases e : j = n
        · rw [e]
          exact Or.inr q3
        · rw [same, q4 118 j (fun e2 => by omega)]
          exact hD j hj
  · have hn : h 88 43 = 0 := by omega
    refine pm_Cd_le (d := 1) (by decide) (pm_Cd_mono _ _ _ _ _ _ ?_ (hd_r0 hd hn))
    intro rv h' hq
    obtain ⟨hd', ⟨x, x1, x2⟩, q4⟩ := hq
    have e : h' = h := funext (fun cc => funext (fun j => q4 cc j trivial))
    subst e
    exact ⟨hd', ⟨x, x1, Or.inl x2⟩, ⟨a, c, ha, rfl, by omega, h5⟩, hD, fun _ _ _ _ => rfl⟩
theorem ck_ev_2 (r : ck_R) (c : Int) (i j : Nat) : ck_ev r (c, [(i, .ofNat 1), (j, .ofNat 1)]) = c + r i + r j := by
  show c + (1 * r i + (1 * r j + 0)) = c + r i + r j
  omega
theorem ck_ev_3 (r : ck_R) (c : Int) (i j k : Nat) : ck_ev r (c, [(i, .ofNat 1), (j, .ofNat 1), (k, .negSucc 0)]) = c + r i + r j - r k := by
  show c + (1 * r i + (1 * r j + (-1 * r k + 0))) = c + r i + r j - r k
  omega
theorem ck_ev_m (r : ck_R) (c : Int) (i : Nat) : ck_ev r (c, [(i, .negSucc 0)]) = c - r i := by
  show c + (-1 * r i + 0) = c - r i
  omega
theorem ck_lv_2 (r : ck_R) (i j : Nat) : ck_lv r [(i, .ofNat 1), (j, .ofNat 1)] = r i + r j := by
  show 1 * r i + (1 * r j + 0) = r i + r j
  omega
theorem ck_lv_3 (r : ck_R) (i j k : Nat) : ck_lv r [(i, .ofNat 1), (j, .ofNat 1), (k, .negSucc 0)] = r i + r j - r k := by
  show 1 * r i + (1 * r j + (-1 * r k + 0)) = r i + r j - r k
  omega
theorem hd_uow {h h' : pm_Hp} {r : ck_R} (H : ∀ c j : Nat, ¬ (c = 88 ∧ (j = 39 ∨ j = 42 ∨ j = 43)) → ¬ ((c = 115 ∨ c = 118) ∧ j < 1000000000) → h' c j = h c j) : ck_ow h h' r [(117, (.ofNat 0, []), (.ofNat 1000000000, [])), (118, (.ofNat 0, []), (.ofNat 1000000000, [])), (88, (.ofNat 42, []), (.ofNat 43, [])), (88, (.ofNat 43, []), (.ofNat 44, [])), (88, (.ofNat 39, []), (.ofNat 40, [])), (115, (.ofNat 0, []), (.ofNat 1000000000, []))] := by
  have ev : ∀ k : Nat, ck_ev r (.ofNat k, []) = (k : Int) := fun k => ck_ev_k r _
  intro c j
  by_cases e0 : c = 118 ∧ j < 1000000000
  · exact Or.inr ⟨_, List.mem_of_getElem? (i := 1) rfl, e0.1.symm, by rw [ev]; omega, by rw [ev]; omega⟩
  by_cases e1 : c = 88 ∧ j = 42
  · exact Or.inr ⟨_, List.mem_of_getElem? (i := 2) rfl, e1.1.symm, by rw [ev]; omega, by rw [ev]; omega⟩
  by_cases e2 : c = 88 ∧ j = 43
  · exact Or.inr ⟨_, List.mem_of_getElem? (i := 3) rfl, e2.1.symm, by rw [ev]; omega, by rw [ev]; omega⟩
  by_cases e3 : c = 88 ∧ j = 39
  · exact Or.inr ⟨_, List.mem_of_getElem? (i := 4) rfl, e3.1.symm, by rw [ev]; omega, by rw [ev]; omega⟩
  by_cases e4 : c = 115 ∧ j < 1000000000
  · exact Or.inr ⟨_, List.mem_of_getElem? (i := 5) rfl, e4.1.symm, by rw [ev]; omega, by rw [ev]; omega⟩
  exact Or.inl (H c j (fun q => by omega) (fun q => by omega))
theorem hd_uow2 {h h' : pm_Hp} {r : ck_R} (H : ∀ c j : Nat, ¬ (c = 88 ∧ (j = 39 ∨ j = 42 ∨ j = 43)) → ¬ ((c = 114 ∨ c = 115 ∨ c = 118) ∧ j < 1000000000) → h' c j = h c j) : ck_ow h h' r [(117, (.ofNat 0, []), (.ofNat 1000000000, [])), (118, (.ofNat 0, []), (.ofNat 1000000000, [])), (88, (.ofNat 42, []), (.ofNat 43, [])), (88, (.ofNat 43, []), (.ofNat 44, [])), (88, (.ofNat 39, []), (.ofNat 40, [])), (115, (.ofNat 0, []), (.ofNat 1000000000, [])), (114, (.ofNat 0, []), (.ofNat 1000000000, []))] := by
  have ev : ∀ k : Nat, ck_ev r (.ofNat k, []) = (k : Int) := fun k => ck_ev_k r _
  intro c j
  by_cases e0 : c = 118 ∧ j < 1000000000
  · exact Or.inr ⟨_, List.mem_of_getElem? (i := 1) rfl, e0.1.symm, by rw [ev]; omega, by rw [ev]; omega⟩
  by_cases e1 : c = 88 ∧ j = 42
  · exact Or.inr ⟨_, List.mem_of_getElem? (i := 2) rfl, e1.1.symm, by rw [ev]; omega, by rw [ev]; omega⟩
  by_cases e2 : c = 88 ∧ j = 43
  · exact Or.inr ⟨_, List.mem_of_getElem? (i := 3) rfl, e2.1.symm, by rw [ev]; omega, by rw [ev]; omega⟩
  by_cases e3 : c = 88 ∧ j = 39
  · exact Or.inr ⟨_, List.mem_of_getElem? (i := 4) rfl, e3.1.symm, by rw [ev]; omega, by rw [ev]; omega⟩
  by_cases e4 : c = 115 ∧ j < 1000000000
  · exact Or.inr ⟨_, List.mem_of_getElem? (i := 5) rfl, e4.1.symm, by rw [ev]; omega, by rw [ev]; omega⟩
  by_cases e5 : c = 114 ∧ j < 1000000000
  · exact Or.inr ⟨_, List.mem_of_getElem? (i := 6) rfl, e5.1.symm, by rw [ev]; omega, by rw [ev]; omega⟩
  exact Or.inl (H c j (fun q => by omega) (fun q => by omega))
theorem ckco_305 : ck_CO ckcn_305 := by
  intro r as h hd hpre
  obtain ⟨sa, ss⟩ := hpre r (fun _ _ => rfl)
  obtain ⟨v0, rfl, ⟨q, e0, e0'⟩⟩ := ck_ss1 ss
  have z0 : (q : Int) = ck_ev r (.ofNat 88, []) := e0'
  rw [ck_ev_k] at z0
  have z0' : (q : Int) = 88 := z0
  have eq : q = 88 := by omega
  subst eq
  rw [e0]
  have b0 : (0 : Int) ≤ r 0 ∧ r 0 ≤ 1 := sa.1 (0, .ofNat 0, .ofNat 1) (List.mem_of_getElem? (i := 0) rfl)
  have b1 : (0 : Int) ≤ r 1 ∧ r 1 ≤ 6 := sa.1 (1, .ofNat 0, .ofNat 6) (List.mem_of_getElem? (i := 1) rfl)
  have b2 : (0 : Int) ≤ r 2 ∧ r 2 ≤ 6 := sa.1 (2, .ofNat 0, .ofNat 6) (List.mem_of_getElem? (i := 2) rfl)
  have b3 : (0 : Int) ≤ r 3 ∧ r 3 ≤ 7 := sa.1 (3, .ofNat 0, .ofNat 7) (List.mem_of_getElem? (i := 3) rfl)
  have b4 : (0 : Int) ≤ r 4 ∧ r 4 ≤ 7 := sa.1 (4, .ofNat 0, .ofNat 7) (List.mem_of_getElem? (i := 4) rfl)
  have b5 : (0 : Int) ≤ r 5 ∧ r 5 ≤ 7 := sa.1 (5, .ofNat 0, .ofNat 7) (List.mem_of_getElem? (i := 5) rfl)
  have k0 := sa.2.1 ([(1, .ofNat 1), (2, .ofNat 1)], .ofNat 1, .ofNat 6) (List.mem_of_getElem? (i := 0) rfl)
  have k1 := sa.2.1 ([(1, .ofNat 1), (2, .ofNat 1), (3, .negSucc 0)], .negSucc 0, .ofNat 6) (List.mem_of_getElem? (i := 1) rfl)
  have k2 := sa.2.1 ([(1, .ofNat 1), (2, .ofNat 1), (4, .negSucc 0)], .negSucc 0, .ofNat 6) (List.mem_of_getElem? (i := 2) rfl)
  have k3 := sa.2.1 ([(1, .ofNat 1), (2, .ofNat 1), (5, .negSucc 0)], .negSucc 0, .ofNat 6) (List.mem_of_getElem? (i := 3) rfl)
  have k0' : (1 : Int) ≤ r 1 + r 2 ∧ r 1 + r 2 ≤ 6 := by have w := k0; dsimp only at w; rw [ck_lv_2] at w; exact w
  have k1' : (-1 : Int) ≤ r 1 + r 2 - r 3 ∧ r 1 + r 2 - r 3 ≤ 6 := by have w := k1; dsimp only at w; rw [ck_lv_3] at w; exact w
  have k2' : (-1 : Int) ≤ r 1 + r 2 - r 4 ∧ r 1 + r 2 - r 4 ≤ 6 := by have w := k2; dsimp only at w; rw [ck_lv_3] at w; exact w
  have k3' : (-1 : Int) ≤ r 1 + r 2 - r 5 ∧ r 1 + r 2 - r 5 ≤ 6 := by have w := k3; dsimp only at w; rw [ck_lv_3] at w; exact w
  have o0 := (sa.2.2.1 (88, (.ofNat 29, []), (.ofNat 0, [(0, .ofNat 1)])) (List.mem_of_getElem? (i := 0) rfl)).2
  dsimp only at o0
  rw [ck_ev_k, ck_ev_o] at o0
  have o1 := (sa.2.2.1 (88, (.ofNat 39, []), (.ofNat 0, [(1, .ofNat 1)])) (List.mem_of_getElem? (i := 1) rfl)).2
  dsimp only at o1
  rw [ck_ev_k, ck_ev_o] at o1
  have o2 := (sa.2.2.1 (95, (.ofNat 0, [(0, .ofNat 1)]), (.ofNat 0, [(1, .ofNat 1), (2, .ofNat 1)])) (List.mem_of_getElem? (i := 2) rfl)).2
  dsimp only at o2
  rw [ck_ev_o, ck_ev_2] at o2
  have o3 := (sa.2.2.1 (132, (.ofNat 0, []), (.ofNat 0, [(1, .ofNat 1), (2, .ofNat 1), (3, .negSucc 0)])) (List.mem_of_getElem? (i := 3) rfl)).2
  dsimp only at o3
  rw [ck_ev_k, ck_ev_3] at o3
  have o4 := (sa.2.2.1 (132, (.ofNat 1, []), (.ofNat 0, [(1, .ofNat 1), (2, .ofNat 1), (4, .negSucc 0)])) (List.mem_of_getElem? (i := 4) rfl)).2
  dsimp only at o4
  rw [ck_ev_k, ck_ev_3] at o4
  have o5 := (sa.2.2.1 (132, (.ofNat 2, []), (.ofNat 0, [(1, .ofNat 1), (2, .ofNat 1), (5, .negSucc 0)])) (List.mem_of_getElem? (i := 5) rfl)).2
  dsimp only at o5
  rw [ck_ev_k, ck_ev_3] at o5
  have f5 := sa.2.2.2 (12, (.ofNat 0, [(1, .ofNat 1)]), (.ofNat 0, [(2, .negSucc 0)])) (List.mem_of_getElem? (i := 0) rfl)
  have f3 := sa.2.2.2 (13, (.ofNat 0, []), (.ofNat 40, [])) (List.mem_of_getElem? (i := 1) rfl)
  dsimp only at f5 f3
  rw [ck_ev_o, ck_ev_m] at f5
  rw [ck_ev_k, ck_ev_k] at f3
  have em : Int.ofNat 0 - r 2 = -(r 2) := by show (0 : Int) - r 2 = _; omega
  rw [em] at f5
  refine pm_Cd_mono _ _ _ _ _ _ ?_ (hd_undo (a := r 1) (c := r 2) hd (ck_ft12.mp f5) (ck_ft13.mp f3) o1 (by omega))
  intro rv h' hq
  obtain ⟨hd', ⟨x, x1, x2⟩, ⟨a', c', q1, q2, q3, q4⟩, q5, q6⟩ := hq
  subst x1
  have hMm := ck_dcM hd'
  have rf : ∀ r' : ck_R, ck_agr 12 (fun i => match i with
    | 0 => r 0
    | 1 => r 1
    | 2 => r 2
    | 3 => r 3
    | 4 => r 4
    | 5 => r 5
    | 6 => r 0
    | 7 => a'
    | 8 => c'
    | 9 => r 3
    | 10 => r 4
    | _ => r 5) r' → (ck_es [(6, .ofNat 0, .ofNat 1), (7, .ofNat 0, .ofNat 6), (8, .ofNat 0, .ofNat 6), (9, .ofNat 0, .ofNat 7), (10, .ofNat 0, .ofNat 7), (11, .ofNat 0, .ofNat 7)] r' ∧ ck_ks [([(7, .ofNat 1), (8, .ofNat 1)], .ofNat 1, .ofNat 6), ([(7, .ofNat 1), (8, .ofNat 1), (9, .negSucc 0)], .negSucc 0, .ofNat 6), ([(7, .ofNat 1), (8, .ofNat 1), (10, .negSucc 0)], .negSucc 0, .ofNat 6), ([(7, .ofNat 1), (8, .ofNat 1), (11, .negSucc 0)], .negSucc 0, .ofNat 6)] r' ∧ ck_os h' r' [(88, (.ofNat 29, []), (.ofNat 0, [(6, .ofNat 1)])), (88, (.ofNat 39, []), (.ofNat 0, [(7, .ofNat 1)])), (95, (.ofNat 0, [(6, .ofNat 1)]), (.ofNat 0, [(7, .ofNat 1), (8, .ofNat 1)])), (132, (.ofNat 0, []), (.ofNat 0, [(7, .ofNat 1), (8, .ofNat 1), (9, .negSucc 0)])), (132, (.ofNat 1, []), (.ofNat 0, [(7, .ofNat 1), (8, .ofNat 1), (10, .negSucc 0)])), (132, (.ofNat 2, []), (.ofNat 0, [(7, .ofNat 1), (8, .ofNat 1), (11, .negSucc 0)]))] ∧ ck_fts h' r' [(12, (.ofNat 0, [(7, .ofNat 1)]), (.ofNat 0, [(8, .negSucc 0)])), (13, (.ofNat 0, []), (.ofNat 40, []))]) ∧ ck_ow h h' r' [(117, (.ofNat 0, []), (.ofNat 1000000000, [])), (118, (.ofNat 0, []), (.ofNat 1000000000, [])), (88, (.ofNat 42, []), (.ofNat 43, [])), (88, (.ofNat 43, []), (.ofNat 44, [])), (88, (.ofNat 39, []), (.ofNat 40, [])), (115, (.ofNat 0, []), (.ofNat 1000000000, []))] := by
    intro r' hr'
    have a6 : r' 6 = r 0 := hr' 6 (by decide)
    have a7 : r' 7 = a' := hr' 7 (by decide)
    have a8 : r' 8 = c' := hr' 8 (by decide)
    have a9 : r' 9 = r 3 := hr' 9 (by decide)
    have a10 : r' 10 = r 4 := hr' 10 (by decide)
    have a11 : r' 11 = r 5 := hr' 11 (by decide)
    refine ⟨⟨(ck_es_cons (p := (6, .ofNat 0, .ofNat 1)) (by show (0 : Int) ≤ r' 6 ∧ r' 6 ≤ 1; have q := a6; omega) (ck_es_cons (p := (7, .ofNat 0, .ofNat 6)) (by show (0 : Int) ≤ r' 7 ∧ r' 7 ≤ 6; have q := a7; omega) (ck_es_cons (p := (8, .ofNat 0, .ofNat 6)) (by show (0 : Int) ≤ r' 8 ∧ r' 8 ≤ 6; have q := a8; omega) (ck_es_cons (p := (9, .ofNat 0, .ofNat 7)) (by show (0 : Int) ≤ r' 9 ∧ r' 9 ≤ 7; have q := a9; omega) (ck_es_cons (p := (10, .ofNat 0, .ofNat 7)) (by show (0 : Int) ≤ r' 10 ∧ r' 10 ≤ 7; have q := a10; omega) (ck_es_cons (p := (11, .ofNat 0, .ofNat 7)) (by show (0 : Int) ≤ r' 11 ∧ r' 11 ≤ 7; have q := a11; omega) ck_es_nil)))))), (ck_ks_cons (by show (1 : Int) ≤ ck_lv r' _ ∧ ck_lv r' _ ≤ 6; rw [ck_lv_2]; omega) (ck_ks_cons (by show (-1 : Int) ≤ ck_lv r' _ ∧ ck_lv r' _ ≤ 6; rw [ck_lv_3]; omega) (ck_ks_cons (by show (-1 : Int) ≤ ck_lv r' _ ∧ ck_lv r' _ ≤ 6; rw [ck_lv_3]; omega) (ck_ks_cons (by show (-1 : Int) ≤ ck_lv r' _ ∧ ck_lv r' _ ≤ 6; rw [ck_lv_3]; omega) ck_ks_nil)))), (ck_os_cons (o := (88, (.ofNat 29, []), (.ofNat 0, [(6, .ofNat 1)]))) (by
      show 0 ≤ ck_ev r' (.ofNat 29, []) ∧ h' 88 (ck_ev r' (.ofNat 29, [])).toNat = ck_ev r' (.ofNat 0, [(6, .ofNat 1)])
      rw [ck_ev_k, ck_ev_o]
      have w9 : h' 88 29 = r' 6 := by rw [q6 88 29 (fun e => by omega) (fun e => by omega), a6]; exact o0
      exact ⟨by decide, w9⟩) (ck_os_cons (o := (88, (.ofNat 39, []), (.ofNat 0, [(7, .ofNat 1)]))) (by
      show 0 ≤ ck_ev r' (.ofNat 39, []) ∧ h' 88 (ck_ev r' (.ofNat 39, [])).toNat = ck_ev r' (.ofNat 0, [(7, .ofNat 1)])
      rw [ck_ev_k, ck_ev_o]
      have w9 : h' 88 39 = r' 7 := by rw [a7]; exact q1
      exact ⟨by decide, w9⟩) (ck_os_cons (o := (95, (.ofNat 0, [(6, .ofNat 1)]), (.ofNat 0, [(7, .ofNat 1), (8, .ofNat 1)]))) (by
      show 0 ≤ ck_ev r' (.ofNat 0, [(6, .ofNat 1)]) ∧ h' 95 (ck_ev r' (.ofNat 0, [(6, .ofNat 1)])).toNat = ck_ev r' (.ofNat 0, [(7, .ofNat 1), (8, .ofNat 1)])
      rw [ck_ev_o, ck_ev_2]
      have w9 : h' 95 (r' 6).toNat = Int.ofNat 0 + r' 7 + r' 8 := by rw [q6 95 (r' 6).toNat (fun e => by omega) (fun e => by omega), a6, o2]; have w : Int.ofNat 0 + r 1 + r 2 = 0 + r 1 + r 2 := rfl; show _ = Int.ofNat 0 + r' 7 + r' 8; have w2 : Int.ofNat 0 + r' 7 + r' 8 = 0 + r' 7 + r' 8 := rfl; omega
      exact ⟨by omega, w9⟩) (ck_os_cons (o := (132, (.ofNat 0, []), (.ofNat 0, [(7, .ofNat 1), (8, .ofNat 1), (9, .negSucc 0)]))) (by
      show 0 ≤ ck_ev r' (.ofNat 0, []) ∧ h' 132 (ck_ev r' (.ofNat 0, [])).toNat = ck_ev r' (.ofNat 0, [(7, .ofNat 1), (8, .ofNat 1), (9, .negSucc 0)])
      rw [ck_ev_k, ck_ev_3]
      have w9 : h' 132 0 = Int.ofNat 0 + r' 7 + r' 8 - r' 9 := by rw [q6 132 0 (fun e => by omega) (fun e => by omega)]; have w0 : h 132 0 = 0 + r 1 + r 2 - r 3 := o3; show h 132 0 = 0 + r' 7 + r' 8 - r' 9; omega
      exact ⟨by decide, w9⟩) (ck_os_cons (o := (132, (.ofNat 1, []), (.ofNat 0, [(7, .ofNat 1), (8, .ofNat 1), (10, .negSucc 0)]))) (by
      show 0 ≤ ck_ev r' (.ofNat 1, []) ∧ h' 132 (ck_ev r' (.ofNat 1, [])).toNat = ck_ev r' (.ofNat 0, [(7, .ofNat 1), (8, .ofNat 1), (10, .negSucc 0)])
      rw [ck_ev_k, ck_ev_3]
      have w9 : h' 132 1 = Int.ofNat 0 + r' 7 + r' 8 - r' 10 := by rw [q6 132 1 (fun e => by omega) (fun e => by omega)]; have w0 : h 132 1 = 0 + r 1 + r 2 - r 4 := o4; show h 132 1 = 0 + r' 7 + r' 8 - r' 10; omega
      exact ⟨by decide, w9⟩) (ck_os_cons (o := (132, (.ofNat 2, []), (.ofNat 0, [(7, .ofNat 1), (8, .ofNat 1), (11, .negSucc 0)]))) (by
      show 0 ≤ ck_ev r' (.ofNat 2, []) ∧ h' 132 (ck_ev r' (.ofNat 2, [])).toNat = ck_ev r' (.ofNat 0, [(7, .ofNat 1), (8, .ofNat 1), (11, .negSucc 0)])
      rw [ck_ev_k, ck_ev_3]
      have w9 : h' 132 2 = Int.ofNat 0 + r' 7 + r' 8 - r' 11 := by rw [q6 132 2 (fun e => by omega) (fun e => by omega)]; have w0 : h 132 2 = 0 + r 1 + r 2 - r 5 := o5; show h 132 2 = 0 + r' 7 + r' 8 - r' 11; omega
      exact ⟨by decide, w9⟩) ck_os_nil)))))), ck_fts_cons (by
      show ck_ft h' 12 (ck_ev r' (.ofNat 0, [(7, .ofNat 1)])) (ck_ev r' (.ofNat 0, [(8, .negSucc 0)]))
      rw [ck_ev_o, ck_ev_m, a7, a8]
      have e : Int.ofNat 0 - c' = -c' := by show (0 : Int) - c' = _; omega
      rw [e]
      exact ck_ft12.mpr q4) (ck_fts_cons (by
      show ck_ft h' 13 (ck_ev r' (.ofNat 0, [])) (ck_ev r' (.ofNat 40, []))
      rw [ck_ev_k, ck_ev_k]
      exact ck_ft13.mpr q5) ck_fts_nil)⟩, hd_uow (fun cc j z1 z2 => q6 cc j z1 z2)⟩
  rcases x2 with x2 | x2
  · refine ⟨hd', _, List.mem_of_getElem? (i := 0) rfl, _, ?_, fun r' hr' => ⟨(rf r' hr').1, ⟨⟨x, rfl, by rw [ck_ev_k]; exact x2⟩, trivial⟩, (rf r' hr').2⟩⟩
    intro i hi
    match i, hi with
    | 0, _ => rfl
    | 1, _ => rfl
    | 2, _ => rfl
    | 3, _ => rfl
    | 4, _ => rfl
    | 5, _ => rfl
    | i + 6, hi => exact absurd hi (by show ¬ i + 6 < 6; omega)
  · refine ⟨hd', _, List.mem_of_getElem? (i := 1) rfl, _, ?_, fun r' hr' => ⟨(rf r' hr').1, ⟨⟨x, rfl, by rw [ck_ev_k]; exact x2⟩, trivial⟩, (rf r' hr').2⟩⟩
    intro i hi
    match i, hi with
    | 0, _ => rfl
    | 1, _ => rfl
    | 2, _ => rfl
    | 3, _ => rfl
    | 4, _ => rfl
    | 5, _ => rfl
    | i + 6, hi => exact absurd hi (by show ¬ i + 6 < 6; omega)
theorem ckco_306 : ck_CO ckcn_306 := by
  intro r as h hd hpre
  obtain ⟨sa, ss⟩ := hpre r (fun _ _ => rfl)
  obtain ⟨v0, rfl, ⟨q, e0, e0'⟩⟩ := ck_ss1 ss
  have z0 : (q : Int) = ck_ev r (.ofNat 88, []) := e0'
  rw [ck_ev_k] at z0
  have z0' : (q : Int) = 88 := z0
  have eq : q = 88 := by omega
  subst eq
  rw [e0]
  have b0 : (0 : Int) ≤ r 0 ∧ r 0 ≤ 1 := sa.1 (0, .ofNat 0, .ofNat 1) (List.mem_of_getElem? (i := 0) rfl)
  have b1 : (0 : Int) ≤ r 1 ∧ r 1 ≤ 6 := sa.1 (1, .ofNat 0, .ofNat 6) (List.mem_of_getElem? (i := 1) rfl)
  have b2 : (0 : Int) ≤ r 2 ∧ r 2 ≤ 6 := sa.1 (2, .ofNat 0, .ofNat 6) (List.mem_of_getElem? (i := 2) rfl)
  have b3 : (0 : Int) ≤ r 3 ∧ r 3 ≤ 7 := sa.1 (3, .ofNat 0, .ofNat 7) (List.mem_of_getElem? (i := 3) rfl)
  have b4 : (0 : Int) ≤ r 4 ∧ r 4 ≤ 7 := sa.1 (4, .ofNat 0, .ofNat 7) (List.mem_of_getElem? (i := 4) rfl)
  have b5 : (0 : Int) ≤ r 5 ∧ r 5 ≤ 7 := sa.1 (5, .ofNat 0, .ofNat 7) (List.mem_of_getElem? (i := 5) rfl)
  have k0 := sa.2.1 ([(1, .ofNat 1), (2, .ofNat 1)], .ofNat 1, .ofNat 6) (List.mem_of_getElem? (i := 0) rfl)
  have k1 := sa.2.1 ([(1, .ofNat 1), (2, .ofNat 1), (3, .negSucc 0)], .negSucc 0, .ofNat 6) (List.mem_of_getElem? (i := 1) rfl)
  have k2 := sa.2.1 ([(1, .ofNat 1), (2, .ofNat 1), (4, .negSucc 0)], .negSucc 0, .ofNat 6) (List.mem_of_getElem? (i := 2) rfl)
  have k3 := sa.2.1 ([(1, .ofNat 1), (2, .ofNat 1), (5, .negSucc 0)], .negSucc 0, .ofNat 6) (List.mem_of_getElem? (i := 3) rfl)
  have k0' : (1 : Int) ≤ r 1 + r 2 ∧ r 1 + r 2 ≤ 6 := by have w := k0; dsimp only at w; rw [ck_lv_2] at w; exact w
  have k1' : (-1 : Int) ≤ r 1 + r 2 - r 3 ∧ r 1 + r 2 - r 3 ≤ 6 := by have w := k1; dsimp only at w; rw [ck_lv_3] at w; exact w
  have k2' : (-1 : Int) ≤ r 1 + r 2 - r 4 ∧ r 1 + r 2 - r 4 ≤ 6 := by have w := k2; dsimp only at w; rw [ck_lv_3] at w; exact w
  have k3' : (-1 : Int) ≤ r 1 + r 2 - r 5 ∧ r 1 + r 2 - r 5 ≤ 6 := by have w := k3; dsimp only at w; rw [ck_lv_3] at w; exact w
  have o0 := (sa.2.2.1 (88, (.ofNat 29, []), (.ofNat 0, [(0, .ofNat 1)])) (List.mem_of_getElem? (i := 0) rfl)).2
  dsimp only at o0
  rw [ck_ev_k, ck_ev_o] at o0
  have o1 := (sa.2.2.1 (88, (.ofNat 39, []), (.ofNat 0, [(1, .ofNat 1)])) (List.mem_of_getElem? (i := 1) rfl)).2
  dsimp only at o1
  rw [ck_ev_k, ck_ev_o] at o1
  have o2 := (sa.2.2.1 (95, (.ofNat 0, [(0, .ofNat 1)]), (.ofNat 0, [(1, .ofNat 1), (2, .ofNat 1)])) (List.mem_of_getElem? (i := 2) rfl)).2
  dsimp only at o2
  rw [ck_ev_o, ck_ev_2] at o2
  have o3 := (sa.2.2.1 (132, (.ofNat 0, []), (.ofNat 0, [(1, .ofNat 1), (2, .ofNat 1), (3, .negSucc 0)])) (List.mem_of_getElem? (i := 3) rfl)).2
  dsimp only at o3
  rw [ck_ev_k, ck_ev_3] at o3
  have o4 := (sa.2.2.1 (132, (.ofNat 1, []), (.ofNat 0, [(1, .ofNat 1), (2, .ofNat 1), (4, .negSucc 0)])) (List.mem_of_getElem? (i := 4) rfl)).2
  dsimp only at o4
  rw [ck_ev_k, ck_ev_3] at o4
  have o5 := (sa.2.2.1 (132, (.ofNat 2, []), (.ofNat 0, [(1, .ofNat 1), (2, .ofNat 1), (5, .negSucc 0)])) (List.mem_of_getElem? (i := 5) rfl)).2
  dsimp only at o5
  rw [ck_ev_k, ck_ev_3] at o5
  have f5 := sa.2.2.2 (12, (.ofNat 0, [(1, .ofNat 1)]), (.ofNat 0, [(2, .negSucc 0)])) (List.mem_of_getElem? (i := 0) rfl)
  have f3 := sa.2.2.2 (13, (.ofNat 0, []), (.ofNat 40, [])) (List.mem_of_getElem? (i := 1) rfl)
  dsimp only at f5 f3
  rw [ck_ev_o, ck_ev_m] at f5
  rw [ck_ev_k, ck_ev_k] at f3
  have em : Int.ofNat 0 - r 2 = -(r 2) := by show (0 : Int) - r 2 = _; omega
  rw [em] at f5
  refine pm_Cd_mono _ _ _ _ _ _ ?_ (hd_redo (a := r 1) (c := r 2) hd (ck_ft12.mp f5) (ck_ft13.mp f3) o1 (by omega))
  intro rv h' hq
  obtain ⟨hd', ⟨x, x1, x2⟩, ⟨a', c', q1, q2, q3, q4⟩, q5, q6⟩ := hq
  subst x1
  have hMm := ck_dcM hd'
  have rf : ∀ r' : ck_R, ck_agr 12 (fun i => match i with
    | 0 => r 0
    | 1 => r 1
    | 2 => r 2
    | 3 => r 3
    | 4 => r 4
    | 5 => r 5
    | 6 => r 0
    | 7 => a'
    | 8 => c'
    | 9 => r 3
    | 10 => r 4
    | _ => r 5) r' → (ck_es [(6, .ofNat 0, .ofNat 1), (7, .ofNat 0, .ofNat 6), (8, .ofNat 0, .ofNat 6), (9, .ofNat 0, .ofNat 7), (10, .ofNat 0, .ofNat 7), (11, .ofNat 0, .ofNat 7)] r' ∧ ck_ks [([(7, .ofNat 1), (8, .ofNat 1)], .ofNat 1, .ofNat 6), ([(7, .ofNat 1), (8, .ofNat 1), (9, .negSucc 0)], .negSucc 0, .ofNat 6), ([(7, .ofNat 1), (8, .ofNat 1), (10, .negSucc 0)], .negSucc 0, .ofNat 6), ([(7, .ofNat 1), (8, .ofNat 1), (11, .negSucc 0)], .negSucc 0, .ofNat 6)] r' ∧ ck_os h' r' [(88, (.ofNat 29, []), (.ofNat 0, [(6, .ofNat 1)])), (88, (.ofNat 39, []), (.ofNat 0, [(7, .ofNat 1)])), (95, (.ofNat 0, [(6, .ofNat 1)]), (.ofNat 0, [(7, .ofNat 1), (8, .ofNat 1)])), (132, (.ofNat 0, []), (.ofNat 0, [(7, .ofNat 1), (8, .ofNat 1), (9, .negSucc 0)])), (132, (.ofNat 1, []), (.ofNat 0, [(7, .ofNat 1), (8, .ofNat 1), (10, .negSucc 0)])), (132, (.ofNat 2, []), (.ofNat 0, [(7, .ofNat 1), (8, .ofNat 1), (11, .negSucc 0)]))] ∧ ck_fts h' r' [(12, (.ofNat 0, [(7, .ofNat 1)]), (.ofNat 0, [(8, .negSucc 0)])), (13, (.ofNat 0, []), (.ofNat 40, []))]) ∧ ck_ow h h' r' [(117, (.ofNat 0, []), (.ofNat 1000000000, [])), (118, (.ofNat 0, []), (.ofNat 1000000000, [])), (88, (.ofNat 42, []), (.ofNat 43, [])), (88, (.ofNat 43, []), (.ofNat 44, [])), (88, (.ofNat 39, []), (.ofNat 40, [])), (115, (.ofNat 0, []), (.ofNat 1000000000, [])), (114, (.ofNat 0, []), (.ofNat 1000000000, []))] := by
    intro r' hr'
    have a6 : r' 6 = r 0 := hr' 6 (by decide)
    have a7 : r' 7 = a' := hr' 7 (by decide)
    have a8 : r' 8 = c' := hr' 8 (by decide)
    have a9 : r' 9 = r 3 := hr' 9 (by decide)
    have a10 : r' 10 = r 4 := hr' 10 (by decide)
    have a11 : r' 11 = r 5 := hr' 11 (by decide)
    refine ⟨⟨(ck_es_cons (p := (6, .ofNat 0, .ofNat 1)) (by show (0 : Int) ≤ r' 6 ∧ r' 6 ≤ 1; have q := a6; omega) (ck_es_cons (p := (7, .ofNat 0, .ofNat 6)) (by show (0 : Int) ≤ r' 7 ∧ r' 7 ≤ 6; have q := a7; omega) (ck_es_cons (p := (8, .ofNat 0, .ofNat 6)) (by show (0 : Int) ≤ r' 8 ∧ r' 8 ≤ 6; have q := a8; omega) (ck_es_cons (p := (9, .ofNat 0, .ofNat 7)) (by show (0 : Int) ≤ r' 9 ∧ r' 9 ≤ 7; have q := a9; omega) (ck_es_cons (p := (10, .ofNat 0, .ofNat 7)) (by show (0 : Int) ≤ r' 10 ∧ r' 10 ≤ 7; have q := a10; omega) (ck_es_cons (p := (11, .ofNat 0, .ofNat 7)) (by show (0 : Int) ≤ r' 11 ∧ r' 11 ≤ 7; have q := a11; omega) ck_es_nil)))))), (ck_ks_cons (by show (1 : Int) ≤ ck_lv r' _ ∧ ck_lv r' _ ≤ 6; rw [ck_lv_2]; omega) (ck_ks_cons (by show (-1 : Int) ≤ ck_lv r' _ ∧ ck_lv r' _ ≤ 6; rw [ck_lv_3]; omega) (ck_ks_cons (by show (-1 : Int) ≤ ck_lv r' _ ∧ ck_lv r' _ ≤ 6; rw [ck_lv_3]; omega) (ck_ks_cons (by show (-1 : Int) ≤ ck_lv r' _ ∧ ck_lv r' _ ≤ 6; rw [ck_lv_3]; omega) ck_ks_nil)))), (ck_os_cons (o := (88, (.ofNat 29, []), (.ofNat 0, [(6, .ofNat 1)]))) (by
      show 0 ≤ ck_ev r' (.ofNat 29, []) ∧ h' 88 (ck_ev r' (.ofNat 29, [])).toNat = ck_ev r' (.ofNat 0, [(6, .ofNat 1)])
      rw [ck_ev_k, ck_ev_o]
      have w9 : h' 88 29 = r' 6 := by rw [q6 88 29 (fun e => by omega) (fun e => by omega), a6]; exact o0
      exact ⟨by decide, w9⟩) (ck_os_cons (o := (88, (.ofNat 39, []), (.ofNat 0, [(7, .ofNat 1)]))) (by
      show 0 ≤ ck_ev r' (.ofNat 39, []) ∧ h' 88 (ck_ev r' (.ofNat 39, [])).toNat = ck_ev r' (.ofNat 0, [(7, .ofNat 1)])
      rw [ck_ev_k, ck_ev_o]
      have w9 : h' 88 39 = r' 7 := by rw [a7]; exact q1
      exact ⟨by decide, w9⟩) (ck_os_cons (o := (95, (.ofNat 0, [(6, .ofNat 1)]), (.ofNat 0, [(7, .ofNat 1), (8, .ofNat 1)]))) (by
      show 0 ≤ ck_ev r' (.ofNat 0, [(6, .ofNat 1)]) ∧ h' 95 (ck_ev r' (.ofNat 0, [(6, .ofNat 1)])).toNat = ck_ev r' (.ofNat 0, [(7, .ofNat 1), (8, .ofNat 1)])
      rw [ck_ev_o, ck_ev_2]
      have w9 : h' 95 (r' 6).toNat = Int.ofNat 0 + r' 7 + r' 8 := by rw [q6 95 (r' 6).toNat (fun e => by omega) (fun e => by omega), a6, o2]; have w : Int.ofNat 0 + r 1 + r 2 = 0 + r 1 + r 2 := rfl; show _ = Int.ofNat 0 + r' 7 + r' 8; have w2 : Int.ofNat 0 + r' 7 + r' 8 = 0 + r' 7 + r' 8 := rfl; omega
      exact ⟨by omega, w9⟩) (ck_os_cons (o := (132, (.ofNat 0, []), (.ofNat 0, [(7, .ofNat 1), (8, .ofNat 1), (9, .negSucc 0)]))) (by
      show 0 ≤ ck_ev r' (.ofNat 0, []) ∧ h' 132 (ck_ev r' (.ofNat 0, [])).toNat = ck_ev r' (.ofNat 0, [(7, .ofNat 1), (8, .ofNat 1), (9, .negSucc 0)])
      rw [ck_ev_k, ck_ev_3]
      have w9 : h' 132 0 = Int.ofNat 0 + r' 7 + r' 8 - r' 9 := by rw [q6 132 0 (fun e => by omega) (fun e => by omega)]; have w0 : h 132 0 = 0 + r 1 + r 2 - r 3 := o3; show h 132 0 = 0 + r' 7 + r' 8 - r' 9; omega
      exact ⟨by decide, w9⟩) (ck_os_cons (o := (132, (.ofNat 1, []), (.ofNat 0, [(7, .ofNat 1), (8, .ofNat 1), (10, .negSucc 0)]))) (by
      show 0 ≤ ck_ev r' (.ofNat 1, []) ∧ h' 132 (ck_ev r' (.ofNat 1, [])).toNat = ck_ev r' (.ofNat 0, [(7, .ofNat 1), (8, .ofNat 1), (10, .negSucc 0)])
      rw [ck_ev_k, ck_ev_3]
      have w9 : h' 132 1 = Int.ofNat 0 + r' 7 + r' 8 - r' 10 := by rw [q6 132 1 (fun e => by omega) (fun e => by omega)]; have w0 : h 132 1 = 0 + r 1 + r 2 - r 4 := o4; show h 132 1 = 0 + r' 7 + r' 8 - r' 10; omega
      exact ⟨by decide, w9⟩) (ck_os_cons (o := (132, (.ofNat 2, []), (.ofNat 0, [(7, .ofNat 1), (8, .ofNat 1), (11, .negSucc 0)]))) (by
      show 0 ≤ ck_ev r' (.ofNat 2, []) ∧ h' 132 (ck_ev r' (.ofNat 2, [])).toNat = ck_ev r' (.ofNat 0, [(7, .ofNat 1), (8, .ofNat 1), (11, .negSucc 0)])
      rw [ck_ev_k, ck_ev_3]
      have w9 : h' 132 2 = Int.ofNat 0 + r' 7 + r' 8 - r' 11 := by rw [q6 132 2 (fun e => by omega) (fun e => by omega)]; have w0 : h 132 2 = 0 + r 1 + r 2 - r 5 := o5; show h 132 2 = 0 + r' 7 + r' 8 - r' 11; omega
      exact ⟨by decide, w9⟩) ck_os_nil)))))), ck_fts_cons (by
      show ck_ft h' 12 (ck_ev r' (.ofNat 0, [(7, .ofNat 1)])) (ck_ev r' (.ofNat 0, [(8, .negSucc 0)]))
      rw [ck_ev_o, ck_ev_m, a7, a8]
      have e : Int.ofNat 0 - c' = -c' := by show (0 : Int) - c' = _; omega
      rw [e]
      exact ck_ft12.mpr q4) (ck_fts_cons (by
      show ck_ft h' 13 (ck_ev r' (.ofNat 0, [])) (ck_ev r' (.ofNat 40, []))
      rw [ck_ev_k, ck_ev_k]
      exact ck_ft13.mpr q5) ck_fts_nil)⟩, hd_uow2 (fun cc j z1 z2 => q6 cc j z1 z2)⟩
  rcases x2 with x2 | x2
  · refine ⟨hd', _, List.mem_of_getElem? (i := 0) rfl, _, ?_, fun r' hr' => ⟨(rf r' hr').1, ⟨⟨x, rfl, by rw [ck_ev_k]; exact x2⟩, trivial⟩, (rf r' hr').2⟩⟩
    intro i hi
    match i, hi with
    | 0, _ => rfl
    | 1, _ => rfl
    | 2, _ => rfl
    | 3, _ => rfl
    | 4, _ => rfl
    | 5, _ => rfl
    | i + 6, hi => exact absurd hi (by show ¬ i + 6 < 6; omega)
  · refine ⟨hd', _, List.mem_of_getElem? (i := 1) rfl, _, ?_, fun r' hr' => ⟨(rf r' hr').1, ⟨⟨x, rfl, by rw [ck_ev_k]; exact x2⟩, trivial⟩, (rf r' hr').2⟩⟩
    intro i hi
    match i, hi with
    | 0, _ => rfl
    | 1, _ => rfl
    | 2, _ => rfl
    | 3, _ => rfl
    | 4, _ => rfl
    | 5, _ => rfl
    | i + 6, hi => exact absurd hi (by show ¬ i + 6 < 6; omega)
