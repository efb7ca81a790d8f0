def st_L : List (List Int) := [[1, 0, 2, 18, 28, 38, 45, 55, 58, 61, 65, 70, 75, 0, 80, 86, 0, 87], [], [3, 6, 16, 17], [4, 5, 0, 0, 0, 0, 0, 0, 0, (-1)], [769604, 525618, 611717, 498, 408362632, 21678547], [], [0, 7, 8, 0, 9, 10, 0, 11, 12, 0, 13, 14, 3, 0, 0, 15], [], [], [], [], [], [], [], [], [], [], [], [0, 19, 20, 0, 21, 22, 0, 23, 24, 0, 25, 26, 3, 0, 0, 27], [], [], [], [], [], [], [], [], [], [0, 29, 30, 0, 31, 32, 0, 33, 34, 0, 35, 36, 3, 0, 0, 37], [], [], [], [], [], [], [], [], [], [39, 0, 40, 41, 42, 43, 44, 0, 0], [], [(-1), (-1), (-1), (-1), (-1), (-1)], [], [], [], [], [46, 49, 52], [0, 47, 0, 48], [], [], [0, 50, 0, 51], [], [], [0, 53, 0, 54], [], [], [56, 57], [], [], [59, 0, 60], [], [], [62, 63, 64, 0, (-1), 0, 0, 0, 0], [], [], [], [0, 0, 66, 67, 68, 69, 0, 0, 0, 0, 0], [], [], [], [], [0, 0, 71, 72, 73, 74, 0, 0, 0, 0, 0], [], [], [], [], [0, 0, 76, 77, 78, 79, 0, 0, 0, 0, 0], [], [], [], [], [0, 0, 81, 82, 83, 84, 85], [], [], [], [], [], [], [], [89, 90, 0, 0, 0, (-1), 0, 0, 0, 0, 0, 91, 92, 93, 94, 95, 96, 97, 98, 99, 100, 101, 102, 103, 104, 105, 106, 107, 108, 0, 0, 109, 110, 111, 112, 113, 114, 115, 116, 0, 117, 118, 0, 0, 119, 120, 121, 122, 0, 0, 0, 0, 123, 124, (-1), 0, 0, 0, 125, 0, 126, 127, 128, 129, 130, 131, 0, 0, 132, 133, 134], [], [], [], [], [], [], [3], [], [], [], [], [], [], [], [], [], [], [], [], [], [], [], [], [], [], [], [0, 1, 2, 0, 1, 2], [(-1), (-1), (-1), (-1), (-1), (-1)], [], [], [], [], [], [], [], [], [], [], [], [], [], [], [], [(-1), (-1), (-1)], [], []]
def st_h : pm_Hp := fun c j => (st_L.getD c []).getD j 0
def st_c1 (x : Nat × Nat × List (Int × Int)) (l : List Int) : Bool := match x.1 with
  | 0 => (List.range x.2.2.length).all (fun j => match x.2.2[j]? with
    | none => true
    | some v => decide (v.1 ≤ l.getD j 0 ∧ l.getD j 0 ≤ v.2))
  | _ => match x.2.2[0]? with
    | none => true
    | some v => (0 :: l).all (fun y => decide (v.1 ≤ y ∧ y ≤ v.2))
def st_c2 (c : Nat) : Bool := match ck_D[c]? with
  | none => true
  | some x => st_c1 x (st_L.getD c [])
theorem st_all : (List.range 135).all st_c2 = true := by decide +kernel
theorem st_len : ck_D.length = 135 := by decide +kernel
theorem st_mem (l : List Int) (j : Nat) : l.getD j 0 ∈ 0 :: l := by
  rw [List.getD_eq_getElem?_getD]
  cases h : l[j]? with
  | none => exact List.mem_cons_self
  | some y => exact List.mem_cons_of_mem _ (List.mem_of_getElem? h)
theorem st_dec : ck_dec st_h := by
  intro c j v hv
  unfold ck_dv at hv
  cases hx : ck_D[c]? with
  | none => rw [hx] at hv; cases hv
  | some x =>
    rw [hx] at hv
    have hc : c < 135 := by
      have h1 := (List.getElem?_eq_some_iff.mp hx).1
      rw [st_len] at h1; exact h1
    have h2 : st_c2 c = true := List.all_eq_true.mp st_all c (List.mem_range.mpr hc)
    unfold st_c2 at h2
    rw [hx] at h2
    obtain ⟨a, m, l⟩ := x
    cases a with
    | zero =>
      have hv : l[j]? = some v := hv
      have hj : j < l.length := (List.getElem?_eq_some_iff.mp hv).1
      have h3 := List.all_eq_true.mp (show (List.range l.length).all (fun j => match l[j]? with
        | none => true
        | some v => decide (v.1 ≤ (st_L.getD c []).getD j 0 ∧ (st_L.getD c []).getD j 0 ≤ v.2)) = true from h2) j (List.mem_range.mpr hj)
      rw [hv] at h3
      exact of_decide_eq_true h3
    | succ a =>
      have hv : (if j < m then l[0]? else none) = some v := hv
      have h4 : l[0]? = some v := by
        by_cases hj : j < m
        · rw [if_pos hj] at hv; exact hv
        · rw [if_neg hj] at hv; cases hv
      have h3 : (match l[0]? with
        | none => true
        | some v => (0 :: st_L.getD c []).all (fun y => decide (v.1 ≤ y ∧ y ≤ v.2))) = true := h2
      rw [h4] at h3
      exact of_decide_eq_true (List.all_eq_true.mp h3 _ (st_mem _ j))
theorem st_f5 : ck_ft st_h 5 0 0 := by
  show ∀ j : Nat, (0 : Int) ≤ (j : Int) → (j : Int) < 0 → 1 ≤ j → _
  intro j h1 h2
  exact absurd h2 (by omega)
theorem st_f6 : ck_ft st_h 6 0 0 := by
  show ∀ j : Nat, (0 : Int) ≤ (j : Int) → (j : Int) < 0 → 1 ≤ j → _
  intro j h1 h2
  exact absurd h2 (by omega)
theorem st_f7 : ck_ft st_h 7 0 0 := by
  show ∀ j : Nat, (0 : Int) ≤ (j : Int) → (j : Int) < 0 → 1 ≤ j → _
  intro j h1 h2
  exact absurd h2 (by omega)
theorem st_f4 : ck_ft st_h 4 0 40 := by
  show ∀ j : Nat, (0 : Int) ≤ (j : Int) → (j : Int) < 40 → st_h 41 j ≤ 0 ∨ _
  intro j _ _
  exact Or.inl (show ((([] : List Int)).getD j 0) ≤ 0 from by simp)
theorem st_f0 : ck_ft st_h 0 0 0 := by
  show st_h 18 6 ≤ 0 ∨ _
  exact Or.inl (by decide +kernel)
theorem st_f12 : ck_ft st_h 12 0 (-3) := by
  show 0 ≤ st_h 88 42 ∧ 0 ≤ st_h 88 43 ∧ st_h 88 42 + st_h 88 43 ≤ 40 ∧ ck_cn st_h 117 0 (st_h 88 42).toNat ≤ 0 ∧ ck_cn st_h 117 (st_h 88 42).toNat (st_h 88 43).toNat ≤ -(-3)
  decide +kernel
theorem st_f13 : ck_ft st_h 13 0 40 := by
  show ∀ j : Nat, (0 : Int) ≤ (j : Int) → (j : Int) < 40 → _ ∨ 0 ≤ st_h 118 j ∧ st_h 118 j ≤ 2
  intro j _ _
  exact Or.inr (show 0 ≤ (([] : List Int).getD j 0) ∧ (([] : List Int).getD j 0) ≤ 2 from by simp)
theorem st_inv : ck_Inv lw_SI st_h := by
  refine ⟨st_dec, lw_SI0, List.mem_cons_self, fun i => ([0, 0, 0, 0, 0, 0, 3, 4, 4, 4] : List Int).getD i 0, fun r hr => ?_⟩
  have e0 : r 0 = 0 := hr 0 (by decide)
  have e1 : r 1 = 0 := hr 1 (by decide)
  have e2 : r 2 = 0 := hr 2 (by decide)
  have e3 : r 3 = 0 := hr 3 (by decide)
  have e4 : r 4 = 0 := hr 4 (by decide)
  have e5 : r 5 = 0 := hr 5 (by decide)
  have e6 : r 6 = 3 := hr 6 (by decide)
  have e7 : r 7 = 4 := hr 7 (by decide)
  have e8 : r 8 = 4 := hr 8 (by decide)
  have e9 : r 9 = 4 := hr 9 (by decide)
  have f0 : ck_ev r (.ofNat 3, []) = 3 := by
    show (3 : Int) + (0) = 3
    rfl
  have f1 : ck_ev r (.ofNat 18, []) = 18 := by
    show (18 : Int) + (0) = 18
    rfl
  have f2 : ck_ev r (.ofNat 4, []) = 4 := by
    show (4 : Int) + (0) = 4
    rfl
  have f3 : ck_ev r (.ofNat 28, []) = 28 := by
    show (28 : Int) + (0) = 28
    rfl
  have f4 : ck_ev r (.ofNat 0, []) = 0 := by
    show (0 : Int) + (0) = 0
    rfl
  have f5 : ck_ev r (.ofNat 0, [(0, .ofNat 1)]) = 0 := by
    show (0 : Int) + ((1 : Int) * r 0 + (0)) = 0
    omega
  have f6 : ck_ev r (.ofNat 0, [(1, .ofNat 1)]) = 0 := by
    show (0 : Int) + ((1 : Int) * r 1 + (0)) = 0
    omega
  have f7 : ck_ev r (.ofNat 0, [(2, .ofNat 1)]) = 0 := by
    show (0 : Int) + ((1 : Int) * r 2 + (0)) = 0
    omega
  have f8 : ck_ev r (.ofNat 1, []) = 1 := by
    show (1 : Int) + (0) = 1
    rfl
  have f9 : ck_ev r (.ofNat 0, [(3, .ofNat 1)]) = 0 := by
    show (0 : Int) + ((1 : Int) * r 3 + (0)) = 0
    omega
  have f10 : ck_ev r (.ofNat 67, []) = 67 := by
    show (67 : Int) + (0) = 67
    rfl
  have f11 : ck_ev r (.ofNat 29, []) = 29 := by
    show (29 : Int) + (0) = 29
    rfl
  have f12 : ck_ev r (.ofNat 0, [(4, .ofNat 1)]) = 0 := by
    show (0 : Int) + ((1 : Int) * r 4 + (0)) = 0
    omega
  have f13 : ck_ev r (.ofNat 39, []) = 39 := by
    show (39 : Int) + (0) = 39
    rfl
  have f14 : ck_ev r (.ofNat 0, [(5, .ofNat 1)]) = 0 := by
    show (0 : Int) + ((1 : Int) * r 5 + (0)) = 0
    omega
  have f15 : ck_ev r (.ofNat 0, [(5, .ofNat 1), (6, .ofNat 1)]) = 3 := by
    show (0 : Int) + ((1 : Int) * r 5 + ((1 : Int) * r 6 + (0))) = 3
    omega
  have f16 : ck_ev r (.ofNat 0, [(5, .ofNat 1), (6, .ofNat 1), (7, .negSucc 0)]) = (-1) := by
    show (0 : Int) + ((1 : Int) * r 5 + ((1 : Int) * r 6 + (((-1) : Int) * r 7 + (0)))) = (-1)
    omega
  have f17 : ck_ev r (.ofNat 0, [(5, .ofNat 1), (6, .ofNat 1), (8, .negSucc 0)]) = (-1) := by
    show (0 : Int) + ((1 : Int) * r 5 + ((1 : Int) * r 6 + (((-1) : Int) * r 8 + (0)))) = (-1)
    omega
  have f18 : ck_ev r (.ofNat 2, []) = 2 := by
    show (2 : Int) + (0) = 2
    rfl
  have f19 : ck_ev r (.ofNat 0, [(5, .ofNat 1), (6, .ofNat 1), (9, .negSucc 0)]) = (-1) := by
    show (0 : Int) + ((1 : Int) * r 5 + ((1 : Int) * r 6 + (((-1) : Int) * r 9 + (0)))) = (-1)
    omega
  have f20 : ck_ev r (.ofNat 40, []) = 40 := by
    show (40 : Int) + (0) = 40
    rfl
  have f21 : ck_ev r (.ofNat 0, [(6, .negSucc 0)]) = (-3) := by
    show (0 : Int) + (((-1) : Int) * r 6 + (0)) = (-3)
    omega
  have k0 : ck_lv r [(5, .ofNat 1), (6, .ofNat 1)] = 3 := by
    show (1 : Int) * r 5 + ((1 : Int) * r 6 + (0)) = 3
    omega
  have k1 : ck_lv r [(5, .ofNat 1), (6, .ofNat 1), (7, .negSucc 0)] = (-1) := by
    show (1 : Int) * r 5 + ((1 : Int) * r 6 + (((-1) : Int) * r 7 + (0))) = (-1)
    omega
  have k2 : ck_lv r [(5, .ofNat 1), (6, .ofNat 1), (8, .negSucc 0)] = (-1) := by
    show (1 : Int) * r 5 + ((1 : Int) * r 6 + (((-1) : Int) * r 8 + (0))) = (-1)
    omega
  have k3 : ck_lv r [(5, .ofNat 1), (6, .ofNat 1), (9, .negSucc 0)] = (-1) := by
    show (1 : Int) * r 5 + ((1 : Int) * r 6 + (((-1) : Int) * r 9 + (0))) = (-1)
    omega
  refine ⟨(List.forall_mem_cons.mpr ⟨(by show _ ≤ r 0 ∧ r 0 ≤ _; rw [e0]; decide), (List.forall_mem_cons.mpr ⟨(by show _ ≤ r 1 ∧ r 1 ≤ _; rw [e1]; decide), (List.forall_mem_cons.mpr ⟨(by show _ ≤ r 2 ∧ r 2 ≤ _; rw [e2]; decide), (List.forall_mem_cons.mpr ⟨(by show _ ≤ r 3 ∧ r 3 ≤ _; rw [e3]; decide), (List.forall_mem_cons.mpr ⟨(by show _ ≤ r 4 ∧ r 4 ≤ _; rw [e4]; decide), (List.forall_mem_cons.mpr ⟨(by show _ ≤ r 5 ∧ r 5 ≤ _; rw [e5]; decide), (List.forall_mem_cons.mpr ⟨(by show _ ≤ r 6 ∧ r 6 ≤ _; rw [e6]; decide), (List.forall_mem_cons.mpr ⟨(by show _ ≤ r 7 ∧ r 7 ≤ _; rw [e7]; decide), (List.forall_mem_cons.mpr ⟨(by show _ ≤ r 8 ∧ r 8 ≤ _; rw [e8]; decide), (List.forall_mem_cons.mpr ⟨(by show _ ≤ r 9 ∧ r 9 ≤ _; rw [e9]; decide), (fun _ h => absurd h List.not_mem_nil)⟩)⟩)⟩)⟩)⟩)⟩)⟩)⟩)⟩)⟩), (List.forall_mem_cons.mpr ⟨(by show _ ≤ ck_lv r _ ∧ ck_lv r _ ≤ _; rw [k0]; decide), (List.forall_mem_cons.mpr ⟨(by show _ ≤ ck_lv r _ ∧ ck_lv r _ ≤ _; rw [k1]; decide), (List.forall_mem_cons.mpr ⟨(by show _ ≤ ck_lv r _ ∧ ck_lv r _ ≤ _; rw [k2]; decide), (List.forall_mem_cons.mpr ⟨(by show _ ≤ ck_lv r _ ∧ ck_lv r _ ≤ _; rw [k3]; decide), (fun _ h => absurd h List.not_mem_nil)⟩)⟩)⟩)⟩), (List.forall_mem_cons.mpr ⟨(by show 0 ≤ ck_ev r (.ofNat 3, []) ∧ st_h 0 (ck_ev r (.ofNat 3, [])).toNat = ck_ev r (.ofNat 18, []); rw [f0, f1]; decide +kernel), (List.forall_mem_cons.mpr ⟨(by show 0 ≤ ck_ev r (.ofNat 4, []) ∧ st_h 0 (ck_ev r (.ofNat 4, [])).toNat = ck_ev r (.ofNat 28, []); rw [f2, f3]; decide +kernel), (List.forall_mem_cons.mpr ⟨(by show 0 ≤ ck_ev r (.ofNat 0, []) ∧ st_h 65 (ck_ev r (.ofNat 0, [])).toNat = ck_ev r (.ofNat 0, [(0, .ofNat 1)]); rw [f4, f5]; decide +kernel), (List.forall_mem_cons.mpr ⟨(by show 0 ≤ ck_ev r (.ofNat 0, []) ∧ st_h 70 (ck_ev r (.ofNat 0, [])).toNat = ck_ev r (.ofNat 0, [(1, .ofNat 1)]); rw [f4, f6]; decide +kernel), (List.forall_mem_cons.mpr ⟨(by show 0 ≤ ck_ev r (.ofNat 0, []) ∧ st_h 75 (ck_ev r (.ofNat 0, [])).toNat = ck_ev r (.ofNat 0, [(2, .ofNat 1)]); rw [f4, f7]; decide +kernel), (List.forall_mem_cons.mpr ⟨(by show 0 ≤ ck_ev r (.ofNat 1, []) ∧ st_h 80 (ck_ev r (.ofNat 1, [])).toNat = ck_ev r (.ofNat 0, [(3, .ofNat 1)]); rw [f8, f9]; decide +kernel), (List.forall_mem_cons.mpr ⟨(by show 0 ≤ ck_ev r (.ofNat 67, []) ∧ st_h 88 (ck_ev r (.ofNat 67, [])).toNat = ck_ev r (.ofNat 0, [(3, .ofNat 1)]); rw [f10, f9]; decide +kernel), (List.forall_mem_cons.mpr ⟨(by show 0 ≤ ck_ev r (.ofNat 29, []) ∧ st_h 88 (ck_ev r (.ofNat 29, [])).toNat = ck_ev r (.ofNat 0, [(4, .ofNat 1)]); rw [f11, f12]; decide +kernel), (List.forall_mem_cons.mpr ⟨(by show 0 ≤ ck_ev r (.ofNat 39, []) ∧ st_h 88 (ck_ev r (.ofNat 39, [])).toNat = ck_ev r (.ofNat 0, [(5, .ofNat 1)]); rw [f13, f14]; decide +kernel), (List.forall_mem_cons.mpr ⟨(by show 0 ≤ ck_ev r (.ofNat 0, [(4, .ofNat 1)]) ∧ st_h 95 (ck_ev r (.ofNat 0, [(4, .ofNat 1)])).toNat = ck_ev r (.ofNat 0, [(5, .ofNat 1), (6, .ofNat 1)]); rw [f12, f15]; decide +kernel), (List.forall_mem_cons.mpr ⟨(by show 0 ≤ ck_ev r (.ofNat 0, []) ∧ st_h 132 (ck_ev r (.ofNat 0, [])).toNat = ck_ev r (.ofNat 0, [(5, .ofNat 1), (6, .ofNat 1), (7, .negSucc 0)]); rw [f16, f4]; decide +kernel), (List.forall_mem_cons.mpr ⟨(by show 0 ≤ ck_ev r (.ofNat 1, []) ∧ st_h 132 (ck_ev r (.ofNat 1, [])).toNat = ck_ev r (.ofNat 0, [(5, .ofNat 1), (6, .ofNat 1), (8, .negSucc 0)]); rw [f17, f8]; decide +kernel), (List.forall_mem_cons.mpr ⟨(by show 0 ≤ ck_ev r (.ofNat 2, []) ∧ st_h 132 (ck_ev r (.ofNat 2, [])).toNat = ck_ev r (.ofNat 0, [(5, .ofNat 1), (6, .ofNat 1), (9, .negSucc 0)]); rw [f18, f19]; decide +kernel), (fun _ h => absurd h List.not_mem_nil)⟩)⟩)⟩)⟩)⟩)⟩)⟩)⟩)⟩)⟩)⟩)⟩)⟩), (List.forall_mem_cons.mpr ⟨(by show ck_ft st_h 5 (ck_ev r (.ofNat 0, [])) (ck_ev r (.ofNat 0, [(0, .ofNat 1)])); rw [f4, f5]; exact st_f5), (List.forall_mem_cons.mpr ⟨(by show ck_ft st_h 6 (ck_ev r (.ofNat 0, [])) (ck_ev r (.ofNat 0, [(1, .ofNat 1)])); rw [f4, f6]; exact st_f6), (List.forall_mem_cons.mpr ⟨(by show ck_ft st_h 7 (ck_ev r (.ofNat 0, [])) (ck_ev r (.ofNat 0, [(2, .ofNat 1)])); rw [f4, f7]; exact st_f7), (List.forall_mem_cons.mpr ⟨(by show ck_ft st_h 4 (ck_ev r (.ofNat 0, [])) (ck_ev r (.ofNat 40, [])); rw [f20, f4]; exact st_f4), (List.forall_mem_cons.mpr ⟨(by show ck_ft st_h 0 (ck_ev r (.ofNat 0, [])) (ck_ev r (.ofNat 0, [])); rw [f4]; exact st_f0), (List.forall_mem_cons.mpr ⟨(by show ck_ft st_h 12 (ck_ev r (.ofNat 0, [(5, .ofNat 1)])) (ck_ev r (.ofNat 0, [(6, .negSucc 0)])); rw [f14, f21]; exact st_f12), (List.forall_mem_cons.mpr ⟨(by show ck_ft st_h 13 (ck_ev r (.ofNat 0, [])) (ck_ev r (.ofNat 40, [])); rw [f20, f4]; exact st_f13), (fun _ h => absurd h List.not_mem_nil)⟩)⟩)⟩)⟩)⟩)⟩)⟩)⟩
