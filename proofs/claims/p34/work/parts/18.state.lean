/-! The checker: facts about the heap, windows of writes. -/
abbrev ck_O : Type := List (Nat × ck_F × ck_F)
abbrev ck_S : Type := Nat × ck_E × ck_K × ck_O × ck_O
abbrev ck_Ds : Type := Nat × Nat × Nat × Nat × Nat × Int × Int × Int
def ck_dv (c j : Nat) : Option (Int × Int) := match ck_D[c]? with
  | none => none
  | some x => match x.1 with
    | 0 => x.2.2[j]?
    | _ => if j < x.2.1 then x.2.2[0]? else none
def ck_dec (h : pm_Hp) : Prop := ∀ (c j : Nat) (v : Int × Int), ck_dv c j = some v → v.1 ≤ h c j ∧ h c j ≤ v.2
def ck_cn (h : pm_Hp) (c i : Nat) : Nat → Int
  | 0 => 0
  | m + 1 => ck_cn h c i m + (if h c (i + m) = -1 then 1 else 0)
def ck_f5 (h : pm_Hp) (A sa B sb : Nat) (x y : Int) : Prop := 0 ≤ h A sa ∧ 0 ≤ h A sb ∧ h A sa + h A sb ≤ 40 ∧ ck_cn h B 0 (h A sa).toNat ≤ x ∧ ck_cn h B (h A sa).toNat (h A sb).toNat ≤ -y
def ck_vl (x : Int) : Int := if x ≤ 0 then 1000001 else x
def ck_f6 (h : pm_Hp) (A : Nat) : Int := ck_vl (h A 0) + ck_vl (h A 1) + ck_vl (h A 2) + ck_vl (h A 3) + ck_vl (h A 4) + ck_vl (h A 5) + ck_vl (h A 6) + ck_vl (h A 7)
def ck_ft0 (h : pm_Hp) (d : ck_Ds) (a b : Int) : Prop := match d with
  | (t, A, sa, B, sb, th, lo, hi) => match t with
    | 1 => ∀ j : Nat, a ≤ (j : Int) → (j : Int) < b → lo ≤ h A j ∧ h A j ≤ hi
    | 2 => ∀ j : Nat, a ≤ (j : Int) → (j : Int) < b → 1 ≤ j → 0 ≤ h A j ∧ h A j < (j : Int) ∧ h B (h A j).toNat ≤ hi
    | 3 => ∀ j : Nat, a ≤ (j : Int) → (j : Int) < b → h A j ≤ th ∨ lo ≤ h B j ∧ h B j ≤ hi
    | 4 => h A sa ≤ th ∨ lo ≤ h B sb ∧ h B sb ≤ hi
    | 5 => ck_f5 h A sa B sb a b
    | 6 => ck_f6 h A ≤ a
    | _ => True
def ck_kd (k : Nat) : ck_Ds := match ck_Kd[k]? with
  | some d => d
  | none => (0, 0, 0, 0, 0, 0, 0, 0)
def ck_ft (h : pm_Hp) (k : Nat) (a b : Int) : Prop := ck_ft0 h (ck_kd k) a b
theorem ck_ft0_mono {h : pm_Hp} {d : ck_Ds} {a b a' b' : Int} (h1 : a ≤ a') (h2 : b' ≤ b) (H : ck_ft0 h d a b) : ck_ft0 h d a' b' := by
  obtain ⟨t, A, sa, B, sb, th, lo, hi⟩ := d
  match t, H with
  | 0, _ => exact trivial
  | 1, H => exact fun j g1 g2 => H j (by omega) (by omega)
  | 2, H => exact fun j g1 g2 => H j (by omega) (by omega)
  | 3, H => exact fun j g1 g2 => H j (by omega) (by omega)
  | 4, H => exact H
  | 5, H =>
    obtain ⟨g1, g2, g3, g4, g5⟩ := H
    exact ⟨g1, g2, g3, by omega, by omega⟩
  | 6, H =>
    have H' : ck_f6 h A ≤ a := H
    show ck_f6 h A ≤ a'
    omega
  | _ + 7, _ => exact trivial
/-- what of the heap a fact speaks of -/
def ck_sm (h h' : pm_Hp) (d : ck_Ds) (a b : Int) : Prop := match d with
  | (t, A, sa, B, sb, _, _, _) => match t with
    | 1 => ∀ j : Nat, a ≤ (j : Int) → (j : Int) < b → h' A j = h A j
    | 2 => ∀ j : Nat, (j : Int) < b → h' A j = h A j ∧ h' B j = h B j
    | 3 => ∀ j : Nat, a ≤ (j : Int) → (j : Int) < b → h' A j = h A j ∧ h' B j = h B j
    | 4 => h' A sa = h A sa ∧ h' B sb = h B sb
    | 5 => h' A sa = h A sa ∧ h' A sb = h A sb ∧ ∀ j : Nat, h' B j = h B j
    | 6 => ∀ j : Nat, h' A j = h A j
    | _ => True
theorem ck_cn_same {h h' : pm_Hp} {B : Nat} (H : ∀ j : Nat, h' B j = h B j) (i : Nat) : ∀ m : Nat, ck_cn h' B i m = ck_cn h B i m
  | 0 => rfl
  | m + 1 => by
    show ck_cn h' B i m + _ = ck_cn h B i m + _
    rw [ck_cn_same H i m, H]
theorem ck_ft0_sem {h h' : pm_Hp} {d : ck_Ds} {a b : Int} (hs : ck_sm h h' d a b) (H : ck_ft0 h d a b) : ck_ft0 h' d a b := by
  obtain ⟨t, A, sa, B, sb, th, lo, hi⟩ := d
  match t, H, hs with
  | 0, _, _ => exact trivial
  | 1, H, hs => exact fun j g1 g2 => by rw [hs j g1 g2]; exact H j g1 g2
  | 2, H, hs =>
    intro j g1 g2 g3
    have h1 := H j g1 g2 g3
    have e1 := (hs j g2).1
    rw [e1]
    have e2 := (hs (h A j).toNat (by omega)).2
    rw [e2]
    exact h1
  | 3, H, hs => exact fun j g1 g2 => by rw [(hs j g1 g2).1, (hs j g1 g2).2]; exact H j g1 g2
  | 4, H, hs =>
    show h' A sa ≤ th ∨ lo ≤ h' B sb ∧ h' B sb ≤ hi
    rw [hs.1, hs.2]
    exact H
  | 5, H, hs =>
    show ck_f5 h' A sa B sb a b
    unfold ck_f5
    rw [hs.1, hs.2.1, ck_cn_same hs.2.2, ck_cn_same hs.2.2]
    exact H
  | 6, H, hs =>
    show ck_f6 h' A ≤ a
    unfold ck_f6
    rw [hs 0, hs 1, hs 2, hs 3, hs 4, hs 5, hs 6, hs 7]
    exact H
  | _ + 7, _, _ => exact trivial
/-- windows -/
def ck_ow (h h' : pm_Hp) (r : ck_R) (W : ck_O) : Prop := ∀ c j : Nat, h' c j = h c j ∨ ∃ w ∈ W, w.1 = c ∧ ck_ev r w.2.1 ≤ (j : Int) ∧ (j : Int) < ck_ev r w.2.2
/-- nothing of the cell from a to b is in the window -/
noncomputable def ck_kr (N : ck_F → Bool) (w : Nat × ck_F × ck_F) (c : Nat) (a b : ck_F) : Bool := bif Nat.beq w.1 c then (bif N (ck_fs b w.2.1) then true else N (ck_fs w.2.2 a)) else true
noncomputable def ck_ku (N : ck_F → Bool) (w : Nat × ck_F × ck_F) (c : Nat) (b : ck_F) : Bool := bif Nat.beq w.1 c then N (ck_fs b w.2.1) else true
noncomputable def ck_k1 (N : ck_F → Bool) (w a : Nat × ck_F × ck_F) : Bool := match ck_kd a.1 with
  | (t, A, sa, B, sb, _, _, _) => match t with
    | 1 => ck_kr N w A a.2.1 a.2.2
    | 2 => bif ck_ku N w A a.2.2 then ck_ku N w B a.2.2 else false
    | 3 => bif ck_kr N w A a.2.1 a.2.2 then ck_kr N w B a.2.1 a.2.2 else false
    | 4 => bif ck_kr N w A ((sa : Int), []) ((sa : Int) + 1, []) then ck_kr N w B ((sb : Int), []) ((sb : Int) + 1, []) else false
    | 5 => bif ck_kr N w A ((sa : Int), []) ((sa : Int) + 1, []) then (bif ck_kr N w A ((sb : Int), []) ((sb : Int) + 1, []) then (bif Nat.beq w.1 B then false else true) else false) else false
    | 6 => bif Nat.beq w.1 A then false else true
    | _ => true
noncomputable def ck_kf (N : ck_F → Bool) (W : ck_O) (a : Nat × ck_F × ck_F) : Bool := List.rec (motive := fun _ => Bool) true (fun w _ ih => bif ck_k1 N w a then ih else false) W
noncomputable def ck_ko (N : ck_F → Bool) (W : ck_O) (c : Nat) (f : ck_F) : Bool := List.rec (motive := fun _ => Bool) true (fun w _ ih => bif ck_kr N w c f (ck_fa (1, []) f) then ih else false) W
theorem ck_and {a b : Bool} (h : (bif a then b else false) = true) : a = true ∧ b = true := by
  cases a with
  | true => exact ⟨rfl, h⟩
  | false => cases h
theorem ck_or {a b : Bool} (h : (bif a then true else b) = true) : a = true ∨ b = true := by
  cases a with
  | true => exact Or.inl rfl
  | false => exact Or.inr h
theorem ck_kf_all {N : ck_F → Bool} {a : Nat × ck_F × ck_F} : ∀ {W : ck_O}, ck_kf N W a = true → ∀ w ∈ W, ck_k1 N w a = true
  | [], _ => fun _ h => absurd h List.not_mem_nil
  | w :: t, h => by
    have h0 : (bif ck_k1 N w a then ck_kf N t a else false) = true := h
    obtain ⟨h1, h2⟩ := ck_and h0
    intro q hq
    rcases List.mem_cons.mp hq with rfl | hq
    · exact h1
    · exact ck_kf_all h2 q hq
theorem ck_ko_all {N : ck_F → Bool} {c : Nat} {f : ck_F} : ∀ {W : ck_O}, ck_ko N W c f = true → ∀ w ∈ W, ck_kr N w c f (ck_fa (1, []) f) = true
  | [], _ => fun _ h => absurd h List.not_mem_nil
  | w :: t, h => by
    have h0 : (bif ck_kr N w c f (ck_fa (1, []) f) then ck_ko N t c f else false) = true := h
    obtain ⟨h1, h2⟩ := ck_and h0
    intro q hq
    rcases List.mem_cons.mp hq with rfl | hq
    · exact h1
    · exact ck_ko_all h2 q hq
section
variable {N : ck_F → Bool} {r : ck_R} {W : ck_O} {h h' : pm_Hp}
theorem ck_kr_ok (hN : ∀ f, N f = true → ck_ev r f ≤ 0) {w : Nat × ck_F × ck_F} {c : Nat} {a b : ck_F} {j : Nat} (hk : ck_kr N w c a b = true) (hc : w.1 = c) (h1 : ck_ev r a ≤ (j : Int)) (h2 : (j : Int) < ck_ev r b) (h3 : ck_ev r w.2.1 ≤ (j : Int)) (h4 : (j : Int) < ck_ev r w.2.2) : False := by
  have e1 : Nat.beq w.1 c = true := by rw [hc]; exact Nat.beq_refl c
  unfold ck_kr at hk
  rw [e1] at hk
  rcases ck_or hk with g | g
  · have g1 := hN _ g
    rw [ck_ev_fs] at g1
    omega
  · have g1 := hN _ g
    rw [ck_ev_fs] at g1
    omega
theorem ck_ku_ok (hN : ∀ f, N f = true → ck_ev r f ≤ 0) {w : Nat × ck_F × ck_F} {c : Nat} {b : ck_F} {j : Nat} (hk : ck_ku N w c b = true) (hc : w.1 = c) (h2 : (j : Int) < ck_ev r b) (h3 : ck_ev r w.2.1 ≤ (j : Int)) : False := by
  have e1 : Nat.beq w.1 c = true := by rw [hc]; exact Nat.beq_refl c
  unfold ck_ku at hk
  rw [e1] at hk
  have g1 := hN _ hk
  rw [ck_ev_fs] at g1
  omega
theorem ck_ne_ok {w : Nat × ck_F × ck_F} {c : Nat} (hk : (bif Nat.beq w.1 c then false else true) = true) (hc : w.1 = c) : False := by
  have e1 : Nat.beq w.1 c = true := by rw [hc]; exact Nat.beq_refl c
  rw [e1] at hk
  cases hk
theorem ck_win_sm (hN : ∀ f, N f = true → ck_ev r f ≤ 0) (hW : ck_ow h h' r W) {a : Nat × ck_F × ck_F} (hk : ck_kf N W a = true) : ck_sm h h' (ck_kd a.1) (ck_ev r a.2.1) (ck_ev r a.2.2) := by
  have hall := ck_kf_all hk
  have key : ∀ (c j : Nat), (∀ w ∈ W, w.1 = c → ck_ev r w.2.1 ≤ (j : Int) → (j : Int) < ck_ev r w.2.2 → False) → h' c j = h c j := by
    intro c j H
    rcases hW c j with e | ⟨w, hw, h1, h2, h3⟩
    · exact e
    · exact (H w hw h1 h2 h3).elim
  have slot : ∀ s : Nat, ck_ev r ((s : Int), []) ≤ (s : Int) ∧ (s : Int) < ck_ev r ((s : Int) + 1, []) := by
    intro s
    rw [ck_ev_k, ck_ev_k]
    omega
  unfold ck_k1 at hall
  generalize ck_kd a.1 = d at hall
  obtain ⟨t, A, sa, B, sb, th, lo, hi⟩ := d
  match t, hall with
  | 0, _ => exact trivial
  | 1, hall => exact fun j g1 g2 => key A j (fun w hw e1 e2 e3 => ck_kr_ok hN (hall w hw) e1 g1 g2 e2 e3)
  | 2, hall => exact fun j g2 => ⟨key A j (fun w hw e1 e2 e3 => ck_ku_ok hN (ck_and (hall w hw)).1 e1 g2 e2), key B j (fun w hw e1 e2 e3 => ck_ku_ok hN (ck_and (hall w hw)).2 e1 g2 e2)⟩
  | 3, hall => exact fun j g1 g2 => ⟨key A j (fun w hw e1 e2 e3 => ck_kr_ok hN (ck_and (hall w hw)).1 e1 g1 g2 e2 e3), key B j (fun w hw e1 e2 e3 => ck_kr_ok hN (ck_and (hall w hw)).2 e1 g1 g2 e2 e3)⟩
  | 4, hall => exact ⟨key A sa (fun w hw e1 e2 e3 => ck_kr_ok hN (ck_and (hall w hw)).1 e1 (slot sa).1 (slot sa).2 e2 e3), key B sb (fun w hw e1 e2 e3 => ck_kr_ok hN (ck_and (hall w hw)).2 e1 (slot sb).1 (slot sb).2 e2 e3)⟩
  | 5, hall => exact ⟨key A sa (fun w hw e1 e2 e3 => ck_kr_ok hN (ck_and (hall w hw)).1 e1 (slot sa).1 (slot sa).2 e2 e3), key A sb (fun w hw e1 e2 e3 => ck_kr_ok hN (ck_and (ck_and (hall w hw)).2).1 e1 (slot sb).1 (slot sb).2 e2 e3), fun j => key B j (fun w hw e1 e2 e3 => ck_ne_ok (ck_and (ck_and (hall w hw)).2).2 e1)⟩
  | 6, hall => exact fun j => key A j (fun w hw e1 e2 e3 => ck_ne_ok (hall w hw) e1)
  | _ + 7, _ => exact trivial
theorem ck_win_ft (hN : ∀ f, N f = true → ck_ev r f ≤ 0) (hW : ck_ow h h' r W) {a : Nat × ck_F × ck_F} (hk : ck_kf N W a = true) (H : ck_ft h a.1 (ck_ev r a.2.1) (ck_ev r a.2.2)) : ck_ft h' a.1 (ck_ev r a.2.1) (ck_ev r a.2.2) := ck_ft0_sem (ck_win_sm hN hW hk) H
theorem ck_win_o (hN : ∀ f, N f = true → ck_ev r f ≤ 0) (hW : ck_ow h h' r W) {c : Nat} {f : ck_F} (hk : ck_ko N W c f = true) (hp : 0 ≤ ck_ev r f) : h' c (ck_ev r f).toNat = h c (ck_ev r f).toNat := by
  rcases hW c (ck_ev r f).toNat with e | ⟨w, hw, h1, h2, h3⟩
  · exact e
  · refine (ck_kr_ok hN (ck_ko_all hk w hw) h1 (j := (ck_ev r f).toNat) (by omega) ?_ h2 h3).elim
    rw [ck_ev_fa, ck_ev_k]
    omega
end
