/-! The checker: what the tables of declared ranges hold. -/
def ck_sub (a b : Int) (v : Int × Int) : Bool := bif ck_le a v.1 then ck_le v.2 b else false
def ck_ck (k : Nat) (v : Int × Int) : Bool := match k with
  | 0 => ck_sub ck_lo ck_hi v
  | 1 => ck_sub ck_ll ck_lh v
  | 2 => ck_le 0 v.1
  | 4 => ck_sub 0 1 v
  | _ => false
def ck_c2 : List Nat → List (Int × Int) → Bool
  | [], [] => true
  | k :: ks, v :: vs => bif ck_ck k v then ck_c2 ks vs else false
  | _, _ => false
def ck_ca (g : Nat) (v : Int × Int) : Bool := match g with
  | 1 => ck_sub ck_lo ck_hi v
  | 2 => ck_sub (-128) 127 v
  | 3 => ck_sub 0 1 v
  | 4 => ck_sub ck_ll ck_lh v
  | _ => false
def ck_c3 (s : pm_Sh) (x : Nat × Nat × List (Int × Int)) : Bool := match s.1 with
  | 0 => Nat.beq x.1 0 && ck_c2 s.2.2 x.2.2
  | 5 => Nat.beq x.1 0 && (Nat.beq x.2.2.length s.2.1 && x.2.2.all (fun v => ck_le 0 v.1))
  | g => Nat.beq x.1 1 && (Nat.beq x.2.1 s.2.1 && (match x.2.2 with
    | [v] => ck_ca g v
    | _ => false))
def ck_c4 : List pm_Sh → List (Nat × Nat × List (Int × Int)) → Bool
  | _, [] => true
  | [], _ :: _ => false
  | s :: ss, x :: xs => bif ck_c3 s x then ck_c4 ss xs else false
theorem ck_D_ok : ck_c4 pm_S ck_D = true := by decide +kernel
theorem ck_c4_at : ∀ {ss : List pm_Sh} {xs : List (Nat × Nat × List (Int × Int))} {c : Nat} {x : Nat × Nat × List (Int × Int)}, ck_c4 ss xs = true → xs[c]? = some x → ∃ s, ss[c]? = some s ∧ ck_c3 s x = true
  | _, [], _, _, _, h => by simp at h
  | [], _ :: _, _, _, h, _ => by cases h
  | s :: ss, x :: xs, 0, y, h, hx => by
    have h0 : (bif ck_c3 s x then ck_c4 ss xs else false) = true := h
    have e1 : x = y := by simpa using hx
    subst e1
    exact ⟨s, by simp, (ck_and h0).1⟩
  | s :: ss, x :: xs, c + 1, y, h, hx => by
    have h0 : (bif ck_c3 s x then ck_c4 ss xs else false) = true := h
    obtain ⟨s', h1, h2⟩ := ck_c4_at (c := c) (ck_and h0).2 (by simpa using hx)
    exact ⟨s', by simpa using h1, h2⟩
theorem ck_c2_at : ∀ {ks : List Nat} {vs : List (Int × Int)} {j : Nat} {v : Int × Int}, ck_c2 ks vs = true → vs[j]? = some v → ∃ k, ks[j]? = some k ∧ ck_ck k v = true
  | [], [], _, _, _, h => by simp at h
  | [], _ :: _, _, _, h, _ => by cases h
  | _ :: _, [], _, _, h, _ => by cases h
  | k :: ks, v :: vs, 0, y, h, hx => by
    have h0 : (bif ck_ck k v then ck_c2 ks vs else false) = true := h
    have e1 : v = y := by simpa using hx
    subst e1
    exact ⟨k, by simp, (ck_and h0).1⟩
  | k :: ks, v :: vs, j + 1, y, h, hx => by
    have h0 : (bif ck_ck k v then ck_c2 ks vs else false) = true := h
    obtain ⟨s', h1, h2⟩ := ck_c2_at (j := j) (ck_and h0).2 (by simpa using hx)
    exact ⟨s', by simpa using h1, h2⟩
theorem ck_sub_ok {a b : Int} {v : Int × Int} (h : ck_sub a b v = true) : a ≤ v.1 ∧ v.2 ≤ b := ⟨ck_le_iff.mp (ck_and h).1, ck_le_iff.mp (ck_and h).2⟩
/-- what a declared range says of its cell's shape -/
theorem ck_dv_ok {c j : Nat} {v : Int × Int} (h : ck_dv c j = some v) : ∃ s, pm_S[c]? = some s ∧ ((s.1 = 0 ∧ ∃ k, s.2.2[j]? = some k ∧ ck_ck k v = true) ∨ (s.1 = 5 ∧ j < s.2.1 ∧ 0 ≤ v.1) ∨ (j < s.2.1 ∧ ck_ca s.1 v = true)) := by
  unfold ck_dv at h
  cases hx : ck_D[c]? with
  | none => rw [hx] at h; cases h
  | some x =>
    rw [hx] at h
    dsimp only at h
    obtain ⟨s, hs, h1⟩ := ck_c4_at ck_D_ok hx
    refine ⟨s, hs, ?_⟩
    obtain ⟨g, n, ks⟩ := s
    obtain ⟨t, m, vs⟩ := x
    unfold ck_c3 at h1
    dsimp only at h h1 ⊢
    split at h1
    · rw [Bool.and_eq_true] at h1
      have e1 := Nat.eq_of_beq_eq_true h1.1
      subst e1
      left
      exact ⟨rfl, ck_c2_at h1.2 h⟩
    · rw [Bool.and_eq_true, Bool.and_eq_true] at h1
      have e1 := Nat.eq_of_beq_eq_true h1.1
      have e2 := Nat.eq_of_beq_eq_true h1.2.1
      subst e1
      subst e2
      right
      left
      have h3 : vs[j]? = some v := h
      have h4 := List.all_eq_true.mp h1.2.2 v (List.mem_of_getElem? h3)
      refine ⟨rfl, ?_, ck_le_iff.mp h4⟩
      rcases Nat.lt_or_ge j vs.length with q | q
      · exact q
      · rw [List.getElem?_eq_none q] at h3
        cases h3
    · rw [Bool.and_eq_true, Bool.and_eq_true] at h1
      have e1 := Nat.eq_of_beq_eq_true h1.1
      have e2 := Nat.eq_of_beq_eq_true h1.2.1
      subst e1
      subst e2
      right
      right
      have h3 : (if j < m then vs[0]? else none) = some v := h
      by_cases hj : j < m
      · rw [if_pos hj] at h3
        refine ⟨hj, ?_⟩
        have h4 := h1.2.2
        match vs, h3, h4 with
        | [w], h3, h4 =>
          have e3 : w = v := by simpa using h3
          rw [← e3]
          exact h4
      · rw [if_neg hj] at h3
        cases h3
theorem ck_fk_S {q b a k : Nat} (h : pm_fk q b a = some k) : ∃ ks, pm_S[q]? = some (0, b, ks) ∧ ks[a]? = some k := by
  unfold pm_fk at h
  split at h
  · rename_i c ks hS
    split at h
    · rename_i e
      subst e
      exact ⟨ks, hS, h⟩
    · cases h
  · cases h
theorem ck_ak_S {q g n : Nat} (h : pm_ak q = some (g, n)) : ∃ l, pm_S[q]? = some (g, n, l) ∧ ¬ g = 0 := by
  unfold pm_ak at h
  split at h
  · rename_i g' n' l hS
    split at h
    · cases h
    · rename_i e
      cases h
      exact ⟨l, hS, e⟩
  · cases h
theorem ck_dv_f {q b a k : Nat} {v : Int × Int} (h : ck_dv q a = some v) (hk : pm_fk q b a = some k) : ck_ck k v = true := by
  obtain ⟨s, hs, h1⟩ := ck_dv_ok h
  obtain ⟨ks, h2, h3⟩ := ck_fk_S hk
  have e1 : s = (0, b, ks) := Option.some.inj (hs.symm.trans h2)
  subst e1
  rcases h1 with ⟨_, k', h4, h5⟩ | ⟨e, _⟩ | ⟨_, h4⟩
  · have e2 : k' = k := Option.some.inj (h4.symm.trans h3)
    rw [← e2]
    exact h5
  · cases e
  · cases h4
theorem ck_dv_a {q g n j : Nat} {v : Int × Int} (h : ck_dv q j = some v) (hk : pm_ak q = some (g, n)) : j < n ∧ ((g = 5 ∧ 0 ≤ v.1) ∨ ck_ca g v = true) := by
  obtain ⟨s, hs, h1⟩ := ck_dv_ok h
  obtain ⟨l, h2, h3⟩ := ck_ak_S hk
  have e1 : s = (g, n, l) := Option.some.inj (hs.symm.trans h2)
  subst e1
  rcases h1 with ⟨e, _⟩ | ⟨e, h4, h5⟩ | ⟨h4, h5⟩
  · exact absurd e h3
  · exact ⟨h4, Or.inl ⟨e, h5⟩⟩
  · exact ⟨h4, Or.inr h5⟩
/-- lookups that the kernel runs fast -/
noncomputable def ck_fk3 (q b a : Nat) : Option Nat := match ck_nth pm_S q with
  | none => none
  | some x => match x.1 with
    | 0 => bif Nat.beq x.2.1 b then ck_nth x.2.2 a else none
    | _ => none
theorem ck_fk3_ok {q b a k : Nat} (h : ck_fk3 q b a = some k) : pm_fk q b a = some k := by
  unfold ck_fk3 at h
  rw [ck_nth_ok] at h
  unfold pm_fk
  cases hx : pm_S[q]? with
  | none => rw [hx] at h; cases h
  | some x =>
    rw [hx] at h
    obtain ⟨g, c, ks⟩ := x
    match g, h with
    | 0, h =>
      dsimp only at h ⊢
      cases hb : Nat.beq c b with
      | false => rw [hb] at h; cases h
      | true =>
        rw [hb] at h
        show (if c = b then ks[a]? else none) = some k
        rw [if_pos (Nat.eq_of_beq_eq_true hb), ← ck_nth_ok]
        exact h
    | g + 1, h => cases h
noncomputable def ck_ak3 (q : Nat) : Option (Nat × Nat) := match ck_nth pm_S q with
  | none => none
  | some x => match x.1 with
    | 0 => none
    | g + 1 => some (g + 1, x.2.1)
theorem ck_ak3_ok {q : Nat} {g : Nat × Nat} (h : ck_ak3 q = some g) : pm_ak q = some g := by
  unfold ck_ak3 at h
  rw [ck_nth_ok] at h
  unfold pm_ak
  cases hx : pm_S[q]? with
  | none => rw [hx] at h; cases h
  | some x =>
    rw [hx] at h
    obtain ⟨g', c, ks⟩ := x
    match g', h with
    | 0, h => cases h
    | g' + 1, h =>
      cases h
      dsimp only
      rw [if_neg (by omega)]
noncomputable def ck_ins (k pc : Nat) : Option pm_Ins := match ck_nth pm_I k with
  | none => none
  | some l => List.rec (motive := fun _ => Option pm_Ins) none (fun q _ ih => bif Nat.beq q.1 pc then some q.2 else ih) l
theorem ck_ins_l {pc : Nat} {i : pm_Ins} : ∀ {l : List (Nat × pm_Ins)}, (List.rec (motive := fun _ => Option pm_Ins) none (fun q _ ih => bif Nat.beq q.1 pc then some q.2 else ih) l : Option pm_Ins) = some i → (l.find? (fun q => q.1 == pc)).map (fun q => q.2) = some i
  | [], h => by cases h
  | q :: t, h => by
    have h0 : (bif Nat.beq q.1 pc then some q.2 else (List.rec (motive := fun _ => Option pm_Ins) none (fun q _ ih => bif Nat.beq q.1 pc then some q.2 else ih) t : Option pm_Ins)) = some i := h
    rw [List.find?_cons]
    cases hb : Nat.beq q.1 pc with
    | true =>
      rw [hb] at h0
      have e1 : (q.1 == pc) = true := by rw [Nat.eq_of_beq_eq_true hb]; simp
      rw [e1]
      exact h0
    | false =>
      rw [hb] at h0
      have e1 : (q.1 == pc) = false := by simpa using ck_beq_no hb
      rw [e1]
      exact ck_ins_l h0
theorem ck_ins_ok {k pc : Nat} {i : pm_Ins} (h : ck_ins k pc = some i) : pm_ins k pc = some i := by
  unfold ck_ins at h
  rw [ck_nth_ok] at h
  unfold pm_ins
  cases hx : pm_I[k]? with
  | none => rw [hx] at h; cases h
  | some l =>
    rw [hx] at h
    exact ck_ins_l h
