/-! The checker: forms over names, their ranges. -/
abbrev ck_L : Type := List (Nat × Int)
abbrev ck_F : Type := Int × ck_L
abbrev ck_V : Type := Nat × ck_F
abbrev ck_E : Type := List (Nat × Int × Int)
abbrev ck_K : Type := List (ck_L × Int × Int)
abbrev ck_R : Type := Nat → Int
def ck_le (a b : Int) : Bool := match b - a with
  | .ofNat _ => true
  | .negSucc _ => false
def ck_z (a : Int) : Bool := match a with
  | .ofNat n => Nat.beq n 0
  | .negSucc _ => false
def ck_mx (a b : Int) : Int := bif ck_le a b then b else a
def ck_mn (a b : Int) : Int := bif ck_le a b then a else b
theorem ck_le_iff {a b : Int} : ck_le a b = true ↔ a ≤ b := by
  unfold ck_le
  cases h : b - a with
  | ofNat n =>
    have h1 : b - a = (n : Int) := h
    simp
    omega
  | negSucc n =>
    have h1 : b - a = -((n : Int) + 1) := by rw [h]; exact Int.negSucc_eq n
    simp
    omega
theorem ck_le_no {a b : Int} (h : ck_le a b = false) : b < a := by
  rcases Int.lt_or_le b a with h1 | h1
  · exact h1
  · rw [ck_le_iff.mpr h1] at h
    cases h
theorem ck_z_iff {a : Int} : ck_z a = true ↔ a = 0 := by
  unfold ck_z
  cases a with
  | ofNat n =>
    constructor
    · intro h
      have h1 := Nat.eq_of_beq_eq_true h
      subst h1
      rfl
    · intro h
      have h1 : (n : Int) = 0 := h
      have h2 : n = 0 := by omega
      subst h2
      rfl
  | negSucc n =>
    constructor
    · intro h
      cases h
    · intro h
      cases h
theorem ck_mx_le {a b x : Int} (h1 : a ≤ x) (h2 : b ≤ x) : ck_mx a b ≤ x := by
  unfold ck_mx
  cases ck_le a b
  · exact h1
  · exact h2
theorem ck_le_mn {a b x : Int} (h1 : x ≤ a) (h2 : x ≤ b) : x ≤ ck_mn a b := by
  unfold ck_mn
  cases ck_le a b
  · exact h2
  · exact h1
noncomputable def ck_lv (r : ck_R) (l : ck_L) : Int := List.rec (motive := fun _ => Int) 0 (fun p _ ih => p.2 * r p.1 + ih) l
noncomputable def ck_ev (r : ck_R) (f : ck_F) : Int := f.1 + ck_lv r f.2
theorem ck_lv_cons (r : ck_R) (p : Nat × Int) (l : ck_L) : ck_lv r (p :: l) = p.2 * r p.1 + ck_lv r l := rfl
noncomputable def ck_in (n : Nat) (c : Int) (l : ck_L) : ck_L :=
  List.rec (motive := fun _ => ck_L) [(n, c)] (fun p t ih => bif Nat.beq n p.1 then (bif ck_z (c + p.2) then t else (n, c + p.2) :: t) else (bif Nat.blt n p.1 then (n, c) :: p :: t else p :: ih)) l
theorem ck_in_cons (n : Nat) (c : Int) (p : Nat × Int) (t : ck_L) : ck_in n c (p :: t) = (bif Nat.beq n p.1 then (bif ck_z (c + p.2) then t else (n, c + p.2) :: t) else (bif Nat.blt n p.1 then (n, c) :: p :: t else p :: ck_in n c t)) := rfl
theorem ck_lv_in (r : ck_R) (n : Nat) (c : Int) (l : ck_L) : ck_lv r (ck_in n c l) = c * r n + ck_lv r l := by
  induction l with
  | nil => rfl
  | cons p t ih =>
    rw [ck_in_cons, ck_lv_cons]
    cases hb : Nat.beq n p.1 with
    | true =>
      have h1 := Nat.eq_of_beq_eq_true hb
      cases hz : ck_z (c + p.2) with
      | true =>
        have h2 := ck_z_iff.mp hz
        show ck_lv r t = _
        have h3 : c * r n + p.2 * r p.1 = 0 := by
          rw [h1, ← Int.add_mul, h2, Int.zero_mul]
        omega
      | false =>
        show ck_lv r ((n, c + p.2) :: t) = _
        rw [ck_lv_cons]
        show (c + p.2) * r n + _ = _
        rw [Int.add_mul, h1]
        omega
    | false =>
      cases hl : Nat.blt n p.1 with
      | true => rfl
      | false =>
        show ck_lv r (p :: ck_in n c t) = _
        rw [ck_lv_cons, ih]
        omega
noncomputable def ck_ad (l1 l2 : ck_L) : ck_L := List.rec (motive := fun _ => ck_L) l2 (fun p _ ih => ck_in p.1 p.2 ih) l1
theorem ck_lv_ad (r : ck_R) (l1 l2 : ck_L) : ck_lv r (ck_ad l1 l2) = ck_lv r l1 + ck_lv r l2 := by
  induction l1 with
  | nil => show ck_lv r l2 = 0 + ck_lv r l2; omega
  | cons p t ih =>
    show ck_lv r (ck_in p.1 p.2 (ck_ad t l2)) = _
    rw [ck_lv_in, ih, ck_lv_cons]
    omega
noncomputable def ck_sc (k : Int) (l : ck_L) : ck_L := bif ck_z k then [] else List.rec (motive := fun _ => ck_L) [] (fun p _ ih => (p.1, k * p.2) :: ih) l
theorem ck_lv_sc (r : ck_R) (k : Int) (l : ck_L) : ck_lv r (ck_sc k l) = k * ck_lv r l := by
  unfold ck_sc
  cases hz : ck_z k with
  | true =>
    rw [ck_z_iff.mp hz, Int.zero_mul]
    rfl
  | false =>
    show ck_lv r (List.rec (motive := fun _ => ck_L) [] (fun p _ ih => (p.1, k * p.2) :: ih) l) = _
    induction l with
    | nil => show (0 : Int) = k * 0; rw [Int.mul_zero]
    | cons p t ih =>
      show (k * p.2) * r p.1 + ck_lv r (List.rec (motive := fun _ => ck_L) [] (fun p _ ih => (p.1, k * p.2) :: ih) t) = k * (p.2 * r p.1 + ck_lv r t)
      rw [ih, Int.mul_add, Int.mul_assoc]
noncomputable def ck_fa (f g : ck_F) : ck_F := (f.1 + g.1, ck_ad f.2 g.2)
noncomputable def ck_fs (f g : ck_F) : ck_F := (f.1 - g.1, ck_ad (ck_sc (-1) g.2) f.2)
noncomputable def ck_fk (k : Int) (f : ck_F) : ck_F := (k * f.1, ck_sc k f.2)
theorem ck_ev_fa (r : ck_R) (f g : ck_F) : ck_ev r (ck_fa f g) = ck_ev r f + ck_ev r g := by
  show f.1 + g.1 + ck_lv r (ck_ad f.2 g.2) = (f.1 + ck_lv r f.2) + (g.1 + ck_lv r g.2)
  rw [ck_lv_ad]
  omega
theorem ck_ev_fs (r : ck_R) (f g : ck_F) : ck_ev r (ck_fs f g) = ck_ev r f - ck_ev r g := by
  show f.1 - g.1 + ck_lv r (ck_ad (ck_sc (-1) g.2) f.2) = (f.1 + ck_lv r f.2) - (g.1 + ck_lv r g.2)
  rw [ck_lv_ad, ck_lv_sc]
  omega
theorem ck_ev_fk (r : ck_R) (k : Int) (f : ck_F) : ck_ev r (ck_fk k f) = k * ck_ev r f := by
  show k * f.1 + ck_lv r (ck_sc k f.2) = k * (f.1 + ck_lv r f.2)
  rw [ck_lv_sc, Int.mul_add]
theorem ck_ev_k (r : ck_R) (c : Int) : ck_ev r (c, []) = c := by
  show c + 0 = c
  omega
theorem ck_ev_v (r : ck_R) (n : Nat) : ck_ev r (0, [(n, 1)]) = r n := by
  show 0 + (1 * r n + 0) = r n
  omega
/-- names below a number -/
noncomputable def ck_wl (n : Nat) (l : ck_L) : Bool := List.rec (motive := fun _ => Bool) true (fun p _ ih => bif Nat.blt p.1 n then ih else false) l
theorem ck_wl_ok {n : Nat} {l : ck_L} {r r' : ck_R} (h : ck_wl n l = true) (hr : ∀ i, i < n → r' i = r i) : ck_lv r' l = ck_lv r l := by
  induction l with
  | nil => rfl
  | cons p t ih =>
    have h0 : (bif Nat.blt p.1 n then ck_wl n t else false) = true := h
    cases hb : Nat.blt p.1 n with
    | true =>
      rw [hb] at h0
      rw [ck_lv_cons, ck_lv_cons, ih h0, hr p.1 (by have h1 := hb; simp only [Nat.blt_eq] at h1; exact h1)]
    | false => rw [hb] at h0; cases h0
/-- intervals -/
def ck_es (E : ck_E) (r : ck_R) : Prop := ∀ p ∈ E, p.2.1 ≤ r p.1 ∧ r p.1 ≤ p.2.2
def ck_ks (K : ck_K) (r : ck_R) : Prop := ∀ k ∈ K, k.2.1 ≤ ck_lv r k.1 ∧ ck_lv r k.1 ≤ k.2.2
noncomputable def ck_iv (E : ck_E) (n : Nat) : Option (Int × Int) := List.rec (motive := fun _ => Option (Int × Int)) none (fun p _ ih => bif Nat.beq n p.1 then some p.2 else ih) E
theorem ck_iv_ok {E : ck_E} {r : ck_R} {n : Nat} {a b : Int} (h : ck_iv E n = some (a, b)) (hE : ck_es E r) : a ≤ r n ∧ r n ≤ b := by
  induction E with
  | nil => cases h
  | cons p t ih =>
    have h0 : (bif Nat.beq n p.1 then some p.2 else ck_iv t n) = some (a, b) := h
    cases hb : Nat.beq n p.1 with
    | true =>
      rw [hb] at h0
      have h1 := Nat.eq_of_beq_eq_true hb
      have h2 : p.2 = (a, b) := Option.some.inj h0
      have h3 := hE p (List.mem_cons_self ..)
      rw [h2, ← h1] at h3
      exact h3
    | false =>
      rw [hb] at h0
      exact ih h0 (fun q hq => hE q (List.mem_cons_of_mem _ hq))
noncomputable def ck_pl0 (E : ck_E) (c : Int) (l : ck_L) : Option (Int × Int) := List.rec (motive := fun _ => Option (Int × Int)) (some (c, c)) (fun p _ ih => match ih with
  | none => none
  | some w => match ck_iv E p.1 with
    | none => none
    | some q => bif ck_le 0 p.2 then some (w.1 + p.2 * q.1, w.2 + p.2 * q.2) else some (w.1 + p.2 * q.2, w.2 + p.2 * q.1)) l
noncomputable def ck_pl (E : ck_E) (f : ck_F) : Option (Int × Int) := ck_pl0 E f.1 f.2
theorem ck_pl0_cons {E : ck_E} {c : Int} {p : Nat × Int} {t : ck_L} {x : Int × Int} (h : ck_pl0 E c (p :: t) = some x) : ∃ w q, ck_pl0 E c t = some w ∧ ck_iv E p.1 = some q ∧ (0 ≤ p.2 ∧ x = (w.1 + p.2 * q.1, w.2 + p.2 * q.2) ∨ p.2 < 0 ∧ x = (w.1 + p.2 * q.2, w.2 + p.2 * q.1)) := by
  have h0 : (match ck_pl0 E c t with
    | none => none
    | some w => match ck_iv E p.1 with
      | none => none
      | some q => bif ck_le 0 p.2 then some (w.1 + p.2 * q.1, w.2 + p.2 * q.2) else some (w.1 + p.2 * q.2, w.2 + p.2 * q.1)) = some x := h
  cases hw : ck_pl0 E c t with
  | none => rw [hw] at h0; cases h0
  | some w =>
    rw [hw] at h0
    cases hq : ck_iv E p.1 with
    | none => rw [hq] at h0; cases h0
    | some q =>
      rw [hq] at h0
      refine ⟨w, q, rfl, rfl, ?_⟩
      cases hb : ck_le 0 p.2 with
      | true => rw [hb] at h0; exact Or.inl ⟨ck_le_iff.mp hb, (Option.some.inj h0).symm⟩
      | false => rw [hb] at h0; exact Or.inr ⟨ck_le_no hb, (Option.some.inj h0).symm⟩
theorem ck_mul_mono {c a b : Int} (hc : 0 ≤ c) (h : a ≤ b) : c * a ≤ c * b := Int.mul_le_mul_of_nonneg_left h hc
theorem ck_mul_anti {c a b : Int} (hc : c < 0) (h : a ≤ b) : c * b ≤ c * a := by
  have h1 := Int.mul_le_mul_of_nonneg_left h (show (0 : Int) ≤ -c by omega)
  rw [Int.neg_mul, Int.neg_mul] at h1
  omega
theorem ck_pl0_ok {E : ck_E} {r : ck_R} {c : Int} (hE : ck_es E r) : ∀ {l : ck_L} {x : Int × Int}, ck_pl0 E c l = some x → x.1 ≤ c + ck_lv r l ∧ c + ck_lv r l ≤ x.2
  | [], x, h => by
    have h1 : (c, c) = x := Option.some.inj h
    subst h1
    show c ≤ c + 0 ∧ c + 0 ≤ c
    omega
  | p :: t, x, h => by
    obtain ⟨w, q, hw, hq, h1⟩ := ck_pl0_cons h
    have hi := ck_pl0_ok hE hw
    have hv := ck_iv_ok (a := q.1) (b := q.2) hq hE
    rw [ck_lv_cons]
    rcases h1 with ⟨h2, rfl⟩ | ⟨h2, rfl⟩
    · have h3 := ck_mul_mono h2 hv.1
      have h4 := ck_mul_mono h2 hv.2
      show w.1 + p.2 * q.1 ≤ _ ∧ _ ≤ w.2 + p.2 * q.2
      omega
    · have h3 := ck_mul_anti h2 hv.1
      have h4 := ck_mul_anti h2 hv.2
      show w.1 + p.2 * q.2 ≤ _ ∧ _ ≤ w.2 + p.2 * q.1
      omega
theorem ck_pl_ok {E : ck_E} {r : ck_R} {f : ck_F} {x : Int × Int} (hE : ck_es E r) (h : ck_pl E f = some x) : x.1 ≤ ck_ev r f ∧ ck_ev r f ≤ x.2 := ck_pl0_ok hE h
/-- ranges by constraints -/
noncomputable def ck_co (l : ck_L) (n : Nat) : Int := List.rec (motive := fun _ => Int) 0 (fun p _ ih => bif Nat.beq n p.1 then p.2 else ih) l
noncomputable def ck_mu (l lp : ck_L) : Int := List.rec (motive := fun _ => Int) 0 (fun p _ ih => bif ck_z (ck_co l p.1) then ih else (bif ck_z (ck_co l p.1 % p.2) then ck_co l p.1 / p.2 else ih)) lp
def ck_me (acc r : Option (Int × Int)) (m a b : Int) : Option (Int × Int) := match r with
  | none => acc
  | some x => match acc with
    | none => bif ck_le 0 m then some (x.1 + m * a, x.2 + m * b) else some (x.1 + m * b, x.2 + m * a)
    | some y => bif ck_le 0 m then some (ck_mx y.1 (x.1 + m * a), ck_mn y.2 (x.2 + m * b)) else some (ck_mx y.1 (x.1 + m * b), ck_mn y.2 (x.2 + m * a))
noncomputable def ck_rs (ih : ck_F → Option (Int × Int)) (E : ck_E) (f : ck_F) (K : ck_K) : Option (Int × Int) := List.rec (motive := fun _ => Option (Int × Int)) (ck_pl E f) (fun k _ acc => bif ck_z (ck_mu f.2 k.1) then acc else ck_me acc (ih (ck_fs f (0, ck_sc (ck_mu f.2 k.1) k.1))) (ck_mu f.2 k.1) k.2.1 k.2.2) K
noncomputable def ck_rg (d : Nat) (E : ck_E) (K : ck_K) : ck_F → Option (Int × Int) := Nat.rec (motive := fun _ => ck_F → Option (Int × Int)) (fun f => ck_pl E f) (fun _ ih f => ck_rs ih E f K) d
def ck_bd (r : ck_R) (f : ck_F) (o : Option (Int × Int)) : Prop := ∀ x, o = some x → x.1 ≤ ck_ev r f ∧ ck_ev r f ≤ x.2
theorem ck_me_ok {r : ck_R} {f : ck_F} {acc q : Option (Int × Int)} {m a b : Int} {l : ck_L} (h1 : ck_bd r f acc) (h2 : ck_bd r (ck_fs f (0, ck_sc m l)) q) (h3 : a ≤ ck_lv r l ∧ ck_lv r l ≤ b) : ck_bd r f (ck_me acc q m a b) := by
  unfold ck_me
  cases q with
  | none => exact h1
  | some x =>
    have h4 := h2 x rfl
    rw [ck_ev_fs] at h4
    have h5 : ck_ev r (0, ck_sc m l) = m * ck_lv r l := by
      show 0 + ck_lv r (ck_sc m l) = _
      rw [ck_lv_sc]
      omega
    rw [h5] at h4
    have key : (ck_le 0 m = true → x.1 + m * a ≤ ck_ev r f ∧ ck_ev r f ≤ x.2 + m * b) ∧ (ck_le 0 m = false → x.1 + m * b ≤ ck_ev r f ∧ ck_ev r f ≤ x.2 + m * a) := by
      constructor
      · intro h
        have h6 := ck_mul_mono (ck_le_iff.mp h) h3.1
        have h7 := ck_mul_mono (ck_le_iff.mp h) h3.2
        omega
      · intro h
        have h6 := ck_mul_anti (ck_le_no h) h3.1
        have h7 := ck_mul_anti (ck_le_no h) h3.2
        omega
    cases acc with
    | none =>
      cases hm : ck_le 0 m with
      | true => intro y hy; have := Option.some.inj hy; subst this; exact key.1 hm
      | false => intro y hy; have := Option.some.inj hy; subst this; exact key.2 hm
    | some z =>
      have hz := h1 z rfl
      cases hm : ck_le 0 m with
      | true => intro y hy; have := Option.some.inj hy; subst this; exact ⟨ck_mx_le hz.1 (key.1 hm).1, ck_le_mn hz.2 (key.1 hm).2⟩
      | false => intro y hy; have := Option.some.inj hy; subst this; exact ⟨ck_mx_le hz.1 (key.2 hm).1, ck_le_mn hz.2 (key.2 hm).2⟩
theorem ck_rs_ok {ih : ck_F → Option (Int × Int)} {E : ck_E} {r : ck_R} {f : ck_F} (hi : ∀ g, ck_bd r g (ih g)) (hE : ck_es E r) : ∀ {K : ck_K}, ck_ks K r → ck_bd r f (ck_rs ih E f K)
  | [], _ => fun _ hx => ck_pl_ok hE hx
  | k :: t, hK => by
    have h1 : ck_bd r f (ck_rs ih E f t) := ck_rs_ok hi hE (fun q hq => hK q (List.mem_cons_of_mem _ hq))
    show ck_bd r f (bif ck_z (ck_mu f.2 k.1) then ck_rs ih E f t else ck_me (ck_rs ih E f t) (ih (ck_fs f (0, ck_sc (ck_mu f.2 k.1) k.1))) (ck_mu f.2 k.1) k.2.1 k.2.2)
    cases ck_z (ck_mu f.2 k.1) with
    | true => exact h1
    | false => exact ck_me_ok h1 (hi _) (hK k (List.mem_cons_self ..))
theorem ck_rg_ok {E : ck_E} {K : ck_K} {r : ck_R} (hE : ck_es E r) (hK : ck_ks K r) : ∀ (d : Nat) (f : ck_F), ck_bd r f (ck_rg d E K f)
  | 0 => fun _ _ hx => ck_pl_ok hE hx
  | d + 1 => fun f => ck_rs_ok (f := f) (ck_rg_ok hE hK d) hE hK
/-- at most 0, by the plain range, then by constraints -/
noncomputable def ck_np (E : ck_E) (K : ck_K) (f : ck_F) : Bool := match ck_pl E f with
  | some x => bif ck_le x.2 0 then true else (match ck_rg 2 E K f with
    | some y => ck_le y.2 0
    | none => false)
  | none => false
theorem ck_np_ok {E : ck_E} {K : ck_K} {r : ck_R} {f : ck_F} (hE : ck_es E r) (hK : ck_ks K r) (h : ck_np E K f = true) : ck_ev r f ≤ 0 := by
  unfold ck_np at h
  cases hp : ck_pl E f with
  | none => rw [hp] at h; cases h
  | some x =>
    rw [hp] at h
    have h1 := ck_pl_ok hE hp
    cases hb : ck_le x.2 0 with
    | true => have h2 := ck_le_iff.mp hb; omega
    | false =>
      simp only [hb, cond_false] at h
      cases hg : ck_rg 2 E K f with
      | none => rw [hg] at h; cases h
      | some y =>
        rw [hg] at h
        have h2 := ck_rg_ok hE hK 2 f y hg
        have h3 := ck_le_iff.mp h
        omega
/-- a form that is 0 -/
noncomputable def ck_eq0 (E : ck_E) (K : ck_K) (f : ck_F) : Bool := match f.2 with
  | [] => ck_z f.1
  | _ :: _ => match ck_rg 2 E K f with
    | some y => bif ck_z y.1 then ck_z y.2 else false
    | none => false
theorem ck_eq0_ok {E : ck_E} {K : ck_K} {r : ck_R} {f : ck_F} (hE : ck_es E r) (hK : ck_ks K r) (h : ck_eq0 E K f = true) : ck_ev r f = 0 := by
  obtain ⟨c, l⟩ := f
  unfold ck_eq0 at h
  cases l with
  | nil =>
    have h1 := ck_z_iff.mp h
    rw [ck_ev_k]
    exact h1
  | cons p t =>
    dsimp only at h
    cases hg : ck_rg 2 E K (c, p :: t) with
    | none => rw [hg] at h; cases h
    | some y =>
      rw [hg] at h
      dsimp only at h
      have h2 := ck_rg_ok hE hK 2 _ y hg
      cases hz : ck_z y.1 with
      | false => rw [hz] at h; cases h
      | true =>
        rw [hz] at h
        have h3 := ck_z_iff.mp hz
        have h4 := ck_z_iff.mp h
        omega
