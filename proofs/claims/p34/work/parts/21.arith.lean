/-! The checker: numbers of 32 and 64 bits. -/
abbrev ck_W : Type := Bool × ck_F × Int × Int
def ck_lo : Int := .negSucc 2147483647
def ck_hi : Int := .ofNat 2147483647
def ck_ll : Int := .negSucc 9223372036854775807
def ck_lh : Int := .ofNat 9223372036854775807
theorem ck_lo_eq : ck_lo = -2147483648 := rfl
theorem ck_hi_eq : ck_hi = 2147483647 := rfl
theorem ck_ll_eq : ck_ll = -9223372036854775808 := rfl
theorem ck_lh_eq : ck_lh = 9223372036854775807 := rfl
def ck_top : ck_W := (false, (.ofNat 0, []), ck_lo, ck_hi)
def ck_tol : ck_W := (false, (.ofNat 0, []), ck_ll, ck_lh)
def ck_rz (r : ck_R) (w : ck_W) (v : Int) : Prop := (w.1 = true → v = ck_ev r w.2.1) ∧ (w.1 = false → w.2.2.1 ≤ v ∧ v ≤ w.2.2.2)
theorem ck_rz_f {r : ck_R} {f : ck_F} {a b v : Int} (h : v = ck_ev r f) : ck_rz r (true, f, a, b) v := ⟨fun _ => h, fun h1 => by cases h1⟩
theorem ck_rz_i {r : ck_R} {f : ck_F} {a b v : Int} (h1 : a ≤ v) (h2 : v ≤ b) : ck_rz r (false, f, a, b) v := ⟨fun h => (by cases h), fun _ => ⟨h1, h2⟩⟩
theorem ck_i32 (x : Int32) : -2147483648 ≤ x.toInt ∧ x.toInt ≤ 2147483647 := by
  have h1 := Int32.le_toInt x
  have h2 := Int32.toInt_lt x
  constructor <;> omega
theorem ck_i64 (x : Int64) : -9223372036854775808 ≤ x.toInt ∧ x.toInt ≤ 9223372036854775807 := by
  have h1 := Int64.le_toInt x
  have h2 := Int64.toInt_lt x
  constructor <;> omega
theorem ck_top_ok (r : ck_R) (x : Int32) : ck_rz r ck_top x.toInt := ck_rz_i (ck_i32 x).1 (ck_i32 x).2
theorem ck_tol_ok (r : ck_R) (x : Int64) : ck_rz r ck_tol x.toInt := ck_rz_i (ck_i64 x).1 (ck_i64 x).2
theorem ck_bm {x : Int} (h1 : -2147483648 ≤ x) (h2 : x ≤ 2147483647) : x.bmod (2 ^ 32) = x := Int.bmod_eq_of_le (by omega) (by omega)
theorem ck_bm8 {x : Int} (h1 : -128 ≤ x) (h2 : x ≤ 127) : x.bmod (2 ^ 8) = x := Int.bmod_eq_of_le (by omega) (by omega)
theorem ck_bml {x : Int} (h1 : -9223372036854775808 ≤ x) (h2 : x ≤ 9223372036854775807) : x.bmod (2 ^ 64) = x := Int.bmod_eq_of_le (by omega) (by omega)
noncomputable def ck_fi (E : ck_E) (f : ck_F) : ck_W := match ck_pl E f with
  | none => ck_top
  | some w => bif ck_le ck_lo w.1 then (bif ck_le w.2 ck_hi then (true, f, .ofNat 0, .ofNat 0) else ck_top) else ck_top
noncomputable def ck_fl (E : ck_E) (f : ck_F) : ck_W := match ck_pl E f with
  | none => ck_tol
  | some w => bif ck_le ck_ll w.1 then (bif ck_le w.2 ck_lh then (true, f, .ofNat 0, .ofNat 0) else ck_tol) else ck_tol
theorem ck_fi_ok {E : ck_E} {r : ck_R} {f : ck_F} {x : Int32} (hE : ck_es E r) (h : x.toInt = (ck_ev r f).bmod (2 ^ 32)) : ck_rz r (ck_fi E f) x.toInt := by
  unfold ck_fi
  cases hp : ck_pl E f with
  | none => exact ck_top_ok r x
  | some w =>
    have h1 := ck_pl_ok hE hp
    dsimp only
    cases b1 : ck_le ck_lo w.1 with
    | false => exact ck_top_ok r x
    | true =>
      cases b2 : ck_le w.2 ck_hi with
      | false => exact ck_top_ok r x
      | true =>
        have g1 := ck_le_iff.mp b1
        have g2 := ck_le_iff.mp b2
        rw [ck_lo_eq] at g1
        rw [ck_hi_eq] at g2
        exact ck_rz_f (h.trans (ck_bm (by omega) (by omega)))
theorem ck_fl_ok {E : ck_E} {r : ck_R} {f : ck_F} {x : Int64} (hE : ck_es E r) (h : x.toInt = (ck_ev r f).bmod (2 ^ 64)) : ck_rz r (ck_fl E f) x.toInt := by
  unfold ck_fl
  cases hp : ck_pl E f with
  | none => exact ck_tol_ok r x
  | some w =>
    have h1 := ck_pl_ok hE hp
    dsimp only
    cases b1 : ck_le ck_ll w.1 with
    | false => exact ck_tol_ok r x
    | true =>
      cases b2 : ck_le w.2 ck_lh with
      | false => exact ck_tol_ok r x
      | true =>
        have g1 := ck_le_iff.mp b1
        have g2 := ck_le_iff.mp b2
        rw [ck_ll_eq] at g1
        rw [ck_lh_eq] at g2
        exact ck_rz_f (h.trans (ck_bml (by omega) (by omega)))
/-! bits -/
theorem ck_nn {x : Int32} (h : 0 ≤ x.toInt) : x.toInt = (x.toBitVec.toNat : Int) := by
  have h1 : x.toInt = x.toBitVec.toInt := rfl
  rw [h1, BitVec.toInt_eq_toNat_cond] at h ⊢
  have h2 := x.toBitVec.isLt
  split
  · rfl
  · rename_i h3
    rw [if_neg h3] at h
    omega
theorem ck_nl {x : Int32} (h : x.toBitVec.toNat < 2147483648) : x.toInt = (x.toBitVec.toNat : Int) := BitVec.toInt_eq_toNat_of_lt (by omega)
theorem ck_and_l {x y : Int32} (h : 0 ≤ x.toInt) : 0 ≤ (x &&& y).toInt ∧ (x &&& y).toInt ≤ x.toInt := by
  have e1 := ck_nn h
  have h1 := ck_i32 x
  have e2 : (x &&& y).toBitVec.toNat = x.toBitVec.toNat &&& y.toBitVec.toNat := by
    rw [Int32.toBitVec_and, BitVec.toNat_and]
  have h2 := @Nat.and_le_left x.toBitVec.toNat y.toBitVec.toNat
  rw [← e2] at h2
  have e3 := ck_nl (x := x &&& y) (by omega)
  omega
theorem ck_and_r {x y : Int32} (h : 0 ≤ y.toInt) : 0 ≤ (x &&& y).toInt ∧ (x &&& y).toInt ≤ y.toInt := by
  have e1 := ck_nn h
  have h1 := ck_i32 y
  have e2 : (x &&& y).toBitVec.toNat = x.toBitVec.toNat &&& y.toBitVec.toNat := by
    rw [Int32.toBitVec_and, BitVec.toNat_and]
  have h2 := @Nat.and_le_right x.toBitVec.toNat y.toBitVec.toNat
  rw [← e2] at h2
  have e3 := ck_nl (x := x &&& y) (by omega)
  omega
def ck_pw (b : Int) : Int := .ofNat (2 ^ (Nat.log2 b.toNat + 1) - 1)
theorem ck_pw_lt {n : Nat} {b : Int} (h : (n : Int) ≤ b) : n < 2 ^ (Nat.log2 b.toNat + 1) := by
  have h1 := @Nat.lt_log2_self b.toNat
  omega
theorem ck_or_ok {x y : Int32} {b : Int} (hx : 0 ≤ x.toInt) (hy : 0 ≤ y.toInt) (h1 : x.toInt ≤ b) (h2 : y.toInt ≤ b) : x.toInt ≤ (x ||| y).toInt ∧ y.toInt ≤ (x ||| y).toInt ∧ (x ||| y).toInt ≤ ck_pw b := by
  have e1 := ck_nn hx
  have e2 := ck_nn hy
  have h3 := ck_i32 x
  have h4 := ck_i32 y
  have e3 : (x ||| y).toBitVec.toNat = x.toBitVec.toNat ||| y.toBitVec.toNat := by
    rw [Int32.toBitVec_or, BitVec.toNat_or]
  have h5 : (x ||| y).toBitVec.toNat < 2 ^ 31 := by
    rw [e3]
    exact Nat.or_lt_two_pow (by omega) (by omega)
  have e4 := ck_nl (x := x ||| y) (by omega)
  have h6 : (x ||| y).toBitVec.toNat < 2 ^ (Nat.log2 b.toNat + 1) := by
    rw [e3]
    exact Nat.or_lt_two_pow (ck_pw_lt (by omega)) (ck_pw_lt (by omega))
  have h7 := @Nat.left_le_or x.toBitVec.toNat y.toBitVec.toNat
  have h8 := @Nat.right_le_or x.toBitVec.toNat y.toBitVec.toNat
  rw [← e3] at h7 h8
  have e5 : ck_pw b = ((2 ^ (Nat.log2 b.toNat + 1) - 1 : Nat) : Int) := rfl
  rw [e5]
  refine ⟨by omega, by omega, ?_⟩
  omega
theorem ck_xor_ok {x y : Int32} {b : Int} (hx : 0 ≤ x.toInt) (hy : 0 ≤ y.toInt) (h1 : x.toInt ≤ b) (h2 : y.toInt ≤ b) : 0 ≤ (x ^^^ y).toInt ∧ (x ^^^ y).toInt ≤ ck_pw b := by
  have e1 := ck_nn hx
  have e2 := ck_nn hy
  have h3 := ck_i32 x
  have h4 := ck_i32 y
  have e3 : (x ^^^ y).toBitVec.toNat = x.toBitVec.toNat ^^^ y.toBitVec.toNat := by
    rw [Int32.toBitVec_xor, BitVec.toNat_xor]
  have h5 : (x ^^^ y).toBitVec.toNat < 2 ^ 31 := by
    rw [e3]
    exact Nat.xor_lt_two_pow (by omega) (by omega)
  have e4 := ck_nl (x := x ^^^ y) (by omega)
  have h6 : (x ^^^ y).toBitVec.toNat < 2 ^ (Nat.log2 b.toNat + 1) := by
    rw [e3]
    exact Nat.xor_lt_two_pow (ck_pw_lt (by omega)) (ck_pw_lt (by omega))
  have e5 : ck_pw b = ((2 ^ (Nat.log2 b.toNat + 1) - 1 : Nat) : Int) := rfl
  rw [e5]
  refine ⟨by omega, ?_⟩
  omega
theorem ck_of_int {x : Int32} {n : Int} (h : x.toInt = n) : x = Int32.ofInt n := by
  rw [← h]
  exact (Int32.ofInt_toInt x).symm
theorem ck_shl1 : ∀ n : Nat, n < 31 → ((1 : Int32) <<< (Int32.ofInt (n : Int) &&& 31)).toInt = ((2 ^ n : Nat) : Int) := by decide
theorem ck_shr_k : ∀ n : Nat, n < 32 → ((Int32.ofInt (n : Int) &&& 31).toBitVec.smod 32).toNat = n := by decide
theorem ck_pow_mono {a b : Nat} (h : a ≤ b) : (2 : Nat) ^ a ≤ 2 ^ b := Nat.pow_le_pow_right (by omega) h
theorem ck_shl_ok {x y : Int32} {c d : Int} (hx : x.toInt = 1) (h1 : 0 ≤ c) (h2 : c ≤ y.toInt) (h3 : y.toInt ≤ d) (h4 : d ≤ 30) : ((2 ^ c.toNat : Nat) : Int) ≤ (x <<< (y &&& 31)).toInt ∧ (x <<< (y &&& 31)).toInt ≤ ((2 ^ d.toNat : Nat) : Int) := by
  have e1 : x = 1 := ck_of_int hx
  have e2 : y = Int32.ofInt (y.toInt.toNat : Int) := ck_of_int (by omega)
  have e3 := ck_shl1 y.toInt.toNat (by omega)
  rw [← e2] at e3
  rw [e1, e3]
  have h5 := @ck_pow_mono c.toNat y.toInt.toNat (by omega)
  have h6 := @ck_pow_mono y.toInt.toNat d.toNat (by omega)
  omega
theorem ck_shr_ok {x y : Int32} {b : Int} (h1 : 0 ≤ x.toInt) (h2 : x.toInt ≤ b) : 0 ≤ (x >>> (y &&& 31)).toInt ∧ (x >>> (y &&& 31)).toInt ≤ b := by
  have e1 := pk_shr x (y &&& 31) _ rfl
  rw [e1, Int.shiftRight_eq_div_pow]
  have h3 := Int.ediv_le_self (a := x.toInt) (((2 ^ ((y &&& 31).toBitVec.smod 32).toNat : Nat) : Int)) h1
  have h4 : 0 ≤ x.toInt / (((2 ^ ((y &&& 31).toBitVec.smod 32).toNat : Nat) : Int)) := Int.ediv_nonneg h1 (Int.natCast_nonneg _)
  exact ⟨h4, Int.le_trans h3 h2⟩
theorem ck_shrk_ok {x y : Int32} {a b c : Int} (hy : y.toInt = c) (h1 : a ≤ x.toInt) (h2 : x.toInt ≤ b) (h3 : 0 ≤ c) (h4 : c ≤ 31) : a / ((2 ^ c.toNat : Nat) : Int) ≤ (x >>> (y &&& 31)).toInt ∧ (x >>> (y &&& 31)).toInt ≤ b / ((2 ^ c.toNat : Nat) : Int) := by
  have e2 : y = Int32.ofInt (c.toNat : Int) := ck_of_int (by omega)
  have e3 := ck_shr_k c.toNat (by omega)
  rw [← e2] at e3
  have e1 := pk_shr x (y &&& 31) c.toNat e3
  rw [e1, Int.shiftRight_eq_div_pow]
  have hp : (0 : Int) < ((2 ^ c.toNat : Nat) : Int) := by
    have := Nat.two_pow_pos c.toNat
    omega
  exact ⟨Int.ediv_le_ediv hp h1, Int.ediv_le_ediv hp h2⟩
theorem ck_tdiv_nn {x y : Int} (h1 : 0 ≤ x) (h2 : 0 < y) : 0 ≤ x.tdiv y ∧ x.tdiv y ≤ x := by
  rw [Int.tdiv_eq_ediv_of_nonneg h1]
  exact ⟨Int.ediv_nonneg h1 (by omega), Int.ediv_le_self _ h1⟩
theorem ck_tdiv_bd {x y : Int} (h2 : 0 < y) : (0 ≤ x → 0 ≤ x.tdiv y ∧ x.tdiv y ≤ x) ∧ (x < 0 → x ≤ x.tdiv y ∧ x.tdiv y ≤ 0) := by
  refine ⟨fun h => ck_tdiv_nn h h2, fun h => ?_⟩
  have h3 := @ck_tdiv_nn (-x) y (by omega) h2
  rw [Int.neg_tdiv] at h3
  omega
theorem ck_div_ok {x y : Int32} (hy : 1 ≤ y.toInt) : (x / y).toInt = x.toInt.tdiv y.toInt := by
  refine Int32.toInt_div_of_ne_right x y ?_
  intro e
  rw [e] at hy
  exact absurd hy (by decide)
theorem ck_rem_ok {x y : Int32} (hy : 1 ≤ y.toInt) : (x - x / y * y).toInt = x.toInt.tmod y.toInt := by
  have e1 := ck_div_ok (x := x) hy
  have h1 := ck_i32 x
  have h2 := @ck_tdiv_bd x.toInt y.toInt (by omega)
  have h3 := Int.mul_tdiv_add_tmod x.toInt y.toInt
  have h4 := Int.tmod_lt_of_pos x.toInt (show 0 < y.toInt by omega)
  have h5 : (0 ≤ x.toInt → 0 ≤ x.toInt.tmod y.toInt) := fun h => Int.tmod_nonneg _ h
  have h6 : (x.toInt < 0 → x.toInt.tmod y.toInt ≤ 0) := fun h => by
    have h7 := Int.tmod_nonneg (a := -x.toInt) y.toInt (by omega)
    rw [Int.neg_tmod] at h7
    omega
  have e2 : y.toInt * x.toInt.tdiv y.toInt = x.toInt.tdiv y.toInt * y.toInt := Int.mul_comm _ _
  have h8 : (x.toInt < 0 → x.toInt ≤ x.toInt.tdiv y.toInt * y.toInt) := fun h => by have := h6 h; omega
  have h9 : (0 ≤ x.toInt → 0 ≤ x.toInt.tdiv y.toInt * y.toInt) := fun h => Int.mul_nonneg (h2.1 h).1 (by omega)
  have h10 : (x.toInt < 0 → x.toInt.tdiv y.toInt * y.toInt ≤ 0) := fun h => by
    have h11 := Int.mul_nonneg (show 0 ≤ -(x.toInt.tdiv y.toInt) by have := (h2.2 h).2; omega) (show 0 ≤ y.toInt by omega)
    rw [Int.neg_mul] at h11
    omega
  have b1 : (x / y * y).toInt = x.toInt.tdiv y.toInt * y.toInt := by
    rw [Int32.toInt_mul, e1]
    refine ck_bm ?_ ?_
    · rcases Int.lt_or_le x.toInt 0 with h | h
      · have := h8 h; omega
      · have := h9 h; omega
    · rcases Int.lt_or_le x.toInt 0 with h | h
      · have := h10 h; omega
      · have := h5 h; omega
  rw [Int32.toInt_sub, b1]
  have e3 : x.toInt - x.toInt.tdiv y.toInt * y.toInt = x.toInt.tmod y.toInt := by omega
  rw [e3]
  have h12 := ck_i32 y
  refine ck_bm ?_ (by omega)
  rcases Int.lt_or_le x.toInt 0 with h | h
  · have := h10 h; omega
  · have := h5 h; omega
theorem ck_tmod_bd {x y d : Int} (hy : 1 ≤ y) (hd : y ≤ d) : (0 ≤ x → 0 ≤ x.tmod y ∧ x.tmod y ≤ x ∧ x.tmod y ≤ d - 1) ∧ 1 - d ≤ x.tmod y ∧ x.tmod y ≤ d - 1 := by
  have h4 := Int.tmod_lt_of_pos x (show 0 < y by omega)
  have h5 : ∀ x : Int, 0 ≤ x → 0 ≤ x.tmod y := fun x h => Int.tmod_nonneg _ h
  have h3 := Int.mul_tdiv_add_tmod x y
  have h2 := @ck_tdiv_bd x y (by omega)
  refine ⟨fun h => ⟨h5 x h, ?_, by omega⟩, ?_, by omega⟩
  · have := Int.mul_nonneg (show 0 ≤ y by omega) (h2.1 h).1
    omega
  · rcases Int.lt_or_le x 0 with h | h
    · have h7 := Int.tmod_lt_of_pos (-x) (show 0 < y by omega)
      rw [Int.neg_tmod] at h7
      omega
    · have := h5 x h; omega
noncomputable def ck_bc (b : Nat) (p q : Int × Int) : ck_W := match b with
  | 3 => bif ck_le 0 p.1 then (bif ck_le 0 q.1 then (false, (.ofNat 0, []), .ofNat 0, ck_mn p.2 q.2) else (false, (.ofNat 0, []), .ofNat 0, p.2)) else (bif ck_le 0 q.1 then (false, (.ofNat 0, []), .ofNat 0, q.2) else ck_top)
  | 4 => bif ck_le 0 p.1 then (bif ck_le 0 q.1 then (false, (.ofNat 0, []), ck_mx p.1 q.1, ck_pw (ck_mx p.2 q.2)) else ck_top) else ck_top
  | 5 => bif ck_le 0 p.1 then (bif ck_le 0 q.1 then (false, (.ofNat 0, []), .ofNat 0, ck_pw (ck_mx p.2 q.2)) else ck_top) else ck_top
  | 6 => bif (bif ck_z (p.1 - 1) then (bif ck_z (p.2 - 1) then (bif ck_le 0 q.1 then ck_le q.2 30 else false) else false) else false) then (false, (.ofNat 0, []), .ofNat (2 ^ q.1.toNat), .ofNat (2 ^ q.2.toNat)) else ck_top
  | 7 => bif ck_le 0 p.1 then (bif (bif ck_z (q.1 - q.2) then (bif ck_le 0 q.1 then ck_le q.1 31 else false) else false) then (false, (.ofNat 0, []), p.1 / .ofNat (2 ^ q.1.toNat), p.2 / .ofNat (2 ^ q.1.toNat)) else (false, (.ofNat 0, []), .ofNat 0, p.2)) else ck_top
  | _ => ck_top
noncomputable def ck_bd2 (b : Nat) (p q : Int × Int) : Option ck_W := bif ck_le 1 q.1 then (match b with
  | 8 => bif ck_le 0 p.1 then some (false, (.ofNat 0, []), .ofNat 0, ck_mn p.2 (q.2 - 1)) else some (false, (.ofNat 0, []), 1 - q.2, q.2 - 1)
  | _ => bif ck_le 0 p.1 then some (false, (.ofNat 0, []), .ofNat 0, p.2) else some (false, (.ofNat 0, []), ck_mn p.1 0, ck_mx p.2 0)) else none
noncomputable def ck_bo1 (E : ck_E) (b : Nat) (x y : ck_F) (p q : Int × Int) : Option ck_W := match b with
  | 0 => some (ck_fi E (ck_fa x y))
  | 1 => some (ck_fi E (ck_fs x y))
  | _ => bif (bif ck_z (p.1 - p.2) then ck_z (q.1 - q.2) else false) then (match pm_bop b (Int32.ofInt p.1) (Int32.ofInt q.1) with
    | none => none
    | some z => some (true, (z.toInt, []), .ofNat 0, .ofNat 0)) else (match b with
    | 2 => bif ck_z (q.1 - q.2) then some (ck_fi E (ck_fk q.1 x)) else (bif ck_z (p.1 - p.2) then some (ck_fi E (ck_fk p.1 y)) else some ck_top)
    | 8 => ck_bd2 8 p q
    | 9 => ck_bd2 9 p q
    | _ => bif Nat.blt b 8 then some (ck_bc b p q) else none)
noncomputable def ck_bo (E : ck_E) (b : Nat) (x y : ck_F) : Option ck_W := match ck_pl E x with
  | none => none
  | some p => match ck_pl E y with
    | none => none
    | some q => ck_bo1 E b x y p q
theorem ck_mx_l (a b : Int) : a ≤ ck_mx a b := by
  unfold ck_mx
  cases h : ck_le a b with
  | true => exact ck_le_iff.mp h
  | false => exact Int.le_refl a
theorem ck_mx_r (a b : Int) : b ≤ ck_mx a b := by
  unfold ck_mx
  cases h : ck_le a b with
  | true => exact Int.le_refl b
  | false => have := ck_le_no h; exact (by omega : b ≤ a)
theorem ck_mn_l (a b : Int) : ck_mn a b ≤ a := by
  unfold ck_mn
  cases h : ck_le a b with
  | true => exact Int.le_refl a
  | false => have := ck_le_no h; exact (by omega : b ≤ a)
theorem ck_mn_r (a b : Int) : ck_mn a b ≤ b := by
  unfold ck_mn
  cases h : ck_le a b with
  | true => exact ck_le_iff.mp h
  | false => exact Int.le_refl b
theorem ck_bc_ok {b : Nat} {p q : Int × Int} {x y z : Int32} {r : ck_R} (hx : p.1 ≤ x.toInt ∧ x.toInt ≤ p.2) (hy : q.1 ≤ y.toInt ∧ y.toInt ≤ q.2) (hz : pm_bop b x y = some z) : ck_rz r (ck_bc b p q) z.toInt := by
  match b, hz with
  | 0, _ => exact ck_top_ok r z
  | 1, _ => exact ck_top_ok r z
  | 2, _ => exact ck_top_ok r z
  | 3, hz =>
    cases hz
    show ck_rz r (bif ck_le 0 p.1 then (bif ck_le 0 q.1 then (false, (.ofNat 0, []), .ofNat 0, ck_mn p.2 q.2) else (false, (.ofNat 0, []), .ofNat 0, p.2)) else (bif ck_le 0 q.1 then (false, (.ofNat 0, []), .ofNat 0, q.2) else ck_top)) _
    cases b1 : ck_le 0 p.1 with
    | true =>
      have g1 := ck_le_iff.mp b1
      have h1 := ck_and_l (x := x) (y := y) (by omega)
      cases b2 : ck_le 0 q.1 with
      | true =>
        have g2 := ck_le_iff.mp b2
        have h2 := ck_and_r (x := x) (y := y) (by omega)
        exact ck_rz_i h1.1 (ck_le_mn (by omega) (by omega))
      | false => exact ck_rz_i h1.1 (by omega)
    | false =>
      cases b2 : ck_le 0 q.1 with
      | true =>
        have g2 := ck_le_iff.mp b2
        have h2 := ck_and_r (x := x) (y := y) (by omega)
        exact ck_rz_i h2.1 (by omega)
      | false => exact ck_top_ok r _
  | 4, hz =>
    cases hz
    show ck_rz r (bif ck_le 0 p.1 then (bif ck_le 0 q.1 then (false, (.ofNat 0, []), ck_mx p.1 q.1, ck_pw (ck_mx p.2 q.2)) else ck_top) else ck_top) _
    cases b1 : ck_le 0 p.1 with
    | false => exact ck_top_ok r _
    | true =>
      cases b2 : ck_le 0 q.1 with
      | false => exact ck_top_ok r _
      | true =>
        have g1 := ck_le_iff.mp b1
        have g2 := ck_le_iff.mp b2
        have h1 := ck_or_ok (x := x) (y := y) (b := ck_mx p.2 q.2) (by omega) (by omega) (Int.le_trans hx.2 (ck_mx_l _ _)) (Int.le_trans hy.2 (ck_mx_r _ _))
        exact ck_rz_i (ck_mx_le (by omega) (by omega)) h1.2.2
  | 5, hz =>
    cases hz
    show ck_rz r (bif ck_le 0 p.1 then (bif ck_le 0 q.1 then (false, (.ofNat 0, []), .ofNat 0, ck_pw (ck_mx p.2 q.2)) else ck_top) else ck_top) _
    cases b1 : ck_le 0 p.1 with
    | false => exact ck_top_ok r _
    | true =>
      cases b2 : ck_le 0 q.1 with
      | false => exact ck_top_ok r _
      | true =>
        have g1 := ck_le_iff.mp b1
        have g2 := ck_le_iff.mp b2
        have h1 := ck_xor_ok (x := x) (y := y) (b := ck_mx p.2 q.2) (by omega) (by omega) (Int.le_trans hx.2 (ck_mx_l _ _)) (Int.le_trans hy.2 (ck_mx_r _ _))
        exact ck_rz_i h1.1 h1.2
  | 6, hz =>
    cases hz
    show ck_rz r (bif (bif ck_z (p.1 - 1) then (bif ck_z (p.2 - 1) then (bif ck_le 0 q.1 then ck_le q.2 30 else false) else false) else false) then (false, (.ofNat 0, []), .ofNat (2 ^ q.1.toNat), .ofNat (2 ^ q.2.toNat)) else ck_top) _
    cases hb : (bif ck_z (p.1 - 1) then (bif ck_z (p.2 - 1) then (bif ck_le 0 q.1 then ck_le q.2 30 else false) else false) else false) with
    | false => exact ck_top_ok r _
    | true =>
      obtain ⟨b1, b2⟩ := ck_and hb
      obtain ⟨b3, b4⟩ := ck_and b2
      obtain ⟨b5, b6⟩ := ck_and b4
      have g1 := ck_z_iff.mp b1
      have g2 := ck_z_iff.mp b3
      have g3 := ck_le_iff.mp b5
      have g4 := ck_le_iff.mp b6
      have h1 := ck_shl_ok (x := x) (y := y) (c := q.1) (d := q.2) (by omega) g3 hy.1 hy.2 g4
      exact ck_rz_i h1.1 h1.2
  | 7, hz =>
    cases hz
    show ck_rz r (bif ck_le 0 p.1 then (bif (bif ck_z (q.1 - q.2) then (bif ck_le 0 q.1 then ck_le q.1 31 else false) else false) then (false, (.ofNat 0, []), p.1 / .ofNat (2 ^ q.1.toNat), p.2 / .ofNat (2 ^ q.1.toNat)) else (false, (.ofNat 0, []), .ofNat 0, p.2)) else ck_top) _
    cases b1 : ck_le 0 p.1 with
    | false => exact ck_top_ok r _
    | true =>
      have g1 := ck_le_iff.mp b1
      cases hb : (bif ck_z (q.1 - q.2) then (bif ck_le 0 q.1 then ck_le q.1 31 else false) else false) with
      | false =>
        have h1 := ck_shr_ok (x := x) (y := y) (b := p.2) (by omega) hx.2
        exact ck_rz_i h1.1 h1.2
      | true =>
        obtain ⟨b2, b3⟩ := ck_and hb
        obtain ⟨b4, b5⟩ := ck_and b3
        have g2 := ck_z_iff.mp b2
        have g3 := ck_le_iff.mp b4
        have g4 := ck_le_iff.mp b5
        have h1 := ck_shrk_ok (x := x) (y := y) (a := p.1) (b := p.2) (c := q.1) (by omega) hx.1 hx.2 g3 g4
        exact ck_rz_i h1.1 h1.2
  | _ + 8, _ => exact ck_top_ok r z
theorem ck_ne0 {y : Int32} (h : 1 ≤ y.toInt) : ¬ y = 0 := by
  intro e
  rw [e] at h
  exact absurd h (by decide)
theorem ck_bd8_ok {p q : Int × Int} {x y : Int32} {r : ck_R} {w : ck_W} (hx : p.1 ≤ x.toInt ∧ x.toInt ≤ p.2) (hy : q.1 ≤ y.toInt ∧ y.toInt ≤ q.2) (hw : ck_bd2 8 p q = some w) : ∃ z, pm_bop 8 x y = some z ∧ ck_rz r w z.toInt := by
  unfold ck_bd2 at hw
  cases b1 : ck_le 1 q.1 with
  | false => rw [b1] at hw; cases hw
  | true =>
    rw [b1] at hw
    have g1 := ck_le_iff.mp b1
    have hy1 : 1 ≤ y.toInt := by omega
    refine ⟨x - x / y * y, if_neg (ck_ne0 hy1), ?_⟩
    have e1 := ck_rem_ok (x := x) hy1
    have h1 := ck_tmod_bd (x := x.toInt) hy1 hy.2
    rw [e1]
    dsimp only [cond_true] at hw
    cases b2 : ck_le 0 p.1 with
    | true =>
      rw [b2] at hw
      cases hw
      have g2 := ck_le_iff.mp b2
      have h2 := h1.1 (by omega)
      exact ck_rz_i h2.1 (ck_le_mn (by omega) (by omega))
    | false =>
      rw [b2] at hw
      cases hw
      exact ck_rz_i (by omega) (by omega)
theorem ck_bd9_ok {p q : Int × Int} {x y : Int32} {r : ck_R} {w : ck_W} (hx : p.1 ≤ x.toInt ∧ x.toInt ≤ p.2) (hy : q.1 ≤ y.toInt ∧ y.toInt ≤ q.2) (hw : ck_bd2 9 p q = some w) : ∃ z, pm_bop 9 x y = some z ∧ ck_rz r w z.toInt := by
  unfold ck_bd2 at hw
  cases b1 : ck_le 1 q.1 with
  | false => rw [b1] at hw; cases hw
  | true =>
    rw [b1] at hw
    have g1 := ck_le_iff.mp b1
    have hy1 : 1 ≤ y.toInt := by omega
    refine ⟨x / y, if_neg (ck_ne0 hy1), ?_⟩
    have e1 := ck_div_ok (x := x) hy1
    have h1 := @ck_tdiv_bd x.toInt y.toInt (by omega)
    rw [e1]
    dsimp only [cond_true] at hw
    cases b2 : ck_le 0 p.1 with
    | true =>
      rw [b2] at hw
      cases hw
      have g2 := ck_le_iff.mp b2
      have h2 := h1.1 (by omega)
      exact ck_rz_i h2.1 (by omega)
    | false =>
      rw [b2] at hw
      cases hw
      rcases Int.lt_or_le x.toInt 0 with h | h
      · have h2 := h1.2 h
        exact ck_rz_i (Int.le_trans (ck_mn_l _ _) (by omega)) (Int.le_trans h2.2 (ck_mx_r _ _))
      · have h2 := h1.1 h
        exact ck_rz_i (Int.le_trans (ck_mn_r _ _) h2.1) (Int.le_trans (by omega) (ck_mx_l _ _))
theorem ck_bop_some {b : Nat} (hb : b < 8) (x y : Int32) : ∃ z, pm_bop b x y = some z := by
  match b, hb with
  | 0, _ => exact ⟨_, rfl⟩
  | 1, _ => exact ⟨_, rfl⟩
  | 2, _ => exact ⟨_, rfl⟩
  | 3, _ => exact ⟨_, rfl⟩
  | 4, _ => exact ⟨_, rfl⟩
  | 5, _ => exact ⟨_, rfl⟩
  | 6, _ => exact ⟨_, rfl⟩
  | 7, _ => exact ⟨_, rfl⟩
  | b + 8, hb => omega
theorem ck_bo_ok {E : ck_E} {r : ck_R} {b : Nat} {x y : ck_F} {w : ck_W} {X Y : Int32} (hw : ck_bo E b x y = some w) (hE : ck_es E r) (hX : X.toInt = ck_ev r x) (hY : Y.toInt = ck_ev r y) : ∃ Z, pm_bop b X Y = some Z ∧ ck_rz r w Z.toInt := by
  unfold ck_bo at hw
  cases hp : ck_pl E x with
  | none => rw [hp] at hw; cases hw
  | some p =>
    rw [hp] at hw
    dsimp only at hw
    cases hq : ck_pl E y with
    | none => rw [hq] at hw; cases hw
    | some q =>
      rw [hq] at hw
      dsimp only at hw
      have h1 := ck_pl_ok hE hp
      have h2 := ck_pl_ok hE hq
      rw [← hX] at h1
      rw [← hY] at h2
      have gen : ∀ b : Nat, (bif (bif ck_z (p.1 - p.2) then ck_z (q.1 - q.2) else false) then (match pm_bop b (Int32.ofInt p.1) (Int32.ofInt q.1) with
          | none => none
          | some z => some (true, (z.toInt, []), .ofNat 0, .ofNat 0)) else (match b with
          | 2 => bif ck_z (q.1 - q.2) then some (ck_fi E (ck_fk q.1 x)) else (bif ck_z (p.1 - p.2) then some (ck_fi E (ck_fk p.1 y)) else some ck_top)
          | 8 => ck_bd2 8 p q
          | 9 => ck_bd2 9 p q
          | _ => bif Nat.blt b 8 then some (ck_bc b p q) else none)) = some w → ∃ Z, pm_bop b X Y = some Z ∧ ck_rz r w Z.toInt := by
        intro b hw
        cases hb : (bif ck_z (p.1 - p.2) then ck_z (q.1 - q.2) else false) with
        | true =>
          rw [hb] at hw
          dsimp only [cond_true] at hw
          obtain ⟨b1, b2⟩ := ck_and hb
          have g1 := ck_z_iff.mp b1
          have g2 := ck_z_iff.mp b2
          have e1 : X = Int32.ofInt p.1 := ck_of_int (by omega)
          have e2 : Y = Int32.ofInt q.1 := ck_of_int (by omega)
          rw [← e1, ← e2] at hw
          cases hz : pm_bop b X Y with
          | none => rw [hz] at hw; cases hw
          | some z =>
            rw [hz] at hw
            cases hw
            exact ⟨z, rfl, ck_rz_f (by rw [ck_ev_k])⟩
        | false =>
          rw [hb] at hw
          dsimp only [cond_false] at hw
          have small : ∀ b : Nat, (bif Nat.blt b 8 then some (ck_bc b p q) else none) = some w → ∃ Z, pm_bop b X Y = some Z ∧ ck_rz r w Z.toInt := by
            intro b hw
            cases hl : Nat.blt b 8 with
            | false => rw [hl] at hw; cases hw
            | true =>
              rw [hl] at hw
              cases hw
              have hl2 : b < 8 := by simp only [Nat.blt_eq] at hl; exact hl
              obtain ⟨z, hz⟩ := ck_bop_some hl2 X Y
              exact ⟨z, hz, ck_bc_ok h1 h2 hz⟩
          match b, hw with
          | 0, hw => exact small 0 hw
          | 1, hw => exact small 1 hw
          | 2, hw =>
            refine ⟨X * Y, rfl, ?_⟩
            cases b1 : ck_z (q.1 - q.2) with
            | true =>
              rw [b1] at hw
              cases hw
              have g1 := ck_z_iff.mp b1
              refine ck_fi_ok hE ?_
              rw [Int32.toInt_mul, ck_ev_fk, ← hX, show Y.toInt = q.1 by omega, Int.mul_comm]
            | false =>
              rw [b1] at hw
              dsimp only [cond_false] at hw
              cases b2 : ck_z (p.1 - p.2) with
              | true =>
                rw [b2] at hw
                cases hw
                have g1 := ck_z_iff.mp b2
                refine ck_fi_ok hE ?_
                rw [Int32.toInt_mul, ck_ev_fk, ← hY, show X.toInt = p.1 by omega]
              | false =>
                rw [b2] at hw
                cases hw
                exact ck_top_ok r _
          | 3, hw => exact small 3 hw
          | 4, hw => exact small 4 hw
          | 5, hw => exact small 5 hw
          | 6, hw => exact small 6 hw
          | 7, hw => exact small 7 hw
          | 8, hw => exact ck_bd8_ok h1 h2 hw
          | 9, hw => exact ck_bd9_ok h1 h2 hw
          | b + 10, hw => exact small (b + 10) hw
      match b, hw with
      | 0, hw =>
        cases hw
        exact ⟨X + Y, rfl, ck_fi_ok hE (by rw [Int32.toInt_add, ck_ev_fa, hX, hY])⟩
      | 1, hw =>
        cases hw
        exact ⟨X - Y, rfl, ck_fi_ok hE (by rw [Int32.toInt_sub, ck_ev_fs, hX, hY])⟩
      | b + 2, hw => exact gen (b + 2) hw
