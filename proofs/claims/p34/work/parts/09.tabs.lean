/-! What the tables say: fields, kinds, links. -/
def pm_tf : Nat → Nat → FieldType := fun b => match b with
  | 0 => tyX0
  | 1 => tyX1
  | 2 => tyX2
  | 3 => tyX3
  | 4 => tyX4
  | 5 => tyX5
  | 6 => tyX6
  | 7 => tyX7
  | 8 => tyX8
  | 9 => tyX9
  | 10 => tyX10
  | _ => tyX11
theorem pm_12 {P : Nat → Prop} (h0 : P 0) (h1 : P 1) (h2 : P 2) (h3 : P 3) (h4 : P 4) (h5 : P 5) (h6 : P 6) (h7 : P 7) (h8 : P 8) (h9 : P 9) (h10 : P 10) (h11 : P 11) : ∀ b, b < 12 → P b := fun b hb => match b, hb with
  | 0, _ => h0
  | 1, _ => h1
  | 2, _ => h2
  | 3, _ => h3
  | 4, _ => h4
  | 5, _ => h5
  | 6, _ => h6
  | 7, _ => h7
  | 8, _ => h8
  | 9, _ => h9
  | 10, _ => h10
  | 11, _ => h11
  | b + 12, h => absurd h (by omega)
theorem pm_cl : ∀ b, b < 12 → vwCl[b]? = some (pm_R b, pm_T b, pm_N b) := pm_12 rfl rfl rfl rfl rfl rfl rfl rfl rfl rfl rfl rfl
theorem pm_tf_ok : ∀ b, b < 12 → ∀ k, k < pm_N b → parseFieldDescriptor (pm_T b k).2.2.1 = some (pm_tf b k) := pm_12 tyX0_ok tyX1_ok tyX2_ok tyX3_ok tyX4_ok tyX5_ok tyX6_ok tyX7_ok tyX8_ok tyX9_ok tyX10_ok tyX11_ok
theorem pm_nm : ∀ b, b < 12 → ∀ x, x < pm_N b → ∀ y, y < pm_N b → x ≠ y → (pm_T b x).2.1 ≠ (pm_T b y).2.1 := pm_12 nmX0 nmX1 nmX2 nmX3 nmX4 nmX5 nmX6 nmX7 nmX8 nmX9 nmX10 nmX11
theorem pm_gl {w : Cond} {C : String} {T : u_T} {N : Nat} (h : w ∈ u_ws C T N) : goodWord w = true := by
  unfold u_ws at h
  obtain ⟨k, -, rfl⟩ := List.mem_map.mp h
  unfold u_lay
  split <;> rfl
theorem pm_inU : ∀ b, b < 12 → ∀ w ∈ u_ws (pm_R b) (pm_T b) (pm_N b), w ∈ pm_G :=
  pm_12 (fun w h => pm_inG (inX0 w h) (pm_gl h)) (fun w h => pm_inG (inX1 w h) (pm_gl h)) (fun w h => pm_inG (inX2 w h) (pm_gl h)) (fun w h => pm_inG (inX3 w h) (pm_gl h)) (fun w h => pm_inG (inX4 w h) (pm_gl h)) (fun w h => pm_inG (inX5 w h) (pm_gl h)) (fun w h => pm_inG (inX6 w h) (pm_gl h)) (fun w h => pm_inG (inX7 w h) (pm_gl h)) (fun w h => pm_inG (inX8 w h) (pm_gl h)) (fun w h => pm_inG (inX9 w h) (pm_gl h)) (fun w h => pm_inG (inX10 w h) (pm_gl h)) (fun w h => pm_inG (inX11 w h) (pm_gl h))
theorem pm_T1 : ∀ b, b < 12 → ∀ k, (pm_T b k).1 = pm_R b := by
  intro b hb
  refine pm_12 (P := fun b => ∀ k, (pm_T b k).1 = pm_R b) ?_ ?_ ?_ ?_ ?_ ?_ ?_ ?_ ?_ ?_ ?_ ?_ b hb
  · intro k; show (TX0 k).1 = RX0; unfold TX0; split <;> rfl
  · intro k; show (TX1 k).1 = RX1; unfold TX1; split <;> rfl
  · intro k; show (TX2 k).1 = RX2; unfold TX2; split <;> rfl
  · intro k; show (TX3 k).1 = RX3; unfold TX3; split <;> rfl
  · intro k; show (TX4 k).1 = RX4; unfold TX4; split <;> rfl
  · intro k; show (TX5 k).1 = RX5; unfold TX5; split <;> rfl
  · intro k; show (TX6 k).1 = RX6; unfold TX6; split <;> rfl
  · intro k; show (TX7 k).1 = RX7; unfold TX7; split <;> rfl
  · intro k; show (TX8 k).1 = RX8; unfold TX8; split <;> rfl
  · intro k; show (TX9 k).1 = RX9; unfold TX9; split <;> rfl
  · intro k; show (TX10 k).1 = RX10; unfold TX10; split <;> rfl
  · intro k; show (TX11 k).1 = RX11; unfold TX11; split <;> rfl
/-- does a type go with a kind -/
def pm_kt (k : Nat) (t : FieldType) : Bool := match k, t with
  | 0, .int => true
  | 4, .boolean => true
  | 1, .long => true
  | 2, .object _ => true
  | 2, .array _ => true
  | _, _ => false
theorem pm_ko : pm_S.all (fun s => s.1 != 0 || ((List.range s.2.2.length).all (fun a => pm_kt (s.2.2.getD a 9) (pm_tf s.2.1 a)) && (s.2.2.length == pm_N s.2.1 && decide (s.2.1 < 12)))) = true := by decide +kernel
theorem pm_fk_some {q ci a k : Nat} (h : pm_fk q ci a = some k) : ∃ ks, pm_S[q]? = some (0, ci, ks) ∧ ks[a]? = some k ∧ pm_kt k (pm_tf ci a) = true ∧ a < pm_N ci ∧ ci < 12 ∧ ks.length = pm_N ci := by
  unfold pm_fk at h
  split at h
  · rename_i c ks hs
    split at h
    · rename_i hc
      subst hc
      have h1 := List.all_eq_true.mp pm_ko _ (List.mem_of_getElem? hs)
      have hl := (List.getElem?_eq_some_iff.mp h).1
      simp only [bne_self_eq_false, Bool.false_or, Bool.and_eq_true, beq_iff_eq, decide_eq_true_eq] at h1
      obtain ⟨h1, h2, h3⟩ := h1
      have h4 := List.all_eq_true.mp h1 a (List.mem_range.mpr hl)
      rw [List.getD_eq_getElem?_getD, h] at h4
      exact ⟨ks, hs, h, h4, by omega, h3, h2⟩
    · cases h
  · cases h
theorem pm_ak_some {q : Nat} {g : Nat × Nat} (h : pm_ak q = some g) : ∃ x, pm_S[q]? = some (g.1, g.2, x) ∧ g.1 ≠ 0 := by
  unfold pm_ak at h
  split at h
  · rename_i g' n x hs
    split at h
    · cases h
    · cases h; exact ⟨x, hs, by assumption⟩
  · cases h
theorem pm_link {ow c b a : Nat} (h : pm_FL.elem (ow, c, b, a) = true) : Cond.fieldLink (pm_R ow) c (pm_R b) (pm_T b a).2.1 (pm_T b a).2.2.1 ∈ pm_G :=
  pm_inG (pm_FL_ok _ (List.elem_iff.mp h)) rfl
theorem pm_mF_set (ad : Nat → Nat) {f g : Nat → Int} {ks : List Nat} {a kd : Nat} {v : Value} (hk : ks[a]? = some kd) (hv : v = pm_vK ad kd (g a)) (ho : ∀ j, j ≠ a → g j = f j) : (pm_mF ad f 0 ks).set a v = pm_mF ad g 0 ks := by
  apply List.ext_getElem?
  intro i
  have hl : a < ks.length := (List.getElem?_eq_some_iff.mp hk).1
  rw [List.getElem?_set, pm_mF_len, pm_mF_get, pm_mF_get, Nat.zero_add]
  by_cases hi : a = i
  · subst hi
    rw [if_pos rfl, if_pos hl, hk, hv]; rfl
  · rw [if_neg hi, ho i (fun e => hi e.symm)]
theorem pm_up_at (h : pm_Hp) (q a : Nat) (z : Int) : pm_up h q a z q a = z := if_pos ⟨rfl, rfl⟩
theorem pm_up_nj (h : pm_Hp) (q a : Nat) (z : Int) (j : Nat) (hj : j ≠ a) : pm_up h q a z q j = h q j := if_neg (fun e => hj e.2)
theorem pm_up_nc (h : pm_Hp) (q a : Nat) (z : Int) (c : Nat) (hc : c ≠ q) : pm_up h q a z c = h c := funext fun _ => if_neg (fun e => hc e.1)
theorem pm_oi (x : Int32) : Int32.ofInt x.toInt = x := by first | exact Int32.ofInt_toInt x | simp
theorem pm_ol (x : Int64) : Int64.ofInt x.toInt = x := by first | exact Int64.ofInt_toInt x | simp
/-- an array's row, one place new -/
theorem pm_ar (h : pm_Hp) (q j : Nat) (x : Int32) : (fun i => Int32.ofInt (pm_up h q j x.toInt q i)) = upd (fun i => Int32.ofInt (h q i)) j x := by
  funext i
  unfold upd
  by_cases hi : i = j
  · subst hi; rw [pm_up_at, if_pos rfl, pm_oi]
  · rw [pm_up_nj _ _ _ _ _ hi, if_neg hi]
theorem pm_arL (h : pm_Hp) (q j : Nat) (x : Int64) : (fun i => Int64.ofInt (pm_up h q j x.toInt q i)) = vp_updL (fun i => Int64.ofInt (h q i)) j x := by
  funext i
  unfold vp_updL
  by_cases hi : i = j
  · subst hi; rw [pm_up_at, if_pos rfl, pm_ol]
  · rw [pm_up_nj _ _ _ _ _ hi, if_neg hi]
theorem pm_nb {x : Int32} (h : -128 ≤ x.toInt ∧ x.toInt ≤ 127) : vp_nar .byte x = x := by
  rw [vp_nar_byte]
  apply Int32.toInt_inj.mp
  rw [Int8.toInt_toInt32, Int32.toInt_toInt8]
  rw [Int.bmod_def]
  omega
theorem pm_nz {x : Int32} (h : x = 0 ∨ x = 1) : vp_nar .boolean x = x := by
  rcases h with rfl | rfl <;> decide +kernel
theorem pm_nnz {x : Int32} (h : x = 0 ∨ x = 1) : narrow .boolean (.int x) = .int x := by
  rcases h with rfl | rfl <;> decide +kernel
