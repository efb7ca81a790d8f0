theorem k_arr {s : State} {a : Array Value} {ty : FieldType} (hp : ∀ C, ty ≠ .object C) (h : (Cond.arrayClass ty).before a s = true) : ∃ cA : ClassId, ArrOfT s cA ty ∧ va_RA s cA ty := by
  obtain ⟨c, k, comp, h1, h2, h3⟩ := Cond.arrayClass_spec h
  refine ⟨c, fun n z => ⟨(fun k h => by cases h), k, h2, comp, h3⟩, ?_⟩
  cases ty with
  | object C => exact absurd rfl (hp C)
  | _ => exact h1
theorem k_arrO {s : State} {a : Array Value} {C : String} (h : (Cond.arrayOver (.object C)).before a s = true) : ∃ cA : ClassId, ArrOfT s cA (.object C) ∧ va_RA s cA (.object C) := by
  obtain ⟨comp, c, k, h1, h2, h3, h4, h5⟩ := Cond.arrayOver_spec h
  exact ⟨c, fun n z => ⟨(fun k h => by cases h), k, h3, comp, h4⟩, k, comp, h3, h4, h1, h5⟩
set_option maxHeartbeats 4000000 in
set_option maxRecDepth 100000 in
theorem law_known {s : State} {a : Array Value} (hts0 : ∀ w ∈ lw_tbl, w.before a s = true) : ∃ (dC : Nat → ClassId) (dI : Nat → Nat → Nat), ∀ (k : Nat) (q : vw_C), vwCl[k]? = some q → u_Kn s q.1 q.2.1 q.2.2 (dC k) (dI k) := by
  obtain ⟨c0, i0, h0⟩ := u_known (C := RX0) (T := TX0) (N := 9) (n := 9) hts0 inX0 (hts0 (.instantiable RX0 9) (by decide +kernel))
  obtain ⟨c1, i1, h1⟩ := u_known (C := RX1) (T := TX1) (N := 4) (n := 4) hts0 inX1 (hts0 (.instantiable RX1 4) (by decide +kernel))
  obtain ⟨c2, i2, h2⟩ := u_known (C := RX2) (T := TX2) (N := 4) (n := 4) hts0 inX2 (hts0 (.instantiable RX2 4) (by decide +kernel))
  obtain ⟨c3, i3, h3⟩ := u_known (C := RX3) (T := TX3) (N := 9) (n := 9) hts0 inX3 (hts0 (.instantiable RX3 9) (by decide +kernel))
  obtain ⟨c4, i4, h4⟩ := u_known (C := RX4) (T := TX4) (N := 16) (n := 16) hts0 inX4 (hts0 (.instantiable RX4 16) (by decide +kernel))
  obtain ⟨c5, i5, h5⟩ := u_known (C := RX5) (T := TX5) (N := 2) (n := 2) hts0 inX5 (hts0 (.instantiable RX5 2) (by decide +kernel))
  obtain ⟨c6, i6, h6⟩ := u_known (C := RX6) (T := TX6) (N := 7) (n := 7) hts0 inX6 (hts0 (.instantiable RX6 7) (by decide +kernel))
  obtain ⟨c7, i7, h7⟩ := u_known (C := RX7) (T := TX7) (N := 3) (n := 3) hts0 inX7 (hts0 (.instantiable RX7 3) (by decide +kernel))
  obtain ⟨c8, i8, h8⟩ := u_known (C := RX8) (T := TX8) (N := 10) (n := 10) hts0 inX8 (hts0 (.instantiable RX8 10) (by decide +kernel))
  obtain ⟨c9, i9, h9⟩ := u_known (C := RX9) (T := TX9) (N := 11) (n := 11) hts0 inX9 (hts0 (.instantiable RX9 11) (by decide +kernel))
  obtain ⟨c10, i10, h10⟩ := u_known (C := RX10) (T := TX10) (N := 18) (n := 18) hts0 inX10 (hts0 (.instantiable RX10 18) (by decide +kernel))
  obtain ⟨c11, i11, h11⟩ := u_known (C := RX11) (T := TX11) (N := 71) (n := 71) hts0 inX11 (hts0 (.instantiable RX11 71) (by decide +kernel))
  refine ⟨fun k => if k = 0 then c0 else if k = 1 then c1 else if k = 2 then c2 else if k = 3 then c3 else if k = 4 then c4 else if k = 5 then c5 else if k = 6 then c6 else if k = 7 then c7 else if k = 8 then c8 else if k = 9 then c9 else if k = 10 then c10 else c11, fun k => if k = 0 then i0 else if k = 1 then i1 else if k = 2 then i2 else if k = 3 then i3 else if k = 4 then i4 else if k = 5 then i5 else if k = 6 then i6 else if k = 7 then i7 else if k = 8 then i8 else if k = 9 then i9 else if k = 10 then i10 else i11, ?_⟩
  intro k q hq
  match k, hq with
  | 0, hq => cases hq; exact h0
  | 1, hq => cases hq; exact h1
  | 2, hq => cases hq; exact h2
  | 3, hq => cases hq; exact h3
  | 4, hq => cases hq; exact h4
  | 5, hq => cases hq; exact h5
  | 6, hq => cases hq; exact h6
  | 7, hq => cases hq; exact h7
  | 8, hq => cases hq; exact h8
  | 9, hq => cases hq; exact h9
  | 10, hq => cases hq; exact h10
  | 11, hq => cases hq; exact h11
  | k + 12, hq => simp [vwCl] at hq
set_option maxHeartbeats 4000000 in
set_option maxRecDepth 100000 in
theorem law_text {s : State} {a : Array Value} {A : Nat → Prop} (hts0 : ∀ w ∈ lw_tbl, w.before a s = true) (hgv : (Jvm.Cond.and given_1 narrow_1).before a s = true) (hAn : ∀ q : Nat, q < s.heap.size → ¬ A q) : ∃ ad av : Nat → Nat, sE ad av A s s.heap := by
  have hs := flat_of_before _ hgv
  have e0 : ∀ j : Nat, j < 4 → (Cond.eq (.elem (.field (Term.string RX8 9) "java/lang/String" "value" "[B") (.int (Int32.ofNat j))) (.int ((sByt.getD 0 []).getD j 0))).before a s = true := by
    intro j hj
    match j, hj with
    | 0, _ => exact hs _ (by decide +kernel)
    | 1, _ => exact hs _ (by decide +kernel)
    | 2, _ => exact hs _ (by decide +kernel)
    | 3, _ => exact hs _ (by decide +kernel)
    | j + 4, hj => omega
  have e1 : ∀ j : Nat, j < 4 → (Cond.eq (.elem (.field (Term.string RX8 17) "java/lang/String" "value" "[B") (.int (Int32.ofNat j))) (.int ((sByt.getD 1 []).getD j 0))).before a s = true := by
    intro j hj
    match j, hj with
    | 0, _ => exact hs _ (by decide +kernel)
    | 1, _ => exact hs _ (by decide +kernel)
    | 2, _ => exact hs _ (by decide +kernel)
    | 3, _ => exact hs _ (by decide +kernel)
    | j + 4, hj => omega
  have e2 : ∀ j : Nat, j < 4 → (Cond.eq (.elem (.field (Term.string RX8 19) "java/lang/String" "value" "[B") (.int (Int32.ofNat j))) (.int ((sByt.getD 2 []).getD j 0))).before a s = true := by
    intro j hj
    match j, hj with
    | 0, _ => exact hs _ (by decide +kernel)
    | 1, _ => exact hs _ (by decide +kernel)
    | 2, _ => exact hs _ (by decide +kernel)
    | 3, _ => exact hs _ (by decide +kernel)
    | j + 4, hj => omega
  have e3 : ∀ j : Nat, j < 2 → (Cond.eq (.elem (.field (Term.string RX8 21) "java/lang/String" "value" "[B") (.int (Int32.ofNat j))) (.int ((sByt.getD 3 []).getD j 0))).before a s = true := by
    intro j hj
    match j, hj with
    | 0, _ => exact hs _ (by decide +kernel)
    | 1, _ => exact hs _ (by decide +kernel)
    | j + 2, hj => omega
  have e4 : ∀ j : Nat, j < 6 → (Cond.eq (.elem (.field (Term.string RX8 23) "java/lang/String" "value" "[B") (.int (Int32.ofNat j))) (.int ((sByt.getD 4 []).getD j 0))).before a s = true := by
    intro j hj
    match j, hj with
    | 0, _ => exact hs _ (by decide +kernel)
    | 1, _ => exact hs _ (by decide +kernel)
    | 2, _ => exact hs _ (by decide +kernel)
    | 3, _ => exact hs _ (by decide +kernel)
    | 4, _ => exact hs _ (by decide +kernel)
    | 5, _ => exact hs _ (by decide +kernel)
    | j + 6, hj => omega
  have e5 : ∀ j : Nat, j < 5 → (Cond.eq (.elem (.field (Term.string RX8 25) "java/lang/String" "value" "[B") (.int (Int32.ofNat j))) (.int ((sByt.getD 5 []).getD j 0))).before a s = true := by
    intro j hj
    match j, hj with
    | 0, _ => exact hs _ (by decide +kernel)
    | 1, _ => exact hs _ (by decide +kernel)
    | 2, _ => exact hs _ (by decide +kernel)
    | 3, _ => exact hs _ (by decide +kernel)
    | 4, _ => exact hs _ (by decide +kernel)
    | j + 5, hj => omega
  obtain ⟨ad, av, h1, h2⟩ := vk_Sof (args := a) (s := s) (N := 6) (tm := fun i => Term.string RX8 (sK i)) (len := sLen) (byt := sByt) (A := A) (by decide)
    (fun i hi => by
      match i, hi with
      | 0, _ => exact hs _ (by decide +kernel)
      | 1, _ => exact hs _ (by decide +kernel)
      | 2, _ => exact hs _ (by decide +kernel)
      | 3, _ => exact hs _ (by decide +kernel)
      | 4, _ => exact hs _ (by decide +kernel)
      | 5, _ => exact hs _ (by decide +kernel)
      | i + 6, hi => omega)
    (fun i hi => by
      match i, hi with
      | 0, _ => exact hs _ (by decide +kernel)
      | 1, _ => exact hs _ (by decide +kernel)
      | 2, _ => exact hs _ (by decide +kernel)
      | 3, _ => exact hs _ (by decide +kernel)
      | 4, _ => exact hs _ (by decide +kernel)
      | 5, _ => exact hs _ (by decide +kernel)
      | i + 6, hi => omega)
    (fun i hi => by
      match i, hi with
      | 0, _ => exact hs _ (by decide +kernel)
      | 1, _ => exact hs _ (by decide +kernel)
      | 2, _ => exact hs _ (by decide +kernel)
      | 3, _ => exact hs _ (by decide +kernel)
      | 4, _ => exact hs _ (by decide +kernel)
      | 5, _ => exact hs _ (by decide +kernel)
      | i + 6, hi => omega)
    (fun i hi => by
      match i, hi with
      | 0, _ => exact hs _ (by decide +kernel)
      | 1, _ => exact hs _ (by decide +kernel)
      | 2, _ => exact hs _ (by decide +kernel)
      | 3, _ => exact hs _ (by decide +kernel)
      | 4, _ => exact hs _ (by decide +kernel)
      | 5, _ => exact hs _ (by decide +kernel)
      | i + 6, hi => omega)
    (fun i hi => by
      match i, hi with
      | 0, _ => exact e0
      | 1, _ => exact e1
      | 2, _ => exact e2
      | 3, _ => exact e3
      | 4, _ => exact e4
      | 5, _ => exact e5
      | i + 6, hi => omega)
    (fun i j hi hj hij => by
      match i, hi, j, hj, hij with
      | 0, _, 0, _, hij => exact absurd rfl hij
      | 0, _, 1, _, hij => exact Or.inl (hs _ (by decide +kernel))
      | 0, _, 2, _, hij => exact Or.inl (hs _ (by decide +kernel))
      | 0, _, 3, _, hij => exact Or.inl (hs _ (by decide +kernel))
      | 0, _, 4, _, hij => exact Or.inl (hs _ (by decide +kernel))
      | 0, _, 5, _, hij => exact Or.inl (hs _ (by decide +kernel))
      | 1, _, 0, _, hij => exact Or.inr (hs _ (by decide +kernel))
      | 1, _, 1, _, hij => exact absurd rfl hij
      | 1, _, 2, _, hij => exact Or.inl (hs _ (by decide +kernel))
      | 1, _, 3, _, hij => exact Or.inl (hs _ (by decide +kernel))
      | 1, _, 4, _, hij => exact Or.inl (hs _ (by decide +kernel))
      | 1, _, 5, _, hij => exact Or.inl (hs _ (by decide +kernel))
      | 2, _, 0, _, hij => exact Or.inr (hs _ (by decide +kernel))
      | 2, _, 1, _, hij => exact Or.inr (hs _ (by decide +kernel))
      | 2, _, 2, _, hij => exact absurd rfl hij
      | 2, _, 3, _, hij => exact Or.inl (hs _ (by decide +kernel))
      | 2, _, 4, _, hij => exact Or.inl (hs _ (by decide +kernel))
      | 2, _, 5, _, hij => exact Or.inl (hs _ (by decide +kernel))
      | 3, _, 0, _, hij => exact Or.inr (hs _ (by decide +kernel))
      | 3, _, 1, _, hij => exact Or.inr (hs _ (by decide +kernel))
      | 3, _, 2, _, hij => exact Or.inr (hs _ (by decide +kernel))
      | 3, _, 3, _, hij => exact absurd rfl hij
      | 3, _, 4, _, hij => exact Or.inl (hs _ (by decide +kernel))
      | 3, _, 5, _, hij => exact Or.inl (hs _ (by decide +kernel))
      | 4, _, 0, _, hij => exact Or.inr (hs _ (by decide +kernel))
      | 4, _, 1, _, hij => exact Or.inr (hs _ (by decide +kernel))
      | 4, _, 2, _, hij => exact Or.inr (hs _ (by decide +kernel))
      | 4, _, 3, _, hij => exact Or.inr (hs _ (by decide +kernel))
      | 4, _, 4, _, hij => exact absurd rfl hij
      | 4, _, 5, _, hij => exact Or.inl (hs _ (by decide +kernel))
      | 5, _, 0, _, hij => exact Or.inr (hs _ (by decide +kernel))
      | 5, _, 1, _, hij => exact Or.inr (hs _ (by decide +kernel))
      | 5, _, 2, _, hij => exact Or.inr (hs _ (by decide +kernel))
      | 5, _, 3, _, hij => exact Or.inr (hs _ (by decide +kernel))
      | 5, _, 4, _, hij => exact Or.inr (hs _ (by decide +kernel))
      | 5, _, 5, _, hij => exact absurd rfl hij
      | i + 6, hi, _, _, _ => omega
      | _, _, j + 6, hj, _ => omega)
    hAn
  refine ⟨ad, av, h1, ⟨va_Zof (hts0 (.laysStatic RJ0 "COMPACT_STRINGS" "Z") (by decide +kernel)) (hts0 (.initialized RJ0) (by decide +kernel)) (va_eqi (hs _ (by decide +kernel))) hAn, va_Zqof (hts0 (.laysStatic RJ3 "SIOOBE_FORMATTER" "Ljava/util/function/BiFunction;") (by decide +kernel)) (hts0 (.initialized RJ3) (by decide +kernel)) (hs _ (by decide +kernel)) hAn, va_AO.of (hts0 (.arrayOver (.object RX1)) (by decide +kernel))⟩, ?_, ?_⟩
  · intro i hi
    have h3 := h2 i hi
    have hs1 : (Cond.stringRef RX8 (sK i) (sTx i)).before a s = true := by
      match i, hi with
      | 0, _ => exact hts0 _ (by decide +kernel)
      | 1, _ => exact hts0 _ (by decide +kernel)
      | 2, _ => exact hts0 _ (by decide +kernel)
      | 3, _ => exact hts0 _ (by decide +kernel)
      | 4, _ => exact hts0 _ (by decide +kernel)
      | 5, _ => exact hts0 _ (by decide +kernel)
      | i + 6, hi => omega
    exact vk_R.of (A := a) hs1 h3
  · intro i hi
    refine va_Nw.of (A := a) rfl ?_
    match i, hi with
    | 0, _ => exact hts0 _ (by decide +kernel)
    | 1, _ => exact hts0 _ (by decide +kernel)
    | 2, _ => exact hts0 _ (by decide +kernel)
    | 3, _ => exact hts0 _ (by decide +kernel)
    | 4, _ => exact hts0 _ (by decide +kernel)
    | 5, _ => exact hts0 _ (by decide +kernel)
    | 6, _ => exact hts0 _ (by decide +kernel)
    | 7, _ => exact hts0 _ (by decide +kernel)
    | i + 8, hi => omega
set_option maxHeartbeats 4000000 in
set_option maxRecDepth 100000 in
theorem law_ord {s : State} {a : Array Value} {A : Nat → Prop} (hts0 : ∀ w ∈ lw_tbl, w.before a s = true) (hgv : (Jvm.Cond.and given_1 narrow_1).before a s = true) (hAn : ∀ q : Nat, q < s.heap.size → ¬ A q) : ∃ o : Nat, va_Z "GuildCharter" "ORDER_GUILDS" "[I" (.ref o) A s s.heap ∧ va_T .int o 18 (fun j => .int (Int32.ofInt (pm_O.getD j 0))) A s s.heap := by
  have hs := flat_of_before _ hgv
  have he : ∀ j : Nat, j < 18 → (Term.elem (Term.static "GuildCharter" "ORDER_GUILDS" "[I") (.int (Int32.ofNat j))).eval a s none [] s = some (.int (Int32.ofInt (pm_O.getD j 0))) := by
    intro j hj
    match j, hj with
    | 0, _ => exact va_eqt (hs _ (by decide +kernel))
    | 1, _ => exact va_eqt (hs _ (by decide +kernel))
    | 2, _ => exact va_eqt (hs _ (by decide +kernel))
    | 3, _ => exact va_eqt (hs _ (by decide +kernel))
    | 4, _ => exact va_eqt (hs _ (by decide +kernel))
    | 5, _ => exact va_eqt (hs _ (by decide +kernel))
    | 6, _ => exact va_eqt (hs _ (by decide +kernel))
    | 7, _ => exact va_eqt (hs _ (by decide +kernel))
    | 8, _ => exact va_eqt (hs _ (by decide +kernel))
    | 9, _ => exact va_eqt (hs _ (by decide +kernel))
    | 10, _ => exact va_eqt (hs _ (by decide +kernel))
    | 11, _ => exact va_eqt (hs _ (by decide +kernel))
    | 12, _ => exact va_eqt (hs _ (by decide +kernel))
    | 13, _ => exact va_eqt (hs _ (by decide +kernel))
    | 14, _ => exact va_eqt (hs _ (by decide +kernel))
    | 15, _ => exact va_eqt (hs _ (by decide +kernel))
    | 16, _ => exact va_eqt (hs _ (by decide +kernel))
    | 17, _ => exact va_eqt (hs _ (by decide +kernel))
    | j + 18, hj => exact absurd hj (by omega)
  obtain ⟨o, h1, h2⟩ := va_Tof (tm := (Term.static "GuildCharter" "ORDER_GUILDS" "[I")) (ty := .int) (N := 18) (f := fun j => .int (Int32.ofInt (pm_O.getD j 0))) (A := A) (by decide) (hs _ (by decide +kernel)) (va_eqt (hs _ (by decide +kernel))) he hAn
  exact ⟨o, va_Zof (hts0 (.laysStatic "GuildCharter" "ORDER_GUILDS" "[I") (by decide +kernel)) (hts0 (.initialized "GuildCharter") (by decide +kernel)) h1 hAn, h2⟩
set_option maxHeartbeats 4000000 in
set_option maxRecDepth 100000 in
theorem start_go {p : Program} {e : Env} {s : State} {m : MethodId} {below : List Frame} {meth : Method} {c : Code} (l : Launch) {b L : Nat} {xs : Nat → Int32} (hL : L ≤ 3072) (C0 : lw_At p s m meth c b L xs) (dC : Nat → ClassId) (dI : Nat → Nat → Nat) (cB cI cJ cZ cO : ClassId) (r n : Nat → Nat) (o : Nat) (H : Heap) (locs : List Loc) (hK : va_K (dC, dI) vwCl (tyL cB cI cJ cZ cO) s) (hoZ : va_Z "GuildCharter" "ORDER_GUILDS" "[I" (.ref o) (fun q : Nat => s.heap.size ≤ q) s s.heap) (hoT : va_T .int o 18 (fun j => .int (Int32.ofInt (pm_O.getD j 0))) (fun q : Nat => s.heap.size ≤ q) s s.heap) (hP : va_P (dC, dI) vwCl (wX cB cI cJ cZ cO r ++ wM cB cI cJ cZ cO n) H) (hD : va_D (fun q : Nat => s.heap.size ≤ q) (wX cB cI cJ cZ cO r ++ wM cB cI cJ cZ cO n)) (hS : va_S (fun q : Nat => s.heap.size ≤ q) s.heap H locs) (ls : Array Slot) (hl : lv_has ls 4 [(3, .int 0), (2, .ref (n 0)), (1, .ref (r 0)), (0, .ref b)]) : W p l e room_1 s m #[Value.ref b] below meth c H locs 135 85080 (lw_Z below #[Value.ref b] s) (F0 m 18 ls []) := by
  obtain ⟨hx, hb, hr, hml, hown, hts0, hX, hbl, hlocks, hgv⟩ := id C0
  have hoA : st_ad r n o 135 = o := rfl
  have hE : pm_E (st_ad r n o) (fun q : Nat => s.heap.size ≤ q) s s.heap := by
    refine ⟨?_, ?_, ?_, ?_⟩
    · rw [hoA]; exact hoZ
    · rw [hoA]; exact hoT
    · exact va_Nw.of (A := #[Value.ref b]) rfl (hts0 _ (by decide +kernel))
    · exact va_Nw.of (A := #[Value.ref b]) rfl (hts0 _ (by decide +kernel))
  refine lw_loop l hL C0 (dC, dI) (cB, cI, cJ, cZ, cO) (st_ad r n o) hK hE ⟨by decide, by decide⟩ (L + 6) 0 st_h H locs ls (by omega) (by omega) st_inv ⟨st_P hP, st_D hD, hS⟩ ?_
  exact hl
set_option maxHeartbeats 8000000 in
set_option maxRecDepth 100000 in
theorem whole_start {p : Program} {e : Env} {s : State} {m : MethodId} {below : List Frame} {meth : Method} {c : Code} (l : Launch) {b L : Nat} {xs : Nat → Int32} (hL : L ≤ 3072) (C0 : lw_At p s m meth c b L xs) : W p l e room_1 s m #[Value.ref b] below meth c s.heap [] 0 0 (lw_Z below #[Value.ref b] s) (entryFrame m ([Value.ref b] : List Value).toArray 4) := by
  obtain ⟨hx, hb, hr, hml, hown, hts0, hX, hbl, hlocks, hgv⟩ := id C0
  have hts : ∀ w ∈ pm_G, w.before #[Value.ref b] s = true := fun w hw => hts0 w (List.mem_filter.mp hw).1
  have hA : ∀ q : Nat, s.heap.size ≤ q → (fun q : Nat => s.heap.size ≤ q) q := fun _ h => h
  have hAn : ∀ a : Nat, a < s.heap.size → ¬ (fun q : Nat => s.heap.size ≤ q) a := fun a h => Nat.not_le.mpr h
  obtain ⟨dC, dI, hKc⟩ := law_known hts0
  obtain ⟨cB, hB⟩ := k_arr (ty := .byte) (fun _ h => by cases h) (hts0 (.arrayClass .byte) (by decide +kernel))
  obtain ⟨cI, hI⟩ := k_arr (ty := .int) (fun _ h => by cases h) (hts0 (.arrayClass .int) (by decide +kernel))
  obtain ⟨cJ, hJ⟩ := k_arr (ty := .long) (fun _ h => by cases h) (hts0 (.arrayClass .long) (by decide +kernel))
  obtain ⟨cZ, hZ⟩ := k_arr (ty := .boolean) (fun _ h => by cases h) (hts0 (.arrayClass .boolean) (by decide +kernel))
  obtain ⟨cO, hO⟩ := k_arrO (C := "GuildCharter$Image") (hts0 (.arrayOver (.object "GuildCharter$Image")) (by decide +kernel))
  have hK : va_K (dC, dI) vwCl (tyL cB cI cJ cZ cO) s := ⟨hKc, fun k q h => by
    match k, h with
    | 0, h => cases h; exact hB
    | 1, h => cases h; exact hI
    | 2, h => cases h; exact hJ
    | 3, h => cases h; exact hZ
    | 4, h => cases h; exact hO
    | k + 5, h => simp at h⟩
  obtain ⟨ad, av, hE⟩ := law_text (A := fun q : Nat => s.heap.size ≤ q) hts0 hgv hAn
  obtain ⟨o, hoZ, hoT⟩ := law_ord (A := fun q : Nat => s.heap.size ≤ q) hts0 hgv hAn
  have hS : va_S (fun q : Nat => s.heap.size ≤ q) s.heap s.heap [] := va_S.rf
  have hP : va_P (dC, dI) vwCl [] s.heap := fun k q h => by simp at h
  have hD : va_D (fun q : Nat => s.heap.size ≤ q) [] := ⟨fun i j p q h => by simp at h, fun k q h => by simp at h⟩
  have hl := lv_entry ([.ref b]) (n := 4) (Nat.le_of_ble_eq_true rfl)
  rw [lg_entry_eq]
  generalize (lg_sl ([.ref b]) ++ List.replicate (4 - (lg_sl ([.ref b])).length) Slot.unset).toArray = ls at hl ⊢
  have hl : lv_has ls 4 [(0, .ref b)] := hl
  have hown : s.vm.findClass RL = some m.cls := hown
  have i10 : ∀ w ∈ u_ws RX10 TX10 18, w ∈ pm_G := fun w h => pm_inG (inX10 w h) (pm_gl h)
  have w1 := hts0 (.classLink RL 7 RX10) (by decide +kernel)
  have w2 := hts0 (.instantiable RX10 18) (by decide +kernel)
  have w3 := hts0 (.initialized RX10) (by decide +kernel)
  have w4 := hts0 (.methodLink RL 9 yX10_init) (by decide +kernel)
  have w5 := hts0 (.instanceMethod yX10_init) (by decide +kernel)
  have i11 : ∀ w ∈ u_ws RX11 TX11 71, w ∈ pm_G := fun w h => pm_inG (inX11 w h) (pm_gl h)
  have w7 := hts0 (.classLink RL 10 RX11) (by decide +kernel)
  have w8 := hts0 (.instantiable RX11 71) (by decide +kernel)
  have w9 := hts0 (.initialized RX11) (by decide +kernel)
  have w10 := hts0 (.methodLink RL 12 yX11_init) (by decide +kernel)
  have w11 := hts0 (.instanceMethod yX11_init) (by decide +kernel)
  refine va_new (ci := 10) (fs := [.null, .int 0, .null, .null, .null, .null, .null, .null, .null, .null, .null, .null, .null, .int 0, .null, .null, .int 0, .null]) (C := RX10) (T := TX10) (N := 18) hx hb hts i10 tyX10 tyX10_ok hown w1 w2 w3 hK hP hD hS hA rfl (dfX10) (by decide +kernel) (by decide +kernel) dL_law_0 (fun q0 H hP hD hS => ?_)
  refine lv_dup hx hb dL_law_3 rfl ?_
  refine call_vIX (As := []) (rest := [.ref q0]) (wr := []) ⟨hx, hb, hml, hown, hts⟩ (k26_X10_init l dC dI cB cI cJ cZ cO ad av q0) (cwI 0 hts gL_law_X10_init rfl rfl rfl w3 w4 w5 rfl z283 ⟨Nat.le_of_ble_eq_true rfl, Nat.le_of_ble_eq_true rfl⟩) hE hK hP hD hS hA [0] [] rfl rfl (by decide +kernel) (by decide +kernel) (by decide +kernel) hl.1 (Nat.le_of_ble_eq_true rfl) rfl rfl dL_law_4 ⟨by decide +kernel, by decide +kernel⟩ (fun u0 H locs hP hD hS => ?_)
  refine lv_astore_n (lv' := [(1, .ref q0), (0, .ref b)]) hx hb dL_law_7 rfl hl (nlt rfl) rfl (fun ls hl => ?_)
  refine va_new (ci := 11) (fs := [.null, .null, .int 0, .int 0, .int 0, .int 0, .int 0, .int 0, .int 0, .int 0, .long 0, .null, .null, .null, .null, .null, .null, .null, .null, .null, .null, .null, .null, .null, .null, .null, .null, .null, .null, .int 0, .int 0, .null, .null, .null, .null, .null, .null, .null, .null, .int 0, .null, .null, .int 0, .int 0, .null, .null, .null, .null, .int 0, .int 0, .int 0, .long 0, .null, .null, .int 0, .int 0, .int 0, .int 0, .null, .int 0, .null, .null, .null, .null, .null, .null, .int 0, .int 0, .null, .null, .null]) (C := RX11) (T := TX11) (N := 71) hx hb hts i11 tyX11 tyX11_ok hown w7 w8 w9 hK hP hD hS hA rfl (dfX11) (by decide +kernel) (by decide +kernel) dL_law_8 (fun q1 H hP hD hS => ?_)
  refine lv_dup hx hb dL_law_11 rfl ?_
  refine call_vI (As := []) (rest := [.ref q1]) (wr := [(q0, .inr (10, [.ref (u0 0), .int 0, .ref (u0 1), .ref (u0 17), .ref (u0 27), .ref (u0 37), .ref (u0 44), .ref (u0 54), .ref (u0 57), .ref (u0 60), .ref (u0 64), .ref (u0 69), .ref (u0 74), .int 0, .ref (u0 79), .ref (u0 85), .int 0, .ref (u0 86)])), ((u0 0), .inl (cB, 1600, .inl (fun _ => 0))), ((u0 1), .inr (2, [.ref (u0 2), .ref (u0 5), .ref (u0 15), .ref (u0 16)])), ((u0 2), .inr (8, [.ref (u0 3), .ref (u0 4), .int 0, .int 0, .int 0, .int 0, .long 0, .int 0, .int 0, .int (-1)])), ((u0 3), .inl (cJ, 6, .inr (.inl (vp_updL (vp_updL (vp_updL (vp_updL (vp_updL (vp_updL (fun _ => 0) 0 769604) 1 525618) 2 611717) 3 498) 4 408362632) 5 21678547)))), ((u0 4), .inl (cB, 0, .inl (fun _ => 0))), ((u0 5), .inr (4, [.int 0, .ref (u0 6), .ref (u0 7), .int 0, .ref (u0 8), .ref (u0 9), .int 0, .ref (u0 10), .ref (u0 11), .int 0, .ref (u0 12), .ref (u0 13), .int 3, .int 0, .int 0, .ref (u0 14)])), ((u0 6), .inl (cJ, 8, .inr (.inl (fun _ => 0)))), ((u0 7), .inl (cI, 24, .inl (fun _ => 0))), ((u0 8), .inl (cZ, 64, .inl (fun _ => 0))), ((u0 9), .inl (cI, 192, .inl (fun _ => 0))), ((u0 10), .inl (cJ, 8, .inr (.inl (fun _ => 0)))), ((u0 11), .inl (cI, 9, .inl (fun _ => 0))), ((u0 12), .inl (cI, 24, .inl (fun _ => 0))), ((u0 13), .inl (cI, 96, .inl (fun _ => 0))), ((u0 14), .inl (cI, 6, .inl (fun _ => 0))), ((u0 15), .inl (cJ, 96, .inr (.inl (fun _ => 0)))), ((u0 16), .inl (cI, 96, .inl (fun _ => 0))), ((u0 17), .inr (4, [.int 0, .ref (u0 18), .ref (u0 19), .int 0, .ref (u0 20), .ref (u0 21), .int 0, .ref (u0 22), .ref (u0 23), .int 0, .ref (u0 24), .ref (u0 25), .int 3, .int 0, .int 0, .ref (u0 26)])), ((u0 18), .inl (cJ, 8, .inr (.inl (fun _ => 0)))), ((u0 19), .inl (cI, 24, .inl (fun _ => 0))), ((u0 20), .inl (cZ, 64, .inl (fun _ => 0))), ((u0 21), .inl (cI, 192, .inl (fun _ => 0))), ((u0 22), .inl (cJ, 8, .inr (.inl (fun _ => 0)))), ((u0 23), .inl (cI, 9, .inl (fun _ => 0))), ((u0 24), .inl (cI, 24, .inl (fun _ => 0))), ((u0 25), .inl (cI, 96, .inl (fun _ => 0))), ((u0 26), .inl (cI, 6, .inl (fun _ => 0))), ((u0 27), .inr (4, [.int 0, .ref (u0 28), .ref (u0 29), .int 0, .ref (u0 30), .ref (u0 31), .int 0, .ref (u0 32), .ref (u0 33), .int 0, .ref (u0 34), .ref (u0 35), .int 3, .int 0, .int 0, .ref (u0 36)])), ((u0 28), .inl (cJ, 8, .inr (.inl (fun _ => 0)))), ((u0 29), .inl (cI, 24, .inl (fun _ => 0))), ((u0 30), .inl (cZ, 64, .inl (fun _ => 0))), ((u0 31), .inl (cI, 192, .inl (fun _ => 0))), ((u0 32), .inl (cJ, 8, .inr (.inl (fun _ => 0)))), ((u0 33), .inl (cI, 9, .inl (fun _ => 0))), ((u0 34), .inl (cI, 24, .inl (fun _ => 0))), ((u0 35), .inl (cI, 96, .inl (fun _ => 0))), ((u0 36), .inl (cI, 6, .inl (fun _ => 0))), ((u0 37), .inr (0, [.ref (u0 38), .int 0, .ref (u0 39), .ref (u0 40), .ref (u0 41), .ref (u0 42), .ref (u0 43), .int 0, .int 0])), ((u0 38), .inl (cI, 6, .inl (fun _ => 0))), ((u0 39), .inl (cI, 6, .inl (upd (upd (upd (upd (upd (upd (fun _ => 0) 0 (-1)) 1 (-1)) 2 (-1)) 3 (-1)) 4 (-1)) 5 (-1)))), ((u0 40), .inl (cZ, 40, .inl (fun _ => 0))), ((u0 41), .inl (cI, 40, .inl (fun _ => 0))), ((u0 42), .inl (cI, 40, .inl (fun _ => 0))), ((u0 43), .inl (cI, 40, .inl (fun _ => 0))), ((u0 44), .inl (cO, 3, .inr (.inr (.inr (.inr (va_up (va_up (va_up (fun _ => none) 0 (some (u0 45))) 1 (some (u0 48))) 2 (some (u0 51)))))))), ((u0 45), .inr (1, [.int 0, .ref (u0 46), .int 0, .ref (u0 47)])), ((u0 46), .inl (cI, 6, .inl (fun _ => 0))), ((u0 47), .inl (cI, 6, .inl (fun _ => 0))), ((u0 48), .inr (1, [.int 0, .ref (u0 49), .int 0, .ref (u0 50)])), ((u0 49), .inl (cI, 6, .inl (fun _ => 0))), ((u0 50), .inl (cI, 6, .inl (fun _ => 0))), ((u0 51), .inr (1, [.int 0, .ref (u0 52), .int 0, .ref (u0 53)])), ((u0 52), .inl (cI, 6, .inl (fun _ => 0))), ((u0 53), .inl (cI, 6, .inl (fun _ => 0))), ((u0 54), .inr (5, [.ref (u0 55), .ref (u0 56)])), ((u0 55), .inl (cJ, 112, .inr (.inl (fun _ => 0)))), ((u0 56), .inl (cJ, 112, .inr (.inl (fun _ => 0)))), ((u0 57), .inr (7, [.ref (u0 58), .int 0, .ref (u0 59)])), ((u0 58), .inl (cI, 6, .inl (fun _ => 0))), ((u0 59), .inl (cI, 784, .inl (fun _ => 0))), ((u0 60), .inr (3, [.ref (u0 61), .ref (u0 62), .ref (u0 63), .int 0, .int (-1), .int 0, .int 0, .int 0, .int 0])), ((u0 61), .inl (cI, 6, .inl (fun _ => 0))), ((u0 62), .inl (cI, 3000, .inl (fun _ => 0))), ((u0 63), .inl (cI, 6, .inl (fun _ => 0))), ((u0 64), .inr (9, [.int 0, .int 0, .ref (u0 65), .ref (u0 66), .ref (u0 67), .ref (u0 68), .int 0, .int 0, .int 0, .int 0, .int 0])), ((u0 65), .inl (cI, 3000, .inl (fun _ => 0))), ((u0 66), .inl (cI, 3000, .inl (fun _ => 0))), ((u0 67), .inl (cI, 9000, .inl (fun _ => 0))), ((u0 68), .inl (cI, 3000, .inl (fun _ => 0))), ((u0 69), .inr (9, [.int 0, .int 0, .ref (u0 70), .ref (u0 71), .ref (u0 72), .ref (u0 73), .int 0, .int 0, .int 0, .int 0, .int 0])), ((u0 70), .inl (cI, 3000, .inl (fun _ => 0))), ((u0 71), .inl (cI, 3000, .inl (fun _ => 0))), ((u0 72), .inl (cI, 9000, .inl (fun _ => 0))), ((u0 73), .inl (cI, 3000, .inl (fun _ => 0))), ((u0 74), .inr (9, [.int 0, .int 0, .ref (u0 75), .ref (u0 76), .ref (u0 77), .ref (u0 78), .int 0, .int 0, .int 0, .int 0, .int 0])), ((u0 75), .inl (cI, 3000, .inl (fun _ => 0))), ((u0 76), .inl (cI, 3000, .inl (fun _ => 0))), ((u0 77), .inl (cI, 9000, .inl (fun _ => 0))), ((u0 78), .inl (cI, 3000, .inl (fun _ => 0))), ((u0 79), .inr (6, [.int 0, .int 0, .ref (u0 80), .ref (u0 81), .ref (u0 82), .ref (u0 83), .ref (u0 84)])), ((u0 80), .inl (cI, 30, .inl (fun _ => 0))), ((u0 81), .inl (cI, 30, .inl (fun _ => 0))), ((u0 82), .inl (cZ, 30, .inl (fun _ => 0))), ((u0 83), .inl (cI, 30, .inl (fun _ => 0))), ((u0 84), .inl (cI, 30, .inl (fun _ => 0))), ((u0 85), .inl (cI, 6, .inl (fun _ => 0))), ((u0 86), .inl (cI, 16, .inl (fun _ => 0)))]) ⟨hx, hb, hml, hown, hts⟩ (k27_X11_init l dC dI cB cI cJ cZ cO q1) (cwI 0 hts gL_law_X11_init rfl rfl rfl w9 w10 w11 rfl z284 ⟨Nat.le_of_ble_eq_true rfl, Nat.le_of_ble_eq_true rfl⟩) hK hP hD hS hA [88] [0, 1, 2, 3, 4, 5, 6, 7, 8, 9, 10, 11, 12, 13, 14, 15, 16, 17, 18, 19, 20, 21, 22, 23, 24, 25, 26, 27, 28, 29, 30, 31, 32, 33, 34, 35, 36, 37, 38, 39, 40, 41, 42, 43, 44, 45, 46, 47, 48, 49, 50, 51, 52, 53, 54, 55, 56, 57, 58, 59, 60, 61, 62, 63, 64, 65, 66, 67, 68, 69, 70, 71, 72, 73, 74, 75, 76, 77, 78, 79, 80, 81, 82, 83, 84, 85, 86, 87] rfl rfl (by decide +kernel) (by decide +kernel) (by decide +kernel) hl.1 (Nat.le_of_ble_eq_true rfl) rfl rfl dL_law_12 ⟨by decide +kernel, by decide +kernel⟩ (fun u1 H locs hP hD hS => ?_)
  refine lv_astore_n (lv' := [(2, .ref q1), (1, .ref q0), (0, .ref b)]) hx hb dL_law_15 rfl hl (nlt rfl) rfl (fun ls hl => ?_)
  refine lv_iconst (v := 0) hx hb dL_law_16 z8 ?_
  refine lv_istore_n (lv' := [(3, .int 0), (2, .ref q1), (1, .ref q0), (0, .ref b)]) hx hb dL_law_17 rfl hl (nlt rfl) rfl (fun ls hl => ?_)
  exact start_go l hL C0 dC dI cB cI cJ cZ cO (fun k => ([q0, u0 0, u0 1, u0 2, u0 3, u0 4, u0 5, u0 6, u0 7, u0 8, u0 9, u0 10, u0 11, u0 12, u0 13, u0 14, u0 15, u0 16, u0 17, u0 18, u0 19, u0 20, u0 21, u0 22, u0 23, u0 24, u0 25, u0 26, u0 27, u0 28, u0 29, u0 30, u0 31, u0 32, u0 33, u0 34, u0 35, u0 36, u0 37, u0 38, u0 39, u0 40, u0 41, u0 42, u0 43, u0 44, u0 45, u0 46, u0 47, u0 48, u0 49, u0 50, u0 51, u0 52, u0 53, u0 54, u0 55, u0 56, u0 57, u0 58, u0 59, u0 60, u0 61, u0 62, u0 63, u0 64, u0 65, u0 66, u0 67, u0 68, u0 69, u0 70, u0 71, u0 72, u0 73, u0 74, u0 75, u0 76, u0 77, u0 78, u0 79, u0 80, u0 81, u0 82, u0 83, u0 84, u0 85, u0 86] : List Nat).getD k 0) (fun k => ([q1, u1 0, u1 1, u1 2, u1 3, u1 4, u1 5, u1 6, u1 7, u1 8, u1 9, u1 10, u1 11, u1 12, u1 13, u1 14, u1 15, u1 16, u1 17, u1 18, u1 19, u1 20, u1 21, u1 22, u1 23, u1 24, u1 25, u1 26, u1 27, u1 28, u1 29, u1 30, u1 31, u1 32, u1 33, u1 34, u1 35, u1 36, u1 37, u1 38, u1 39, u1 40, u1 41, u1 42, u1 43, u1 44, u1 45] : List Nat).getD k 0) o H locs hK hoZ hoT hP hD hS ls hl
