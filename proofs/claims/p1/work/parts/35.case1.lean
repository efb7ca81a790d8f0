set_option maxHeartbeats 4000000 in
set_option maxRecDepth 100000 in
theorem lc_6_2 {p : Program} {e : Env} {s : State} {m : MethodId} {below : List Frame} {meth : Method} {c : Code} (l : Launch) {b : Nat} {xs : Nat → Int32} (C0 : lw_At p s m meth c b 6 xs) (dC : Nat → ClassId) (dI : Nat → Nat → Nat) (cB cI cJ cZ cO : ClassId) (r n : Nat → Nat) (e1 : xs 1 = 1) (H : Heap) (locs : List Loc) (hK : va_K (dC, dI) vwCl (tyL cB cI cJ cZ cO) s) (hP : va_P (dC, dI) vwCl [((r 0), .inr (10, fX r)), ((r 18), .inr (4, [.int 0, .ref (r 19), .ref (r 20), .int 0, .ref (r 21), .ref (r 22), .int 0, .ref (r 23), .ref (r 24), .int 0, .ref (r 25), .ref (r 26), .int 3, .int 0, .int 0, .ref (r 27)])), ((r 38), .inr (0, [.ref (r 39), .int 0, .ref (r 40), .ref (r 41), .ref (r 42), .ref (r 43), .ref (r 44), .int 0, .int 0])), ((r 40), .inl (cI, 6, .inl (upd (upd (upd (upd (upd (upd (fun _ => 0) 0 (-1)) 1 (-1)) 2 (-1)) 3 (-1)) 4 (-1)) 5 (-1)))), ((n 0), .inr (11, fM n)), ((n 7), .inl (cI, 2, .inl (upd (fun _ => 0) 0 3))), ((n 27), .inl (cI, 6, .inl (upd (upd (upd (upd (fun _ => 0) 1 1) 2 2) 4 1) 5 2)))] H) (hD : va_D (fun q : Nat => s.heap.size ≤ q) [((r 0), .inr (10, fX r)), ((r 18), .inr (4, [.int 0, .ref (r 19), .ref (r 20), .int 0, .ref (r 21), .ref (r 22), .int 0, .ref (r 23), .ref (r 24), .int 0, .ref (r 25), .ref (r 26), .int 3, .int 0, .int 0, .ref (r 27)])), ((r 38), .inr (0, [.ref (r 39), .int 0, .ref (r 40), .ref (r 41), .ref (r 42), .ref (r 43), .ref (r 44), .int 0, .int 0])), ((r 40), .inl (cI, 6, .inl (upd (upd (upd (upd (upd (upd (fun _ => 0) 0 (-1)) 1 (-1)) 2 (-1)) 3 (-1)) 4 (-1)) 5 (-1)))), ((n 0), .inr (11, fM n)), ((n 7), .inl (cI, 2, .inl (upd (fun _ => 0) 0 3))), ((n 27), .inl (cI, 6, .inl (upd (upd (upd (upd (fun _ => 0) 1 1) 2 2) 4 1) 5 2)))]) (hS : va_S (fun q : Nat => s.heap.size ≤ q) s.heap H locs) (ls : Array Slot) (hl : lv_has ls 4 [(3, .int 0), (2, .ref (n 0)), (1, .ref (r 0)), (0, .ref b)]) : W p l e room_1 s m #[Value.ref b] below meth c H locs 135 85080 (lw_Z below #[Value.ref b] s) (F0 m 394 ls []) := by
  obtain ⟨hx, hb, hr, hml, hown, hts0, hX, hbl, hlocks, hgv⟩ := C0
  have hts : ∀ w ∈ wsL_law, w.before #[Value.ref b] s = true := fun w h => hts0 w (wsL_law_in w h)
  have hA : ∀ q : Nat, s.heap.size ≤ q → (fun q : Nat => s.heap.size ≤ q) q := fun _ h => h
  have hbA : ¬ (fun q : Nat => s.heap.size ≤ q) b := Nat.not_le.mpr hbl
  have hown : s.vm.findClass RL = some m.cls := hown
  refine lv_aload_n hx hb dL_law_394 rfl (lv_at hl 2 rfl) ?_
  refine lv_aload_n hx hb dL_law_395 rfl (lv_at hl 3 rfl) ?_
  refine lv_iload_n hx hb dL_law_396 rfl (lv_at hl 0 rfl) ?_
  refine lv_iconst (v := 1) hx hb dL_law_397 z39 ?_
  refine lv_iadd hx hb dL_law_398 ?_
  refine tpi z281 ?_
  refine va_sld hx hb hX hbl hbA hS (vin _ _ rfl) dL_law_399 ?_
  refine tpv (v := .int 1) (congrArg Value.int e1) ?_
  refine call_iV (ci := 10) (As := [.int 1]) (rest := []) (wr := [((n 0), .inr (11, fM n)), ((n 7), .inl (cI, 2, .inl (upd (fun _ => 0) 0 3))), ((n 27), .inl (cI, 6, .inl (upd (upd (upd (upd (fun _ => 0) 1 1) 2 2) 4 1) 5 2)))]) ⟨hx, hb, hml, hown, hts⟩ (k104_X10_turn l dC dI cB cI cJ cZ cO r) (cwV 1 hts gL_law_X10_turn rfl rfl rfl ⟨rfl, z966⟩ ⟨Nat.le_of_ble_eq_true rfl, Nat.le_of_ble_eq_true rfl⟩) hK hP hD hS hA [0, 1, 2, 3] [4, 5, 6] rfl rfl (by decide +kernel) (by decide +kernel) (by decide +kernel) rfl rfl rfl hl.1 (Nat.le_of_ble_eq_true rfl) rfl rfl dL_law_400 ⟨by decide +kernel, by decide +kernel⟩ (fun u0 H locs hP hD hS => ?_)
  refine lv_aload_n hx hb dL_law_403 rfl (lv_at hl 1 rfl) ?_
  refine lv_aload_n hx hb dL_law_404 rfl (lv_at hl 3 rfl) ?_
  refine lv_iload_n hx hb dL_law_405 rfl (lv_at hl 0 rfl) ?_
  refine lv_iconst (v := 1) hx hb dL_law_406 z39 ?_
  refine lv_iadd hx hb dL_law_407 ?_
  refine tpi z281 ?_
  refine va_sld hx hb hX hbl hbA hS (vin _ _ rfl) dL_law_408 ?_
  refine tpv (v := .int 1) (congrArg Value.int e1) ?_
  refine call_iV (ci := 11) (As := [.int 1]) (rest := [.int 1]) (wr := []) ⟨hx, hb, hml, hown, hts⟩ (k107_X11_turn l dC dI cB cI cJ cZ cO n) (cwV 1 hts gL_law_X11_turn rfl rfl rfl ⟨rfl, z967⟩ ⟨Nat.le_of_ble_eq_true rfl, Nat.le_of_ble_eq_true rfl⟩) hK hP hD hS hA [0, 1, 2] [] rfl rfl (by decide +kernel) (by decide +kernel) (by decide +kernel) rfl rfl rfl hl.1 (Nat.le_of_ble_eq_true rfl) rfl rfl dL_law_409 ⟨by decide +kernel, by decide +kernel⟩ (fun u1 H locs hP hD hS => ?_)
  refine lv_icmp_eq (tgt := 1093) hx hb dL_law_412 z965 (fun _ => ?_) (fun c1 => absurd (rfl) c1)
  refine lv_iinc (v := 6) (lv' := [(3, .int 6), (2, .ref (n 0)), (1, .ref (r 0)), (0, .ref b)]) hx hb dL_law_1093 hl (k := 0) rfl z943 (nlt rfl) rfl (fun ls hl => ?_)
  refine lv_goto (tgt := 18) hx hb dL_law_1096 z944 ?_
  refine lv_iload_n hx hb dL_law_18 rfl (lv_at hl 0 rfl) ?_
  refine lv_aload_n hx hb dL_law_19 rfl (lv_at hl 3 rfl) ?_
  refine va_slen hx hb hX hbl hbA hS dL_law_20 ?_
  refine tpv (v := .int 6) rfl ?_
  refine lv_bipush (v := 6) hx hb dL_law_21 z4 ?_
  refine lv_isub hx hb dL_law_23 ?_
  refine tpi z945 ?_
  refine lv_icmp_gt (tgt := 1099) hx hb dL_law_24 z947 (fun _ => ?_) (fun c1 => absurd (z946) c1)
  refine lv_iconst (v := 1) hx hb dL_law_1099 z39 ?_
  refine va_forget (fun q hq => hS.2.2 q hq) ?_
  refine W.widen (k := 600000) (n := 7302250) (by decide) (by decide) ?_
  exact lw_ret hx hb hr hlocks dL_law_1100

set_option maxHeartbeats 4000000 in
set_option maxRecDepth 100000 in
theorem lc_6_3 {p : Program} {e : Env} {s : State} {m : MethodId} {below : List Frame} {meth : Method} {c : Code} (l : Launch) {b : Nat} {xs : Nat → Int32} (C0 : lw_At p s m meth c b 6 xs) (dC : Nat → ClassId) (dI : Nat → Nat → Nat) (cB cI cJ cZ cO : ClassId) (r n : Nat → Nat) (e1 : xs 1 = 2) (H : Heap) (locs : List Loc) (hK : va_K (dC, dI) vwCl (tyL cB cI cJ cZ cO) s) (hP : va_P (dC, dI) vwCl [((r 0), .inr (10, fX r)), ((r 18), .inr (4, [.int 0, .ref (r 19), .ref (r 20), .int 0, .ref (r 21), .ref (r 22), .int 0, .ref (r 23), .ref (r 24), .int 0, .ref (r 25), .ref (r 26), .int 3, .int 0, .int 0, .ref (r 27)])), ((r 38), .inr (0, [.ref (r 39), .int 0, .ref (r 40), .ref (r 41), .ref (r 42), .ref (r 43), .ref (r 44), .int 0, .int 0])), ((r 40), .inl (cI, 6, .inl (upd (upd (upd (upd (upd (upd (fun _ => 0) 0 (-1)) 1 (-1)) 2 (-1)) 3 (-1)) 4 (-1)) 5 (-1)))), ((n 0), .inr (11, fM n)), ((n 7), .inl (cI, 2, .inl (upd (fun _ => 0) 0 3))), ((n 27), .inl (cI, 6, .inl (upd (upd (upd (upd (fun _ => 0) 1 1) 2 2) 4 1) 5 2)))] H) (hD : va_D (fun q : Nat => s.heap.size ≤ q) [((r 0), .inr (10, fX r)), ((r 18), .inr (4, [.int 0, .ref (r 19), .ref (r 20), .int 0, .ref (r 21), .ref (r 22), .int 0, .ref (r 23), .ref (r 24), .int 0, .ref (r 25), .ref (r 26), .int 3, .int 0, .int 0, .ref (r 27)])), ((r 38), .inr (0, [.ref (r 39), .int 0, .ref (r 40), .ref (r 41), .ref (r 42), .ref (r 43), .ref (r 44), .int 0, .int 0])), ((r 40), .inl (cI, 6, .inl (upd (upd (upd (upd (upd (upd (fun _ => 0) 0 (-1)) 1 (-1)) 2 (-1)) 3 (-1)) 4 (-1)) 5 (-1)))), ((n 0), .inr (11, fM n)), ((n 7), .inl (cI, 2, .inl (upd (fun _ => 0) 0 3))), ((n 27), .inl (cI, 6, .inl (upd (upd (upd (upd (fun _ => 0) 1 1) 2 2) 4 1) 5 2)))]) (hS : va_S (fun q : Nat => s.heap.size ≤ q) s.heap H locs) (ls : Array Slot) (hl : lv_has ls 4 [(3, .int 0), (2, .ref (n 0)), (1, .ref (r 0)), (0, .ref b)]) : W p l e room_1 s m #[Value.ref b] below meth c H locs 135 85080 (lw_Z below #[Value.ref b] s) (F0 m 394 ls []) := by
  obtain ⟨hx, hb, hr, hml, hown, hts0, hX, hbl, hlocks, hgv⟩ := C0
  have hts : ∀ w ∈ wsL_law, w.before #[Value.ref b] s = true := fun w h => hts0 w (wsL_law_in w h)
  have hA : ∀ q : Nat, s.heap.size ≤ q → (fun q : Nat => s.heap.size ≤ q) q := fun _ h => h
  have hbA : ¬ (fun q : Nat => s.heap.size ≤ q) b := Nat.not_le.mpr hbl
  have hown : s.vm.findClass RL = some m.cls := hown
  refine lv_aload_n hx hb dL_law_394 rfl (lv_at hl 2 rfl) ?_
  refine lv_aload_n hx hb dL_law_395 rfl (lv_at hl 3 rfl) ?_
  refine lv_iload_n hx hb dL_law_396 rfl (lv_at hl 0 rfl) ?_
  refine lv_iconst (v := 1) hx hb dL_law_397 z39 ?_
  refine lv_iadd hx hb dL_law_398 ?_
  refine tpi z281 ?_
  refine va_sld hx hb hX hbl hbA hS (vin _ _ rfl) dL_law_399 ?_
  refine tpv (v := .int 2) (congrArg Value.int e1) ?_
  refine call_iV (ci := 10) (As := [.int 2]) (rest := []) (wr := [((n 0), .inr (11, fM n)), ((n 7), .inl (cI, 2, .inl (upd (fun _ => 0) 0 3))), ((n 27), .inl (cI, 6, .inl (upd (upd (upd (upd (fun _ => 0) 1 1) 2 2) 4 1) 5 2)))]) ⟨hx, hb, hml, hown, hts⟩ (k111_X10_turn l dC dI cB cI cJ cZ cO r) (cwV 1 hts gL_law_X10_turn rfl rfl rfl ⟨rfl, z966⟩ ⟨Nat.le_of_ble_eq_true rfl, Nat.le_of_ble_eq_true rfl⟩) hK hP hD hS hA [0, 1, 2, 3] [4, 5, 6] rfl rfl (by decide +kernel) (by decide +kernel) (by decide +kernel) rfl rfl rfl hl.1 (Nat.le_of_ble_eq_true rfl) rfl rfl dL_law_400 ⟨by decide +kernel, by decide +kernel⟩ (fun u0 H locs hP hD hS => ?_)
  refine lv_aload_n hx hb dL_law_403 rfl (lv_at hl 1 rfl) ?_
  refine lv_aload_n hx hb dL_law_404 rfl (lv_at hl 3 rfl) ?_
  refine lv_iload_n hx hb dL_law_405 rfl (lv_at hl 0 rfl) ?_
  refine lv_iconst (v := 1) hx hb dL_law_406 z39 ?_
  refine lv_iadd hx hb dL_law_407 ?_
  refine tpi z281 ?_
  refine va_sld hx hb hX hbl hbA hS (vin _ _ rfl) dL_law_408 ?_
  refine tpv (v := .int 2) (congrArg Value.int e1) ?_
  refine call_iV (ci := 11) (As := [.int 2]) (rest := [.int 2]) (wr := []) ⟨hx, hb, hml, hown, hts⟩ (k114_X11_turn l dC dI cB cI cJ cZ cO n) (cwV 1 hts gL_law_X11_turn rfl rfl rfl ⟨rfl, z967⟩ ⟨Nat.le_of_ble_eq_true rfl, Nat.le_of_ble_eq_true rfl⟩) hK hP hD hS hA [0, 1, 2] [] rfl rfl (by decide +kernel) (by decide +kernel) (by decide +kernel) rfl rfl rfl hl.1 (Nat.le_of_ble_eq_true rfl) rfl rfl dL_law_409 ⟨by decide +kernel, by decide +kernel⟩ (fun u1 H locs hP hD hS => ?_)
  refine lv_icmp_eq (tgt := 1093) hx hb dL_law_412 z965 (fun _ => ?_) (fun c1 => absurd (rfl) c1)
  refine lv_iinc (v := 6) (lv' := [(3, .int 6), (2, .ref (n 0)), (1, .ref (r 0)), (0, .ref b)]) hx hb dL_law_1093 hl (k := 0) rfl z943 (nlt rfl) rfl (fun ls hl => ?_)
  refine lv_goto (tgt := 18) hx hb dL_law_1096 z944 ?_
  refine lv_iload_n hx hb dL_law_18 rfl (lv_at hl 0 rfl) ?_
  refine lv_aload_n hx hb dL_law_19 rfl (lv_at hl 3 rfl) ?_
  refine va_slen hx hb hX hbl hbA hS dL_law_20 ?_
  refine tpv (v := .int 6) rfl ?_
  refine lv_bipush (v := 6) hx hb dL_law_21 z4 ?_
  refine lv_isub hx hb dL_law_23 ?_
  refine tpi z945 ?_
  refine lv_icmp_gt (tgt := 1099) hx hb dL_law_24 z947 (fun _ => ?_) (fun c1 => absurd (z946) c1)
  refine lv_iconst (v := 1) hx hb dL_law_1099 z39 ?_
  refine va_forget (fun q hq => hS.2.2 q hq) ?_
  refine W.widen (k := 600000) (n := 7302250) (by decide) (by decide) ?_
  exact lw_ret hx hb hr hlocks dL_law_1100

set_option maxHeartbeats 4000000 in
set_option maxRecDepth 100000 in
theorem lc_6_4 {p : Program} {e : Env} {s : State} {m : MethodId} {below : List Frame} {meth : Method} {c : Code} (l : Launch) {b : Nat} {xs : Nat → Int32} (C0 : lw_At p s m meth c b 6 xs) (dC : Nat → ClassId) (dI : Nat → Nat → Nat) (cB cI cJ cZ cO : ClassId) (r n : Nat → Nat) (x1 : Int32) (e1 : xs 1 = x1) (h0 : ¬ x1 < 0) (h1 : 3 ≤ x1) (h2 : 2 < x1) (H : Heap) (locs : List Loc) (hK : va_K (dC, dI) vwCl (tyL cB cI cJ cZ cO) s) (hP : va_P (dC, dI) vwCl [((r 0), .inr (10, fX r)), ((r 18), .inr (4, [.int 0, .ref (r 19), .ref (r 20), .int 0, .ref (r 21), .ref (r 22), .int 0, .ref (r 23), .ref (r 24), .int 0, .ref (r 25), .ref (r 26), .int 3, .int 0, .int 0, .ref (r 27)])), ((n 0), .inr (11, fM n)), ((n 7), .inl (cI, 2, .inl (upd (fun _ => 0) 0 3)))] H) (hD : va_D (fun q : Nat => s.heap.size ≤ q) [((r 0), .inr (10, fX r)), ((r 18), .inr (4, [.int 0, .ref (r 19), .ref (r 20), .int 0, .ref (r 21), .ref (r 22), .int 0, .ref (r 23), .ref (r 24), .int 0, .ref (r 25), .ref (r 26), .int 3, .int 0, .int 0, .ref (r 27)])), ((n 0), .inr (11, fM n)), ((n 7), .inl (cI, 2, .inl (upd (fun _ => 0) 0 3)))]) (hS : va_S (fun q : Nat => s.heap.size ≤ q) s.heap H locs) (ls : Array Slot) (hl : lv_has ls 4 [(3, .int 0), (2, .ref (n 0)), (1, .ref (r 0)), (0, .ref b)]) : W p l e room_1 s m #[Value.ref b] below meth c H locs 135 85080 (lw_Z below #[Value.ref b] s) (F0 m 394 ls []) := by
  obtain ⟨hx, hb, hr, hml, hown, hts0, hX, hbl, hlocks, hgv⟩ := C0
  have hts : ∀ w ∈ wsL_law, w.before #[Value.ref b] s = true := fun w h => hts0 w (wsL_law_in w h)
  have hA : ∀ q : Nat, s.heap.size ≤ q → (fun q : Nat => s.heap.size ≤ q) q := fun _ h => h
  have hbA : ¬ (fun q : Nat => s.heap.size ≤ q) b := Nat.not_le.mpr hbl
  have hown : s.vm.findClass RL = some m.cls := hown
  refine lv_aload_n hx hb dL_law_394 rfl (lv_at hl 2 rfl) ?_
  refine lv_aload_n hx hb dL_law_395 rfl (lv_at hl 3 rfl) ?_
  refine lv_iload_n hx hb dL_law_396 rfl (lv_at hl 0 rfl) ?_
  refine lv_iconst (v := 1) hx hb dL_law_397 z39 ?_
  refine lv_iadd hx hb dL_law_398 ?_
  refine tpi z281 ?_
  refine va_sld hx hb hX hbl hbA hS (vin _ _ rfl) dL_law_399 ?_
  refine tpv (v := .int x1) (congrArg Value.int e1) ?_
  refine call_iV (ci := 10) (As := [.int x1]) (rest := []) (wr := [((n 0), .inr (11, fM n)), ((n 7), .inl (cI, 2, .inl (upd (fun _ => 0) 0 3)))]) ⟨hx, hb, hml, hown, hts⟩ (k116_X10_turn l dC dI cB cI cJ cZ cO r x1 h0 h1) (cwV 1 hts gL_law_X10_turn rfl rfl rfl ⟨rfl, z966⟩ ⟨Nat.le_of_ble_eq_true rfl, Nat.le_of_ble_eq_true rfl⟩) hK hP hD hS hA [0, 1] [2, 3] rfl rfl (by decide +kernel) (by decide +kernel) (by decide +kernel) rfl rfl rfl hl.1 (Nat.le_of_ble_eq_true rfl) rfl rfl dL_law_400 ⟨by decide +kernel, by decide +kernel⟩ (fun u0 H locs hP hD hS => ?_)
  refine lv_aload_n hx hb dL_law_403 rfl (lv_at hl 1 rfl) ?_
  refine lv_aload_n hx hb dL_law_404 rfl (lv_at hl 3 rfl) ?_
  refine lv_iload_n hx hb dL_law_405 rfl (lv_at hl 0 rfl) ?_
  refine lv_iconst (v := 1) hx hb dL_law_406 z39 ?_
  refine lv_iadd hx hb dL_law_407 ?_
  refine tpi z281 ?_
  refine va_sld hx hb hX hbl hbA hS (vin _ _ rfl) dL_law_408 ?_
  refine tpv (v := .int x1) (congrArg Value.int e1) ?_
  refine call_iV (ci := 11) (As := [.int x1]) (rest := [.int (-1)]) (wr := []) ⟨hx, hb, hml, hown, hts⟩ (k119_X11_turn l dC dI cB cI cJ cZ cO n x1 h0 h2) (cwV 1 hts gL_law_X11_turn rfl rfl rfl ⟨rfl, z967⟩ ⟨Nat.le_of_ble_eq_true rfl, Nat.le_of_ble_eq_true rfl⟩) hK hP hD hS hA [0, 1] [] rfl rfl (by decide +kernel) (by decide +kernel) (by decide +kernel) rfl rfl rfl hl.1 (Nat.le_of_ble_eq_true rfl) rfl rfl dL_law_409 ⟨by decide +kernel, by decide +kernel⟩ (fun u1 H locs hP hD hS => ?_)
  refine lv_icmp_eq (tgt := 1093) hx hb dL_law_412 z965 (fun _ => ?_) (fun c1 => absurd (rfl) c1)
  refine lv_iinc (v := 6) (lv' := [(3, .int 6), (2, .ref (n 0)), (1, .ref (r 0)), (0, .ref b)]) hx hb dL_law_1093 hl (k := 0) rfl z943 (nlt rfl) rfl (fun ls hl => ?_)
  refine lv_goto (tgt := 18) hx hb dL_law_1096 z944 ?_
  refine lv_iload_n hx hb dL_law_18 rfl (lv_at hl 0 rfl) ?_
  refine lv_aload_n hx hb dL_law_19 rfl (lv_at hl 3 rfl) ?_
  refine va_slen hx hb hX hbl hbA hS dL_law_20 ?_
  refine tpv (v := .int 6) rfl ?_
  refine lv_bipush (v := 6) hx hb dL_law_21 z4 ?_
  refine lv_isub hx hb dL_law_23 ?_
  refine tpi z945 ?_
  refine lv_icmp_gt (tgt := 1099) hx hb dL_law_24 z947 (fun _ => ?_) (fun c1 => absurd (z946) c1)
  refine lv_iconst (v := 1) hx hb dL_law_1099 z39 ?_
  refine va_forget (fun q hq => hS.2.2 q hq) ?_
  refine W.widen (k := 600000) (n := 7302250) (by decide) (by decide) ?_
  exact lw_ret hx hb hr hlocks dL_law_1100

set_option maxHeartbeats 4000000 in
set_option maxRecDepth 100000 in
theorem lc_7_0 {p : Program} {e : Env} {s : State} {m : MethodId} {below : List Frame} {meth : Method} {c : Code} (l : Launch) {b : Nat} {xs : Nat → Int32} (C0 : lw_At p s m meth c b 6 xs) (dC : Nat → ClassId) (dI : Nat → Nat → Nat) (cB cI cJ cZ cO : ClassId) (r n : Nat → Nat) (x1 : Int32) (e1 : xs 1 = x1) (h0 : x1 < 0) (H : Heap) (locs : List Loc) (hK : va_K (dC, dI) vwCl (tyL cB cI cJ cZ cO) s) (hP : va_P (dC, dI) vwCl [((r 0), .inr (10, fX r)), ((r 18), .inr (4, [.int 0, .ref (r 19), .ref (r 20), .int 0, .ref (r 21), .ref (r 22), .int 0, .ref (r 23), .ref (r 24), .int 0, .ref (r 25), .ref (r 26), .int 3, .int 0, .int 0, .ref (r 27)])), ((n 0), .inr (11, fM n)), ((n 3), .inl (cI, 2, .inl (fun _ => 0)))] H) (hD : va_D (fun q : Nat => s.heap.size ≤ q) [((r 0), .inr (10, fX r)), ((r 18), .inr (4, [.int 0, .ref (r 19), .ref (r 20), .int 0, .ref (r 21), .ref (r 22), .int 0, .ref (r 23), .ref (r 24), .int 0, .ref (r 25), .ref (r 26), .int 3, .int 0, .int 0, .ref (r 27)])), ((n 0), .inr (11, fM n)), ((n 3), .inl (cI, 2, .inl (fun _ => 0)))]) (hS : va_S (fun q : Nat => s.heap.size ≤ q) s.heap H locs) (ls : Array Slot) (hl : lv_has ls 4 [(3, .int 0), (2, .ref (n 0)), (1, .ref (r 0)), (0, .ref b)]) : W p l e room_1 s m #[Value.ref b] below meth c H locs 135 85080 (lw_Z below #[Value.ref b] s) (F0 m 417 ls []) := by
  obtain ⟨hx, hb, hr, hml, hown, hts0, hX, hbl, hlocks, hgv⟩ := C0
  have hts : ∀ w ∈ wsL_law, w.before #[Value.ref b] s = true := fun w h => hts0 w (wsL_law_in w h)
  have hA : ∀ q : Nat, s.heap.size ≤ q → (fun q : Nat => s.heap.size ≤ q) q := fun _ h => h
  have hbA : ¬ (fun q : Nat => s.heap.size ≤ q) b := Nat.not_le.mpr hbl
  have hown : s.vm.findClass RL = some m.cls := hown
  refine lv_aload_n hx hb dL_law_417 rfl (lv_at hl 2 rfl) ?_
  refine lv_aload_n hx hb dL_law_418 rfl (lv_at hl 3 rfl) ?_
  refine lv_iload_n hx hb dL_law_419 rfl (lv_at hl 0 rfl) ?_
  refine lv_iconst (v := 1) hx hb dL_law_420 z39 ?_
  refine lv_iadd hx hb dL_law_421 ?_
  refine tpi z281 ?_
  refine va_sld hx hb hX hbl hbA hS (vin _ _ rfl) dL_law_422 ?_
  refine tpv (v := .int x1) (congrArg Value.int e1) ?_
  refine call_iV (ci := 10) (As := [.int x1]) (rest := []) (wr := [((n 0), .inr (11, fM n)), ((n 3), .inl (cI, 2, .inl (fun _ => 0)))]) ⟨hx, hb, hml, hown, hts⟩ (k120_X10_write l dC dI cB cI cJ cZ cO r x1 h0) (cwV 1 hts gL_law_X10_write rfl rfl rfl ⟨rfl, z969⟩ ⟨Nat.le_of_ble_eq_true rfl, Nat.le_of_ble_eq_true rfl⟩) hK hP hD hS hA [0, 1] [2, 3] rfl rfl (by decide +kernel) (by decide +kernel) (by decide +kernel) rfl rfl rfl hl.1 (Nat.le_of_ble_eq_true rfl) rfl rfl dL_law_423 ⟨by decide +kernel, by decide +kernel⟩ (fun u0 H locs hP hD hS => ?_)
  refine lv_aload_n hx hb dL_law_426 rfl (lv_at hl 1 rfl) ?_
  refine lv_aload_n hx hb dL_law_427 rfl (lv_at hl 3 rfl) ?_
  refine lv_iload_n hx hb dL_law_428 rfl (lv_at hl 0 rfl) ?_
  refine lv_iconst (v := 1) hx hb dL_law_429 z39 ?_
  refine lv_iadd hx hb dL_law_430 ?_
  refine tpi z281 ?_
  refine va_sld hx hb hX hbl hbA hS (vin _ _ rfl) dL_law_431 ?_
  refine tpv (v := .int x1) (congrArg Value.int e1) ?_
  refine call_iV (ci := 11) (As := [.int x1]) (rest := [.int (-1)]) (wr := []) ⟨hx, hb, hml, hown, hts⟩ (k121_X11_write l dC dI cB cI cJ cZ cO n x1 h0) (cwV 1 hts gL_law_X11_write rfl rfl rfl ⟨rfl, z970⟩ ⟨Nat.le_of_ble_eq_true rfl, Nat.le_of_ble_eq_true rfl⟩) hK hP hD hS hA [0, 1] [] rfl rfl (by decide +kernel) (by decide +kernel) (by decide +kernel) rfl rfl rfl hl.1 (Nat.le_of_ble_eq_true rfl) rfl rfl dL_law_432 ⟨by decide +kernel, by decide +kernel⟩ (fun u1 H locs hP hD hS => ?_)
  refine lv_icmp_eq (tgt := 1093) hx hb dL_law_435 z968 (fun _ => ?_) (fun c1 => absurd (rfl) c1)
  refine lv_iinc (v := 6) (lv' := [(3, .int 6), (2, .ref (n 0)), (1, .ref (r 0)), (0, .ref b)]) hx hb dL_law_1093 hl (k := 0) rfl z943 (nlt rfl) rfl (fun ls hl => ?_)
  refine lv_goto (tgt := 18) hx hb dL_law_1096 z944 ?_
  refine lv_iload_n hx hb dL_law_18 rfl (lv_at hl 0 rfl) ?_
  refine lv_aload_n hx hb dL_law_19 rfl (lv_at hl 3 rfl) ?_
  refine va_slen hx hb hX hbl hbA hS dL_law_20 ?_
  refine tpv (v := .int 6) rfl ?_
  refine lv_bipush (v := 6) hx hb dL_law_21 z4 ?_
  refine lv_isub hx hb dL_law_23 ?_
  refine tpi z945 ?_
  refine lv_icmp_gt (tgt := 1099) hx hb dL_law_24 z947 (fun _ => ?_) (fun c1 => absurd (z946) c1)
  refine lv_iconst (v := 1) hx hb dL_law_1099 z39 ?_
  refine va_forget (fun q hq => hS.2.2 q hq) ?_
  refine W.widen (k := 600000) (n := 7302250) (by decide) (by decide) ?_
  exact lw_ret hx hb hr hlocks dL_law_1100

set_option maxHeartbeats 4000000 in
set_option maxRecDepth 100000 in
theorem lc_7_1 {p : Program} {e : Env} {s : State} {m : MethodId} {below : List Frame} {meth : Method} {c : Code} (l : Launch) {b : Nat} {xs : Nat → Int32} (C0 : lw_At p s m meth c b 6 xs) (dC : Nat → ClassId) (dI : Nat → Nat → Nat) (cB cI cJ cZ cO : ClassId) (r n : Nat → Nat) (x1 : Int32) (e1 : xs 1 = x1) (h0 : ¬ x1 < 0) (h1 : 0 ≤ x1) (h2 : (-1) < x1) (H : Heap) (locs : List Loc) (hK : va_K (dC, dI) vwCl (tyL cB cI cJ cZ cO) s) (hP : va_P (dC, dI) vwCl [((r 0), .inr (10, fX r)), ((r 18), .inr (4, [.int 0, .ref (r 19), .ref (r 20), .int 0, .ref (r 21), .ref (r 22), .int 0, .ref (r 23), .ref (r 24), .int 0, .ref (r 25), .ref (r 26), .int 3, .int 0, .int 0, .ref (r 27)])), ((n 0), .inr (11, fM n)), ((n 3), .inl (cI, 2, .inl (fun _ => 0)))] H) (hD : va_D (fun q : Nat => s.heap.size ≤ q) [((r 0), .inr (10, fX r)), ((r 18), .inr (4, [.int 0, .ref (r 19), .ref (r 20), .int 0, .ref (r 21), .ref (r 22), .int 0, .ref (r 23), .ref (r 24), .int 0, .ref (r 25), .ref (r 26), .int 3, .int 0, .int 0, .ref (r 27)])), ((n 0), .inr (11, fM n)), ((n 3), .inl (cI, 2, .inl (fun _ => 0)))]) (hS : va_S (fun q : Nat => s.heap.size ≤ q) s.heap H locs) (ls : Array Slot) (hl : lv_has ls 4 [(3, .int 0), (2, .ref (n 0)), (1, .ref (r 0)), (0, .ref b)]) : W p l e room_1 s m #[Value.ref b] below meth c H locs 135 85080 (lw_Z below #[Value.ref b] s) (F0 m 417 ls []) := by
  obtain ⟨hx, hb, hr, hml, hown, hts0, hX, hbl, hlocks, hgv⟩ := C0
  have hts : ∀ w ∈ wsL_law, w.before #[Value.ref b] s = true := fun w h => hts0 w (wsL_law_in w h)
  have hA : ∀ q : Nat, s.heap.size ≤ q → (fun q : Nat => s.heap.size ≤ q) q := fun _ h => h
  have hbA : ¬ (fun q : Nat => s.heap.size ≤ q) b := Nat.not_le.mpr hbl
  have hown : s.vm.findClass RL = some m.cls := hown
  refine lv_aload_n hx hb dL_law_417 rfl (lv_at hl 2 rfl) ?_
  refine lv_aload_n hx hb dL_law_418 rfl (lv_at hl 3 rfl) ?_
  refine lv_iload_n hx hb dL_law_419 rfl (lv_at hl 0 rfl) ?_
  refine lv_iconst (v := 1) hx hb dL_law_420 z39 ?_
  refine lv_iadd hx hb dL_law_421 ?_
  refine tpi z281 ?_
  refine va_sld hx hb hX hbl hbA hS (vin _ _ rfl) dL_law_422 ?_
  refine tpv (v := .int x1) (congrArg Value.int e1) ?_
  refine call_iV (ci := 10) (As := [.int x1]) (rest := []) (wr := [((n 0), .inr (11, fM n)), ((n 3), .inl (cI, 2, .inl (fun _ => 0)))]) ⟨hx, hb, hml, hown, hts⟩ (k122_X10_write l dC dI cB cI cJ cZ cO r x1 h0 h1) (cwV 1 hts gL_law_X10_write rfl rfl rfl ⟨rfl, z969⟩ ⟨Nat.le_of_ble_eq_true rfl, Nat.le_of_ble_eq_true rfl⟩) hK hP hD hS hA [0, 1] [2, 3] rfl rfl (by decide +kernel) (by decide +kernel) (by decide +kernel) rfl rfl rfl hl.1 (Nat.le_of_ble_eq_true rfl) rfl rfl dL_law_423 ⟨by decide +kernel, by decide +kernel⟩ (fun u0 H locs hP hD hS => ?_)
  refine lv_aload_n hx hb dL_law_426 rfl (lv_at hl 1 rfl) ?_
  refine lv_aload_n hx hb dL_law_427 rfl (lv_at hl 3 rfl) ?_
  refine lv_iload_n hx hb dL_law_428 rfl (lv_at hl 0 rfl) ?_
  refine lv_iconst (v := 1) hx hb dL_law_429 z39 ?_
  refine lv_iadd hx hb dL_law_430 ?_
  refine tpi z281 ?_
  refine va_sld hx hb hX hbl hbA hS (vin _ _ rfl) dL_law_431 ?_
  refine tpv (v := .int x1) (congrArg Value.int e1) ?_
  refine call_iV (ci := 11) (As := [.int x1]) (rest := [.int (-1)]) (wr := []) ⟨hx, hb, hml, hown, hts⟩ (k123_X11_write l dC dI cB cI cJ cZ cO n x1 h0 h2) (cwV 1 hts gL_law_X11_write rfl rfl rfl ⟨rfl, z970⟩ ⟨Nat.le_of_ble_eq_true rfl, Nat.le_of_ble_eq_true rfl⟩) hK hP hD hS hA [0, 1] [] rfl rfl (by decide +kernel) (by decide +kernel) (by decide +kernel) rfl rfl rfl hl.1 (Nat.le_of_ble_eq_true rfl) rfl rfl dL_law_432 ⟨by decide +kernel, by decide +kernel⟩ (fun u1 H locs hP hD hS => ?_)
  refine lv_icmp_eq (tgt := 1093) hx hb dL_law_435 z968 (fun _ => ?_) (fun c1 => absurd (rfl) c1)
  refine lv_iinc (v := 6) (lv' := [(3, .int 6), (2, .ref (n 0)), (1, .ref (r 0)), (0, .ref b)]) hx hb dL_law_1093 hl (k := 0) rfl z943 (nlt rfl) rfl (fun ls hl => ?_)
  refine lv_goto (tgt := 18) hx hb dL_law_1096 z944 ?_
  refine lv_iload_n hx hb dL_law_18 rfl (lv_at hl 0 rfl) ?_
  refine lv_aload_n hx hb dL_law_19 rfl (lv_at hl 3 rfl) ?_
  refine va_slen hx hb hX hbl hbA hS dL_law_20 ?_
  refine tpv (v := .int 6) rfl ?_
  refine lv_bipush (v := 6) hx hb dL_law_21 z4 ?_
  refine lv_isub hx hb dL_law_23 ?_
  refine tpi z945 ?_
  refine lv_icmp_gt (tgt := 1099) hx hb dL_law_24 z947 (fun _ => ?_) (fun c1 => absurd (z946) c1)
  refine lv_iconst (v := 1) hx hb dL_law_1099 z39 ?_
  refine va_forget (fun q hq => hS.2.2 q hq) ?_
  refine W.widen (k := 600000) (n := 7302250) (by decide) (by decide) ?_
  exact lw_ret hx hb hr hlocks dL_law_1100

set_option maxHeartbeats 4000000 in
set_option maxRecDepth 100000 in
theorem lc_8_0 {p : Program} {e : Env} {s : State} {m : MethodId} {below : List Frame} {meth : Method} {c : Code} (l : Launch) {b : Nat} {xs : Nat → Int32} (C0 : lw_At p s m meth c b 6 xs) (dC : Nat → ClassId) (dI : Nat → Nat → Nat) (cB cI cJ cZ cO : ClassId) (r n : Nat → Nat) (x1 : Int32) (x2 : Int32) (e1 : xs 1 = x1) (e2 : xs 2 = x2) (h0 : x1 < 0) (H : Heap) (locs : List Loc) (hK : va_K (dC, dI) vwCl (tyL cB cI cJ cZ cO) s) (hP : va_P (dC, dI) vwCl [((r 0), .inr (10, fX r)), ((r 18), .inr (4, [.int 0, .ref (r 19), .ref (r 20), .int 0, .ref (r 21), .ref (r 22), .int 0, .ref (r 23), .ref (r 24), .int 0, .ref (r 25), .ref (r 26), .int 3, .int 0, .int 0, .ref (r 27)])), ((n 0), .inr (11, fM n)), ((n 7), .inl (cI, 2, .inl (upd (fun _ => 0) 0 3)))] H) (hD : va_D (fun q : Nat => s.heap.size ≤ q) [((r 0), .inr (10, fX r)), ((r 18), .inr (4, [.int 0, .ref (r 19), .ref (r 20), .int 0, .ref (r 21), .ref (r 22), .int 0, .ref (r 23), .ref (r 24), .int 0, .ref (r 25), .ref (r 26), .int 3, .int 0, .int 0, .ref (r 27)])), ((n 0), .inr (11, fM n)), ((n 7), .inl (cI, 2, .inl (upd (fun _ => 0) 0 3)))]) (hS : va_S (fun q : Nat => s.heap.size ≤ q) s.heap H locs) (ls : Array Slot) (hl : lv_has ls 4 [(3, .int 0), (2, .ref (n 0)), (1, .ref (r 0)), (0, .ref b)]) : W p l e room_1 s m #[Value.ref b] below meth c H locs 135 85080 (lw_Z below #[Value.ref b] s) (F0 m 440 ls []) := by
  obtain ⟨hx, hb, hr, hml, hown, hts0, hX, hbl, hlocks, hgv⟩ := C0
  have hts : ∀ w ∈ wsL_law, w.before #[Value.ref b] s = true := fun w h => hts0 w (wsL_law_in w h)
  have hA : ∀ q : Nat, s.heap.size ≤ q → (fun q : Nat => s.heap.size ≤ q) q := fun _ h => h
  have hbA : ¬ (fun q : Nat => s.heap.size ≤ q) b := Nat.not_le.mpr hbl
  have hown : s.vm.findClass RL = some m.cls := hown
  refine lv_aload_n hx hb dL_law_440 rfl (lv_at hl 2 rfl) ?_
  refine lv_aload_n hx hb dL_law_441 rfl (lv_at hl 3 rfl) ?_
  refine lv_iload_n hx hb dL_law_442 rfl (lv_at hl 0 rfl) ?_
  refine lv_iconst (v := 1) hx hb dL_law_443 z39 ?_
  refine lv_iadd hx hb dL_law_444 ?_
  refine tpi z281 ?_
  refine va_sld hx hb hX hbl hbA hS (vin _ _ rfl) dL_law_445 ?_
  refine tpv (v := .int x1) (congrArg Value.int e1) ?_
  refine lv_aload_n hx hb dL_law_446 rfl (lv_at hl 3 rfl) ?_
  refine lv_iload_n hx hb dL_law_447 rfl (lv_at hl 0 rfl) ?_
  refine lv_iconst (v := 2) hx hb dL_law_448 z54 ?_
  refine lv_iadd hx hb dL_law_449 ?_
  refine tpi z362 ?_
  refine va_sld hx hb hX hbl hbA hS (vin _ _ rfl) dL_law_450 ?_
  refine tpv (v := .int x2) (congrArg Value.int e2) ?_
  refine call_iV (ci := 10) (As := [.int x1, .int x2]) (rest := []) (wr := [((n 0), .inr (11, fM n)), ((n 7), .inl (cI, 2, .inl (upd (fun _ => 0) 0 3)))]) ⟨hx, hb, hml, hown, hts⟩ (k125_X10_sell l dC dI cB cI cJ cZ cO r x1 x2 h0) (cwV 2 hts gL_law_X10_sell rfl rfl rfl ⟨rfl, z972⟩ ⟨Nat.le_of_ble_eq_true rfl, Nat.le_of_ble_eq_true rfl⟩) hK hP hD hS hA [0, 1] [2, 3] rfl rfl (by decide +kernel) (by decide +kernel) (by decide +kernel) rfl rfl rfl hl.1 (Nat.le_of_ble_eq_true rfl) rfl rfl dL_law_451 ⟨by decide +kernel, by decide +kernel⟩ (fun u0 H locs hP hD hS => ?_)
  refine lv_aload_n hx hb dL_law_454 rfl (lv_at hl 1 rfl) ?_
  refine lv_aload_n hx hb dL_law_455 rfl (lv_at hl 3 rfl) ?_
  refine lv_iload_n hx hb dL_law_456 rfl (lv_at hl 0 rfl) ?_
  refine lv_iconst (v := 1) hx hb dL_law_457 z39 ?_
  refine lv_iadd hx hb dL_law_458 ?_
  refine tpi z281 ?_
  refine va_sld hx hb hX hbl hbA hS (vin _ _ rfl) dL_law_459 ?_
  refine tpv (v := .int x1) (congrArg Value.int e1) ?_
  refine lv_aload_n hx hb dL_law_460 rfl (lv_at hl 3 rfl) ?_
  refine lv_iload_n hx hb dL_law_461 rfl (lv_at hl 0 rfl) ?_
  refine lv_iconst (v := 2) hx hb dL_law_462 z54 ?_
  refine lv_iadd hx hb dL_law_463 ?_
  refine tpi z362 ?_
  refine va_sld hx hb hX hbl hbA hS (vin _ _ rfl) dL_law_464 ?_
  refine tpv (v := .int x2) (congrArg Value.int e2) ?_
  refine call_iV (ci := 11) (As := [.int x1, .int x2]) (rest := [.int (-1)]) (wr := []) ⟨hx, hb, hml, hown, hts⟩ (k126_X11_sell l dC dI cB cI cJ cZ cO n x1 x2 h0) (cwV 2 hts gL_law_X11_sell rfl rfl rfl ⟨rfl, z973⟩ ⟨Nat.le_of_ble_eq_true rfl, Nat.le_of_ble_eq_true rfl⟩) hK hP hD hS hA [0, 1] [] rfl rfl (by decide +kernel) (by decide +kernel) (by decide +kernel) rfl rfl rfl hl.1 (Nat.le_of_ble_eq_true rfl) rfl rfl dL_law_465 ⟨by decide +kernel, by decide +kernel⟩ (fun u1 H locs hP hD hS => ?_)
  refine lv_icmp_eq (tgt := 1093) hx hb dL_law_468 z971 (fun _ => ?_) (fun c1 => absurd (rfl) c1)
  refine lv_iinc (v := 6) (lv' := [(3, .int 6), (2, .ref (n 0)), (1, .ref (r 0)), (0, .ref b)]) hx hb dL_law_1093 hl (k := 0) rfl z943 (nlt rfl) rfl (fun ls hl => ?_)
  refine lv_goto (tgt := 18) hx hb dL_law_1096 z944 ?_
  refine lv_iload_n hx hb dL_law_18 rfl (lv_at hl 0 rfl) ?_
  refine lv_aload_n hx hb dL_law_19 rfl (lv_at hl 3 rfl) ?_
  refine va_slen hx hb hX hbl hbA hS dL_law_20 ?_
  refine tpv (v := .int 6) rfl ?_
  refine lv_bipush (v := 6) hx hb dL_law_21 z4 ?_
  refine lv_isub hx hb dL_law_23 ?_
  refine tpi z945 ?_
  refine lv_icmp_gt (tgt := 1099) hx hb dL_law_24 z947 (fun _ => ?_) (fun c1 => absurd (z946) c1)
  refine lv_iconst (v := 1) hx hb dL_law_1099 z39 ?_
  refine va_forget (fun q hq => hS.2.2 q hq) ?_
  refine W.widen (k := 600000) (n := 7302250) (by decide) (by decide) ?_
  exact lw_ret hx hb hr hlocks dL_law_1100

set_option maxHeartbeats 4000000 in
set_option maxRecDepth 100000 in
theorem lc_8_1 {p : Program} {e : Env} {s : State} {m : MethodId} {below : List Frame} {meth : Method} {c : Code} (l : Launch) {b : Nat} {xs : Nat → Int32} (C0 : lw_At p s m meth c b 6 xs) (dC : Nat → ClassId) (dI : Nat → Nat → Nat) (cB cI cJ cZ cO : ClassId) (r n : Nat → Nat) (x1 : Int32) (x2 : Int32) (e1 : xs 1 = x1) (e2 : xs 2 = x2) (h0 : ¬ x1 < 0) (h1 : 3 ≤ x1) (h2 : 2 < x1) (H : Heap) (locs : List Loc) (hK : va_K (dC, dI) vwCl (tyL cB cI cJ cZ cO) s) (hP : va_P (dC, dI) vwCl [((r 0), .inr (10, fX r)), ((r 18), .inr (4, [.int 0, .ref (r 19), .ref (r 20), .int 0, .ref (r 21), .ref (r 22), .int 0, .ref (r 23), .ref (r 24), .int 0, .ref (r 25), .ref (r 26), .int 3, .int 0, .int 0, .ref (r 27)])), ((n 0), .inr (11, fM n)), ((n 7), .inl (cI, 2, .inl (upd (fun _ => 0) 0 3)))] H) (hD : va_D (fun q : Nat => s.heap.size ≤ q) [((r 0), .inr (10, fX r)), ((r 18), .inr (4, [.int 0, .ref (r 19), .ref (r 20), .int 0, .ref (r 21), .ref (r 22), .int 0, .ref (r 23), .ref (r 24), .int 0, .ref (r 25), .ref (r 26), .int 3, .int 0, .int 0, .ref (r 27)])), ((n 0), .inr (11, fM n)), ((n 7), .inl (cI, 2, .inl (upd (fun _ => 0) 0 3)))]) (hS : va_S (fun q : Nat => s.heap.size ≤ q) s.heap H locs) (ls : Array Slot) (hl : lv_has ls 4 [(3, .int 0), (2, .ref (n 0)), (1, .ref (r 0)), (0, .ref b)]) : W p l e room_1 s m #[Value.ref b] below meth c H locs 135 85080 (lw_Z below #[Value.ref b] s) (F0 m 440 ls []) := by
  obtain ⟨hx, hb, hr, hml, hown, hts0, hX, hbl, hlocks, hgv⟩ := C0
  have hts : ∀ w ∈ wsL_law, w.before #[Value.ref b] s = true := fun w h => hts0 w (wsL_law_in w h)
  have hA : ∀ q : Nat, s.heap.size ≤ q → (fun q : Nat => s.heap.size ≤ q) q := fun _ h => h
  have hbA : ¬ (fun q : Nat => s.heap.size ≤ q) b := Nat.not_le.mpr hbl
  have hown : s.vm.findClass RL = some m.cls := hown
  refine lv_aload_n hx hb dL_law_440 rfl (lv_at hl 2 rfl) ?_
  refine lv_aload_n hx hb dL_law_441 rfl (lv_at hl 3 rfl) ?_
  refine lv_iload_n hx hb dL_law_442 rfl (lv_at hl 0 rfl) ?_
  refine lv_iconst (v := 1) hx hb dL_law_443 z39 ?_
  refine lv_iadd hx hb dL_law_444 ?_
  refine tpi z281 ?_
  refine va_sld hx hb hX hbl hbA hS (vin _ _ rfl) dL_law_445 ?_
  refine tpv (v := .int x1) (congrArg Value.int e1) ?_
  refine lv_aload_n hx hb dL_law_446 rfl (lv_at hl 3 rfl) ?_
  refine lv_iload_n hx hb dL_law_447 rfl (lv_at hl 0 rfl) ?_
  refine lv_iconst (v := 2) hx hb dL_law_448 z54 ?_
  refine lv_iadd hx hb dL_law_449 ?_
  refine tpi z362 ?_
  refine va_sld hx hb hX hbl hbA hS (vin _ _ rfl) dL_law_450 ?_
  refine tpv (v := .int x2) (congrArg Value.int e2) ?_
  refine call_iV (ci := 10) (As := [.int x1, .int x2]) (rest := []) (wr := [((n 0), .inr (11, fM n)), ((n 7), .inl (cI, 2, .inl (upd (fun _ => 0) 0 3)))]) ⟨hx, hb, hml, hown, hts⟩ (k128_X10_sell l dC dI cB cI cJ cZ cO r x1 x2 h0 h1) (cwV 2 hts gL_law_X10_sell rfl rfl rfl ⟨rfl, z972⟩ ⟨Nat.le_of_ble_eq_true rfl, Nat.le_of_ble_eq_true rfl⟩) hK hP hD hS hA [0, 1] [2, 3] rfl rfl (by decide +kernel) (by decide +kernel) (by decide +kernel) rfl rfl rfl hl.1 (Nat.le_of_ble_eq_true rfl) rfl rfl dL_law_451 ⟨by decide +kernel, by decide +kernel⟩ (fun u0 H locs hP hD hS => ?_)
  refine lv_aload_n hx hb dL_law_454 rfl (lv_at hl 1 rfl) ?_
  refine lv_aload_n hx hb dL_law_455 rfl (lv_at hl 3 rfl) ?_
  refine lv_iload_n hx hb dL_law_456 rfl (lv_at hl 0 rfl) ?_
  refine lv_iconst (v := 1) hx hb dL_law_457 z39 ?_
  refine lv_iadd hx hb dL_law_458 ?_
  refine tpi z281 ?_
  refine va_sld hx hb hX hbl hbA hS (vin _ _ rfl) dL_law_459 ?_
  refine tpv (v := .int x1) (congrArg Value.int e1) ?_
  refine lv_aload_n hx hb dL_law_460 rfl (lv_at hl 3 rfl) ?_
  refine lv_iload_n hx hb dL_law_461 rfl (lv_at hl 0 rfl) ?_
  refine lv_iconst (v := 2) hx hb dL_law_462 z54 ?_
  refine lv_iadd hx hb dL_law_463 ?_
  refine tpi z362 ?_
  refine va_sld hx hb hX hbl hbA hS (vin _ _ rfl) dL_law_464 ?_
  refine tpv (v := .int x2) (congrArg Value.int e2) ?_
  refine call_iV (ci := 11) (As := [.int x1, .int x2]) (rest := [.int (-1)]) (wr := []) ⟨hx, hb, hml, hown, hts⟩ (k129_X11_sell l dC dI cB cI cJ cZ cO n x1 x2 h0 h2) (cwV 2 hts gL_law_X11_sell rfl rfl rfl ⟨rfl, z973⟩ ⟨Nat.le_of_ble_eq_true rfl, Nat.le_of_ble_eq_true rfl⟩) hK hP hD hS hA [0, 1] [] rfl rfl (by decide +kernel) (by decide +kernel) (by decide +kernel) rfl rfl rfl hl.1 (Nat.le_of_ble_eq_true rfl) rfl rfl dL_law_465 ⟨by decide +kernel, by decide +kernel⟩ (fun u1 H locs hP hD hS => ?_)
  refine lv_icmp_eq (tgt := 1093) hx hb dL_law_468 z971 (fun _ => ?_) (fun c1 => absurd (rfl) c1)
  refine lv_iinc (v := 6) (lv' := [(3, .int 6), (2, .ref (n 0)), (1, .ref (r 0)), (0, .ref b)]) hx hb dL_law_1093 hl (k := 0) rfl z943 (nlt rfl) rfl (fun ls hl => ?_)
  refine lv_goto (tgt := 18) hx hb dL_law_1096 z944 ?_
  refine lv_iload_n hx hb dL_law_18 rfl (lv_at hl 0 rfl) ?_
  refine lv_aload_n hx hb dL_law_19 rfl (lv_at hl 3 rfl) ?_
  refine va_slen hx hb hX hbl hbA hS dL_law_20 ?_
  refine tpv (v := .int 6) rfl ?_
  refine lv_bipush (v := 6) hx hb dL_law_21 z4 ?_
  refine lv_isub hx hb dL_law_23 ?_
  refine tpi z945 ?_
  refine lv_icmp_gt (tgt := 1099) hx hb dL_law_24 z947 (fun _ => ?_) (fun c1 => absurd (z946) c1)
  refine lv_iconst (v := 1) hx hb dL_law_1099 z39 ?_
  refine va_forget (fun q hq => hS.2.2 q hq) ?_
  refine W.widen (k := 600000) (n := 7302250) (by decide) (by decide) ?_
  exact lw_ret hx hb hr hlocks dL_law_1100

set_option maxHeartbeats 4000000 in
set_option maxRecDepth 100000 in
theorem lc_8_2 {p : Program} {e : Env} {s : State} {m : MethodId} {below : List Frame} {meth : Method} {c : Code} (l : Launch) {b : Nat} {xs : Nat → Int32} (C0 : lw_At p s m meth c b 6 xs) (dC : Nat → ClassId) (dI : Nat → Nat → Nat) (cB cI cJ cZ cO : ClassId) (r n : Nat → Nat) (x2 : Int32) (e1 : xs 1 = 0) (e2 : xs 2 = x2) (h0 : x2 < 0) (H : Heap) (locs : List Loc) (hK : va_K (dC, dI) vwCl (tyL cB cI cJ cZ cO) s) (hP : va_P (dC, dI) vwCl [((r 0), .inr (10, fX r)), ((r 18), .inr (4, [.int 0, .ref (r 19), .ref (r 20), .int 0, .ref (r 21), .ref (r 22), .int 0, .ref (r 23), .ref (r 24), .int 0, .ref (r 25), .ref (r 26), .int 3, .int 0, .int 0, .ref (r 27)])), ((r 38), .inr (0, [.ref (r 39), .int 0, .ref (r 40), .ref (r 41), .ref (r 42), .ref (r 43), .ref (r 44), .int 0, .int 0])), ((n 0), .inr (11, fM n)), ((n 7), .inl (cI, 2, .inl (upd (fun _ => 0) 0 3)))] H) (hD : va_D (fun q : Nat => s.heap.size ≤ q) [((r 0), .inr (10, fX r)), ((r 18), .inr (4, [.int 0, .ref (r 19), .ref (r 20), .int 0, .ref (r 21), .ref (r 22), .int 0, .ref (r 23), .ref (r 24), .int 0, .ref (r 25), .ref (r 26), .int 3, .int 0, .int 0, .ref (r 27)])), ((r 38), .inr (0, [.ref (r 39), .int 0, .ref (r 40), .ref (r 41), .ref (r 42), .ref (r 43), .ref (r 44), .int 0, .int 0])), ((n 0), .inr (11, fM n)), ((n 7), .inl (cI, 2, .inl (upd (fun _ => 0) 0 3)))]) (hS : va_S (fun q : Nat => s.heap.size ≤ q) s.heap H locs) (ls : Array Slot) (hl : lv_has ls 4 [(3, .int 0), (2, .ref (n 0)), (1, .ref (r 0)), (0, .ref b)]) : W p l e room_1 s m #[Value.ref b] below meth c H locs 135 85080 (lw_Z below #[Value.ref b] s) (F0 m 440 ls []) := by
  obtain ⟨hx, hb, hr, hml, hown, hts0, hX, hbl, hlocks, hgv⟩ := C0
  have hts : ∀ w ∈ wsL_law, w.before #[Value.ref b] s = true := fun w h => hts0 w (wsL_law_in w h)
  have hA : ∀ q : Nat, s.heap.size ≤ q → (fun q : Nat => s.heap.size ≤ q) q := fun _ h => h
  have hbA : ¬ (fun q : Nat => s.heap.size ≤ q) b := Nat.not_le.mpr hbl
  have hown : s.vm.findClass RL = some m.cls := hown
  refine lv_aload_n hx hb dL_law_440 rfl (lv_at hl 2 rfl) ?_
  refine lv_aload_n hx hb dL_law_441 rfl (lv_at hl 3 rfl) ?_
  refine lv_iload_n hx hb dL_law_442 rfl (lv_at hl 0 rfl) ?_
  refine lv_iconst (v := 1) hx hb dL_law_443 z39 ?_
  refine lv_iadd hx hb dL_law_444 ?_
  refine tpi z281 ?_
  refine va_sld hx hb hX hbl hbA hS (vin _ _ rfl) dL_law_445 ?_
  refine tpv (v := .int 0) (congrArg Value.int e1) ?_
  refine lv_aload_n hx hb dL_law_446 rfl (lv_at hl 3 rfl) ?_
  refine lv_iload_n hx hb dL_law_447 rfl (lv_at hl 0 rfl) ?_
  refine lv_iconst (v := 2) hx hb dL_law_448 z54 ?_
  refine lv_iadd hx hb dL_law_449 ?_
  refine tpi z362 ?_
  refine va_sld hx hb hX hbl hbA hS (vin _ _ rfl) dL_law_450 ?_
  refine tpv (v := .int x2) (congrArg Value.int e2) ?_
  refine call_iV (ci := 10) (As := [.int 0, .int x2]) (rest := []) (wr := [((n 0), .inr (11, fM n)), ((n 7), .inl (cI, 2, .inl (upd (fun _ => 0) 0 3)))]) ⟨hx, hb, hml, hown, hts⟩ (k132_X10_sell l dC dI cB cI cJ cZ cO r x2 h0) (cwV 2 hts gL_law_X10_sell rfl rfl rfl ⟨rfl, z972⟩ ⟨Nat.le_of_ble_eq_true rfl, Nat.le_of_ble_eq_true rfl⟩) hK hP hD hS hA [0, 1, 2] [3, 4] rfl rfl (by decide +kernel) (by decide +kernel) (by decide +kernel) rfl rfl rfl hl.1 (Nat.le_of_ble_eq_true rfl) rfl rfl dL_law_451 ⟨by decide +kernel, by decide +kernel⟩ (fun u0 H locs hP hD hS => ?_)
  refine lv_aload_n hx hb dL_law_454 rfl (lv_at hl 1 rfl) ?_
  refine lv_aload_n hx hb dL_law_455 rfl (lv_at hl 3 rfl) ?_
  refine lv_iload_n hx hb dL_law_456 rfl (lv_at hl 0 rfl) ?_
  refine lv_iconst (v := 1) hx hb dL_law_457 z39 ?_
  refine lv_iadd hx hb dL_law_458 ?_
  refine tpi z281 ?_
  refine va_sld hx hb hX hbl hbA hS (vin _ _ rfl) dL_law_459 ?_
  refine tpv (v := .int 0) (congrArg Value.int e1) ?_
  refine lv_aload_n hx hb dL_law_460 rfl (lv_at hl 3 rfl) ?_
  refine lv_iload_n hx hb dL_law_461 rfl (lv_at hl 0 rfl) ?_
  refine lv_iconst (v := 2) hx hb dL_law_462 z54 ?_
  refine lv_iadd hx hb dL_law_463 ?_
  refine tpi z362 ?_
  refine va_sld hx hb hX hbl hbA hS (vin _ _ rfl) dL_law_464 ?_
  refine tpv (v := .int x2) (congrArg Value.int e2) ?_
  refine call_iV (ci := 11) (As := [.int 0, .int x2]) (rest := [.int (-1)]) (wr := []) ⟨hx, hb, hml, hown, hts⟩ (k135_X11_sell l dC dI cB cI cJ cZ cO n x2 h0) (cwV 2 hts gL_law_X11_sell rfl rfl rfl ⟨rfl, z973⟩ ⟨Nat.le_of_ble_eq_true rfl, Nat.le_of_ble_eq_true rfl⟩) hK hP hD hS hA [0, 1] [] rfl rfl (by decide +kernel) (by decide +kernel) (by decide +kernel) rfl rfl rfl hl.1 (Nat.le_of_ble_eq_true rfl) rfl rfl dL_law_465 ⟨by decide +kernel, by decide +kernel⟩ (fun u1 H locs hP hD hS => ?_)
  refine lv_icmp_eq (tgt := 1093) hx hb dL_law_468 z971 (fun _ => ?_) (fun c1 => absurd (rfl) c1)
  refine lv_iinc (v := 6) (lv' := [(3, .int 6), (2, .ref (n 0)), (1, .ref (r 0)), (0, .ref b)]) hx hb dL_law_1093 hl (k := 0) rfl z943 (nlt rfl) rfl (fun ls hl => ?_)
  refine lv_goto (tgt := 18) hx hb dL_law_1096 z944 ?_
  refine lv_iload_n hx hb dL_law_18 rfl (lv_at hl 0 rfl) ?_
  refine lv_aload_n hx hb dL_law_19 rfl (lv_at hl 3 rfl) ?_
  refine va_slen hx hb hX hbl hbA hS dL_law_20 ?_
  refine tpv (v := .int 6) rfl ?_
  refine lv_bipush (v := 6) hx hb dL_law_21 z4 ?_
  refine lv_isub hx hb dL_law_23 ?_
  refine tpi z945 ?_
  refine lv_icmp_gt (tgt := 1099) hx hb dL_law_24 z947 (fun _ => ?_) (fun c1 => absurd (z946) c1)
  refine lv_iconst (v := 1) hx hb dL_law_1099 z39 ?_
  refine va_forget (fun q hq => hS.2.2 q hq) ?_
  refine W.widen (k := 600000) (n := 7302250) (by decide) (by decide) ?_
  exact lw_ret hx hb hr hlocks dL_law_1100

set_option maxHeartbeats 4000000 in
set_option maxRecDepth 100000 in
theorem lc_8_3 {p : Program} {e : Env} {s : State} {m : MethodId} {below : List Frame} {meth : Method} {c : Code} (l : Launch) {b : Nat} {xs : Nat → Int32} (C0 : lw_At p s m meth c b 6 xs) (dC : Nat → ClassId) (dI : Nat → Nat → Nat) (cB cI cJ cZ cO : ClassId) (r n : Nat → Nat) (x2 : Int32) (e1 : xs 1 = 0) (e2 : xs 2 = x2) (h0 : ¬ x2 < 0) (h1 : ¬ 3 ≤ x2) (h2 : ¬ 2 < x2) (H : Heap) (locs : List Loc) (hK : va_K (dC, dI) vwCl (tyL cB cI cJ cZ cO) s) (hP : va_P (dC, dI) vwCl [((r 0), .inr (10, fX r)), ((r 18), .inr (4, [.int 0, .ref (r 19), .ref (r 20), .int 0, .ref (r 21), .ref (r 22), .int 0, .ref (r 23), .ref (r 24), .int 0, .ref (r 25), .ref (r 26), .int 3, .int 0, .int 0, .ref (r 27)])), ((r 38), .inr (0, [.ref (r 39), .int 0, .ref (r 40), .ref (r 41), .ref (r 42), .ref (r 43), .ref (r 44), .int 0, .int 0])), ((r 40), .inl (cI, 6, .inl (upd (upd (upd (upd (upd (upd (fun _ => 0) 0 (-1)) 1 (-1)) 2 (-1)) 3 (-1)) 4 (-1)) 5 (-1)))), ((r 41), .inl (cZ, 40, .inl (fun _ => 0))), ((r 42), .inl (cI, 40, .inl (fun _ => 0))), ((r 43), .inl (cI, 40, .inl (fun _ => 0))), ((r 44), .inl (cI, 40, .inl (fun _ => 0))), ((n 0), .inr (11, fM n)), ((n 7), .inl (cI, 2, .inl (upd (fun _ => 0) 0 3))), ((n 27), .inl (cI, 6, .inl (upd (upd (upd (upd (fun _ => 0) 1 1) 2 2) 4 1) 5 2))), ((n 29), .inl (cI, 40, .inl (fun _ => 0))), ((n 30), .inl (cI, 40, .inl (fun _ => 0)))] H) (hD : va_D (fun q : Nat => s.heap.size ≤ q) [((r 0), .inr (10, fX r)), ((r 18), .inr (4, [.int 0, .ref (r 19), .ref (r 20), .int 0, .ref (r 21), .ref (r 22), .int 0, .ref (r 23), .ref (r 24), .int 0, .ref (r 25), .ref (r 26), .int 3, .int 0, .int 0, .ref (r 27)])), ((r 38), .inr (0, [.ref (r 39), .int 0, .ref (r 40), .ref (r 41), .ref (r 42), .ref (r 43), .ref (r 44), .int 0, .int 0])), ((r 40), .inl (cI, 6, .inl (upd (upd (upd (upd (upd (upd (fun _ => 0) 0 (-1)) 1 (-1)) 2 (-1)) 3 (-1)) 4 (-1)) 5 (-1)))), ((r 41), .inl (cZ, 40, .inl (fun _ => 0))), ((r 42), .inl (cI, 40, .inl (fun _ => 0))), ((r 43), .inl (cI, 40, .inl (fun _ => 0))), ((r 44), .inl (cI, 40, .inl (fun _ => 0))), ((n 0), .inr (11, fM n)), ((n 7), .inl (cI, 2, .inl (upd (fun _ => 0) 0 3))), ((n 27), .inl (cI, 6, .inl (upd (upd (upd (upd (fun _ => 0) 1 1) 2 2) 4 1) 5 2))), ((n 29), .inl (cI, 40, .inl (fun _ => 0))), ((n 30), .inl (cI, 40, .inl (fun _ => 0)))]) (hS : va_S (fun q : Nat => s.heap.size ≤ q) s.heap H locs) (ls : Array Slot) (hl : lv_has ls 4 [(3, .int 0), (2, .ref (n 0)), (1, .ref (r 0)), (0, .ref b)]) : W p l e room_1 s m #[Value.ref b] below meth c H locs 135 85080 (lw_Z below #[Value.ref b] s) (F0 m 440 ls []) := by
  obtain ⟨hx, hb, hr, hml, hown, hts0, hX, hbl, hlocks, hgv⟩ := C0
  have hts : ∀ w ∈ wsL_law, w.before #[Value.ref b] s = true := fun w h => hts0 w (wsL_law_in w h)
  have hA : ∀ q : Nat, s.heap.size ≤ q → (fun q : Nat => s.heap.size ≤ q) q := fun _ h => h
  have hbA : ¬ (fun q : Nat => s.heap.size ≤ q) b := Nat.not_le.mpr hbl
  have hown : s.vm.findClass RL = some m.cls := hown
  refine lv_aload_n hx hb dL_law_440 rfl (lv_at hl 2 rfl) ?_
  refine lv_aload_n hx hb dL_law_441 rfl (lv_at hl 3 rfl) ?_
  refine lv_iload_n hx hb dL_law_442 rfl (lv_at hl 0 rfl) ?_
  refine lv_iconst (v := 1) hx hb dL_law_443 z39 ?_
  refine lv_iadd hx hb dL_law_444 ?_
  refine tpi z281 ?_
  refine va_sld hx hb hX hbl hbA hS (vin _ _ rfl) dL_law_445 ?_
  refine tpv (v := .int 0) (congrArg Value.int e1) ?_
  refine lv_aload_n hx hb dL_law_446 rfl (lv_at hl 3 rfl) ?_
  refine lv_iload_n hx hb dL_law_447 rfl (lv_at hl 0 rfl) ?_
  refine lv_iconst (v := 2) hx hb dL_law_448 z54 ?_
  refine lv_iadd hx hb dL_law_449 ?_
  refine tpi z362 ?_
  refine va_sld hx hb hX hbl hbA hS (vin _ _ rfl) dL_law_450 ?_
  refine tpv (v := .int x2) (congrArg Value.int e2) ?_
  refine call_iV (ci := 10) (As := [.int 0, .int x2]) (rest := []) (wr := [((n 0), .inr (11, fM n)), ((n 7), .inl (cI, 2, .inl (upd (fun _ => 0) 0 3))), ((n 27), .inl (cI, 6, .inl (upd (upd (upd (upd (fun _ => 0) 1 1) 2 2) 4 1) 5 2))), ((n 29), .inl (cI, 40, .inl (fun _ => 0))), ((n 30), .inl (cI, 40, .inl (fun _ => 0)))]) ⟨hx, hb, hml, hown, hts⟩ (k140_X10_sell l dC dI cB cI cJ cZ cO r x2 h0 h1) (cwV 2 hts gL_law_X10_sell rfl rfl rfl ⟨rfl, z972⟩ ⟨Nat.le_of_ble_eq_true rfl, Nat.le_of_ble_eq_true rfl⟩) hK hP hD hS hA [0, 1, 2, 3, 4, 5, 6, 7] [8, 9, 10, 11, 12] rfl rfl (by decide +kernel) (by decide +kernel) (by decide +kernel) rfl rfl rfl hl.1 (Nat.le_of_ble_eq_true rfl) rfl rfl dL_law_451 ⟨by decide +kernel, by decide +kernel⟩ (fun u0 H locs hP hD hS => ?_)
  refine lv_aload_n hx hb dL_law_454 rfl (lv_at hl 1 rfl) ?_
  refine lv_aload_n hx hb dL_law_455 rfl (lv_at hl 3 rfl) ?_
  refine lv_iload_n hx hb dL_law_456 rfl (lv_at hl 0 rfl) ?_
  refine lv_iconst (v := 1) hx hb dL_law_457 z39 ?_
  refine lv_iadd hx hb dL_law_458 ?_
  refine tpi z281 ?_
  refine va_sld hx hb hX hbl hbA hS (vin _ _ rfl) dL_law_459 ?_
  refine tpv (v := .int 0) (congrArg Value.int e1) ?_
  refine lv_aload_n hx hb dL_law_460 rfl (lv_at hl 3 rfl) ?_
  refine lv_iload_n hx hb dL_law_461 rfl (lv_at hl 0 rfl) ?_
  refine lv_iconst (v := 2) hx hb dL_law_462 z54 ?_
  refine lv_iadd hx hb dL_law_463 ?_
  refine tpi z362 ?_
  refine va_sld hx hb hX hbl hbA hS (vin _ _ rfl) dL_law_464 ?_
  refine tpv (v := .int x2) (congrArg Value.int e2) ?_
  refine call_iV (ci := 11) (As := [.int 0, .int x2]) (rest := [.int 0]) (wr := []) ⟨hx, hb, hml, hown, hts⟩ (k144_X11_sell l dC dI cB cI cJ cZ cO n x2 h0 h2) (cwV 2 hts gL_law_X11_sell rfl rfl rfl ⟨rfl, z973⟩ ⟨Nat.le_of_ble_eq_true rfl, Nat.le_of_ble_eq_true rfl⟩) hK hP hD hS hA [0, 1, 2, 3, 4] [] rfl rfl (by decide +kernel) (by decide +kernel) (by decide +kernel) rfl rfl rfl hl.1 (Nat.le_of_ble_eq_true rfl) rfl rfl dL_law_465 ⟨by decide +kernel, by decide +kernel⟩ (fun u1 H locs hP hD hS => ?_)
  refine lv_icmp_eq (tgt := 1093) hx hb dL_law_468 z971 (fun _ => ?_) (fun c1 => absurd (rfl) c1)
  refine lv_iinc (v := 6) (lv' := [(3, .int 6), (2, .ref (n 0)), (1, .ref (r 0)), (0, .ref b)]) hx hb dL_law_1093 hl (k := 0) rfl z943 (nlt rfl) rfl (fun ls hl => ?_)
  refine lv_goto (tgt := 18) hx hb dL_law_1096 z944 ?_
  refine lv_iload_n hx hb dL_law_18 rfl (lv_at hl 0 rfl) ?_
  refine lv_aload_n hx hb dL_law_19 rfl (lv_at hl 3 rfl) ?_
  refine va_slen hx hb hX hbl hbA hS dL_law_20 ?_
  refine tpv (v := .int 6) rfl ?_
  refine lv_bipush (v := 6) hx hb dL_law_21 z4 ?_
  refine lv_isub hx hb dL_law_23 ?_
  refine tpi z945 ?_
  refine lv_icmp_gt (tgt := 1099) hx hb dL_law_24 z947 (fun _ => ?_) (fun c1 => absurd (z946) c1)
  refine lv_iconst (v := 1) hx hb dL_law_1099 z39 ?_
  refine va_forget (fun q hq => hS.2.2 q hq) ?_
  refine W.widen (k := 600000) (n := 7302250) (by decide) (by decide) ?_
  exact lw_ret hx hb hr hlocks dL_law_1100

set_option maxHeartbeats 4000000 in
set_option maxRecDepth 100000 in
theorem lc_8_4 {p : Program} {e : Env} {s : State} {m : MethodId} {below : List Frame} {meth : Method} {c : Code} (l : Launch) {b : Nat} {xs : Nat → Int32} (C0 : lw_At p s m meth c b 6 xs) (dC : Nat → ClassId) (dI : Nat → Nat → Nat) (cB cI cJ cZ cO : ClassId) (r n : Nat → Nat) (x2 : Int32) (e1 : xs 1 = 0) (e2 : xs 2 = x2) (h0 : ¬ x2 < 0) (h1 : 3 ≤ x2) (h2 : 2 < x2) (H : Heap) (locs : List Loc) (hK : va_K (dC, dI) vwCl (tyL cB cI cJ cZ cO) s) (hP : va_P (dC, dI) vwCl [((r 0), .inr (10, fX r)), ((r 18), .inr (4, [.int 0, .ref (r 19), .ref (r 20), .int 0, .ref (r 21), .ref (r 22), .int 0, .ref (r 23), .ref (r 24), .int 0, .ref (r 25), .ref (r 26), .int 3, .int 0, .int 0, .ref (r 27)])), ((r 38), .inr (0, [.ref (r 39), .int 0, .ref (r 40), .ref (r 41), .ref (r 42), .ref (r 43), .ref (r 44), .int 0, .int 0])), ((n 0), .inr (11, fM n)), ((n 7), .inl (cI, 2, .inl (upd (fun _ => 0) 0 3)))] H) (hD : va_D (fun q : Nat => s.heap.size ≤ q) [((r 0), .inr (10, fX r)), ((r 18), .inr (4, [.int 0, .ref (r 19), .ref (r 20), .int 0, .ref (r 21), .ref (r 22), .int 0, .ref (r 23), .ref (r 24), .int 0, .ref (r 25), .ref (r 26), .int 3, .int 0, .int 0, .ref (r 27)])), ((r 38), .inr (0, [.ref (r 39), .int 0, .ref (r 40), .ref (r 41), .ref (r 42), .ref (r 43), .ref (r 44), .int 0, .int 0])), ((n 0), .inr (11, fM n)), ((n 7), .inl (cI, 2, .inl (upd (fun _ => 0) 0 3)))]) (hS : va_S (fun q : Nat => s.heap.size ≤ q) s.heap H locs) (ls : Array Slot) (hl : lv_has ls 4 [(3, .int 0), (2, .ref (n 0)), (1, .ref (r 0)), (0, .ref b)]) : W p l e room_1 s m #[Value.ref b] below meth c H locs 135 85080 (lw_Z below #[Value.ref b] s) (F0 m 440 ls []) := by
  obtain ⟨hx, hb, hr, hml, hown, hts0, hX, hbl, hlocks, hgv⟩ := C0
  have hts : ∀ w ∈ wsL_law, w.before #[Value.ref b] s = true := fun w h => hts0 w (wsL_law_in w h)
  have hA : ∀ q : Nat, s.heap.size ≤ q → (fun q : Nat => s.heap.size ≤ q) q := fun _ h => h
  have hbA : ¬ (fun q : Nat => s.heap.size ≤ q) b := Nat.not_le.mpr hbl
  have hown : s.vm.findClass RL = some m.cls := hown
  refine lv_aload_n hx hb dL_law_440 rfl (lv_at hl 2 rfl) ?_
  refine lv_aload_n hx hb dL_law_441 rfl (lv_at hl 3 rfl) ?_
  refine lv_iload_n hx hb dL_law_442 rfl (lv_at hl 0 rfl) ?_
  refine lv_iconst (v := 1) hx hb dL_law_443 z39 ?_
  refine lv_iadd hx hb dL_law_444 ?_
  refine tpi z281 ?_
  refine va_sld hx hb hX hbl hbA hS (vin _ _ rfl) dL_law_445 ?_
  refine tpv (v := .int 0) (congrArg Value.int e1) ?_
  refine lv_aload_n hx hb dL_law_446 rfl (lv_at hl 3 rfl) ?_
  refine lv_iload_n hx hb dL_law_447 rfl (lv_at hl 0 rfl) ?_
  refine lv_iconst (v := 2) hx hb dL_law_448 z54 ?_
  refine lv_iadd hx hb dL_law_449 ?_
  refine tpi z362 ?_
  refine va_sld hx hb hX hbl hbA hS (vin _ _ rfl) dL_law_450 ?_
  refine tpv (v := .int x2) (congrArg Value.int e2) ?_
  refine call_iV (ci := 10) (As := [.int 0, .int x2]) (rest := []) (wr := [((n 0), .inr (11, fM n)), ((n 7), .inl (cI, 2, .inl (upd (fun _ => 0) 0 3)))]) ⟨hx, hb, hml, hown, hts⟩ (k146_X10_sell l dC dI cB cI cJ cZ cO r x2 h0 h1) (cwV 2 hts gL_law_X10_sell rfl rfl rfl ⟨rfl, z972⟩ ⟨Nat.le_of_ble_eq_true rfl, Nat.le_of_ble_eq_true rfl⟩) hK hP hD hS hA [0, 1, 2] [3, 4] rfl rfl (by decide +kernel) (by decide +kernel) (by decide +kernel) rfl rfl rfl hl.1 (Nat.le_of_ble_eq_true rfl) rfl rfl dL_law_451 ⟨by decide +kernel, by decide +kernel⟩ (fun u0 H locs hP hD hS => ?_)
  refine lv_aload_n hx hb dL_law_454 rfl (lv_at hl 1 rfl) ?_
  refine lv_aload_n hx hb dL_law_455 rfl (lv_at hl 3 rfl) ?_
  refine lv_iload_n hx hb dL_law_456 rfl (lv_at hl 0 rfl) ?_
  refine lv_iconst (v := 1) hx hb dL_law_457 z39 ?_
  refine lv_iadd hx hb dL_law_458 ?_
  refine tpi z281 ?_
  refine va_sld hx hb hX hbl hbA hS (vin _ _ rfl) dL_law_459 ?_
  refine tpv (v := .int 0) (congrArg Value.int e1) ?_
  refine lv_aload_n hx hb dL_law_460 rfl (lv_at hl 3 rfl) ?_
  refine lv_iload_n hx hb dL_law_461 rfl (lv_at hl 0 rfl) ?_
  refine lv_iconst (v := 2) hx hb dL_law_462 z54 ?_
  refine lv_iadd hx hb dL_law_463 ?_
  refine tpi z362 ?_
  refine va_sld hx hb hX hbl hbA hS (vin _ _ rfl) dL_law_464 ?_
  refine tpv (v := .int x2) (congrArg Value.int e2) ?_
  refine call_iV (ci := 11) (As := [.int 0, .int x2]) (rest := [.int (-1)]) (wr := []) ⟨hx, hb, hml, hown, hts⟩ (k149_X11_sell l dC dI cB cI cJ cZ cO n x2 h0 h2) (cwV 2 hts gL_law_X11_sell rfl rfl rfl ⟨rfl, z973⟩ ⟨Nat.le_of_ble_eq_true rfl, Nat.le_of_ble_eq_true rfl⟩) hK hP hD hS hA [0, 1] [] rfl rfl (by decide +kernel) (by decide +kernel) (by decide +kernel) rfl rfl rfl hl.1 (Nat.le_of_ble_eq_true rfl) rfl rfl dL_law_465 ⟨by decide +kernel, by decide +kernel⟩ (fun u1 H locs hP hD hS => ?_)
  refine lv_icmp_eq (tgt := 1093) hx hb dL_law_468 z971 (fun _ => ?_) (fun c1 => absurd (rfl) c1)
  refine lv_iinc (v := 6) (lv' := [(3, .int 6), (2, .ref (n 0)), (1, .ref (r 0)), (0, .ref b)]) hx hb dL_law_1093 hl (k := 0) rfl z943 (nlt rfl) rfl (fun ls hl => ?_)
  refine lv_goto (tgt := 18) hx hb dL_law_1096 z944 ?_
  refine lv_iload_n hx hb dL_law_18 rfl (lv_at hl 0 rfl) ?_
  refine lv_aload_n hx hb dL_law_19 rfl (lv_at hl 3 rfl) ?_
  refine va_slen hx hb hX hbl hbA hS dL_law_20 ?_
  refine tpv (v := .int 6) rfl ?_
  refine lv_bipush (v := 6) hx hb dL_law_21 z4 ?_
  refine lv_isub hx hb dL_law_23 ?_
  refine tpi z945 ?_
  refine lv_icmp_gt (tgt := 1099) hx hb dL_law_24 z947 (fun _ => ?_) (fun c1 => absurd (z946) c1)
  refine lv_iconst (v := 1) hx hb dL_law_1099 z39 ?_
  refine va_forget (fun q hq => hS.2.2 q hq) ?_
  refine W.widen (k := 600000) (n := 7302250) (by decide) (by decide) ?_
  exact lw_ret hx hb hr hlocks dL_law_1100

set_option maxHeartbeats 4000000 in
set_option maxRecDepth 100000 in
theorem lc_8_5 {p : Program} {e : Env} {s : State} {m : MethodId} {below : List Frame} {meth : Method} {c : Code} (l : Launch) {b : Nat} {xs : Nat → Int32} (C0 : lw_At p s m meth c b 6 xs) (dC : Nat → ClassId) (dI : Nat → Nat → Nat) (cB cI cJ cZ cO : ClassId) (r n : Nat → Nat) (x2 : Int32) (e1 : xs 1 = 1) (e2 : xs 2 = x2) (h0 : x2 < 0) (H : Heap) (locs : List Loc) (hK : va_K (dC, dI) vwCl (tyL cB cI cJ cZ cO) s) (hP : va_P (dC, dI) vwCl [((r 0), .inr (10, fX r)), ((r 18), .inr (4, [.int 0, .ref (r 19), .ref (r 20), .int 0, .ref (r 21), .ref (r 22), .int 0, .ref (r 23), .ref (r 24), .int 0, .ref (r 25), .ref (r 26), .int 3, .int 0, .int 0, .ref (r 27)])), ((r 38), .inr (0, [.ref (r 39), .int 0, .ref (r 40), .ref (r 41), .ref (r 42), .ref (r 43), .ref (r 44), .int 0, .int 0])), ((n 0), .inr (11, fM n)), ((n 7), .inl (cI, 2, .inl (upd (fun _ => 0) 0 3)))] H) (hD : va_D (fun q : Nat => s.heap.size ≤ q) [((r 0), .inr (10, fX r)), ((r 18), .inr (4, [.int 0, .ref (r 19), .ref (r 20), .int 0, .ref (r 21), .ref (r 22), .int 0, .ref (r 23), .ref (r 24), .int 0, .ref (r 25), .ref (r 26), .int 3, .int 0, .int 0, .ref (r 27)])), ((r 38), .inr (0, [.ref (r 39), .int 0, .ref (r 40), .ref (r 41), .ref (r 42), .ref (r 43), .ref (r 44), .int 0, .int 0])), ((n 0), .inr (11, fM n)), ((n 7), .inl (cI, 2, .inl (upd (fun _ => 0) 0 3)))]) (hS : va_S (fun q : Nat => s.heap.size ≤ q) s.heap H locs) (ls : Array Slot) (hl : lv_has ls 4 [(3, .int 0), (2, .ref (n 0)), (1, .ref (r 0)), (0, .ref b)]) : W p l e room_1 s m #[Value.ref b] below meth c H locs 135 85080 (lw_Z below #[Value.ref b] s) (F0 m 440 ls []) := by
  obtain ⟨hx, hb, hr, hml, hown, hts0, hX, hbl, hlocks, hgv⟩ := C0
  have hts : ∀ w ∈ wsL_law, w.before #[Value.ref b] s = true := fun w h => hts0 w (wsL_law_in w h)
  have hA : ∀ q : Nat, s.heap.size ≤ q → (fun q : Nat => s.heap.size ≤ q) q := fun _ h => h
  have hbA : ¬ (fun q : Nat => s.heap.size ≤ q) b := Nat.not_le.mpr hbl
  have hown : s.vm.findClass RL = some m.cls := hown
  refine lv_aload_n hx hb dL_law_440 rfl (lv_at hl 2 rfl) ?_
  refine lv_aload_n hx hb dL_law_441 rfl (lv_at hl 3 rfl) ?_
  refine lv_iload_n hx hb dL_law_442 rfl (lv_at hl 0 rfl) ?_
  refine lv_iconst (v := 1) hx hb dL_law_443 z39 ?_
  refine lv_iadd hx hb dL_law_444 ?_
  refine tpi z281 ?_
  refine va_sld hx hb hX hbl hbA hS (vin _ _ rfl) dL_law_445 ?_
  refine tpv (v := .int 1) (congrArg Value.int e1) ?_
  refine lv_aload_n hx hb dL_law_446 rfl (lv_at hl 3 rfl) ?_
  refine lv_iload_n hx hb dL_law_447 rfl (lv_at hl 0 rfl) ?_
  refine lv_iconst (v := 2) hx hb dL_law_448 z54 ?_
  refine lv_iadd hx hb dL_law_449 ?_
  refine tpi z362 ?_
  refine va_sld hx hb hX hbl hbA hS (vin _ _ rfl) dL_law_450 ?_
  refine tpv (v := .int x2) (congrArg Value.int e2) ?_
  refine call_iV (ci := 10) (As := [.int 1, .int x2]) (rest := []) (wr := [((n 0), .inr (11, fM n)), ((n 7), .inl (cI, 2, .inl (upd (fun _ => 0) 0 3)))]) ⟨hx, hb, hml, hown, hts⟩ (k151_X10_sell l dC dI cB cI cJ cZ cO r x2 h0) (cwV 2 hts gL_law_X10_sell rfl rfl rfl ⟨rfl, z972⟩ ⟨Nat.le_of_ble_eq_true rfl, Nat.le_of_ble_eq_true rfl⟩) hK hP hD hS hA [0, 1, 2] [3, 4] rfl rfl (by decide +kernel) (by decide +kernel) (by decide +kernel) rfl rfl rfl hl.1 (Nat.le_of_ble_eq_true rfl) rfl rfl dL_law_451 ⟨by decide +kernel, by decide +kernel⟩ (fun u0 H locs hP hD hS => ?_)
  refine lv_aload_n hx hb dL_law_454 rfl (lv_at hl 1 rfl) ?_
  refine lv_aload_n hx hb dL_law_455 rfl (lv_at hl 3 rfl) ?_
  refine lv_iload_n hx hb dL_law_456 rfl (lv_at hl 0 rfl) ?_
  refine lv_iconst (v := 1) hx hb dL_law_457 z39 ?_
  refine lv_iadd hx hb dL_law_458 ?_
  refine tpi z281 ?_
  refine va_sld hx hb hX hbl hbA hS (vin _ _ rfl) dL_law_459 ?_
  refine tpv (v := .int 1) (congrArg Value.int e1) ?_
  refine lv_aload_n hx hb dL_law_460 rfl (lv_at hl 3 rfl) ?_
  refine lv_iload_n hx hb dL_law_461 rfl (lv_at hl 0 rfl) ?_
  refine lv_iconst (v := 2) hx hb dL_law_462 z54 ?_
  refine lv_iadd hx hb dL_law_463 ?_
  refine tpi z362 ?_
  refine va_sld hx hb hX hbl hbA hS (vin _ _ rfl) dL_law_464 ?_
  refine tpv (v := .int x2) (congrArg Value.int e2) ?_
  refine call_iV (ci := 11) (As := [.int 1, .int x2]) (rest := [.int (-1)]) (wr := []) ⟨hx, hb, hml, hown, hts⟩ (k152_X11_sell l dC dI cB cI cJ cZ cO n x2 h0) (cwV 2 hts gL_law_X11_sell rfl rfl rfl ⟨rfl, z973⟩ ⟨Nat.le_of_ble_eq_true rfl, Nat.le_of_ble_eq_true rfl⟩) hK hP hD hS hA [0, 1] [] rfl rfl (by decide +kernel) (by decide +kernel) (by decide +kernel) rfl rfl rfl hl.1 (Nat.le_of_ble_eq_true rfl) rfl rfl dL_law_465 ⟨by decide +kernel, by decide +kernel⟩ (fun u1 H locs hP hD hS => ?_)
  refine lv_icmp_eq (tgt := 1093) hx hb dL_law_468 z971 (fun _ => ?_) (fun c1 => absurd (rfl) c1)
  refine lv_iinc (v := 6) (lv' := [(3, .int 6), (2, .ref (n 0)), (1, .ref (r 0)), (0, .ref b)]) hx hb dL_law_1093 hl (k := 0) rfl z943 (nlt rfl) rfl (fun ls hl => ?_)
  refine lv_goto (tgt := 18) hx hb dL_law_1096 z944 ?_
  refine lv_iload_n hx hb dL_law_18 rfl (lv_at hl 0 rfl) ?_
  refine lv_aload_n hx hb dL_law_19 rfl (lv_at hl 3 rfl) ?_
  refine va_slen hx hb hX hbl hbA hS dL_law_20 ?_
  refine tpv (v := .int 6) rfl ?_
  refine lv_bipush (v := 6) hx hb dL_law_21 z4 ?_
  refine lv_isub hx hb dL_law_23 ?_
  refine tpi z945 ?_
  refine lv_icmp_gt (tgt := 1099) hx hb dL_law_24 z947 (fun _ => ?_) (fun c1 => absurd (z946) c1)
  refine lv_iconst (v := 1) hx hb dL_law_1099 z39 ?_
  refine va_forget (fun q hq => hS.2.2 q hq) ?_
  refine W.widen (k := 600000) (n := 7302250) (by decide) (by decide) ?_
  exact lw_ret hx hb hr hlocks dL_law_1100

set_option maxHeartbeats 4000000 in
set_option maxRecDepth 100000 in
theorem lc_8_6 {p : Program} {e : Env} {s : State} {m : MethodId} {below : List Frame} {meth : Method} {c : Code} (l : Launch) {b : Nat} {xs : Nat → Int32} (C0 : lw_At p s m meth c b 6 xs) (dC : Nat → ClassId) (dI : Nat → Nat → Nat) (cB cI cJ cZ cO : ClassId) (r n : Nat → Nat) (x2 : Int32) (e1 : xs 1 = 1) (e2 : xs 2 = x2) (h0 : ¬ x2 < 0) (h1 : ¬ 3 ≤ x2) (h2 : ¬ 2 < x2) (H : Heap) (locs : List Loc) (hK : va_K (dC, dI) vwCl (tyL cB cI cJ cZ cO) s) (hP : va_P (dC, dI) vwCl [((r 0), .inr (10, fX r)), ((r 18), .inr (4, [.int 0, .ref (r 19), .ref (r 20), .int 0, .ref (r 21), .ref (r 22), .int 0, .ref (r 23), .ref (r 24), .int 0, .ref (r 25), .ref (r 26), .int 3, .int 0, .int 0, .ref (r 27)])), ((r 38), .inr (0, [.ref (r 39), .int 0, .ref (r 40), .ref (r 41), .ref (r 42), .ref (r 43), .ref (r 44), .int 0, .int 0])), ((r 40), .inl (cI, 6, .inl (upd (upd (upd (upd (upd (upd (fun _ => 0) 0 (-1)) 1 (-1)) 2 (-1)) 3 (-1)) 4 (-1)) 5 (-1)))), ((r 41), .inl (cZ, 40, .inl (fun _ => 0))), ((r 42), .inl (cI, 40, .inl (fun _ => 0))), ((r 43), .inl (cI, 40, .inl (fun _ => 0))), ((r 44), .inl (cI, 40, .inl (fun _ => 0))), ((n 0), .inr (11, fM n)), ((n 7), .inl (cI, 2, .inl (upd (fun _ => 0) 0 3))), ((n 27), .inl (cI, 6, .inl (upd (upd (upd (upd (fun _ => 0) 1 1) 2 2) 4 1) 5 2))), ((n 29), .inl (cI, 40, .inl (fun _ => 0))), ((n 30), .inl (cI, 40, .inl (fun _ => 0)))] H) (hD : va_D (fun q : Nat => s.heap.size ≤ q) [((r 0), .inr (10, fX r)), ((r 18), .inr (4, [.int 0, .ref (r 19), .ref (r 20), .int 0, .ref (r 21), .ref (r 22), .int 0, .ref (r 23), .ref (r 24), .int 0, .ref (r 25), .ref (r 26), .int 3, .int 0, .int 0, .ref (r 27)])), ((r 38), .inr (0, [.ref (r 39), .int 0, .ref (r 40), .ref (r 41), .ref (r 42), .ref (r 43), .ref (r 44), .int 0, .int 0])), ((r 40), .inl (cI, 6, .inl (upd (upd (upd (upd (upd (upd (fun _ => 0) 0 (-1)) 1 (-1)) 2 (-1)) 3 (-1)) 4 (-1)) 5 (-1)))), ((r 41), .inl (cZ, 40, .inl (fun _ => 0))), ((r 42), .inl (cI, 40, .inl (fun _ => 0))), ((r 43), .inl (cI, 40, .inl (fun _ => 0))), ((r 44), .inl (cI, 40, .inl (fun _ => 0))), ((n 0), .inr (11, fM n)), ((n 7), .inl (cI, 2, .inl (upd (fun _ => 0) 0 3))), ((n 27), .inl (cI, 6, .inl (upd (upd (upd (upd (fun _ => 0) 1 1) 2 2) 4 1) 5 2))), ((n 29), .inl (cI, 40, .inl (fun _ => 0))), ((n 30), .inl (cI, 40, .inl (fun _ => 0)))]) (hS : va_S (fun q : Nat => s.heap.size ≤ q) s.heap H locs) (ls : Array Slot) (hl : lv_has ls 4 [(3, .int 0), (2, .ref (n 0)), (1, .ref (r 0)), (0, .ref b)]) : W p l e room_1 s m #[Value.ref b] below meth c H locs 135 85080 (lw_Z below #[Value.ref b] s) (F0 m 440 ls []) := by
  obtain ⟨hx, hb, hr, hml, hown, hts0, hX, hbl, hlocks, hgv⟩ := C0
  have hts : ∀ w ∈ wsL_law, w.before #[Value.ref b] s = true := fun w h => hts0 w (wsL_law_in w h)
  have hA : ∀ q : Nat, s.heap.size ≤ q → (fun q : Nat => s.heap.size ≤ q) q := fun _ h => h
  have hbA : ¬ (fun q : Nat => s.heap.size ≤ q) b := Nat.not_le.mpr hbl
  have hown : s.vm.findClass RL = some m.cls := hown
  refine lv_aload_n hx hb dL_law_440 rfl (lv_at hl 2 rfl) ?_
  refine lv_aload_n hx hb dL_law_441 rfl (lv_at hl 3 rfl) ?_
  refine lv_iload_n hx hb dL_law_442 rfl (lv_at hl 0 rfl) ?_
  refine lv_iconst (v := 1) hx hb dL_law_443 z39 ?_
  refine lv_iadd hx hb dL_law_444 ?_
  refine tpi z281 ?_
  refine va_sld hx hb hX hbl hbA hS (vin _ _ rfl) dL_law_445 ?_
  refine tpv (v := .int 1) (congrArg Value.int e1) ?_
  refine lv_aload_n hx hb dL_law_446 rfl (lv_at hl 3 rfl) ?_
  refine lv_iload_n hx hb dL_law_447 rfl (lv_at hl 0 rfl) ?_
  refine lv_iconst (v := 2) hx hb dL_law_448 z54 ?_
  refine lv_iadd hx hb dL_law_449 ?_
  refine tpi z362 ?_
  refine va_sld hx hb hX hbl hbA hS (vin _ _ rfl) dL_law_450 ?_
  refine tpv (v := .int x2) (congrArg Value.int e2) ?_
  refine call_iV (ci := 10) (As := [.int 1, .int x2]) (rest := []) (wr := [((n 0), .inr (11, fM n)), ((n 7), .inl (cI, 2, .inl (upd (fun _ => 0) 0 3))), ((n 27), .inl (cI, 6, .inl (upd (upd (upd (upd (fun _ => 0) 1 1) 2 2) 4 1) 5 2))), ((n 29), .inl (cI, 40, .inl (fun _ => 0))), ((n 30), .inl (cI, 40, .inl (fun _ => 0)))]) ⟨hx, hb, hml, hown, hts⟩ (k156_X10_sell l dC dI cB cI cJ cZ cO r x2 h0 h1) (cwV 2 hts gL_law_X10_sell rfl rfl rfl ⟨rfl, z972⟩ ⟨Nat.le_of_ble_eq_true rfl, Nat.le_of_ble_eq_true rfl⟩) hK hP hD hS hA [0, 1, 2, 3, 4, 5, 6, 7] [8, 9, 10, 11, 12] rfl rfl (by decide +kernel) (by decide +kernel) (by decide +kernel) rfl rfl rfl hl.1 (Nat.le_of_ble_eq_true rfl) rfl rfl dL_law_451 ⟨by decide +kernel, by decide +kernel⟩ (fun u0 H locs hP hD hS => ?_)
  refine lv_aload_n hx hb dL_law_454 rfl (lv_at hl 1 rfl) ?_
  refine lv_aload_n hx hb dL_law_455 rfl (lv_at hl 3 rfl) ?_
  refine lv_iload_n hx hb dL_law_456 rfl (lv_at hl 0 rfl) ?_
  refine lv_iconst (v := 1) hx hb dL_law_457 z39 ?_
  refine lv_iadd hx hb dL_law_458 ?_
  refine tpi z281 ?_
  refine va_sld hx hb hX hbl hbA hS (vin _ _ rfl) dL_law_459 ?_
  refine tpv (v := .int 1) (congrArg Value.int e1) ?_
  refine lv_aload_n hx hb dL_law_460 rfl (lv_at hl 3 rfl) ?_
  refine lv_iload_n hx hb dL_law_461 rfl (lv_at hl 0 rfl) ?_
  refine lv_iconst (v := 2) hx hb dL_law_462 z54 ?_
  refine lv_iadd hx hb dL_law_463 ?_
  refine tpi z362 ?_
  refine va_sld hx hb hX hbl hbA hS (vin _ _ rfl) dL_law_464 ?_
  refine tpv (v := .int x2) (congrArg Value.int e2) ?_
  refine call_iV (ci := 11) (As := [.int 1, .int x2]) (rest := [.int 1]) (wr := []) ⟨hx, hb, hml, hown, hts⟩ (k158_X11_sell l dC dI cB cI cJ cZ cO n x2 h0 h2) (cwV 2 hts gL_law_X11_sell rfl rfl rfl ⟨rfl, z973⟩ ⟨Nat.le_of_ble_eq_true rfl, Nat.le_of_ble_eq_true rfl⟩) hK hP hD hS hA [0, 1, 2, 3, 4] [] rfl rfl (by decide +kernel) (by decide +kernel) (by decide +kernel) rfl rfl rfl hl.1 (Nat.le_of_ble_eq_true rfl) rfl rfl dL_law_465 ⟨by decide +kernel, by decide +kernel⟩ (fun u1 H locs hP hD hS => ?_)
  refine lv_icmp_eq (tgt := 1093) hx hb dL_law_468 z971 (fun _ => ?_) (fun c1 => absurd (rfl) c1)
  refine lv_iinc (v := 6) (lv' := [(3, .int 6), (2, .ref (n 0)), (1, .ref (r 0)), (0, .ref b)]) hx hb dL_law_1093 hl (k := 0) rfl z943 (nlt rfl) rfl (fun ls hl => ?_)
  refine lv_goto (tgt := 18) hx hb dL_law_1096 z944 ?_
  refine lv_iload_n hx hb dL_law_18 rfl (lv_at hl 0 rfl) ?_
  refine lv_aload_n hx hb dL_law_19 rfl (lv_at hl 3 rfl) ?_
  refine va_slen hx hb hX hbl hbA hS dL_law_20 ?_
  refine tpv (v := .int 6) rfl ?_
  refine lv_bipush (v := 6) hx hb dL_law_21 z4 ?_
  refine lv_isub hx hb dL_law_23 ?_
  refine tpi z945 ?_
  refine lv_icmp_gt (tgt := 1099) hx hb dL_law_24 z947 (fun _ => ?_) (fun c1 => absurd (z946) c1)
  refine lv_iconst (v := 1) hx hb dL_law_1099 z39 ?_
  refine va_forget (fun q hq => hS.2.2 q hq) ?_
  refine W.widen (k := 600000) (n := 7302250) (by decide) (by decide) ?_
  exact lw_ret hx hb hr hlocks dL_law_1100

set_option maxHeartbeats 4000000 in
set_option maxRecDepth 100000 in
theorem lc_8_7 {p : Program} {e : Env} {s : State} {m : MethodId} {below : List Frame} {meth : Method} {c : Code} (l : Launch) {b : Nat} {xs : Nat → Int32} (C0 : lw_At p s m meth c b 6 xs) (dC : Nat → ClassId) (dI : Nat → Nat → Nat) (cB cI cJ cZ cO : ClassId) (r n : Nat → Nat) (x2 : Int32) (e1 : xs 1 = 1) (e2 : xs 2 = x2) (h0 : ¬ x2 < 0) (h1 : 3 ≤ x2) (h2 : 2 < x2) (H : Heap) (locs : List Loc) (hK : va_K (dC, dI) vwCl (tyL cB cI cJ cZ cO) s) (hP : va_P (dC, dI) vwCl [((r 0), .inr (10, fX r)), ((r 18), .inr (4, [.int 0, .ref (r 19), .ref (r 20), .int 0, .ref (r 21), .ref (r 22), .int 0, .ref (r 23), .ref (r 24), .int 0, .ref (r 25), .ref (r 26), .int 3, .int 0, .int 0, .ref (r 27)])), ((r 38), .inr (0, [.ref (r 39), .int 0, .ref (r 40), .ref (r 41), .ref (r 42), .ref (r 43), .ref (r 44), .int 0, .int 0])), ((n 0), .inr (11, fM n)), ((n 7), .inl (cI, 2, .inl (upd (fun _ => 0) 0 3)))] H) (hD : va_D (fun q : Nat => s.heap.size ≤ q) [((r 0), .inr (10, fX r)), ((r 18), .inr (4, [.int 0, .ref (r 19), .ref (r 20), .int 0, .ref (r 21), .ref (r 22), .int 0, .ref (r 23), .ref (r 24), .int 0, .ref (r 25), .ref (r 26), .int 3, .int 0, .int 0, .ref (r 27)])), ((r 38), .inr (0, [.ref (r 39), .int 0, .ref (r 40), .ref (r 41), .ref (r 42), .ref (r 43), .ref (r 44), .int 0, .int 0])), ((n 0), .inr (11, fM n)), ((n 7), .inl (cI, 2, .inl (upd (fun _ => 0) 0 3)))]) (hS : va_S (fun q : Nat => s.heap.size ≤ q) s.heap H locs) (ls : Array Slot) (hl : lv_has ls 4 [(3, .int 0), (2, .ref (n 0)), (1, .ref (r 0)), (0, .ref b)]) : W p l e room_1 s m #[Value.ref b] below meth c H locs 135 85080 (lw_Z below #[Value.ref b] s) (F0 m 440 ls []) := by
  obtain ⟨hx, hb, hr, hml, hown, hts0, hX, hbl, hlocks, hgv⟩ := C0
  have hts : ∀ w ∈ wsL_law, w.before #[Value.ref b] s = true := fun w h => hts0 w (wsL_law_in w h)
  have hA : ∀ q : Nat, s.heap.size ≤ q → (fun q : Nat => s.heap.size ≤ q) q := fun _ h => h
  have hbA : ¬ (fun q : Nat => s.heap.size ≤ q) b := Nat.not_le.mpr hbl
  have hown : s.vm.findClass RL = some m.cls := hown
  refine lv_aload_n hx hb dL_law_440 rfl (lv_at hl 2 rfl) ?_
  refine lv_aload_n hx hb dL_law_441 rfl (lv_at hl 3 rfl) ?_
  refine lv_iload_n hx hb dL_law_442 rfl (lv_at hl 0 rfl) ?_
  refine lv_iconst (v := 1) hx hb dL_law_443 z39 ?_
  refine lv_iadd hx hb dL_law_444 ?_
  refine tpi z281 ?_
  refine va_sld hx hb hX hbl hbA hS (vin _ _ rfl) dL_law_445 ?_
  refine tpv (v := .int 1) (congrArg Value.int e1) ?_
  refine lv_aload_n hx hb dL_law_446 rfl (lv_at hl 3 rfl) ?_
  refine lv_iload_n hx hb dL_law_447 rfl (lv_at hl 0 rfl) ?_
  refine lv_iconst (v := 2) hx hb dL_law_448 z54 ?_
  refine lv_iadd hx hb dL_law_449 ?_
  refine tpi z362 ?_
  refine va_sld hx hb hX hbl hbA hS (vin _ _ rfl) dL_law_450 ?_
  refine tpv (v := .int x2) (congrArg Value.int e2) ?_
  refine call_iV (ci := 10) (As := [.int 1, .int x2]) (rest := []) (wr := [((n 0), .inr (11, fM n)), ((n 7), .inl (cI, 2, .inl (upd (fun _ => 0) 0 3)))]) ⟨hx, hb, hml, hown, hts⟩ (k159_X10_sell l dC dI cB cI cJ cZ cO r x2 h0 h1) (cwV 2 hts gL_law_X10_sell rfl rfl rfl ⟨rfl, z972⟩ ⟨Nat.le_of_ble_eq_true rfl, Nat.le_of_ble_eq_true rfl⟩) hK hP hD hS hA [0, 1, 2] [3, 4] rfl rfl (by decide +kernel) (by decide +kernel) (by decide +kernel) rfl rfl rfl hl.1 (Nat.le_of_ble_eq_true rfl) rfl rfl dL_law_451 ⟨by decide +kernel, by decide +kernel⟩ (fun u0 H locs hP hD hS => ?_)
  refine lv_aload_n hx hb dL_law_454 rfl (lv_at hl 1 rfl) ?_
  refine lv_aload_n hx hb dL_law_455 rfl (lv_at hl 3 rfl) ?_
  refine lv_iload_n hx hb dL_law_456 rfl (lv_at hl 0 rfl) ?_
  refine lv_iconst (v := 1) hx hb dL_law_457 z39 ?_
  refine lv_iadd hx hb dL_law_458 ?_
  refine tpi z281 ?_
  refine va_sld hx hb hX hbl hbA hS (vin _ _ rfl) dL_law_459 ?_
  refine tpv (v := .int 1) (congrArg Value.int e1) ?_
  refine lv_aload_n hx hb dL_law_460 rfl (lv_at hl 3 rfl) ?_
  refine lv_iload_n hx hb dL_law_461 rfl (lv_at hl 0 rfl) ?_
  refine lv_iconst (v := 2) hx hb dL_law_462 z54 ?_
  refine lv_iadd hx hb dL_law_463 ?_
  refine tpi z362 ?_
  refine va_sld hx hb hX hbl hbA hS (vin _ _ rfl) dL_law_464 ?_
  refine tpv (v := .int x2) (congrArg Value.int e2) ?_
  refine call_iV (ci := 11) (As := [.int 1, .int x2]) (rest := [.int (-1)]) (wr := []) ⟨hx, hb, hml, hown, hts⟩ (k160_X11_sell l dC dI cB cI cJ cZ cO n x2 h0 h2) (cwV 2 hts gL_law_X11_sell rfl rfl rfl ⟨rfl, z973⟩ ⟨Nat.le_of_ble_eq_true rfl, Nat.le_of_ble_eq_true rfl⟩) hK hP hD hS hA [0, 1] [] rfl rfl (by decide +kernel) (by decide +kernel) (by decide +kernel) rfl rfl rfl hl.1 (Nat.le_of_ble_eq_true rfl) rfl rfl dL_law_465 ⟨by decide +kernel, by decide +kernel⟩ (fun u1 H locs hP hD hS => ?_)
  refine lv_icmp_eq (tgt := 1093) hx hb dL_law_468 z971 (fun _ => ?_) (fun c1 => absurd (rfl) c1)
  refine lv_iinc (v := 6) (lv' := [(3, .int 6), (2, .ref (n 0)), (1, .ref (r 0)), (0, .ref b)]) hx hb dL_law_1093 hl (k := 0) rfl z943 (nlt rfl) rfl (fun ls hl => ?_)
  refine lv_goto (tgt := 18) hx hb dL_law_1096 z944 ?_
  refine lv_iload_n hx hb dL_law_18 rfl (lv_at hl 0 rfl) ?_
  refine lv_aload_n hx hb dL_law_19 rfl (lv_at hl 3 rfl) ?_
  refine va_slen hx hb hX hbl hbA hS dL_law_20 ?_
  refine tpv (v := .int 6) rfl ?_
  refine lv_bipush (v := 6) hx hb dL_law_21 z4 ?_
  refine lv_isub hx hb dL_law_23 ?_
  refine tpi z945 ?_
  refine lv_icmp_gt (tgt := 1099) hx hb dL_law_24 z947 (fun _ => ?_) (fun c1 => absurd (z946) c1)
  refine lv_iconst (v := 1) hx hb dL_law_1099 z39 ?_
  refine va_forget (fun q hq => hS.2.2 q hq) ?_
  refine W.widen (k := 600000) (n := 7302250) (by decide) (by decide) ?_
  exact lw_ret hx hb hr hlocks dL_law_1100

set_option maxHeartbeats 4000000 in
set_option maxRecDepth 100000 in
theorem lc_8_8 {p : Program} {e : Env} {s : State} {m : MethodId} {below : List Frame} {meth : Method} {c : Code} (l : Launch) {b : Nat} {xs : Nat → Int32} (C0 : lw_At p s m meth c b 6 xs) (dC : Nat → ClassId) (dI : Nat → Nat → Nat) (cB cI cJ cZ cO : ClassId) (r n : Nat → Nat) (x2 : Int32) (e1 : xs 1 = 2) (e2 : xs 2 = x2) (h0 : x2 < 0) (H : Heap) (locs : List Loc) (hK : va_K (dC, dI) vwCl (tyL cB cI cJ cZ cO) s) (hP : va_P (dC, dI) vwCl [((r 0), .inr (10, fX r)), ((r 18), .inr (4, [.int 0, .ref (r 19), .ref (r 20), .int 0, .ref (r 21), .ref (r 22), .int 0, .ref (r 23), .ref (r 24), .int 0, .ref (r 25), .ref (r 26), .int 3, .int 0, .int 0, .ref (r 27)])), ((r 38), .inr (0, [.ref (r 39), .int 0, .ref (r 40), .ref (r 41), .ref (r 42), .ref (r 43), .ref (r 44), .int 0, .int 0])), ((n 0), .inr (11, fM n)), ((n 7), .inl (cI, 2, .inl (upd (fun _ => 0) 0 3)))] H) (hD : va_D (fun q : Nat => s.heap.size ≤ q) [((r 0), .inr (10, fX r)), ((r 18), .inr (4, [.int 0, .ref (r 19), .ref (r 20), .int 0, .ref (r 21), .ref (r 22), .int 0, .ref (r 23), .ref (r 24), .int 0, .ref (r 25), .ref (r 26), .int 3, .int 0, .int 0, .ref (r 27)])), ((r 38), .inr (0, [.ref (r 39), .int 0, .ref (r 40), .ref (r 41), .ref (r 42), .ref (r 43), .ref (r 44), .int 0, .int 0])), ((n 0), .inr (11, fM n)), ((n 7), .inl (cI, 2, .inl (upd (fun _ => 0) 0 3)))]) (hS : va_S (fun q : Nat => s.heap.size ≤ q) s.heap H locs) (ls : Array Slot) (hl : lv_has ls 4 [(3, .int 0), (2, .ref (n 0)), (1, .ref (r 0)), (0, .ref b)]) : W p l e room_1 s m #[Value.ref b] below meth c H locs 135 85080 (lw_Z below #[Value.ref b] s) (F0 m 440 ls []) := by
  obtain ⟨hx, hb, hr, hml, hown, hts0, hX, hbl, hlocks, hgv⟩ := C0
  have hts : ∀ w ∈ wsL_law, w.before #[Value.ref b] s = true := fun w h => hts0 w (wsL_law_in w h)
  have hA : ∀ q : Nat, s.heap.size ≤ q → (fun q : Nat => s.heap.size ≤ q) q := fun _ h => h
  have hbA : ¬ (fun q : Nat => s.heap.size ≤ q) b := Nat.not_le.mpr hbl
  have hown : s.vm.findClass RL = some m.cls := hown
  refine lv_aload_n hx hb dL_law_440 rfl (lv_at hl 2 rfl) ?_
  refine lv_aload_n hx hb dL_law_441 rfl (lv_at hl 3 rfl) ?_
  refine lv_iload_n hx hb dL_law_442 rfl (lv_at hl 0 rfl) ?_
  refine lv_iconst (v := 1) hx hb dL_law_443 z39 ?_
  refine lv_iadd hx hb dL_law_444 ?_
  refine tpi z281 ?_
  refine va_sld hx hb hX hbl hbA hS (vin _ _ rfl) dL_law_445 ?_
  refine tpv (v := .int 2) (congrArg Value.int e1) ?_
  refine lv_aload_n hx hb dL_law_446 rfl (lv_at hl 3 rfl) ?_
  refine lv_iload_n hx hb dL_law_447 rfl (lv_at hl 0 rfl) ?_
  refine lv_iconst (v := 2) hx hb dL_law_448 z54 ?_
  refine lv_iadd hx hb dL_law_449 ?_
  refine tpi z362 ?_
  refine va_sld hx hb hX hbl hbA hS (vin _ _ rfl) dL_law_450 ?_
  refine tpv (v := .int x2) (congrArg Value.int e2) ?_
  refine call_iV (ci := 10) (As := [.int 2, .int x2]) (rest := []) (wr := [((n 0), .inr (11, fM n)), ((n 7), .inl (cI, 2, .inl (upd (fun _ => 0) 0 3)))]) ⟨hx, hb, hml, hown, hts⟩ (k162_X10_sell l dC dI cB cI cJ cZ cO r x2 h0) (cwV 2 hts gL_law_X10_sell rfl rfl rfl ⟨rfl, z972⟩ ⟨Nat.le_of_ble_eq_true rfl, Nat.le_of_ble_eq_true rfl⟩) hK hP hD hS hA [0, 1, 2] [3, 4] rfl rfl (by decide +kernel) (by decide +kernel) (by decide +kernel) rfl rfl rfl hl.1 (Nat.le_of_ble_eq_true rfl) rfl rfl dL_law_451 ⟨by decide +kernel, by decide +kernel⟩ (fun u0 H locs hP hD hS => ?_)
  refine lv_aload_n hx hb dL_law_454 rfl (lv_at hl 1 rfl) ?_
  refine lv_aload_n hx hb dL_law_455 rfl (lv_at hl 3 rfl) ?_
  refine lv_iload_n hx hb dL_law_456 rfl (lv_at hl 0 rfl) ?_
  refine lv_iconst (v := 1) hx hb dL_law_457 z39 ?_
  refine lv_iadd hx hb dL_law_458 ?_
  refine tpi z281 ?_
  refine va_sld hx hb hX hbl hbA hS (vin _ _ rfl) dL_law_459 ?_
  refine tpv (v := .int 2) (congrArg Value.int e1) ?_
  refine lv_aload_n hx hb dL_law_460 rfl (lv_at hl 3 rfl) ?_
  refine lv_iload_n hx hb dL_law_461 rfl (lv_at hl 0 rfl) ?_
  refine lv_iconst (v := 2) hx hb dL_law_462 z54 ?_
  refine lv_iadd hx hb dL_law_463 ?_
  refine tpi z362 ?_
  refine va_sld hx hb hX hbl hbA hS (vin _ _ rfl) dL_law_464 ?_
  refine tpv (v := .int x2) (congrArg Value.int e2) ?_
  refine call_iV (ci := 11) (As := [.int 2, .int x2]) (rest := [.int (-1)]) (wr := []) ⟨hx, hb, hml, hown, hts⟩ (k163_X11_sell l dC dI cB cI cJ cZ cO n x2 h0) (cwV 2 hts gL_law_X11_sell rfl rfl rfl ⟨rfl, z973⟩ ⟨Nat.le_of_ble_eq_true rfl, Nat.le_of_ble_eq_true rfl⟩) hK hP hD hS hA [0, 1] [] rfl rfl (by decide +kernel) (by decide +kernel) (by decide +kernel) rfl rfl rfl hl.1 (Nat.le_of_ble_eq_true rfl) rfl rfl dL_law_465 ⟨by decide +kernel, by decide +kernel⟩ (fun u1 H locs hP hD hS => ?_)
  refine lv_icmp_eq (tgt := 1093) hx hb dL_law_468 z971 (fun _ => ?_) (fun c1 => absurd (rfl) c1)
  refine lv_iinc (v := 6) (lv' := [(3, .int 6), (2, .ref (n 0)), (1, .ref (r 0)), (0, .ref b)]) hx hb dL_law_1093 hl (k := 0) rfl z943 (nlt rfl) rfl (fun ls hl => ?_)
  refine lv_goto (tgt := 18) hx hb dL_law_1096 z944 ?_
  refine lv_iload_n hx hb dL_law_18 rfl (lv_at hl 0 rfl) ?_
  refine lv_aload_n hx hb dL_law_19 rfl (lv_at hl 3 rfl) ?_
  refine va_slen hx hb hX hbl hbA hS dL_law_20 ?_
  refine tpv (v := .int 6) rfl ?_
  refine lv_bipush (v := 6) hx hb dL_law_21 z4 ?_
  refine lv_isub hx hb dL_law_23 ?_
  refine tpi z945 ?_
  refine lv_icmp_gt (tgt := 1099) hx hb dL_law_24 z947 (fun _ => ?_) (fun c1 => absurd (z946) c1)
  refine lv_iconst (v := 1) hx hb dL_law_1099 z39 ?_
  refine va_forget (fun q hq => hS.2.2 q hq) ?_
  refine W.widen (k := 600000) (n := 7302250) (by decide) (by decide) ?_
  exact lw_ret hx hb hr hlocks dL_law_1100
