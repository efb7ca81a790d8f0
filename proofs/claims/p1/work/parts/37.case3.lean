set_option maxHeartbeats 4000000 in
set_option maxRecDepth 100000 in
theorem lc_18_1 {p : Program} {e : Env} {s : State} {m : MethodId} {below : List Frame} {meth : Method} {c : Code} (l : Launch) {b : Nat} {xs : Nat → Int32} (C0 : lw_At p s m meth c b 6 xs) (dC : Nat → ClassId) (dI : Nat → Nat → Nat) (cB cI cJ cZ cO : ClassId) (r n : Nat → Nat) (x1 : Int32) (x2 : Int32) (e1 : xs 1 = x1) (e2 : xs 2 = x2) (h0 : ¬ x1 < 0) (h1 : 3 ≤ x1) (h2 : 2 < x1) (H : Heap) (locs : List Loc) (hK : va_K (dC, dI) vwCl (tyL cB cI cJ cZ cO) s) (hP : va_P (dC, dI) vwCl [((r 0), .inr (10, fX r)), ((r 38), .inr (0, [.ref (r 39), .int 0, .ref (r 40), .ref (r 41), .ref (r 42), .ref (r 43), .ref (r 44), .int 0, .int 0])), ((r 65), .inr (9, [.int 0, .int 0, .ref (r 66), .ref (r 67), .ref (r 68), .ref (r 69), .int 0, .int 0, .int 0, .int 0, .int 0])), ((r 18), .inr (4, [.int 0, .ref (r 19), .ref (r 20), .int 0, .ref (r 21), .ref (r 22), .int 0, .ref (r 23), .ref (r 24), .int 0, .ref (r 25), .ref (r 26), .int 3, .int 0, .int 0, .ref (r 27)])), ((r 66), .inl (cI, 3000, .inl (fun _ => 0))), ((r 67), .inl (cI, 3000, .inl (fun _ => 0))), ((r 69), .inl (cI, 3000, .inl (fun _ => 0))), ((r 68), .inl (cI, 9000, .inl (fun _ => 0))), ((r 55), .inr (5, [.ref (r 56), .ref (r 57)])), ((n 0), .inr (11, fM n))] H) (hD : va_D (fun q : Nat => s.heap.size ≤ q) [((r 0), .inr (10, fX r)), ((r 38), .inr (0, [.ref (r 39), .int 0, .ref (r 40), .ref (r 41), .ref (r 42), .ref (r 43), .ref (r 44), .int 0, .int 0])), ((r 65), .inr (9, [.int 0, .int 0, .ref (r 66), .ref (r 67), .ref (r 68), .ref (r 69), .int 0, .int 0, .int 0, .int 0, .int 0])), ((r 18), .inr (4, [.int 0, .ref (r 19), .ref (r 20), .int 0, .ref (r 21), .ref (r 22), .int 0, .ref (r 23), .ref (r 24), .int 0, .ref (r 25), .ref (r 26), .int 3, .int 0, .int 0, .ref (r 27)])), ((r 66), .inl (cI, 3000, .inl (fun _ => 0))), ((r 67), .inl (cI, 3000, .inl (fun _ => 0))), ((r 69), .inl (cI, 3000, .inl (fun _ => 0))), ((r 68), .inl (cI, 9000, .inl (fun _ => 0))), ((r 55), .inr (5, [.ref (r 56), .ref (r 57)])), ((n 0), .inr (11, fM n))]) (hS : va_S (fun q : Nat => s.heap.size ≤ q) s.heap H locs) (ls : Array Slot) (hl : lv_has ls 4 [(3, .int 0), (2, .ref (n 0)), (1, .ref (r 0)), (0, .ref b)]) : W p l e room_1 s m #[Value.ref b] below meth c H locs 135 85080 (lw_Z below #[Value.ref b] s) (F0 m 630 ls []) := by
  obtain ⟨hx, hb, hr, hml, hown, hts0, hX, hbl, hlocks, hgv⟩ := C0
  have hts : ∀ w ∈ wsL_law, w.before #[Value.ref b] s = true := fun w h => hts0 w (wsL_law_in w h)
  have hA : ∀ q : Nat, s.heap.size ≤ q → (fun q : Nat => s.heap.size ≤ q) q := fun _ h => h
  have hbA : ¬ (fun q : Nat => s.heap.size ≤ q) b := Nat.not_le.mpr hbl
  have hown : s.vm.findClass RL = some m.cls := hown
  refine lv_aload_n hx hb dL_law_630 rfl (lv_at hl 2 rfl) ?_
  refine lv_aload_n hx hb dL_law_631 rfl (lv_at hl 3 rfl) ?_
  refine lv_iload_n hx hb dL_law_632 rfl (lv_at hl 0 rfl) ?_
  refine lv_iconst (v := 1) hx hb dL_law_633 z39 ?_
  refine lv_iadd hx hb dL_law_634 ?_
  refine tpi z281 ?_
  refine va_sld hx hb hX hbl hbA hS (vin _ _ rfl) dL_law_635 ?_
  refine tpv (v := .int x1) (congrArg Value.int e1) ?_
  refine lv_aload_n hx hb dL_law_636 rfl (lv_at hl 3 rfl) ?_
  refine lv_iload_n hx hb dL_law_637 rfl (lv_at hl 0 rfl) ?_
  refine lv_iconst (v := 2) hx hb dL_law_638 z54 ?_
  refine lv_iadd hx hb dL_law_639 ?_
  refine tpi z362 ?_
  refine va_sld hx hb hX hbl hbA hS (vin _ _ rfl) dL_law_640 ?_
  refine tpv (v := .int x2) (congrArg Value.int e2) ?_
  refine call_iV (ci := 10) (As := [.int x1, .int x2]) (rest := []) (wr := [((n 0), .inr (11, fM n))]) ⟨hx, hb, hml, hown, hts⟩ (k250_X10_share l dC dI cB cI cJ cZ cO r x1 x2 h0 h1) (cwV 2 hts gL_law_X10_share rfl rfl rfl ⟨rfl, z1002⟩ ⟨Nat.le_of_ble_eq_true rfl, Nat.le_of_ble_eq_true rfl⟩) hK hP hD hS hA [0, 1, 2, 3, 4, 5, 6, 7, 8] [9] rfl rfl (by decide +kernel) (by decide +kernel) (by decide +kernel) rfl rfl rfl hl.1 (Nat.le_of_ble_eq_true rfl) rfl rfl dL_law_641 ⟨by decide +kernel, by decide +kernel⟩ (fun u0 H locs hP hD hS => ?_)
  refine lv_aload_n hx hb dL_law_644 rfl (lv_at hl 1 rfl) ?_
  refine lv_aload_n hx hb dL_law_645 rfl (lv_at hl 3 rfl) ?_
  refine lv_iload_n hx hb dL_law_646 rfl (lv_at hl 0 rfl) ?_
  refine lv_iconst (v := 1) hx hb dL_law_647 z39 ?_
  refine lv_iadd hx hb dL_law_648 ?_
  refine tpi z281 ?_
  refine va_sld hx hb hX hbl hbA hS (vin _ _ rfl) dL_law_649 ?_
  refine tpv (v := .int x1) (congrArg Value.int e1) ?_
  refine lv_aload_n hx hb dL_law_650 rfl (lv_at hl 3 rfl) ?_
  refine lv_iload_n hx hb dL_law_651 rfl (lv_at hl 0 rfl) ?_
  refine lv_iconst (v := 2) hx hb dL_law_652 z54 ?_
  refine lv_iadd hx hb dL_law_653 ?_
  refine tpi z362 ?_
  refine va_sld hx hb hX hbl hbA hS (vin _ _ rfl) dL_law_654 ?_
  refine tpv (v := .int x2) (congrArg Value.int e2) ?_
  refine call_iV (ci := 11) (As := [.int x1, .int x2]) (rest := [.int (-1000000)]) (wr := []) ⟨hx, hb, hml, hown, hts⟩ (k251_X11_share l dC dI cB cI cJ cZ cO n x1 x2 h0 h2) (cwV 2 hts gL_law_X11_share rfl rfl rfl ⟨rfl, z1003⟩ ⟨Nat.le_of_ble_eq_true rfl, Nat.le_of_ble_eq_true rfl⟩) hK hP hD hS hA [0] [] rfl rfl (by decide +kernel) (by decide +kernel) (by decide +kernel) rfl rfl rfl hl.1 (Nat.le_of_ble_eq_true rfl) rfl rfl dL_law_655 ⟨by decide +kernel, by decide +kernel⟩ (fun u1 H locs hP hD hS => ?_)
  refine lv_icmp_eq (tgt := 1093) hx hb dL_law_658 z1001 (fun _ => ?_) (fun c1 => absurd (rfl) c1)
  refine lv_iinc (v := 6) (lv' := [(3, .int 6), (2, .ref (n 0)), (1, .ref (r 0)), (0, .ref b)]) hx hb dL_law_1093 hl (k := 0) rfl z943 (nlt rfl) rfl (fun ls hl => ?_)
  refine lv_goto (tgt := 18) hx hb dL_law_1096 z944 ?_
  refine lv_iload_n hx hb dL_law_18 rfl (lv_at hl 0 rfl) ?_
  refine lv_aload_n hx hb dL_law_19 rfl (lv_at hl 3 rfl) ?_
  refine va_slen hx hb hX hbl hbA hS dL_law_20 ?_
  refine tpv (v := .int 6) rfl ?_
  refine lv_bipush (v := 6) hx hb dL_law_21 z4 ?_
  refine lv_isub hx hb dL_law_23 ?_
  refine tpi z945 ?_
  refine lv_icmp_gt (tgt := 1099) hx hb dL_law_24 z947 (fun _ => ?_) (fun c1 => absurd (z946) c1)
  refine lv_iconst (v := 1) hx hb dL_law_1099 z39 ?_
  refine va_forget (fun q hq => hS.2.2 q hq) ?_
  refine W.widen (k := 600000) (n := 7302250) (by decide) (by decide) ?_
  exact lw_ret hx hb hr hlocks dL_law_1100

set_option maxHeartbeats 4000000 in
set_option maxRecDepth 100000 in
theorem lc_18_2 {p : Program} {e : Env} {s : State} {m : MethodId} {below : List Frame} {meth : Method} {c : Code} (l : Launch) {b : Nat} {xs : Nat → Int32} (C0 : lw_At p s m meth c b 6 xs) (dC : Nat → ClassId) (dI : Nat → Nat → Nat) (cB cI cJ cZ cO : ClassId) (r n : Nat → Nat) (x1 : Int32) (x2 : Int32) (e1 : xs 1 = x1) (e2 : xs 2 = x2) (h0 : ¬ x1 < 0) (h1 : ¬ 3 ≤ x1) (h2 : x2 < 0) (h3 : ¬ 2 < x1) (H : Heap) (locs : List Loc) (hK : va_K (dC, dI) vwCl (tyL cB cI cJ cZ cO) s) (hP : va_P (dC, dI) vwCl [((r 0), .inr (10, fX r)), ((r 38), .inr (0, [.ref (r 39), .int 0, .ref (r 40), .ref (r 41), .ref (r 42), .ref (r 43), .ref (r 44), .int 0, .int 0])), ((r 65), .inr (9, [.int 0, .int 0, .ref (r 66), .ref (r 67), .ref (r 68), .ref (r 69), .int 0, .int 0, .int 0, .int 0, .int 0])), ((r 18), .inr (4, [.int 0, .ref (r 19), .ref (r 20), .int 0, .ref (r 21), .ref (r 22), .int 0, .ref (r 23), .ref (r 24), .int 0, .ref (r 25), .ref (r 26), .int 3, .int 0, .int 0, .ref (r 27)])), ((r 66), .inl (cI, 3000, .inl (fun _ => 0))), ((r 67), .inl (cI, 3000, .inl (fun _ => 0))), ((r 69), .inl (cI, 3000, .inl (fun _ => 0))), ((r 68), .inl (cI, 9000, .inl (fun _ => 0))), ((r 55), .inr (5, [.ref (r 56), .ref (r 57)])), ((n 0), .inr (11, fM n))] H) (hD : va_D (fun q : Nat => s.heap.size ≤ q) [((r 0), .inr (10, fX r)), ((r 38), .inr (0, [.ref (r 39), .int 0, .ref (r 40), .ref (r 41), .ref (r 42), .ref (r 43), .ref (r 44), .int 0, .int 0])), ((r 65), .inr (9, [.int 0, .int 0, .ref (r 66), .ref (r 67), .ref (r 68), .ref (r 69), .int 0, .int 0, .int 0, .int 0, .int 0])), ((r 18), .inr (4, [.int 0, .ref (r 19), .ref (r 20), .int 0, .ref (r 21), .ref (r 22), .int 0, .ref (r 23), .ref (r 24), .int 0, .ref (r 25), .ref (r 26), .int 3, .int 0, .int 0, .ref (r 27)])), ((r 66), .inl (cI, 3000, .inl (fun _ => 0))), ((r 67), .inl (cI, 3000, .inl (fun _ => 0))), ((r 69), .inl (cI, 3000, .inl (fun _ => 0))), ((r 68), .inl (cI, 9000, .inl (fun _ => 0))), ((r 55), .inr (5, [.ref (r 56), .ref (r 57)])), ((n 0), .inr (11, fM n))]) (hS : va_S (fun q : Nat => s.heap.size ≤ q) s.heap H locs) (ls : Array Slot) (hl : lv_has ls 4 [(3, .int 0), (2, .ref (n 0)), (1, .ref (r 0)), (0, .ref b)]) : W p l e room_1 s m #[Value.ref b] below meth c H locs 135 85080 (lw_Z below #[Value.ref b] s) (F0 m 630 ls []) := by
  obtain ⟨hx, hb, hr, hml, hown, hts0, hX, hbl, hlocks, hgv⟩ := C0
  have hts : ∀ w ∈ wsL_law, w.before #[Value.ref b] s = true := fun w h => hts0 w (wsL_law_in w h)
  have hA : ∀ q : Nat, s.heap.size ≤ q → (fun q : Nat => s.heap.size ≤ q) q := fun _ h => h
  have hbA : ¬ (fun q : Nat => s.heap.size ≤ q) b := Nat.not_le.mpr hbl
  have hown : s.vm.findClass RL = some m.cls := hown
  refine lv_aload_n hx hb dL_law_630 rfl (lv_at hl 2 rfl) ?_
  refine lv_aload_n hx hb dL_law_631 rfl (lv_at hl 3 rfl) ?_
  refine lv_iload_n hx hb dL_law_632 rfl (lv_at hl 0 rfl) ?_
  refine lv_iconst (v := 1) hx hb dL_law_633 z39 ?_
  refine lv_iadd hx hb dL_law_634 ?_
  refine tpi z281 ?_
  refine va_sld hx hb hX hbl hbA hS (vin _ _ rfl) dL_law_635 ?_
  refine tpv (v := .int x1) (congrArg Value.int e1) ?_
  refine lv_aload_n hx hb dL_law_636 rfl (lv_at hl 3 rfl) ?_
  refine lv_iload_n hx hb dL_law_637 rfl (lv_at hl 0 rfl) ?_
  refine lv_iconst (v := 2) hx hb dL_law_638 z54 ?_
  refine lv_iadd hx hb dL_law_639 ?_
  refine tpi z362 ?_
  refine va_sld hx hb hX hbl hbA hS (vin _ _ rfl) dL_law_640 ?_
  refine tpv (v := .int x2) (congrArg Value.int e2) ?_
  refine call_iV (ci := 10) (As := [.int x1, .int x2]) (rest := []) (wr := [((n 0), .inr (11, fM n))]) ⟨hx, hb, hml, hown, hts⟩ (k252_X10_share l dC dI cB cI cJ cZ cO r x1 x2 h0 h1 h2) (cwV 2 hts gL_law_X10_share rfl rfl rfl ⟨rfl, z1002⟩ ⟨Nat.le_of_ble_eq_true rfl, Nat.le_of_ble_eq_true rfl⟩) hK hP hD hS hA [0, 1, 2, 3, 4, 5, 6, 7, 8] [9] rfl rfl (by decide +kernel) (by decide +kernel) (by decide +kernel) rfl rfl rfl hl.1 (Nat.le_of_ble_eq_true rfl) rfl rfl dL_law_641 ⟨by decide +kernel, by decide +kernel⟩ (fun u0 H locs hP hD hS => ?_)
  refine lv_aload_n hx hb dL_law_644 rfl (lv_at hl 1 rfl) ?_
  refine lv_aload_n hx hb dL_law_645 rfl (lv_at hl 3 rfl) ?_
  refine lv_iload_n hx hb dL_law_646 rfl (lv_at hl 0 rfl) ?_
  refine lv_iconst (v := 1) hx hb dL_law_647 z39 ?_
  refine lv_iadd hx hb dL_law_648 ?_
  refine tpi z281 ?_
  refine va_sld hx hb hX hbl hbA hS (vin _ _ rfl) dL_law_649 ?_
  refine tpv (v := .int x1) (congrArg Value.int e1) ?_
  refine lv_aload_n hx hb dL_law_650 rfl (lv_at hl 3 rfl) ?_
  refine lv_iload_n hx hb dL_law_651 rfl (lv_at hl 0 rfl) ?_
  refine lv_iconst (v := 2) hx hb dL_law_652 z54 ?_
  refine lv_iadd hx hb dL_law_653 ?_
  refine tpi z362 ?_
  refine va_sld hx hb hX hbl hbA hS (vin _ _ rfl) dL_law_654 ?_
  refine tpv (v := .int x2) (congrArg Value.int e2) ?_
  refine call_iV (ci := 11) (As := [.int x1, .int x2]) (rest := [.int (-1000000)]) (wr := []) ⟨hx, hb, hml, hown, hts⟩ (k254_X11_share l dC dI cB cI cJ cZ cO n x1 x2 h0 h3 h2) (cwV 2 hts gL_law_X11_share rfl rfl rfl ⟨rfl, z1003⟩ ⟨Nat.le_of_ble_eq_true rfl, Nat.le_of_ble_eq_true rfl⟩) hK hP hD hS hA [0] [] rfl rfl (by decide +kernel) (by decide +kernel) (by decide +kernel) rfl rfl rfl hl.1 (Nat.le_of_ble_eq_true rfl) rfl rfl dL_law_655 ⟨by decide +kernel, by decide +kernel⟩ (fun u1 H locs hP hD hS => ?_)
  refine lv_icmp_eq (tgt := 1093) hx hb dL_law_658 z1001 (fun _ => ?_) (fun c1 => absurd (rfl) c1)
  refine lv_iinc (v := 6) (lv' := [(3, .int 6), (2, .ref (n 0)), (1, .ref (r 0)), (0, .ref b)]) hx hb dL_law_1093 hl (k := 0) rfl z943 (nlt rfl) rfl (fun ls hl => ?_)
  refine lv_goto (tgt := 18) hx hb dL_law_1096 z944 ?_
  refine lv_iload_n hx hb dL_law_18 rfl (lv_at hl 0 rfl) ?_
  refine lv_aload_n hx hb dL_law_19 rfl (lv_at hl 3 rfl) ?_
  refine va_slen hx hb hX hbl hbA hS dL_law_20 ?_
  refine tpv (v := .int 6) rfl ?_
  refine lv_bipush (v := 6) hx hb dL_law_21 z4 ?_
  refine lv_isub hx hb dL_law_23 ?_
  refine tpi z945 ?_
  refine lv_icmp_gt (tgt := 1099) hx hb dL_law_24 z947 (fun _ => ?_) (fun c1 => absurd (z946) c1)
  refine lv_iconst (v := 1) hx hb dL_law_1099 z39 ?_
  refine va_forget (fun q hq => hS.2.2 q hq) ?_
  refine W.widen (k := 600000) (n := 7302250) (by decide) (by decide) ?_
  exact lw_ret hx hb hr hlocks dL_law_1100

set_option maxHeartbeats 4000000 in
set_option maxRecDepth 100000 in
theorem lc_18_3 {p : Program} {e : Env} {s : State} {m : MethodId} {below : List Frame} {meth : Method} {c : Code} (l : Launch) {b : Nat} {xs : Nat → Int32} (C0 : lw_At p s m meth c b 6 xs) (dC : Nat → ClassId) (dI : Nat → Nat → Nat) (cB cI cJ cZ cO : ClassId) (r n : Nat → Nat) (x1 : Int32) (x2 : Int32) (e1 : xs 1 = x1) (e2 : xs 2 = x2) (h0 : ¬ x1 < 0) (h1 : ¬ 3 ≤ x1) (h2 : ¬ x2 < 0) (h3 : ¬ 1 < x2) (h4 : ¬ 2 < x1) (H : Heap) (locs : List Loc) (hK : va_K (dC, dI) vwCl (tyL cB cI cJ cZ cO) s) (hP : va_P (dC, dI) vwCl [((r 0), .inr (10, fX r)), ((r 38), .inr (0, [.ref (r 39), .int 0, .ref (r 40), .ref (r 41), .ref (r 42), .ref (r 43), .ref (r 44), .int 0, .int 0])), ((r 65), .inr (9, [.int 0, .int 0, .ref (r 66), .ref (r 67), .ref (r 68), .ref (r 69), .int 0, .int 0, .int 0, .int 0, .int 0])), ((r 18), .inr (4, [.int 0, .ref (r 19), .ref (r 20), .int 0, .ref (r 21), .ref (r 22), .int 0, .ref (r 23), .ref (r 24), .int 0, .ref (r 25), .ref (r 26), .int 3, .int 0, .int 0, .ref (r 27)])), ((r 66), .inl (cI, 3000, .inl (fun _ => 0))), ((r 67), .inl (cI, 3000, .inl (fun _ => 0))), ((r 69), .inl (cI, 3000, .inl (fun _ => 0))), ((r 68), .inl (cI, 9000, .inl (fun _ => 0))), ((r 55), .inr (5, [.ref (r 56), .ref (r 57)])), ((n 0), .inr (11, fM n)), ((n 7), .inl (cI, 2, .inl (upd (fun _ => 0) 0 3))), ((n 21), .inl (cI, 6, .inl (fun _ => 0))), ((n 5), .inl (cI, 2, .inl (fun _ => 0)))] H) (hD : va_D (fun q : Nat => s.heap.size ≤ q) [((r 0), .inr (10, fX r)), ((r 38), .inr (0, [.ref (r 39), .int 0, .ref (r 40), .ref (r 41), .ref (r 42), .ref (r 43), .ref (r 44), .int 0, .int 0])), ((r 65), .inr (9, [.int 0, .int 0, .ref (r 66), .ref (r 67), .ref (r 68), .ref (r 69), .int 0, .int 0, .int 0, .int 0, .int 0])), ((r 18), .inr (4, [.int 0, .ref (r 19), .ref (r 20), .int 0, .ref (r 21), .ref (r 22), .int 0, .ref (r 23), .ref (r 24), .int 0, .ref (r 25), .ref (r 26), .int 3, .int 0, .int 0, .ref (r 27)])), ((r 66), .inl (cI, 3000, .inl (fun _ => 0))), ((r 67), .inl (cI, 3000, .inl (fun _ => 0))), ((r 69), .inl (cI, 3000, .inl (fun _ => 0))), ((r 68), .inl (cI, 9000, .inl (fun _ => 0))), ((r 55), .inr (5, [.ref (r 56), .ref (r 57)])), ((n 0), .inr (11, fM n)), ((n 7), .inl (cI, 2, .inl (upd (fun _ => 0) 0 3))), ((n 21), .inl (cI, 6, .inl (fun _ => 0))), ((n 5), .inl (cI, 2, .inl (fun _ => 0)))]) (hS : va_S (fun q : Nat => s.heap.size ≤ q) s.heap H locs) (ls : Array Slot) (hl : lv_has ls 4 [(3, .int 0), (2, .ref (n 0)), (1, .ref (r 0)), (0, .ref b)]) : W p l e room_1 s m #[Value.ref b] below meth c H locs 135 85080 (lw_Z below #[Value.ref b] s) (F0 m 630 ls []) := by
  obtain ⟨hx, hb, hr, hml, hown, hts0, hX, hbl, hlocks, hgv⟩ := C0
  have hts : ∀ w ∈ wsL_law, w.before #[Value.ref b] s = true := fun w h => hts0 w (wsL_law_in w h)
  have hA : ∀ q : Nat, s.heap.size ≤ q → (fun q : Nat => s.heap.size ≤ q) q := fun _ h => h
  have hbA : ¬ (fun q : Nat => s.heap.size ≤ q) b := Nat.not_le.mpr hbl
  have hown : s.vm.findClass RL = some m.cls := hown
  refine lv_aload_n hx hb dL_law_630 rfl (lv_at hl 2 rfl) ?_
  refine lv_aload_n hx hb dL_law_631 rfl (lv_at hl 3 rfl) ?_
  refine lv_iload_n hx hb dL_law_632 rfl (lv_at hl 0 rfl) ?_
  refine lv_iconst (v := 1) hx hb dL_law_633 z39 ?_
  refine lv_iadd hx hb dL_law_634 ?_
  refine tpi z281 ?_
  refine va_sld hx hb hX hbl hbA hS (vin _ _ rfl) dL_law_635 ?_
  refine tpv (v := .int x1) (congrArg Value.int e1) ?_
  refine lv_aload_n hx hb dL_law_636 rfl (lv_at hl 3 rfl) ?_
  refine lv_iload_n hx hb dL_law_637 rfl (lv_at hl 0 rfl) ?_
  refine lv_iconst (v := 2) hx hb dL_law_638 z54 ?_
  refine lv_iadd hx hb dL_law_639 ?_
  refine tpi z362 ?_
  refine va_sld hx hb hX hbl hbA hS (vin _ _ rfl) dL_law_640 ?_
  refine tpv (v := .int x2) (congrArg Value.int e2) ?_
  refine call_iV (ci := 10) (As := [.int x1, .int x2]) (rest := []) (wr := [((n 0), .inr (11, fM n)), ((n 7), .inl (cI, 2, .inl (upd (fun _ => 0) 0 3))), ((n 21), .inl (cI, 6, .inl (fun _ => 0))), ((n 5), .inl (cI, 2, .inl (fun _ => 0)))]) ⟨hx, hb, hml, hown, hts⟩ (k255_X10_share l dC dI cB cI cJ cZ cO r x1 x2 h0 h1 h2 h3) (cwV 2 hts gL_law_X10_share rfl rfl rfl ⟨rfl, z1002⟩ ⟨Nat.le_of_ble_eq_true rfl, Nat.le_of_ble_eq_true rfl⟩) hK hP hD hS hA [0, 1, 2, 3, 4, 5, 6, 7, 8] [9, 10, 11, 12] rfl rfl (by decide +kernel) (by decide +kernel) (by decide +kernel) rfl rfl rfl hl.1 (Nat.le_of_ble_eq_true rfl) rfl rfl dL_law_641 ⟨by decide +kernel, by decide +kernel⟩ (fun u0 H locs hP hD hS => ?_)
  refine lv_aload_n hx hb dL_law_644 rfl (lv_at hl 1 rfl) ?_
  refine lv_aload_n hx hb dL_law_645 rfl (lv_at hl 3 rfl) ?_
  refine lv_iload_n hx hb dL_law_646 rfl (lv_at hl 0 rfl) ?_
  refine lv_iconst (v := 1) hx hb dL_law_647 z39 ?_
  refine lv_iadd hx hb dL_law_648 ?_
  refine tpi z281 ?_
  refine va_sld hx hb hX hbl hbA hS (vin _ _ rfl) dL_law_649 ?_
  refine tpv (v := .int x1) (congrArg Value.int e1) ?_
  refine lv_aload_n hx hb dL_law_650 rfl (lv_at hl 3 rfl) ?_
  refine lv_iload_n hx hb dL_law_651 rfl (lv_at hl 0 rfl) ?_
  refine lv_iconst (v := 2) hx hb dL_law_652 z54 ?_
  refine lv_iadd hx hb dL_law_653 ?_
  refine tpi z362 ?_
  refine va_sld hx hb hX hbl hbA hS (vin _ _ rfl) dL_law_654 ?_
  refine tpv (v := .int x2) (congrArg Value.int e2) ?_
  refine call_iV (ci := 11) (As := [.int x1, .int x2]) (rest := [.int (-1000000)]) (wr := []) ⟨hx, hb, hml, hown, hts⟩ (k257_X11_share l dC dI cB cI cJ cZ cO n x1 x2 h0 h4 h2 h3) (cwV 2 hts gL_law_X11_share rfl rfl rfl ⟨rfl, z1003⟩ ⟨Nat.le_of_ble_eq_true rfl, Nat.le_of_ble_eq_true rfl⟩) hK hP hD hS hA [0, 1, 2, 3] [] rfl rfl (by decide +kernel) (by decide +kernel) (by decide +kernel) rfl rfl rfl hl.1 (Nat.le_of_ble_eq_true rfl) rfl rfl dL_law_655 ⟨by decide +kernel, by decide +kernel⟩ (fun u1 H locs hP hD hS => ?_)
  refine lv_icmp_eq (tgt := 1093) hx hb dL_law_658 z1001 (fun _ => ?_) (fun c1 => absurd (rfl) c1)
  refine lv_iinc (v := 6) (lv' := [(3, .int 6), (2, .ref (n 0)), (1, .ref (r 0)), (0, .ref b)]) hx hb dL_law_1093 hl (k := 0) rfl z943 (nlt rfl) rfl (fun ls hl => ?_)
  refine lv_goto (tgt := 18) hx hb dL_law_1096 z944 ?_
  refine lv_iload_n hx hb dL_law_18 rfl (lv_at hl 0 rfl) ?_
  refine lv_aload_n hx hb dL_law_19 rfl (lv_at hl 3 rfl) ?_
  refine va_slen hx hb hX hbl hbA hS dL_law_20 ?_
  refine tpv (v := .int 6) rfl ?_
  refine lv_bipush (v := 6) hx hb dL_law_21 z4 ?_
  refine lv_isub hx hb dL_law_23 ?_
  refine tpi z945 ?_
  refine lv_icmp_gt (tgt := 1099) hx hb dL_law_24 z947 (fun _ => ?_) (fun c1 => absurd (z946) c1)
  refine lv_iconst (v := 1) hx hb dL_law_1099 z39 ?_
  refine va_forget (fun q hq => hS.2.2 q hq) ?_
  refine W.widen (k := 600000) (n := 7302250) (by decide) (by decide) ?_
  exact lw_ret hx hb hr hlocks dL_law_1100

set_option maxHeartbeats 4000000 in
set_option maxRecDepth 100000 in
theorem lc_18_4 {p : Program} {e : Env} {s : State} {m : MethodId} {below : List Frame} {meth : Method} {c : Code} (l : Launch) {b : Nat} {xs : Nat → Int32} (C0 : lw_At p s m meth c b 6 xs) (dC : Nat → ClassId) (dI : Nat → Nat → Nat) (cB cI cJ cZ cO : ClassId) (r n : Nat → Nat) (x1 : Int32) (x2 : Int32) (e1 : xs 1 = x1) (e2 : xs 2 = x2) (h0 : ¬ x1 < 0) (h1 : ¬ 3 ≤ x1) (h2 : ¬ x2 < 0) (h3 : 1 < x2) (h4 : ¬ 2 < x1) (H : Heap) (locs : List Loc) (hK : va_K (dC, dI) vwCl (tyL cB cI cJ cZ cO) s) (hP : va_P (dC, dI) vwCl [((r 0), .inr (10, fX r)), ((r 38), .inr (0, [.ref (r 39), .int 0, .ref (r 40), .ref (r 41), .ref (r 42), .ref (r 43), .ref (r 44), .int 0, .int 0])), ((r 65), .inr (9, [.int 0, .int 0, .ref (r 66), .ref (r 67), .ref (r 68), .ref (r 69), .int 0, .int 0, .int 0, .int 0, .int 0])), ((r 18), .inr (4, [.int 0, .ref (r 19), .ref (r 20), .int 0, .ref (r 21), .ref (r 22), .int 0, .ref (r 23), .ref (r 24), .int 0, .ref (r 25), .ref (r 26), .int 3, .int 0, .int 0, .ref (r 27)])), ((r 66), .inl (cI, 3000, .inl (fun _ => 0))), ((r 67), .inl (cI, 3000, .inl (fun _ => 0))), ((r 69), .inl (cI, 3000, .inl (fun _ => 0))), ((r 68), .inl (cI, 9000, .inl (fun _ => 0))), ((r 55), .inr (5, [.ref (r 56), .ref (r 57)])), ((n 0), .inr (11, fM n))] H) (hD : va_D (fun q : Nat => s.heap.size ≤ q) [((r 0), .inr (10, fX r)), ((r 38), .inr (0, [.ref (r 39), .int 0, .ref (r 40), .ref (r 41), .ref (r 42), .ref (r 43), .ref (r 44), .int 0, .int 0])), ((r 65), .inr (9, [.int 0, .int 0, .ref (r 66), .ref (r 67), .ref (r 68), .ref (r 69), .int 0, .int 0, .int 0, .int 0, .int 0])), ((r 18), .inr (4, [.int 0, .ref (r 19), .ref (r 20), .int 0, .ref (r 21), .ref (r 22), .int 0, .ref (r 23), .ref (r 24), .int 0, .ref (r 25), .ref (r 26), .int 3, .int 0, .int 0, .ref (r 27)])), ((r 66), .inl (cI, 3000, .inl (fun _ => 0))), ((r 67), .inl (cI, 3000, .inl (fun _ => 0))), ((r 69), .inl (cI, 3000, .inl (fun _ => 0))), ((r 68), .inl (cI, 9000, .inl (fun _ => 0))), ((r 55), .inr (5, [.ref (r 56), .ref (r 57)])), ((n 0), .inr (11, fM n))]) (hS : va_S (fun q : Nat => s.heap.size ≤ q) s.heap H locs) (ls : Array Slot) (hl : lv_has ls 4 [(3, .int 0), (2, .ref (n 0)), (1, .ref (r 0)), (0, .ref b)]) : W p l e room_1 s m #[Value.ref b] below meth c H locs 135 85080 (lw_Z below #[Value.ref b] s) (F0 m 630 ls []) := by
  obtain ⟨hx, hb, hr, hml, hown, hts0, hX, hbl, hlocks, hgv⟩ := C0
  have hts : ∀ w ∈ wsL_law, w.before #[Value.ref b] s = true := fun w h => hts0 w (wsL_law_in w h)
  have hA : ∀ q : Nat, s.heap.size ≤ q → (fun q : Nat => s.heap.size ≤ q) q := fun _ h => h
  have hbA : ¬ (fun q : Nat => s.heap.size ≤ q) b := Nat.not_le.mpr hbl
  have hown : s.vm.findClass RL = some m.cls := hown
  refine lv_aload_n hx hb dL_law_630 rfl (lv_at hl 2 rfl) ?_
  refine lv_aload_n hx hb dL_law_631 rfl (lv_at hl 3 rfl) ?_
  refine lv_iload_n hx hb dL_law_632 rfl (lv_at hl 0 rfl) ?_
  refine lv_iconst (v := 1) hx hb dL_law_633 z39 ?_
  refine lv_iadd hx hb dL_law_634 ?_
  refine tpi z281 ?_
  refine va_sld hx hb hX hbl hbA hS (vin _ _ rfl) dL_law_635 ?_
  refine tpv (v := .int x1) (congrArg Value.int e1) ?_
  refine lv_aload_n hx hb dL_law_636 rfl (lv_at hl 3 rfl) ?_
  refine lv_iload_n hx hb dL_law_637 rfl (lv_at hl 0 rfl) ?_
  refine lv_iconst (v := 2) hx hb dL_law_638 z54 ?_
  refine lv_iadd hx hb dL_law_639 ?_
  refine tpi z362 ?_
  refine va_sld hx hb hX hbl hbA hS (vin _ _ rfl) dL_law_640 ?_
  refine tpv (v := .int x2) (congrArg Value.int e2) ?_
  refine call_iV (ci := 10) (As := [.int x1, .int x2]) (rest := []) (wr := [((n 0), .inr (11, fM n))]) ⟨hx, hb, hml, hown, hts⟩ (k258_X10_share l dC dI cB cI cJ cZ cO r x1 x2 h0 h1 h2 h3) (cwV 2 hts gL_law_X10_share rfl rfl rfl ⟨rfl, z1002⟩ ⟨Nat.le_of_ble_eq_true rfl, Nat.le_of_ble_eq_true rfl⟩) hK hP hD hS hA [0, 1, 2, 3, 4, 5, 6, 7, 8] [9] rfl rfl (by decide +kernel) (by decide +kernel) (by decide +kernel) rfl rfl rfl hl.1 (Nat.le_of_ble_eq_true rfl) rfl rfl dL_law_641 ⟨by decide +kernel, by decide +kernel⟩ (fun u0 H locs hP hD hS => ?_)
  refine lv_aload_n hx hb dL_law_644 rfl (lv_at hl 1 rfl) ?_
  refine lv_aload_n hx hb dL_law_645 rfl (lv_at hl 3 rfl) ?_
  refine lv_iload_n hx hb dL_law_646 rfl (lv_at hl 0 rfl) ?_
  refine lv_iconst (v := 1) hx hb dL_law_647 z39 ?_
  refine lv_iadd hx hb dL_law_648 ?_
  refine tpi z281 ?_
  refine va_sld hx hb hX hbl hbA hS (vin _ _ rfl) dL_law_649 ?_
  refine tpv (v := .int x1) (congrArg Value.int e1) ?_
  refine lv_aload_n hx hb dL_law_650 rfl (lv_at hl 3 rfl) ?_
  refine lv_iload_n hx hb dL_law_651 rfl (lv_at hl 0 rfl) ?_
  refine lv_iconst (v := 2) hx hb dL_law_652 z54 ?_
  refine lv_iadd hx hb dL_law_653 ?_
  refine tpi z362 ?_
  refine va_sld hx hb hX hbl hbA hS (vin _ _ rfl) dL_law_654 ?_
  refine tpv (v := .int x2) (congrArg Value.int e2) ?_
  refine call_iV (ci := 11) (As := [.int x1, .int x2]) (rest := [.int (-1000000)]) (wr := []) ⟨hx, hb, hml, hown, hts⟩ (k260_X11_share l dC dI cB cI cJ cZ cO n x1 x2 h0 h4 h2 h3) (cwV 2 hts gL_law_X11_share rfl rfl rfl ⟨rfl, z1003⟩ ⟨Nat.le_of_ble_eq_true rfl, Nat.le_of_ble_eq_true rfl⟩) hK hP hD hS hA [0] [] rfl rfl (by decide +kernel) (by decide +kernel) (by decide +kernel) rfl rfl rfl hl.1 (Nat.le_of_ble_eq_true rfl) rfl rfl dL_law_655 ⟨by decide +kernel, by decide +kernel⟩ (fun u1 H locs hP hD hS => ?_)
  refine lv_icmp_eq (tgt := 1093) hx hb dL_law_658 z1001 (fun _ => ?_) (fun c1 => absurd (rfl) c1)
  refine lv_iinc (v := 6) (lv' := [(3, .int 6), (2, .ref (n 0)), (1, .ref (r 0)), (0, .ref b)]) hx hb dL_law_1093 hl (k := 0) rfl z943 (nlt rfl) rfl (fun ls hl => ?_)
  refine lv_goto (tgt := 18) hx hb dL_law_1096 z944 ?_
  refine lv_iload_n hx hb dL_law_18 rfl (lv_at hl 0 rfl) ?_
  refine lv_aload_n hx hb dL_law_19 rfl (lv_at hl 3 rfl) ?_
  refine va_slen hx hb hX hbl hbA hS dL_law_20 ?_
  refine tpv (v := .int 6) rfl ?_
  refine lv_bipush (v := 6) hx hb dL_law_21 z4 ?_
  refine lv_isub hx hb dL_law_23 ?_
  refine tpi z945 ?_
  refine lv_icmp_gt (tgt := 1099) hx hb dL_law_24 z947 (fun _ => ?_) (fun c1 => absurd (z946) c1)
  refine lv_iconst (v := 1) hx hb dL_law_1099 z39 ?_
  refine va_forget (fun q hq => hS.2.2 q hq) ?_
  refine W.widen (k := 600000) (n := 7302250) (by decide) (by decide) ?_
  exact lw_ret hx hb hr hlocks dL_law_1100

set_option maxHeartbeats 4000000 in
set_option maxRecDepth 100000 in
theorem lc_19_0 {p : Program} {e : Env} {s : State} {m : MethodId} {below : List Frame} {meth : Method} {c : Code} (l : Launch) {b : Nat} {xs : Nat → Int32} (C0 : lw_At p s m meth c b 6 xs) (dC : Nat → ClassId) (dI : Nat → Nat → Nat) (cB cI cJ cZ cO : ClassId) (r n : Nat → Nat) (H : Heap) (locs : List Loc) (hK : va_K (dC, dI) vwCl (tyL cB cI cJ cZ cO) s) (hP : va_P (dC, dI) vwCl [((r 0), .inr (10, fX r)), ((r 38), .inr (0, [.ref (r 39), .int 0, .ref (r 40), .ref (r 41), .ref (r 42), .ref (r 43), .ref (r 44), .int 0, .int 0])), ((r 65), .inr (9, [.int 0, .int 0, .ref (r 66), .ref (r 67), .ref (r 68), .ref (r 69), .int 0, .int 0, .int 0, .int 0, .int 0])), ((r 18), .inr (4, [.int 0, .ref (r 19), .ref (r 20), .int 0, .ref (r 21), .ref (r 22), .int 0, .ref (r 23), .ref (r 24), .int 0, .ref (r 25), .ref (r 26), .int 3, .int 0, .int 0, .ref (r 27)])), ((r 66), .inl (cI, 3000, .inl (fun _ => 0))), ((r 67), .inl (cI, 3000, .inl (fun _ => 0))), ((r 69), .inl (cI, 3000, .inl (fun _ => 0))), ((r 68), .inl (cI, 9000, .inl (fun _ => 0))), ((r 55), .inr (5, [.ref (r 56), .ref (r 57)])), ((n 0), .inr (11, fM n)), ((n 7), .inl (cI, 2, .inl (upd (fun _ => 0) 0 3))), ((n 21), .inl (cI, 6, .inl (fun _ => 0))), ((n 5), .inl (cI, 2, .inl (fun _ => 0)))] H) (hD : va_D (fun q : Nat => s.heap.size ≤ q) [((r 0), .inr (10, fX r)), ((r 38), .inr (0, [.ref (r 39), .int 0, .ref (r 40), .ref (r 41), .ref (r 42), .ref (r 43), .ref (r 44), .int 0, .int 0])), ((r 65), .inr (9, [.int 0, .int 0, .ref (r 66), .ref (r 67), .ref (r 68), .ref (r 69), .int 0, .int 0, .int 0, .int 0, .int 0])), ((r 18), .inr (4, [.int 0, .ref (r 19), .ref (r 20), .int 0, .ref (r 21), .ref (r 22), .int 0, .ref (r 23), .ref (r 24), .int 0, .ref (r 25), .ref (r 26), .int 3, .int 0, .int 0, .ref (r 27)])), ((r 66), .inl (cI, 3000, .inl (fun _ => 0))), ((r 67), .inl (cI, 3000, .inl (fun _ => 0))), ((r 69), .inl (cI, 3000, .inl (fun _ => 0))), ((r 68), .inl (cI, 9000, .inl (fun _ => 0))), ((r 55), .inr (5, [.ref (r 56), .ref (r 57)])), ((n 0), .inr (11, fM n)), ((n 7), .inl (cI, 2, .inl (upd (fun _ => 0) 0 3))), ((n 21), .inl (cI, 6, .inl (fun _ => 0))), ((n 5), .inl (cI, 2, .inl (fun _ => 0)))]) (hS : va_S (fun q : Nat => s.heap.size ≤ q) s.heap H locs) (ls : Array Slot) (hl : lv_has ls 4 [(3, .int 0), (2, .ref (n 0)), (1, .ref (r 0)), (0, .ref b)]) : W p l e room_1 s m #[Value.ref b] below meth c H locs 135 85080 (lw_Z below #[Value.ref b] s) (F0 m 663 ls []) := by
  obtain ⟨hx, hb, hr, hml, hown, hts0, hX, hbl, hlocks, hgv⟩ := C0
  have hts : ∀ w ∈ wsL_law, w.before #[Value.ref b] s = true := fun w h => hts0 w (wsL_law_in w h)
  have hA : ∀ q : Nat, s.heap.size ≤ q → (fun q : Nat => s.heap.size ≤ q) q := fun _ h => h
  have hbA : ¬ (fun q : Nat => s.heap.size ≤ q) b := Nat.not_le.mpr hbl
  have hown : s.vm.findClass RL = some m.cls := hown
  refine lv_aload_n hx hb dL_law_663 rfl (lv_at hl 2 rfl) ?_
  refine call_iV (ci := 10) (As := []) (rest := []) (wr := [((n 0), .inr (11, fM n)), ((n 7), .inl (cI, 2, .inl (upd (fun _ => 0) 0 3))), ((n 21), .inl (cI, 6, .inl (fun _ => 0))), ((n 5), .inl (cI, 2, .inl (fun _ => 0)))]) ⟨hx, hb, hml, hown, hts⟩ (k261_X10_swap l dC dI cB cI cJ cZ cO r) (cwV 0 hts gL_law_X10_swap rfl rfl rfl ⟨rfl, z1005⟩ ⟨Nat.le_of_ble_eq_true rfl, Nat.le_of_ble_eq_true rfl⟩) hK hP hD hS hA [0, 1, 2, 3, 4, 5, 6, 7, 8] [9, 10, 11, 12] rfl rfl (by decide +kernel) (by decide +kernel) (by decide +kernel) rfl rfl rfl hl.1 (Nat.le_of_ble_eq_true rfl) rfl rfl dL_law_664 ⟨by decide +kernel, by decide +kernel⟩ (fun u0 H locs hP hD hS => ?_)
  refine lv_aload_n hx hb dL_law_667 rfl (lv_at hl 1 rfl) ?_
  refine call_iV (ci := 11) (As := []) (rest := [.int (-1)]) (wr := []) ⟨hx, hb, hml, hown, hts⟩ (k262_X11_swap l dC dI cB cI cJ cZ cO n) (cwV 0 hts gL_law_X11_swap rfl rfl rfl ⟨rfl, z1006⟩ ⟨Nat.le_of_ble_eq_true rfl, Nat.le_of_ble_eq_true rfl⟩) hK hP hD hS hA [0, 1, 2, 3] [] rfl rfl (by decide +kernel) (by decide +kernel) (by decide +kernel) rfl rfl rfl hl.1 (Nat.le_of_ble_eq_true rfl) rfl rfl dL_law_668 ⟨by decide +kernel, by decide +kernel⟩ (fun u1 H locs hP hD hS => ?_)
  refine lv_icmp_eq (tgt := 1093) hx hb dL_law_671 z1004 (fun _ => ?_) (fun c1 => absurd (rfl) c1)
  refine lv_iinc (v := 6) (lv' := [(3, .int 6), (2, .ref (n 0)), (1, .ref (r 0)), (0, .ref b)]) hx hb dL_law_1093 hl (k := 0) rfl z943 (nlt rfl) rfl (fun ls hl => ?_)
  refine lv_goto (tgt := 18) hx hb dL_law_1096 z944 ?_
  refine lv_iload_n hx hb dL_law_18 rfl (lv_at hl 0 rfl) ?_
  refine lv_aload_n hx hb dL_law_19 rfl (lv_at hl 3 rfl) ?_
  refine va_slen hx hb hX hbl hbA hS dL_law_20 ?_
  refine tpv (v := .int 6) rfl ?_
  refine lv_bipush (v := 6) hx hb dL_law_21 z4 ?_
  refine lv_isub hx hb dL_law_23 ?_
  refine tpi z945 ?_
  refine lv_icmp_gt (tgt := 1099) hx hb dL_law_24 z947 (fun _ => ?_) (fun c1 => absurd (z946) c1)
  refine lv_iconst (v := 1) hx hb dL_law_1099 z39 ?_
  refine va_forget (fun q hq => hS.2.2 q hq) ?_
  refine W.widen (k := 600000) (n := 7302250) (by decide) (by decide) ?_
  exact lw_ret hx hb hr hlocks dL_law_1100

set_option maxHeartbeats 4000000 in
set_option maxRecDepth 100000 in
theorem lc_20_0 {p : Program} {e : Env} {s : State} {m : MethodId} {below : List Frame} {meth : Method} {c : Code} (l : Launch) {b : Nat} {xs : Nat → Int32} (C0 : lw_At p s m meth c b 6 xs) (dC : Nat → ClassId) (dI : Nat → Nat → Nat) (cB cI cJ cZ cO : ClassId) (r n : Nat → Nat) (x1 : Int32) (x2 : Int32) (e1 : xs 1 = x1) (e2 : xs 2 = x2) (h0 : x1 < 0) (H : Heap) (locs : List Loc) (hK : va_K (dC, dI) vwCl (tyL cB cI cJ cZ cO) s) (hP : va_P (dC, dI) vwCl [((r 0), .inr (10, fX r)), ((r 18), .inr (4, [.int 0, .ref (r 19), .ref (r 20), .int 0, .ref (r 21), .ref (r 22), .int 0, .ref (r 23), .ref (r 24), .int 0, .ref (r 25), .ref (r 26), .int 3, .int 0, .int 0, .ref (r 27)])), ((n 0), .inr (11, fM n)), ((n 7), .inl (cI, 2, .inl (upd (fun _ => 0) 0 3)))] H) (hD : va_D (fun q : Nat => s.heap.size ≤ q) [((r 0), .inr (10, fX r)), ((r 18), .inr (4, [.int 0, .ref (r 19), .ref (r 20), .int 0, .ref (r 21), .ref (r 22), .int 0, .ref (r 23), .ref (r 24), .int 0, .ref (r 25), .ref (r 26), .int 3, .int 0, .int 0, .ref (r 27)])), ((n 0), .inr (11, fM n)), ((n 7), .inl (cI, 2, .inl (upd (fun _ => 0) 0 3)))]) (hS : va_S (fun q : Nat => s.heap.size ≤ q) s.heap H locs) (ls : Array Slot) (hl : lv_has ls 4 [(3, .int 0), (2, .ref (n 0)), (1, .ref (r 0)), (0, .ref b)]) : W p l e room_1 s m #[Value.ref b] below meth c H locs 135 85080 (lw_Z below #[Value.ref b] s) (F0 m 676 ls []) := by
  obtain ⟨hx, hb, hr, hml, hown, hts0, hX, hbl, hlocks, hgv⟩ := C0
  have hts : ∀ w ∈ wsL_law, w.before #[Value.ref b] s = true := fun w h => hts0 w (wsL_law_in w h)
  have hA : ∀ q : Nat, s.heap.size ≤ q → (fun q : Nat => s.heap.size ≤ q) q := fun _ h => h
  have hbA : ¬ (fun q : Nat => s.heap.size ≤ q) b := Nat.not_le.mpr hbl
  have hown : s.vm.findClass RL = some m.cls := hown
  refine lv_aload_n hx hb dL_law_676 rfl (lv_at hl 2 rfl) ?_
  refine lv_aload_n hx hb dL_law_677 rfl (lv_at hl 3 rfl) ?_
  refine lv_iload_n hx hb dL_law_678 rfl (lv_at hl 0 rfl) ?_
  refine lv_iconst (v := 1) hx hb dL_law_679 z39 ?_
  refine lv_iadd hx hb dL_law_680 ?_
  refine tpi z281 ?_
  refine va_sld hx hb hX hbl hbA hS (vin _ _ rfl) dL_law_681 ?_
  refine tpv (v := .int x1) (congrArg Value.int e1) ?_
  refine lv_aload_n hx hb dL_law_682 rfl (lv_at hl 3 rfl) ?_
  refine lv_iload_n hx hb dL_law_683 rfl (lv_at hl 0 rfl) ?_
  refine lv_iconst (v := 2) hx hb dL_law_684 z54 ?_
  refine lv_iadd hx hb dL_law_685 ?_
  refine tpi z362 ?_
  refine va_sld hx hb hX hbl hbA hS (vin _ _ rfl) dL_law_686 ?_
  refine tpv (v := .int x2) (congrArg Value.int e2) ?_
  refine call_iV (ci := 10) (As := [.int x1, .int x2]) (rest := []) (wr := [((n 0), .inr (11, fM n)), ((n 7), .inl (cI, 2, .inl (upd (fun _ => 0) 0 3)))]) ⟨hx, hb, hml, hown, hts⟩ (k263_X10_bribe l dC dI cB cI cJ cZ cO r x1 x2 h0) (cwV 2 hts gL_law_X10_bribe rfl rfl rfl ⟨rfl, z1008⟩ ⟨Nat.le_of_ble_eq_true rfl, Nat.le_of_ble_eq_true rfl⟩) hK hP hD hS hA [0, 1] [2, 3] rfl rfl (by decide +kernel) (by decide +kernel) (by decide +kernel) rfl rfl rfl hl.1 (Nat.le_of_ble_eq_true rfl) rfl rfl dL_law_687 ⟨by decide +kernel, by decide +kernel⟩ (fun u0 H locs hP hD hS => ?_)
  refine lv_aload_n hx hb dL_law_690 rfl (lv_at hl 1 rfl) ?_
  refine lv_aload_n hx hb dL_law_691 rfl (lv_at hl 3 rfl) ?_
  refine lv_iload_n hx hb dL_law_692 rfl (lv_at hl 0 rfl) ?_
  refine lv_iconst (v := 1) hx hb dL_law_693 z39 ?_
  refine lv_iadd hx hb dL_law_694 ?_
  refine tpi z281 ?_
  refine va_sld hx hb hX hbl hbA hS (vin _ _ rfl) dL_law_695 ?_
  refine tpv (v := .int x1) (congrArg Value.int e1) ?_
  refine lv_aload_n hx hb dL_law_696 rfl (lv_at hl 3 rfl) ?_
  refine lv_iload_n hx hb dL_law_697 rfl (lv_at hl 0 rfl) ?_
  refine lv_iconst (v := 2) hx hb dL_law_698 z54 ?_
  refine lv_iadd hx hb dL_law_699 ?_
  refine tpi z362 ?_
  refine va_sld hx hb hX hbl hbA hS (vin _ _ rfl) dL_law_700 ?_
  refine tpv (v := .int x2) (congrArg Value.int e2) ?_
  refine call_iV (ci := 11) (As := [.int x1, .int x2]) (rest := [.int (-2)]) (wr := []) ⟨hx, hb, hml, hown, hts⟩ (k264_X11_bribe l dC dI cB cI cJ cZ cO n x1 x2 h0) (cwV 2 hts gL_law_X11_bribe rfl rfl rfl ⟨rfl, z1009⟩ ⟨Nat.le_of_ble_eq_true rfl, Nat.le_of_ble_eq_true rfl⟩) hK hP hD hS hA [0, 1] [] rfl rfl (by decide +kernel) (by decide +kernel) (by decide +kernel) rfl rfl rfl hl.1 (Nat.le_of_ble_eq_true rfl) rfl rfl dL_law_701 ⟨by decide +kernel, by decide +kernel⟩ (fun u1 H locs hP hD hS => ?_)
  refine lv_icmp_eq (tgt := 1093) hx hb dL_law_704 z1007 (fun _ => ?_) (fun c1 => absurd (rfl) c1)
  refine lv_iinc (v := 6) (lv' := [(3, .int 6), (2, .ref (n 0)), (1, .ref (r 0)), (0, .ref b)]) hx hb dL_law_1093 hl (k := 0) rfl z943 (nlt rfl) rfl (fun ls hl => ?_)
  refine lv_goto (tgt := 18) hx hb dL_law_1096 z944 ?_
  refine lv_iload_n hx hb dL_law_18 rfl (lv_at hl 0 rfl) ?_
  refine lv_aload_n hx hb dL_law_19 rfl (lv_at hl 3 rfl) ?_
  refine va_slen hx hb hX hbl hbA hS dL_law_20 ?_
  refine tpv (v := .int 6) rfl ?_
  refine lv_bipush (v := 6) hx hb dL_law_21 z4 ?_
  refine lv_isub hx hb dL_law_23 ?_
  refine tpi z945 ?_
  refine lv_icmp_gt (tgt := 1099) hx hb dL_law_24 z947 (fun _ => ?_) (fun c1 => absurd (z946) c1)
  refine lv_iconst (v := 1) hx hb dL_law_1099 z39 ?_
  refine va_forget (fun q hq => hS.2.2 q hq) ?_
  refine W.widen (k := 600000) (n := 7302250) (by decide) (by decide) ?_
  exact lw_ret hx hb hr hlocks dL_law_1100

set_option maxHeartbeats 4000000 in
set_option maxRecDepth 100000 in
theorem lc_20_1 {p : Program} {e : Env} {s : State} {m : MethodId} {below : List Frame} {meth : Method} {c : Code} (l : Launch) {b : Nat} {xs : Nat → Int32} (C0 : lw_At p s m meth c b 6 xs) (dC : Nat → ClassId) (dI : Nat → Nat → Nat) (cB cI cJ cZ cO : ClassId) (r n : Nat → Nat) (x1 : Int32) (x2 : Int32) (e1 : xs 1 = x1) (e2 : xs 2 = x2) (h0 : ¬ x1 < 0) (h1 : 3 ≤ x1) (h2 : 2 < x1) (H : Heap) (locs : List Loc) (hK : va_K (dC, dI) vwCl (tyL cB cI cJ cZ cO) s) (hP : va_P (dC, dI) vwCl [((r 0), .inr (10, fX r)), ((r 18), .inr (4, [.int 0, .ref (r 19), .ref (r 20), .int 0, .ref (r 21), .ref (r 22), .int 0, .ref (r 23), .ref (r 24), .int 0, .ref (r 25), .ref (r 26), .int 3, .int 0, .int 0, .ref (r 27)])), ((n 0), .inr (11, fM n)), ((n 7), .inl (cI, 2, .inl (upd (fun _ => 0) 0 3)))] H) (hD : va_D (fun q : Nat => s.heap.size ≤ q) [((r 0), .inr (10, fX r)), ((r 18), .inr (4, [.int 0, .ref (r 19), .ref (r 20), .int 0, .ref (r 21), .ref (r 22), .int 0, .ref (r 23), .ref (r 24), .int 0, .ref (r 25), .ref (r 26), .int 3, .int 0, .int 0, .ref (r 27)])), ((n 0), .inr (11, fM n)), ((n 7), .inl (cI, 2, .inl (upd (fun _ => 0) 0 3)))]) (hS : va_S (fun q : Nat => s.heap.size ≤ q) s.heap H locs) (ls : Array Slot) (hl : lv_has ls 4 [(3, .int 0), (2, .ref (n 0)), (1, .ref (r 0)), (0, .ref b)]) : W p l e room_1 s m #[Value.ref b] below meth c H locs 135 85080 (lw_Z below #[Value.ref b] s) (F0 m 676 ls []) := by
  obtain ⟨hx, hb, hr, hml, hown, hts0, hX, hbl, hlocks, hgv⟩ := C0
  have hts : ∀ w ∈ wsL_law, w.before #[Value.ref b] s = true := fun w h => hts0 w (wsL_law_in w h)
  have hA : ∀ q : Nat, s.heap.size ≤ q → (fun q : Nat => s.heap.size ≤ q) q := fun _ h => h
  have hbA : ¬ (fun q : Nat => s.heap.size ≤ q) b := Nat.not_le.mpr hbl
  have hown : s.vm.findClass RL = some m.cls := hown
  refine lv_aload_n hx hb dL_law_676 rfl (lv_at hl 2 rfl) ?_
  refine lv_aload_n hx hb dL_law_677 rfl (lv_at hl 3 rfl) ?_
  refine lv_iload_n hx hb dL_law_678 rfl (lv_at hl 0 rfl) ?_
  refine lv_iconst (v := 1) hx hb dL_law_679 z39 ?_
  refine lv_iadd hx hb dL_law_680 ?_
  refine tpi z281 ?_
  refine va_sld hx hb hX hbl hbA hS (vin _ _ rfl) dL_law_681 ?_
  refine tpv (v := .int x1) (congrArg Value.int e1) ?_
  refine lv_aload_n hx hb dL_law_682 rfl (lv_at hl 3 rfl) ?_
  refine lv_iload_n hx hb dL_law_683 rfl (lv_at hl 0 rfl) ?_
  refine lv_iconst (v := 2) hx hb dL_law_684 z54 ?_
  refine lv_iadd hx hb dL_law_685 ?_
  refine tpi z362 ?_
  refine va_sld hx hb hX hbl hbA hS (vin _ _ rfl) dL_law_686 ?_
  refine tpv (v := .int x2) (congrArg Value.int e2) ?_
  refine call_iV (ci := 10) (As := [.int x1, .int x2]) (rest := []) (wr := [((n 0), .inr (11, fM n)), ((n 7), .inl (cI, 2, .inl (upd (fun _ => 0) 0 3)))]) ⟨hx, hb, hml, hown, hts⟩ (k265_X10_bribe l dC dI cB cI cJ cZ cO r x1 x2 h0 h1) (cwV 2 hts gL_law_X10_bribe rfl rfl rfl ⟨rfl, z1008⟩ ⟨Nat.le_of_ble_eq_true rfl, Nat.le_of_ble_eq_true rfl⟩) hK hP hD hS hA [0, 1] [2, 3] rfl rfl (by decide +kernel) (by decide +kernel) (by decide +kernel) rfl rfl rfl hl.1 (Nat.le_of_ble_eq_true rfl) rfl rfl dL_law_687 ⟨by decide +kernel, by decide +kernel⟩ (fun u0 H locs hP hD hS => ?_)
  refine lv_aload_n hx hb dL_law_690 rfl (lv_at hl 1 rfl) ?_
  refine lv_aload_n hx hb dL_law_691 rfl (lv_at hl 3 rfl) ?_
  refine lv_iload_n hx hb dL_law_692 rfl (lv_at hl 0 rfl) ?_
  refine lv_iconst (v := 1) hx hb dL_law_693 z39 ?_
  refine lv_iadd hx hb dL_law_694 ?_
  refine tpi z281 ?_
  refine va_sld hx hb hX hbl hbA hS (vin _ _ rfl) dL_law_695 ?_
  refine tpv (v := .int x1) (congrArg Value.int e1) ?_
  refine lv_aload_n hx hb dL_law_696 rfl (lv_at hl 3 rfl) ?_
  refine lv_iload_n hx hb dL_law_697 rfl (lv_at hl 0 rfl) ?_
  refine lv_iconst (v := 2) hx hb dL_law_698 z54 ?_
  refine lv_iadd hx hb dL_law_699 ?_
  refine tpi z362 ?_
  refine va_sld hx hb hX hbl hbA hS (vin _ _ rfl) dL_law_700 ?_
  refine tpv (v := .int x2) (congrArg Value.int e2) ?_
  refine call_iV (ci := 11) (As := [.int x1, .int x2]) (rest := [.int (-2)]) (wr := []) ⟨hx, hb, hml, hown, hts⟩ (k266_X11_bribe l dC dI cB cI cJ cZ cO n x1 x2 h0 h2) (cwV 2 hts gL_law_X11_bribe rfl rfl rfl ⟨rfl, z1009⟩ ⟨Nat.le_of_ble_eq_true rfl, Nat.le_of_ble_eq_true rfl⟩) hK hP hD hS hA [0, 1] [] rfl rfl (by decide +kernel) (by decide +kernel) (by decide +kernel) rfl rfl rfl hl.1 (Nat.le_of_ble_eq_true rfl) rfl rfl dL_law_701 ⟨by decide +kernel, by decide +kernel⟩ (fun u1 H locs hP hD hS => ?_)
  refine lv_icmp_eq (tgt := 1093) hx hb dL_law_704 z1007 (fun _ => ?_) (fun c1 => absurd (rfl) c1)
  refine lv_iinc (v := 6) (lv' := [(3, .int 6), (2, .ref (n 0)), (1, .ref (r 0)), (0, .ref b)]) hx hb dL_law_1093 hl (k := 0) rfl z943 (nlt rfl) rfl (fun ls hl => ?_)
  refine lv_goto (tgt := 18) hx hb dL_law_1096 z944 ?_
  refine lv_iload_n hx hb dL_law_18 rfl (lv_at hl 0 rfl) ?_
  refine lv_aload_n hx hb dL_law_19 rfl (lv_at hl 3 rfl) ?_
  refine va_slen hx hb hX hbl hbA hS dL_law_20 ?_
  refine tpv (v := .int 6) rfl ?_
  refine lv_bipush (v := 6) hx hb dL_law_21 z4 ?_
  refine lv_isub hx hb dL_law_23 ?_
  refine tpi z945 ?_
  refine lv_icmp_gt (tgt := 1099) hx hb dL_law_24 z947 (fun _ => ?_) (fun c1 => absurd (z946) c1)
  refine lv_iconst (v := 1) hx hb dL_law_1099 z39 ?_
  refine va_forget (fun q hq => hS.2.2 q hq) ?_
  refine W.widen (k := 600000) (n := 7302250) (by decide) (by decide) ?_
  exact lw_ret hx hb hr hlocks dL_law_1100

set_option maxHeartbeats 4000000 in
set_option maxRecDepth 100000 in
theorem lc_20_2 {p : Program} {e : Env} {s : State} {m : MethodId} {below : List Frame} {meth : Method} {c : Code} (l : Launch) {b : Nat} {xs : Nat → Int32} (C0 : lw_At p s m meth c b 6 xs) (dC : Nat → ClassId) (dI : Nat → Nat → Nat) (cB cI cJ cZ cO : ClassId) (r n : Nat → Nat) (x1 : Int32) (x2 : Int32) (e1 : xs 1 = x1) (e2 : xs 2 = x2) (h0 : ¬ x1 < 0) (h1 : ¬ 3 ≤ x1) (h2 : x2 < 0) (h3 : ¬ 2 < x1) (H : Heap) (locs : List Loc) (hK : va_K (dC, dI) vwCl (tyL cB cI cJ cZ cO) s) (hP : va_P (dC, dI) vwCl [((r 0), .inr (10, fX r)), ((r 18), .inr (4, [.int 0, .ref (r 19), .ref (r 20), .int 0, .ref (r 21), .ref (r 22), .int 0, .ref (r 23), .ref (r 24), .int 0, .ref (r 25), .ref (r 26), .int 3, .int 0, .int 0, .ref (r 27)])), ((r 38), .inr (0, [.ref (r 39), .int 0, .ref (r 40), .ref (r 41), .ref (r 42), .ref (r 43), .ref (r 44), .int 0, .int 0])), ((n 0), .inr (11, fM n)), ((n 7), .inl (cI, 2, .inl (upd (fun _ => 0) 0 3))), ((n 3), .inl (cI, 2, .inl (fun _ => 0)))] H) (hD : va_D (fun q : Nat => s.heap.size ≤ q) [((r 0), .inr (10, fX r)), ((r 18), .inr (4, [.int 0, .ref (r 19), .ref (r 20), .int 0, .ref (r 21), .ref (r 22), .int 0, .ref (r 23), .ref (r 24), .int 0, .ref (r 25), .ref (r 26), .int 3, .int 0, .int 0, .ref (r 27)])), ((r 38), .inr (0, [.ref (r 39), .int 0, .ref (r 40), .ref (r 41), .ref (r 42), .ref (r 43), .ref (r 44), .int 0, .int 0])), ((n 0), .inr (11, fM n)), ((n 7), .inl (cI, 2, .inl (upd (fun _ => 0) 0 3))), ((n 3), .inl (cI, 2, .inl (fun _ => 0)))]) (hS : va_S (fun q : Nat => s.heap.size ≤ q) s.heap H locs) (ls : Array Slot) (hl : lv_has ls 4 [(3, .int 0), (2, .ref (n 0)), (1, .ref (r 0)), (0, .ref b)]) : W p l e room_1 s m #[Value.ref b] below meth c H locs 135 85080 (lw_Z below #[Value.ref b] s) (F0 m 676 ls []) := by
  obtain ⟨hx, hb, hr, hml, hown, hts0, hX, hbl, hlocks, hgv⟩ := C0
  have hts : ∀ w ∈ wsL_law, w.before #[Value.ref b] s = true := fun w h => hts0 w (wsL_law_in w h)
  have hA : ∀ q : Nat, s.heap.size ≤ q → (fun q : Nat => s.heap.size ≤ q) q := fun _ h => h
  have hbA : ¬ (fun q : Nat => s.heap.size ≤ q) b := Nat.not_le.mpr hbl
  have hown : s.vm.findClass RL = some m.cls := hown
  refine lv_aload_n hx hb dL_law_676 rfl (lv_at hl 2 rfl) ?_
  refine lv_aload_n hx hb dL_law_677 rfl (lv_at hl 3 rfl) ?_
  refine lv_iload_n hx hb dL_law_678 rfl (lv_at hl 0 rfl) ?_
  refine lv_iconst (v := 1) hx hb dL_law_679 z39 ?_
  refine lv_iadd hx hb dL_law_680 ?_
  refine tpi z281 ?_
  refine va_sld hx hb hX hbl hbA hS (vin _ _ rfl) dL_law_681 ?_
  refine tpv (v := .int x1) (congrArg Value.int e1) ?_
  refine lv_aload_n hx hb dL_law_682 rfl (lv_at hl 3 rfl) ?_
  refine lv_iload_n hx hb dL_law_683 rfl (lv_at hl 0 rfl) ?_
  refine lv_iconst (v := 2) hx hb dL_law_684 z54 ?_
  refine lv_iadd hx hb dL_law_685 ?_
  refine tpi z362 ?_
  refine va_sld hx hb hX hbl hbA hS (vin _ _ rfl) dL_law_686 ?_
  refine tpv (v := .int x2) (congrArg Value.int e2) ?_
  refine call_iV (ci := 10) (As := [.int x1, .int x2]) (rest := []) (wr := [((n 0), .inr (11, fM n)), ((n 7), .inl (cI, 2, .inl (upd (fun _ => 0) 0 3))), ((n 3), .inl (cI, 2, .inl (fun _ => 0)))]) ⟨hx, hb, hml, hown, hts⟩ (k270_X10_bribe l dC dI cB cI cJ cZ cO r x1 x2 h0 h1 h2) (cwV 2 hts gL_law_X10_bribe rfl rfl rfl ⟨rfl, z1008⟩ ⟨Nat.le_of_ble_eq_true rfl, Nat.le_of_ble_eq_true rfl⟩) hK hP hD hS hA [0, 1, 2] [3, 4, 5] rfl rfl (by decide +kernel) (by decide +kernel) (by decide +kernel) rfl rfl rfl hl.1 (Nat.le_of_ble_eq_true rfl) rfl rfl dL_law_687 ⟨by decide +kernel, by decide +kernel⟩ (fun u0 H locs hP hD hS => ?_)
  refine lv_aload_n hx hb dL_law_690 rfl (lv_at hl 1 rfl) ?_
  refine lv_aload_n hx hb dL_law_691 rfl (lv_at hl 3 rfl) ?_
  refine lv_iload_n hx hb dL_law_692 rfl (lv_at hl 0 rfl) ?_
  refine lv_iconst (v := 1) hx hb dL_law_693 z39 ?_
  refine lv_iadd hx hb dL_law_694 ?_
  refine tpi z281 ?_
  refine va_sld hx hb hX hbl hbA hS (vin _ _ rfl) dL_law_695 ?_
  refine tpv (v := .int x1) (congrArg Value.int e1) ?_
  refine lv_aload_n hx hb dL_law_696 rfl (lv_at hl 3 rfl) ?_
  refine lv_iload_n hx hb dL_law_697 rfl (lv_at hl 0 rfl) ?_
  refine lv_iconst (v := 2) hx hb dL_law_698 z54 ?_
  refine lv_iadd hx hb dL_law_699 ?_
  refine tpi z362 ?_
  refine va_sld hx hb hX hbl hbA hS (vin _ _ rfl) dL_law_700 ?_
  refine tpv (v := .int x2) (congrArg Value.int e2) ?_
  refine call_iV (ci := 11) (As := [.int x1, .int x2]) (rest := [.int (-2)]) (wr := []) ⟨hx, hb, hml, hown, hts⟩ (k273_X11_bribe l dC dI cB cI cJ cZ cO n x1 x2 h0 h3 h2) (cwV 2 hts gL_law_X11_bribe rfl rfl rfl ⟨rfl, z1009⟩ ⟨Nat.le_of_ble_eq_true rfl, Nat.le_of_ble_eq_true rfl⟩) hK hP hD hS hA [0, 1, 2] [] rfl rfl (by decide +kernel) (by decide +kernel) (by decide +kernel) rfl rfl rfl hl.1 (Nat.le_of_ble_eq_true rfl) rfl rfl dL_law_701 ⟨by decide +kernel, by decide +kernel⟩ (fun u1 H locs hP hD hS => ?_)
  refine lv_icmp_eq (tgt := 1093) hx hb dL_law_704 z1007 (fun _ => ?_) (fun c1 => absurd (rfl) c1)
  refine lv_iinc (v := 6) (lv' := [(3, .int 6), (2, .ref (n 0)), (1, .ref (r 0)), (0, .ref b)]) hx hb dL_law_1093 hl (k := 0) rfl z943 (nlt rfl) rfl (fun ls hl => ?_)
  refine lv_goto (tgt := 18) hx hb dL_law_1096 z944 ?_
  refine lv_iload_n hx hb dL_law_18 rfl (lv_at hl 0 rfl) ?_
  refine lv_aload_n hx hb dL_law_19 rfl (lv_at hl 3 rfl) ?_
  refine va_slen hx hb hX hbl hbA hS dL_law_20 ?_
  refine tpv (v := .int 6) rfl ?_
  refine lv_bipush (v := 6) hx hb dL_law_21 z4 ?_
  refine lv_isub hx hb dL_law_23 ?_
  refine tpi z945 ?_
  refine lv_icmp_gt (tgt := 1099) hx hb dL_law_24 z947 (fun _ => ?_) (fun c1 => absurd (z946) c1)
  refine lv_iconst (v := 1) hx hb dL_law_1099 z39 ?_
  refine va_forget (fun q hq => hS.2.2 q hq) ?_
  refine W.widen (k := 600000) (n := 7302250) (by decide) (by decide) ?_
  exact lw_ret hx hb hr hlocks dL_law_1100

set_option maxHeartbeats 4000000 in
set_option maxRecDepth 100000 in
theorem lc_20_3 {p : Program} {e : Env} {s : State} {m : MethodId} {below : List Frame} {meth : Method} {c : Code} (l : Launch) {b : Nat} {xs : Nat → Int32} (C0 : lw_At p s m meth c b 6 xs) (dC : Nat → ClassId) (dI : Nat → Nat → Nat) (cB cI cJ cZ cO : ClassId) (r n : Nat → Nat) (x1 : Int32) (x2 : Int32) (e1 : xs 1 = x1) (e2 : xs 2 = x2) (h0 : ¬ x1 < 0) (h1 : ¬ 3 ≤ x1) (h2 : ¬ x2 < 0) (h3 : 0 ≤ x2) (h4 : ¬ 2 < x1) (h5 : (-1) < x2) (H : Heap) (locs : List Loc) (hK : va_K (dC, dI) vwCl (tyL cB cI cJ cZ cO) s) (hP : va_P (dC, dI) vwCl [((r 0), .inr (10, fX r)), ((r 18), .inr (4, [.int 0, .ref (r 19), .ref (r 20), .int 0, .ref (r 21), .ref (r 22), .int 0, .ref (r 23), .ref (r 24), .int 0, .ref (r 25), .ref (r 26), .int 3, .int 0, .int 0, .ref (r 27)])), ((r 38), .inr (0, [.ref (r 39), .int 0, .ref (r 40), .ref (r 41), .ref (r 42), .ref (r 43), .ref (r 44), .int 0, .int 0])), ((n 0), .inr (11, fM n)), ((n 7), .inl (cI, 2, .inl (upd (fun _ => 0) 0 3))), ((n 3), .inl (cI, 2, .inl (fun _ => 0)))] H) (hD : va_D (fun q : Nat => s.heap.size ≤ q) [((r 0), .inr (10, fX r)), ((r 18), .inr (4, [.int 0, .ref (r 19), .ref (r 20), .int 0, .ref (r 21), .ref (r 22), .int 0, .ref (r 23), .ref (r 24), .int 0, .ref (r 25), .ref (r 26), .int 3, .int 0, .int 0, .ref (r 27)])), ((r 38), .inr (0, [.ref (r 39), .int 0, .ref (r 40), .ref (r 41), .ref (r 42), .ref (r 43), .ref (r 44), .int 0, .int 0])), ((n 0), .inr (11, fM n)), ((n 7), .inl (cI, 2, .inl (upd (fun _ => 0) 0 3))), ((n 3), .inl (cI, 2, .inl (fun _ => 0)))]) (hS : va_S (fun q : Nat => s.heap.size ≤ q) s.heap H locs) (ls : Array Slot) (hl : lv_has ls 4 [(3, .int 0), (2, .ref (n 0)), (1, .ref (r 0)), (0, .ref b)]) : W p l e room_1 s m #[Value.ref b] below meth c H locs 135 85080 (lw_Z below #[Value.ref b] s) (F0 m 676 ls []) := by
  obtain ⟨hx, hb, hr, hml, hown, hts0, hX, hbl, hlocks, hgv⟩ := C0
  have hts : ∀ w ∈ wsL_law, w.before #[Value.ref b] s = true := fun w h => hts0 w (wsL_law_in w h)
  have hA : ∀ q : Nat, s.heap.size ≤ q → (fun q : Nat => s.heap.size ≤ q) q := fun _ h => h
  have hbA : ¬ (fun q : Nat => s.heap.size ≤ q) b := Nat.not_le.mpr hbl
  have hown : s.vm.findClass RL = some m.cls := hown
  refine lv_aload_n hx hb dL_law_676 rfl (lv_at hl 2 rfl) ?_
  refine lv_aload_n hx hb dL_law_677 rfl (lv_at hl 3 rfl) ?_
  refine lv_iload_n hx hb dL_law_678 rfl (lv_at hl 0 rfl) ?_
  refine lv_iconst (v := 1) hx hb dL_law_679 z39 ?_
  refine lv_iadd hx hb dL_law_680 ?_
  refine tpi z281 ?_
  refine va_sld hx hb hX hbl hbA hS (vin _ _ rfl) dL_law_681 ?_
  refine tpv (v := .int x1) (congrArg Value.int e1) ?_
  refine lv_aload_n hx hb dL_law_682 rfl (lv_at hl 3 rfl) ?_
  refine lv_iload_n hx hb dL_law_683 rfl (lv_at hl 0 rfl) ?_
  refine lv_iconst (v := 2) hx hb dL_law_684 z54 ?_
  refine lv_iadd hx hb dL_law_685 ?_
  refine tpi z362 ?_
  refine va_sld hx hb hX hbl hbA hS (vin _ _ rfl) dL_law_686 ?_
  refine tpv (v := .int x2) (congrArg Value.int e2) ?_
  refine call_iV (ci := 10) (As := [.int x1, .int x2]) (rest := []) (wr := [((n 0), .inr (11, fM n)), ((n 7), .inl (cI, 2, .inl (upd (fun _ => 0) 0 3))), ((n 3), .inl (cI, 2, .inl (fun _ => 0)))]) ⟨hx, hb, hml, hown, hts⟩ (k275_X10_bribe l dC dI cB cI cJ cZ cO r x1 x2 h0 h1 h2 h3) (cwV 2 hts gL_law_X10_bribe rfl rfl rfl ⟨rfl, z1008⟩ ⟨Nat.le_of_ble_eq_true rfl, Nat.le_of_ble_eq_true rfl⟩) hK hP hD hS hA [0, 1, 2] [3, 4, 5] rfl rfl (by decide +kernel) (by decide +kernel) (by decide +kernel) rfl rfl rfl hl.1 (Nat.le_of_ble_eq_true rfl) rfl rfl dL_law_687 ⟨by decide +kernel, by decide +kernel⟩ (fun u0 H locs hP hD hS => ?_)
  refine lv_aload_n hx hb dL_law_690 rfl (lv_at hl 1 rfl) ?_
  refine lv_aload_n hx hb dL_law_691 rfl (lv_at hl 3 rfl) ?_
  refine lv_iload_n hx hb dL_law_692 rfl (lv_at hl 0 rfl) ?_
  refine lv_iconst (v := 1) hx hb dL_law_693 z39 ?_
  refine lv_iadd hx hb dL_law_694 ?_
  refine tpi z281 ?_
  refine va_sld hx hb hX hbl hbA hS (vin _ _ rfl) dL_law_695 ?_
  refine tpv (v := .int x1) (congrArg Value.int e1) ?_
  refine lv_aload_n hx hb dL_law_696 rfl (lv_at hl 3 rfl) ?_
  refine lv_iload_n hx hb dL_law_697 rfl (lv_at hl 0 rfl) ?_
  refine lv_iconst (v := 2) hx hb dL_law_698 z54 ?_
  refine lv_iadd hx hb dL_law_699 ?_
  refine tpi z362 ?_
  refine va_sld hx hb hX hbl hbA hS (vin _ _ rfl) dL_law_700 ?_
  refine tpv (v := .int x2) (congrArg Value.int e2) ?_
  refine call_iV (ci := 11) (As := [.int x1, .int x2]) (rest := [.int (-2)]) (wr := []) ⟨hx, hb, hml, hown, hts⟩ (k278_X11_bribe l dC dI cB cI cJ cZ cO n x1 x2 h0 h4 h2 h5) (cwV 2 hts gL_law_X11_bribe rfl rfl rfl ⟨rfl, z1009⟩ ⟨Nat.le_of_ble_eq_true rfl, Nat.le_of_ble_eq_true rfl⟩) hK hP hD hS hA [0, 1, 2] [] rfl rfl (by decide +kernel) (by decide +kernel) (by decide +kernel) rfl rfl rfl hl.1 (Nat.le_of_ble_eq_true rfl) rfl rfl dL_law_701 ⟨by decide +kernel, by decide +kernel⟩ (fun u1 H locs hP hD hS => ?_)
  refine lv_icmp_eq (tgt := 1093) hx hb dL_law_704 z1007 (fun _ => ?_) (fun c1 => absurd (rfl) c1)
  refine lv_iinc (v := 6) (lv' := [(3, .int 6), (2, .ref (n 0)), (1, .ref (r 0)), (0, .ref b)]) hx hb dL_law_1093 hl (k := 0) rfl z943 (nlt rfl) rfl (fun ls hl => ?_)
  refine lv_goto (tgt := 18) hx hb dL_law_1096 z944 ?_
  refine lv_iload_n hx hb dL_law_18 rfl (lv_at hl 0 rfl) ?_
  refine lv_aload_n hx hb dL_law_19 rfl (lv_at hl 3 rfl) ?_
  refine va_slen hx hb hX hbl hbA hS dL_law_20 ?_
  refine tpv (v := .int 6) rfl ?_
  refine lv_bipush (v := 6) hx hb dL_law_21 z4 ?_
  refine lv_isub hx hb dL_law_23 ?_
  refine tpi z945 ?_
  refine lv_icmp_gt (tgt := 1099) hx hb dL_law_24 z947 (fun _ => ?_) (fun c1 => absurd (z946) c1)
  refine lv_iconst (v := 1) hx hb dL_law_1099 z39 ?_
  refine va_forget (fun q hq => hS.2.2 q hq) ?_
  refine W.widen (k := 600000) (n := 7302250) (by decide) (by decide) ?_
  exact lw_ret hx hb hr hlocks dL_law_1100

set_option maxHeartbeats 4000000 in
set_option maxRecDepth 100000 in
theorem lc_21_0 {p : Program} {e : Env} {s : State} {m : MethodId} {below : List Frame} {meth : Method} {c : Code} (l : Launch) {b : Nat} {xs : Nat → Int32} (C0 : lw_At p s m meth c b 6 xs) (dC : Nat → ClassId) (dI : Nat → Nat → Nat) (cB cI cJ cZ cO : ClassId) (r n : Nat → Nat) (H : Heap) (locs : List Loc) (hK : va_K (dC, dI) vwCl (tyL cB cI cJ cZ cO) s) (hP : va_P (dC, dI) vwCl [((r 0), .inr (10, fX r)), ((r 18), .inr (4, [.int 0, .ref (r 19), .ref (r 20), .int 0, .ref (r 21), .ref (r 22), .int 0, .ref (r 23), .ref (r 24), .int 0, .ref (r 25), .ref (r 26), .int 3, .int 0, .int 0, .ref (r 27)])), ((r 87), .inl (cI, 16, .inl (fun _ => 0))), ((n 0), .inr (11, fM n)), ((n 38), .inl (cI, 8, .inl (fun _ => 0))), ((n 6), .inl (cI, 2, .inl (fun _ => 0))), ((n 5), .inl (cI, 2, .inl (fun _ => 0)))] H) (hD : va_D (fun q : Nat => s.heap.size ≤ q) [((r 0), .inr (10, fX r)), ((r 18), .inr (4, [.int 0, .ref (r 19), .ref (r 20), .int 0, .ref (r 21), .ref (r 22), .int 0, .ref (r 23), .ref (r 24), .int 0, .ref (r 25), .ref (r 26), .int 3, .int 0, .int 0, .ref (r 27)])), ((r 87), .inl (cI, 16, .inl (fun _ => 0))), ((n 0), .inr (11, fM n)), ((n 38), .inl (cI, 8, .inl (fun _ => 0))), ((n 6), .inl (cI, 2, .inl (fun _ => 0))), ((n 5), .inl (cI, 2, .inl (fun _ => 0)))]) (hS : va_S (fun q : Nat => s.heap.size ≤ q) s.heap H locs) (ls : Array Slot) (hl : lv_has ls 4 [(3, .int 0), (2, .ref (n 0)), (1, .ref (r 0)), (0, .ref b)]) : W p l e room_1 s m #[Value.ref b] below meth c H locs 135 85080 (lw_Z below #[Value.ref b] s) (F0 m 709 ls []) := by
  obtain ⟨hx, hb, hr, hml, hown, hts0, hX, hbl, hlocks, hgv⟩ := C0
  have hts : ∀ w ∈ wsL_law, w.before #[Value.ref b] s = true := fun w h => hts0 w (wsL_law_in w h)
  have hA : ∀ q : Nat, s.heap.size ≤ q → (fun q : Nat => s.heap.size ≤ q) q := fun _ h => h
  have hbA : ¬ (fun q : Nat => s.heap.size ≤ q) b := Nat.not_le.mpr hbl
  have hown : s.vm.findClass RL = some m.cls := hown
  refine lv_aload_n hx hb dL_law_709 rfl (lv_at hl 2 rfl) ?_
  refine call_iV (ci := 10) (As := []) (rest := []) (wr := [((n 0), .inr (11, fM n)), ((n 38), .inl (cI, 8, .inl (fun _ => 0))), ((n 6), .inl (cI, 2, .inl (fun _ => 0))), ((n 5), .inl (cI, 2, .inl (fun _ => 0)))]) ⟨hx, hb, hml, hown, hts⟩ (k281_X10_used l dC dI cB cI cJ cZ cO r) (cwV 0 hts gL_law_X10_used rfl rfl rfl ⟨rfl, z1011⟩ ⟨Nat.le_of_ble_eq_true rfl, Nat.le_of_ble_eq_true rfl⟩) hK hP hD hS hA [0, 1, 2] [3, 4, 5, 6] rfl rfl (by decide +kernel) (by decide +kernel) (by decide +kernel) rfl rfl rfl hl.1 (Nat.le_of_ble_eq_true rfl) rfl rfl dL_law_710 ⟨by decide +kernel, by decide +kernel⟩ (fun u0 H locs hP hD hS => ?_)
  refine lv_aload_n hx hb dL_law_713 rfl (lv_at hl 1 rfl) ?_
  refine call_iV (ci := 11) (As := []) (rest := [.int 0]) (wr := []) ⟨hx, hb, hml, hown, hts⟩ (k283_X11_used l dC dI cB cI cJ cZ cO n) (cwV 0 hts gL_law_X11_used rfl rfl rfl ⟨rfl, z1012⟩ ⟨Nat.le_of_ble_eq_true rfl, Nat.le_of_ble_eq_true rfl⟩) hK hP hD hS hA [0, 1, 2, 3] [] rfl rfl (by decide +kernel) (by decide +kernel) (by decide +kernel) rfl rfl rfl hl.1 (Nat.le_of_ble_eq_true rfl) rfl rfl dL_law_714 ⟨by decide +kernel, by decide +kernel⟩ (fun u1 H locs hP hD hS => ?_)
  refine lv_icmp_eq (tgt := 1093) hx hb dL_law_717 z1010 (fun _ => ?_) (fun c1 => absurd (rfl) c1)
  refine lv_iinc (v := 6) (lv' := [(3, .int 6), (2, .ref (n 0)), (1, .ref (r 0)), (0, .ref b)]) hx hb dL_law_1093 hl (k := 0) rfl z943 (nlt rfl) rfl (fun ls hl => ?_)
  refine lv_goto (tgt := 18) hx hb dL_law_1096 z944 ?_
  refine lv_iload_n hx hb dL_law_18 rfl (lv_at hl 0 rfl) ?_
  refine lv_aload_n hx hb dL_law_19 rfl (lv_at hl 3 rfl) ?_
  refine va_slen hx hb hX hbl hbA hS dL_law_20 ?_
  refine tpv (v := .int 6) rfl ?_
  refine lv_bipush (v := 6) hx hb dL_law_21 z4 ?_
  refine lv_isub hx hb dL_law_23 ?_
  refine tpi z945 ?_
  refine lv_icmp_gt (tgt := 1099) hx hb dL_law_24 z947 (fun _ => ?_) (fun c1 => absurd (z946) c1)
  refine lv_iconst (v := 1) hx hb dL_law_1099 z39 ?_
  refine va_forget (fun q hq => hS.2.2 q hq) ?_
  refine W.widen (k := 600000) (n := 7302250) (by decide) (by decide) ?_
  exact lw_ret hx hb hr hlocks dL_law_1100

set_option maxHeartbeats 4000000 in
set_option maxRecDepth 100000 in
theorem lc_22_0 {p : Program} {e : Env} {s : State} {m : MethodId} {below : List Frame} {meth : Method} {c : Code} (l : Launch) {b : Nat} {xs : Nat → Int32} (C0 : lw_At p s m meth c b 6 xs) (dC : Nat → ClassId) (dI : Nat → Nat → Nat) (cB cI cJ cZ cO : ClassId) (r n : Nat → Nat) (x1 : Int32) (e1 : xs 1 = x1) (h0 : x1 < 0) (H : Heap) (locs : List Loc) (hK : va_K (dC, dI) vwCl (tyL cB cI cJ cZ cO) s) (hP : va_P (dC, dI) vwCl [((r 0), .inr (10, fX r)), ((n 0), .inr (11, fM n)), ((n 5), .inl (cI, 2, .inl (fun _ => 0)))] H) (hD : va_D (fun q : Nat => s.heap.size ≤ q) [((r 0), .inr (10, fX r)), ((n 0), .inr (11, fM n)), ((n 5), .inl (cI, 2, .inl (fun _ => 0)))]) (hS : va_S (fun q : Nat => s.heap.size ≤ q) s.heap H locs) (ls : Array Slot) (hl : lv_has ls 4 [(3, .int 0), (2, .ref (n 0)), (1, .ref (r 0)), (0, .ref b)]) : W p l e room_1 s m #[Value.ref b] below meth c H locs 135 85080 (lw_Z below #[Value.ref b] s) (F0 m 722 ls []) := by
  obtain ⟨hx, hb, hr, hml, hown, hts0, hX, hbl, hlocks, hgv⟩ := C0
  have hts : ∀ w ∈ wsL_law, w.before #[Value.ref b] s = true := fun w h => hts0 w (wsL_law_in w h)
  have hA : ∀ q : Nat, s.heap.size ≤ q → (fun q : Nat => s.heap.size ≤ q) q := fun _ h => h
  have hbA : ¬ (fun q : Nat => s.heap.size ≤ q) b := Nat.not_le.mpr hbl
  have hown : s.vm.findClass RL = some m.cls := hown
  refine lv_aload_n hx hb dL_law_722 rfl (lv_at hl 2 rfl) ?_
  refine lv_aload_n hx hb dL_law_723 rfl (lv_at hl 3 rfl) ?_
  refine lv_iload_n hx hb dL_law_724 rfl (lv_at hl 0 rfl) ?_
  refine lv_iconst (v := 1) hx hb dL_law_725 z39 ?_
  refine lv_iadd hx hb dL_law_726 ?_
  refine tpi z281 ?_
  refine va_sld hx hb hX hbl hbA hS (vin _ _ rfl) dL_law_727 ?_
  refine tpv (v := .int x1) (congrArg Value.int e1) ?_
  refine call_iV (ci := 10) (As := [.int x1]) (rest := []) (wr := [((n 0), .inr (11, fM n)), ((n 5), .inl (cI, 2, .inl (fun _ => 0)))]) ⟨hx, hb, hml, hown, hts⟩ (k284_X10_shortest l dC dI cB cI cJ cZ cO r x1 h0) (cwV 1 hts gL_law_X10_shortest rfl rfl rfl ⟨rfl, z1014⟩ ⟨Nat.le_of_ble_eq_true rfl, Nat.le_of_ble_eq_true rfl⟩) hK hP hD hS hA [0] [1, 2] rfl rfl (by decide +kernel) (by decide +kernel) (by decide +kernel) rfl rfl rfl hl.1 (Nat.le_of_ble_eq_true rfl) rfl rfl dL_law_728 ⟨by decide +kernel, by decide +kernel⟩ (fun u0 H locs hP hD hS => ?_)
  refine lv_aload_n hx hb dL_law_731 rfl (lv_at hl 1 rfl) ?_
  refine lv_aload_n hx hb dL_law_732 rfl (lv_at hl 3 rfl) ?_
  refine lv_iload_n hx hb dL_law_733 rfl (lv_at hl 0 rfl) ?_
  refine lv_iconst (v := 1) hx hb dL_law_734 z39 ?_
  refine lv_iadd hx hb dL_law_735 ?_
  refine tpi z281 ?_
  refine va_sld hx hb hX hbl hbA hS (vin _ _ rfl) dL_law_736 ?_
  refine tpv (v := .int x1) (congrArg Value.int e1) ?_
  refine call_iV (ci := 11) (As := [.int x1]) (rest := [.int (-1)]) (wr := []) ⟨hx, hb, hml, hown, hts⟩ (k285_X11_shortest l dC dI cB cI cJ cZ cO n x1 h0) (cwV 1 hts gL_law_X11_shortest rfl rfl rfl ⟨rfl, z1015⟩ ⟨Nat.le_of_ble_eq_true rfl, Nat.le_of_ble_eq_true rfl⟩) hK hP hD hS hA [0, 1] [] rfl rfl (by decide +kernel) (by decide +kernel) (by decide +kernel) rfl rfl rfl hl.1 (Nat.le_of_ble_eq_true rfl) rfl rfl dL_law_737 ⟨by decide +kernel, by decide +kernel⟩ (fun u1 H locs hP hD hS => ?_)
  refine lv_icmp_eq (tgt := 1093) hx hb dL_law_740 z1013 (fun _ => ?_) (fun c1 => absurd (rfl) c1)
  refine lv_iinc (v := 6) (lv' := [(3, .int 6), (2, .ref (n 0)), (1, .ref (r 0)), (0, .ref b)]) hx hb dL_law_1093 hl (k := 0) rfl z943 (nlt rfl) rfl (fun ls hl => ?_)
  refine lv_goto (tgt := 18) hx hb dL_law_1096 z944 ?_
  refine lv_iload_n hx hb dL_law_18 rfl (lv_at hl 0 rfl) ?_
  refine lv_aload_n hx hb dL_law_19 rfl (lv_at hl 3 rfl) ?_
  refine va_slen hx hb hX hbl hbA hS dL_law_20 ?_
  refine tpv (v := .int 6) rfl ?_
  refine lv_bipush (v := 6) hx hb dL_law_21 z4 ?_
  refine lv_isub hx hb dL_law_23 ?_
  refine tpi z945 ?_
  refine lv_icmp_gt (tgt := 1099) hx hb dL_law_24 z947 (fun _ => ?_) (fun c1 => absurd (z946) c1)
  refine lv_iconst (v := 1) hx hb dL_law_1099 z39 ?_
  refine va_forget (fun q hq => hS.2.2 q hq) ?_
  refine W.widen (k := 600000) (n := 7302250) (by decide) (by decide) ?_
  exact lw_ret hx hb hr hlocks dL_law_1100

set_option maxHeartbeats 4000000 in
set_option maxRecDepth 100000 in
theorem lc_22_1 {p : Program} {e : Env} {s : State} {m : MethodId} {below : List Frame} {meth : Method} {c : Code} (l : Launch) {b : Nat} {xs : Nat → Int32} (C0 : lw_At p s m meth c b 6 xs) (dC : Nat → ClassId) (dI : Nat → Nat → Nat) (cB cI cJ cZ cO : ClassId) (r n : Nat → Nat) (x1 : Int32) (e1 : xs 1 = x1) (h0 : ¬ x1 < 0) (h1 : (-1) < x1) (H : Heap) (locs : List Loc) (hK : va_K (dC, dI) vwCl (tyL cB cI cJ cZ cO) s) (hP : va_P (dC, dI) vwCl [((r 0), .inr (10, fX r)), ((r 18), .inr (4, [.int 0, .ref (r 19), .ref (r 20), .int 0, .ref (r 21), .ref (r 22), .int 0, .ref (r 23), .ref (r 24), .int 0, .ref (r 25), .ref (r 26), .int 3, .int 0, .int 0, .ref (r 27)])), ((n 0), .inr (11, fM n)), ((n 5), .inl (cI, 2, .inl (fun _ => 0)))] H) (hD : va_D (fun q : Nat => s.heap.size ≤ q) [((r 0), .inr (10, fX r)), ((r 18), .inr (4, [.int 0, .ref (r 19), .ref (r 20), .int 0, .ref (r 21), .ref (r 22), .int 0, .ref (r 23), .ref (r 24), .int 0, .ref (r 25), .ref (r 26), .int 3, .int 0, .int 0, .ref (r 27)])), ((n 0), .inr (11, fM n)), ((n 5), .inl (cI, 2, .inl (fun _ => 0)))]) (hS : va_S (fun q : Nat => s.heap.size ≤ q) s.heap H locs) (ls : Array Slot) (hl : lv_has ls 4 [(3, .int 0), (2, .ref (n 0)), (1, .ref (r 0)), (0, .ref b)]) : W p l e room_1 s m #[Value.ref b] below meth c H locs 135 85080 (lw_Z below #[Value.ref b] s) (F0 m 722 ls []) := by
  obtain ⟨hx, hb, hr, hml, hown, hts0, hX, hbl, hlocks, hgv⟩ := C0
  have hts : ∀ w ∈ wsL_law, w.before #[Value.ref b] s = true := fun w h => hts0 w (wsL_law_in w h)
  have hA : ∀ q : Nat, s.heap.size ≤ q → (fun q : Nat => s.heap.size ≤ q) q := fun _ h => h
  have hbA : ¬ (fun q : Nat => s.heap.size ≤ q) b := Nat.not_le.mpr hbl
  have hown : s.vm.findClass RL = some m.cls := hown
  refine lv_aload_n hx hb dL_law_722 rfl (lv_at hl 2 rfl) ?_
  refine lv_aload_n hx hb dL_law_723 rfl (lv_at hl 3 rfl) ?_
  refine lv_iload_n hx hb dL_law_724 rfl (lv_at hl 0 rfl) ?_
  refine lv_iconst (v := 1) hx hb dL_law_725 z39 ?_
  refine lv_iadd hx hb dL_law_726 ?_
  refine tpi z281 ?_
  refine va_sld hx hb hX hbl hbA hS (vin _ _ rfl) dL_law_727 ?_
  refine tpv (v := .int x1) (congrArg Value.int e1) ?_
  refine call_iV (ci := 10) (As := [.int x1]) (rest := []) (wr := [((n 0), .inr (11, fM n)), ((n 5), .inl (cI, 2, .inl (fun _ => 0)))]) ⟨hx, hb, hml, hown, hts⟩ (k286_X10_shortest l dC dI cB cI cJ cZ cO r x1 h0) (cwV 1 hts gL_law_X10_shortest rfl rfl rfl ⟨rfl, z1014⟩ ⟨Nat.le_of_ble_eq_true rfl, Nat.le_of_ble_eq_true rfl⟩) hK hP hD hS hA [0, 1] [2, 3] rfl rfl (by decide +kernel) (by decide +kernel) (by decide +kernel) rfl rfl rfl hl.1 (Nat.le_of_ble_eq_true rfl) rfl rfl dL_law_728 ⟨by decide +kernel, by decide +kernel⟩ (fun u0 H locs hP hD hS => ?_)
  refine lv_aload_n hx hb dL_law_731 rfl (lv_at hl 1 rfl) ?_
  refine lv_aload_n hx hb dL_law_732 rfl (lv_at hl 3 rfl) ?_
  refine lv_iload_n hx hb dL_law_733 rfl (lv_at hl 0 rfl) ?_
  refine lv_iconst (v := 1) hx hb dL_law_734 z39 ?_
  refine lv_iadd hx hb dL_law_735 ?_
  refine tpi z281 ?_
  refine va_sld hx hb hX hbl hbA hS (vin _ _ rfl) dL_law_736 ?_
  refine tpv (v := .int x1) (congrArg Value.int e1) ?_
  refine call_iV (ci := 11) (As := [.int x1]) (rest := [.int (-1)]) (wr := []) ⟨hx, hb, hml, hown, hts⟩ (k287_X11_shortest l dC dI cB cI cJ cZ cO n x1 h0 h1) (cwV 1 hts gL_law_X11_shortest rfl rfl rfl ⟨rfl, z1015⟩ ⟨Nat.le_of_ble_eq_true rfl, Nat.le_of_ble_eq_true rfl⟩) hK hP hD hS hA [0, 1] [] rfl rfl (by decide +kernel) (by decide +kernel) (by decide +kernel) rfl rfl rfl hl.1 (Nat.le_of_ble_eq_true rfl) rfl rfl dL_law_737 ⟨by decide +kernel, by decide +kernel⟩ (fun u1 H locs hP hD hS => ?_)
  refine lv_icmp_eq (tgt := 1093) hx hb dL_law_740 z1013 (fun _ => ?_) (fun c1 => absurd (rfl) c1)
  refine lv_iinc (v := 6) (lv' := [(3, .int 6), (2, .ref (n 0)), (1, .ref (r 0)), (0, .ref b)]) hx hb dL_law_1093 hl (k := 0) rfl z943 (nlt rfl) rfl (fun ls hl => ?_)
  refine lv_goto (tgt := 18) hx hb dL_law_1096 z944 ?_
  refine lv_iload_n hx hb dL_law_18 rfl (lv_at hl 0 rfl) ?_
  refine lv_aload_n hx hb dL_law_19 rfl (lv_at hl 3 rfl) ?_
  refine va_slen hx hb hX hbl hbA hS dL_law_20 ?_
  refine tpv (v := .int 6) rfl ?_
  refine lv_bipush (v := 6) hx hb dL_law_21 z4 ?_
  refine lv_isub hx hb dL_law_23 ?_
  refine tpi z945 ?_
  refine lv_icmp_gt (tgt := 1099) hx hb dL_law_24 z947 (fun _ => ?_) (fun c1 => absurd (z946) c1)
  refine lv_iconst (v := 1) hx hb dL_law_1099 z39 ?_
  refine va_forget (fun q hq => hS.2.2 q hq) ?_
  refine W.widen (k := 600000) (n := 7302250) (by decide) (by decide) ?_
  exact lw_ret hx hb hr hlocks dL_law_1100

set_option maxHeartbeats 4000000 in
set_option maxRecDepth 100000 in
theorem lc_23_0 {p : Program} {e : Env} {s : State} {m : MethodId} {below : List Frame} {meth : Method} {c : Code} (l : Launch) {b : Nat} {xs : Nat → Int32} (C0 : lw_At p s m meth c b 6 xs) (dC : Nat → ClassId) (dI : Nat → Nat → Nat) (cB cI cJ cZ cO : ClassId) (r n : Nat → Nat) (H : Heap) (locs : List Loc) (hK : va_K (dC, dI) vwCl (tyL cB cI cJ cZ cO) s) (hP : va_P (dC, dI) vwCl [((r 0), .inr (10, fX r)), ((r 38), .inr (0, [.ref (r 39), .int 0, .ref (r 40), .ref (r 41), .ref (r 42), .ref (r 43), .ref (r 44), .int 0, .int 0])), ((r 65), .inr (9, [.int 0, .int 0, .ref (r 66), .ref (r 67), .ref (r 68), .ref (r 69), .int 0, .int 0, .int 0, .int 0, .int 0])), ((r 18), .inr (4, [.int 0, .ref (r 19), .ref (r 20), .int 0, .ref (r 21), .ref (r 22), .int 0, .ref (r 23), .ref (r 24), .int 0, .ref (r 25), .ref (r 26), .int 3, .int 0, .int 0, .ref (r 27)])), ((r 66), .inl (cI, 3000, .inl (fun _ => 0))), ((r 67), .inl (cI, 3000, .inl (fun _ => 0))), ((r 69), .inl (cI, 3000, .inl (fun _ => 0))), ((r 68), .inl (cI, 9000, .inl (fun _ => 0))), ((r 55), .inr (5, [.ref (r 56), .ref (r 57)])), ((n 0), .inr (11, fM n)), ((n 7), .inl (cI, 2, .inl (upd (fun _ => 0) 0 3))), ((n 21), .inl (cI, 6, .inl (fun _ => 0))), ((n 5), .inl (cI, 2, .inl (fun _ => 0)))] H) (hD : va_D (fun q : Nat => s.heap.size ≤ q) [((r 0), .inr (10, fX r)), ((r 38), .inr (0, [.ref (r 39), .int 0, .ref (r 40), .ref (r 41), .ref (r 42), .ref (r 43), .ref (r 44), .int 0, .int 0])), ((r 65), .inr (9, [.int 0, .int 0, .ref (r 66), .ref (r 67), .ref (r 68), .ref (r 69), .int 0, .int 0, .int 0, .int 0, .int 0])), ((r 18), .inr (4, [.int 0, .ref (r 19), .ref (r 20), .int 0, .ref (r 21), .ref (r 22), .int 0, .ref (r 23), .ref (r 24), .int 0, .ref (r 25), .ref (r 26), .int 3, .int 0, .int 0, .ref (r 27)])), ((r 66), .inl (cI, 3000, .inl (fun _ => 0))), ((r 67), .inl (cI, 3000, .inl (fun _ => 0))), ((r 69), .inl (cI, 3000, .inl (fun _ => 0))), ((r 68), .inl (cI, 9000, .inl (fun _ => 0))), ((r 55), .inr (5, [.ref (r 56), .ref (r 57)])), ((n 0), .inr (11, fM n)), ((n 7), .inl (cI, 2, .inl (upd (fun _ => 0) 0 3))), ((n 21), .inl (cI, 6, .inl (fun _ => 0))), ((n 5), .inl (cI, 2, .inl (fun _ => 0)))]) (hS : va_S (fun q : Nat => s.heap.size ≤ q) s.heap H locs) (ls : Array Slot) (hl : lv_has ls 4 [(3, .int 0), (2, .ref (n 0)), (1, .ref (r 0)), (0, .ref b)]) : W p l e room_1 s m #[Value.ref b] below meth c H locs 135 85080 (lw_Z below #[Value.ref b] s) (F0 m 745 ls []) := by
  obtain ⟨hx, hb, hr, hml, hown, hts0, hX, hbl, hlocks, hgv⟩ := C0
  have hts : ∀ w ∈ wsL_law, w.before #[Value.ref b] s = true := fun w h => hts0 w (wsL_law_in w h)
  have hA : ∀ q : Nat, s.heap.size ≤ q → (fun q : Nat => s.heap.size ≤ q) q := fun _ h => h
  have hbA : ¬ (fun q : Nat => s.heap.size ≤ q) b := Nat.not_le.mpr hbl
  have hown : s.vm.findClass RL = some m.cls := hown
  refine lv_aload_n hx hb dL_law_745 rfl (lv_at hl 2 rfl) ?_
  refine call_iV (ci := 10) (As := []) (rest := []) (wr := [((n 0), .inr (11, fM n)), ((n 7), .inl (cI, 2, .inl (upd (fun _ => 0) 0 3))), ((n 21), .inl (cI, 6, .inl (fun _ => 0))), ((n 5), .inl (cI, 2, .inl (fun _ => 0)))]) ⟨hx, hb, hml, hown, hts⟩ (k289_X10_doubtful l dC dI cB cI cJ cZ cO r) (cwV 0 hts gL_law_X10_doubtful rfl rfl rfl ⟨rfl, z1017⟩ ⟨Nat.le_of_ble_eq_true rfl, Nat.le_of_ble_eq_true rfl⟩) hK hP hD hS hA [0, 1, 2, 3, 4, 5, 6, 7, 8] [9, 10, 11, 12] rfl rfl (by decide +kernel) (by decide +kernel) (by decide +kernel) rfl rfl rfl hl.1 (Nat.le_of_ble_eq_true rfl) rfl rfl dL_law_746 ⟨by decide +kernel, by decide +kernel⟩ (fun u0 H locs hP hD hS => ?_)
  refine lv_aload_n hx hb dL_law_749 rfl (lv_at hl 1 rfl) ?_
  refine call_iV (ci := 11) (As := []) (rest := [.int 0]) (wr := []) ⟨hx, hb, hml, hown, hts⟩ (k291_X11_doubtful l dC dI cB cI cJ cZ cO n) (cwV 0 hts gL_law_X11_doubtful rfl rfl rfl ⟨rfl, z1018⟩ ⟨Nat.le_of_ble_eq_true rfl, Nat.le_of_ble_eq_true rfl⟩) hK hP hD hS hA [0, 1, 2, 3] [] rfl rfl (by decide +kernel) (by decide +kernel) (by decide +kernel) rfl rfl rfl hl.1 (Nat.le_of_ble_eq_true rfl) rfl rfl dL_law_750 ⟨by decide +kernel, by decide +kernel⟩ (fun u1 H locs hP hD hS => ?_)
  refine lv_icmp_eq (tgt := 1093) hx hb dL_law_753 z1016 (fun _ => ?_) (fun c1 => absurd (rfl) c1)
  refine lv_iinc (v := 6) (lv' := [(3, .int 6), (2, .ref (n 0)), (1, .ref (r 0)), (0, .ref b)]) hx hb dL_law_1093 hl (k := 0) rfl z943 (nlt rfl) rfl (fun ls hl => ?_)
  refine lv_goto (tgt := 18) hx hb dL_law_1096 z944 ?_
  refine lv_iload_n hx hb dL_law_18 rfl (lv_at hl 0 rfl) ?_
  refine lv_aload_n hx hb dL_law_19 rfl (lv_at hl 3 rfl) ?_
  refine va_slen hx hb hX hbl hbA hS dL_law_20 ?_
  refine tpv (v := .int 6) rfl ?_
  refine lv_bipush (v := 6) hx hb dL_law_21 z4 ?_
  refine lv_isub hx hb dL_law_23 ?_
  refine tpi z945 ?_
  refine lv_icmp_gt (tgt := 1099) hx hb dL_law_24 z947 (fun _ => ?_) (fun c1 => absurd (z946) c1)
  refine lv_iconst (v := 1) hx hb dL_law_1099 z39 ?_
  refine va_forget (fun q hq => hS.2.2 q hq) ?_
  refine W.widen (k := 600000) (n := 7302250) (by decide) (by decide) ?_
  exact lw_ret hx hb hr hlocks dL_law_1100

set_option maxHeartbeats 4000000 in
set_option maxRecDepth 100000 in
theorem lc_24_0 {p : Program} {e : Env} {s : State} {m : MethodId} {below : List Frame} {meth : Method} {c : Code} (l : Launch) {b : Nat} {xs : Nat → Int32} (C0 : lw_At p s m meth c b 6 xs) (dC : Nat → ClassId) (dI : Nat → Nat → Nat) (cB cI cJ cZ cO : ClassId) (r n : Nat → Nat) (x1 : Int32) (e1 : xs 1 = x1) (h0 : x1 < 0) (H : Heap) (locs : List Loc) (hK : va_K (dC, dI) vwCl (tyL cB cI cJ cZ cO) s) (hP : va_P (dC, dI) vwCl [((r 0), .inr (10, fX r)), ((r 38), .inr (0, [.ref (r 39), .int 0, .ref (r 40), .ref (r 41), .ref (r 42), .ref (r 43), .ref (r 44), .int 0, .int 0])), ((r 65), .inr (9, [.int 0, .int 0, .ref (r 66), .ref (r 67), .ref (r 68), .ref (r 69), .int 0, .int 0, .int 0, .int 0, .int 0])), ((r 18), .inr (4, [.int 0, .ref (r 19), .ref (r 20), .int 0, .ref (r 21), .ref (r 22), .int 0, .ref (r 23), .ref (r 24), .int 0, .ref (r 25), .ref (r 26), .int 3, .int 0, .int 0, .ref (r 27)])), ((r 66), .inl (cI, 3000, .inl (fun _ => 0))), ((r 67), .inl (cI, 3000, .inl (fun _ => 0))), ((r 69), .inl (cI, 3000, .inl (fun _ => 0))), ((r 68), .inl (cI, 9000, .inl (fun _ => 0))), ((r 55), .inr (5, [.ref (r 56), .ref (r 57)])), ((n 0), .inr (11, fM n))] H) (hD : va_D (fun q : Nat => s.heap.size ≤ q) [((r 0), .inr (10, fX r)), ((r 38), .inr (0, [.ref (r 39), .int 0, .ref (r 40), .ref (r 41), .ref (r 42), .ref (r 43), .ref (r 44), .int 0, .int 0])), ((r 65), .inr (9, [.int 0, .int 0, .ref (r 66), .ref (r 67), .ref (r 68), .ref (r 69), .int 0, .int 0, .int 0, .int 0, .int 0])), ((r 18), .inr (4, [.int 0, .ref (r 19), .ref (r 20), .int 0, .ref (r 21), .ref (r 22), .int 0, .ref (r 23), .ref (r 24), .int 0, .ref (r 25), .ref (r 26), .int 3, .int 0, .int 0, .ref (r 27)])), ((r 66), .inl (cI, 3000, .inl (fun _ => 0))), ((r 67), .inl (cI, 3000, .inl (fun _ => 0))), ((r 69), .inl (cI, 3000, .inl (fun _ => 0))), ((r 68), .inl (cI, 9000, .inl (fun _ => 0))), ((r 55), .inr (5, [.ref (r 56), .ref (r 57)])), ((n 0), .inr (11, fM n))]) (hS : va_S (fun q : Nat => s.heap.size ≤ q) s.heap H locs) (ls : Array Slot) (hl : lv_has ls 4 [(3, .int 0), (2, .ref (n 0)), (1, .ref (r 0)), (0, .ref b)]) : W p l e room_1 s m #[Value.ref b] below meth c H locs 135 85080 (lw_Z below #[Value.ref b] s) (F0 m 758 ls []) := by
  obtain ⟨hx, hb, hr, hml, hown, hts0, hX, hbl, hlocks, hgv⟩ := C0
  have hts : ∀ w ∈ wsL_law, w.before #[Value.ref b] s = true := fun w h => hts0 w (wsL_law_in w h)
  have hA : ∀ q : Nat, s.heap.size ≤ q → (fun q : Nat => s.heap.size ≤ q) q := fun _ h => h
  have hbA : ¬ (fun q : Nat => s.heap.size ≤ q) b := Nat.not_le.mpr hbl
  have hown : s.vm.findClass RL = some m.cls := hown
  refine lv_aload_n hx hb dL_law_758 rfl (lv_at hl 2 rfl) ?_
  refine lv_aload_n hx hb dL_law_759 rfl (lv_at hl 3 rfl) ?_
  refine lv_iload_n hx hb dL_law_760 rfl (lv_at hl 0 rfl) ?_
  refine lv_iconst (v := 1) hx hb dL_law_761 z39 ?_
  refine lv_iadd hx hb dL_law_762 ?_
  refine tpi z281 ?_
  refine va_sld hx hb hX hbl hbA hS (vin _ _ rfl) dL_law_763 ?_
  refine tpv (v := .int x1) (congrArg Value.int e1) ?_
  refine call_iV (ci := 10) (As := [.int x1]) (rest := []) (wr := [((n 0), .inr (11, fM n))]) ⟨hx, hb, hml, hown, hts⟩ (k292_X10_lots l dC dI cB cI cJ cZ cO r x1 h0) (cwV 1 hts gL_law_X10_lots rfl rfl rfl ⟨rfl, z1020⟩ ⟨Nat.le_of_ble_eq_true rfl, Nat.le_of_ble_eq_true rfl⟩) hK hP hD hS hA [0, 1, 2, 3, 4, 5, 6, 7, 8] [9] rfl rfl (by decide +kernel) (by decide +kernel) (by decide +kernel) rfl rfl rfl hl.1 (Nat.le_of_ble_eq_true rfl) rfl rfl dL_law_764 ⟨by decide +kernel, by decide +kernel⟩ (fun u0 H locs hP hD hS => ?_)
  refine lv_aload_n hx hb dL_law_767 rfl (lv_at hl 1 rfl) ?_
  refine lv_aload_n hx hb dL_law_768 rfl (lv_at hl 3 rfl) ?_
  refine lv_iload_n hx hb dL_law_769 rfl (lv_at hl 0 rfl) ?_
  refine lv_iconst (v := 1) hx hb dL_law_770 z39 ?_
  refine lv_iadd hx hb dL_law_771 ?_
  refine tpi z281 ?_
  refine va_sld hx hb hX hbl hbA hS (vin _ _ rfl) dL_law_772 ?_
  refine tpv (v := .int x1) (congrArg Value.int e1) ?_
  refine call_iV (ci := 11) (As := [.int x1]) (rest := [.int (-1000000)]) (wr := []) ⟨hx, hb, hml, hown, hts⟩ (k293_X11_lots l dC dI cB cI cJ cZ cO n x1 h0) (cwV 1 hts gL_law_X11_lots rfl rfl rfl ⟨rfl, z1021⟩ ⟨Nat.le_of_ble_eq_true rfl, Nat.le_of_ble_eq_true rfl⟩) hK hP hD hS hA [0] [] rfl rfl (by decide +kernel) (by decide +kernel) (by decide +kernel) rfl rfl rfl hl.1 (Nat.le_of_ble_eq_true rfl) rfl rfl dL_law_773 ⟨by decide +kernel, by decide +kernel⟩ (fun u1 H locs hP hD hS => ?_)
  refine lv_icmp_eq (tgt := 1093) hx hb dL_law_776 z1019 (fun _ => ?_) (fun c1 => absurd (rfl) c1)
  refine lv_iinc (v := 6) (lv' := [(3, .int 6), (2, .ref (n 0)), (1, .ref (r 0)), (0, .ref b)]) hx hb dL_law_1093 hl (k := 0) rfl z943 (nlt rfl) rfl (fun ls hl => ?_)
  refine lv_goto (tgt := 18) hx hb dL_law_1096 z944 ?_
  refine lv_iload_n hx hb dL_law_18 rfl (lv_at hl 0 rfl) ?_
  refine lv_aload_n hx hb dL_law_19 rfl (lv_at hl 3 rfl) ?_
  refine va_slen hx hb hX hbl hbA hS dL_law_20 ?_
  refine tpv (v := .int 6) rfl ?_
  refine lv_bipush (v := 6) hx hb dL_law_21 z4 ?_
  refine lv_isub hx hb dL_law_23 ?_
  refine tpi z945 ?_
  refine lv_icmp_gt (tgt := 1099) hx hb dL_law_24 z947 (fun _ => ?_) (fun c1 => absurd (z946) c1)
  refine lv_iconst (v := 1) hx hb dL_law_1099 z39 ?_
  refine va_forget (fun q hq => hS.2.2 q hq) ?_
  refine W.widen (k := 600000) (n := 7302250) (by decide) (by decide) ?_
  exact lw_ret hx hb hr hlocks dL_law_1100

set_option maxHeartbeats 4000000 in
set_option maxRecDepth 100000 in
theorem lc_24_1 {p : Program} {e : Env} {s : State} {m : MethodId} {below : List Frame} {meth : Method} {c : Code} (l : Launch) {b : Nat} {xs : Nat → Int32} (C0 : lw_At p s m meth c b 6 xs) (dC : Nat → ClassId) (dI : Nat → Nat → Nat) (cB cI cJ cZ cO : ClassId) (r n : Nat → Nat) (x1 : Int32) (e1 : xs 1 = x1) (h0 : ¬ x1 < 0) (h1 : ¬ 3 ≤ x1) (h2 : ¬ 2 < x1) (H : Heap) (locs : List Loc) (hK : va_K (dC, dI) vwCl (tyL cB cI cJ cZ cO) s) (hP : va_P (dC, dI) vwCl [((r 0), .inr (10, fX r)), ((r 38), .inr (0, [.ref (r 39), .int 0, .ref (r 40), .ref (r 41), .ref (r 42), .ref (r 43), .ref (r 44), .int 0, .int 0])), ((r 65), .inr (9, [.int 0, .int 0, .ref (r 66), .ref (r 67), .ref (r 68), .ref (r 69), .int 0, .int 0, .int 0, .int 0, .int 0])), ((r 18), .inr (4, [.int 0, .ref (r 19), .ref (r 20), .int 0, .ref (r 21), .ref (r 22), .int 0, .ref (r 23), .ref (r 24), .int 0, .ref (r 25), .ref (r 26), .int 3, .int 0, .int 0, .ref (r 27)])), ((r 66), .inl (cI, 3000, .inl (fun _ => 0))), ((r 67), .inl (cI, 3000, .inl (fun _ => 0))), ((r 69), .inl (cI, 3000, .inl (fun _ => 0))), ((r 68), .inl (cI, 9000, .inl (fun _ => 0))), ((r 55), .inr (5, [.ref (r 56), .ref (r 57)])), ((n 0), .inr (11, fM n)), ((n 7), .inl (cI, 2, .inl (upd (fun _ => 0) 0 3))), ((n 21), .inl (cI, 6, .inl (fun _ => 0))), ((n 5), .inl (cI, 2, .inl (fun _ => 0)))] H) (hD : va_D (fun q : Nat => s.heap.size ≤ q) [((r 0), .inr (10, fX r)), ((r 38), .inr (0, [.ref (r 39), .int 0, .ref (r 40), .ref (r 41), .ref (r 42), .ref (r 43), .ref (r 44), .int 0, .int 0])), ((r 65), .inr (9, [.int 0, .int 0, .ref (r 66), .ref (r 67), .ref (r 68), .ref (r 69), .int 0, .int 0, .int 0, .int 0, .int 0])), ((r 18), .inr (4, [.int 0, .ref (r 19), .ref (r 20), .int 0, .ref (r 21), .ref (r 22), .int 0, .ref (r 23), .ref (r 24), .int 0, .ref (r 25), .ref (r 26), .int 3, .int 0, .int 0, .ref (r 27)])), ((r 66), .inl (cI, 3000, .inl (fun _ => 0))), ((r 67), .inl (cI, 3000, .inl (fun _ => 0))), ((r 69), .inl (cI, 3000, .inl (fun _ => 0))), ((r 68), .inl (cI, 9000, .inl (fun _ => 0))), ((r 55), .inr (5, [.ref (r 56), .ref (r 57)])), ((n 0), .inr (11, fM n)), ((n 7), .inl (cI, 2, .inl (upd (fun _ => 0) 0 3))), ((n 21), .inl (cI, 6, .inl (fun _ => 0))), ((n 5), .inl (cI, 2, .inl (fun _ => 0)))]) (hS : va_S (fun q : Nat => s.heap.size ≤ q) s.heap H locs) (ls : Array Slot) (hl : lv_has ls 4 [(3, .int 0), (2, .ref (n 0)), (1, .ref (r 0)), (0, .ref b)]) : W p l e room_1 s m #[Value.ref b] below meth c H locs 135 85080 (lw_Z below #[Value.ref b] s) (F0 m 758 ls []) := by
  obtain ⟨hx, hb, hr, hml, hown, hts0, hX, hbl, hlocks, hgv⟩ := C0
  have hts : ∀ w ∈ wsL_law, w.before #[Value.ref b] s = true := fun w h => hts0 w (wsL_law_in w h)
  have hA : ∀ q : Nat, s.heap.size ≤ q → (fun q : Nat => s.heap.size ≤ q) q := fun _ h => h
  have hbA : ¬ (fun q : Nat => s.heap.size ≤ q) b := Nat.not_le.mpr hbl
  have hown : s.vm.findClass RL = some m.cls := hown
  refine lv_aload_n hx hb dL_law_758 rfl (lv_at hl 2 rfl) ?_
  refine lv_aload_n hx hb dL_law_759 rfl (lv_at hl 3 rfl) ?_
  refine lv_iload_n hx hb dL_law_760 rfl (lv_at hl 0 rfl) ?_
  refine lv_iconst (v := 1) hx hb dL_law_761 z39 ?_
  refine lv_iadd hx hb dL_law_762 ?_
  refine tpi z281 ?_
  refine va_sld hx hb hX hbl hbA hS (vin _ _ rfl) dL_law_763 ?_
  refine tpv (v := .int x1) (congrArg Value.int e1) ?_
  refine call_iV (ci := 10) (As := [.int x1]) (rest := []) (wr := [((n 0), .inr (11, fM n)), ((n 7), .inl (cI, 2, .inl (upd (fun _ => 0) 0 3))), ((n 21), .inl (cI, 6, .inl (fun _ => 0))), ((n 5), .inl (cI, 2, .inl (fun _ => 0)))]) ⟨hx, hb, hml, hown, hts⟩ (k294_X10_lots l dC dI cB cI cJ cZ cO r x1 h0 h1) (cwV 1 hts gL_law_X10_lots rfl rfl rfl ⟨rfl, z1020⟩ ⟨Nat.le_of_ble_eq_true rfl, Nat.le_of_ble_eq_true rfl⟩) hK hP hD hS hA [0, 1, 2, 3, 4, 5, 6, 7, 8] [9, 10, 11, 12] rfl rfl (by decide +kernel) (by decide +kernel) (by decide +kernel) rfl rfl rfl hl.1 (Nat.le_of_ble_eq_true rfl) rfl rfl dL_law_764 ⟨by decide +kernel, by decide +kernel⟩ (fun u0 H locs hP hD hS => ?_)
  refine lv_aload_n hx hb dL_law_767 rfl (lv_at hl 1 rfl) ?_
  refine lv_aload_n hx hb dL_law_768 rfl (lv_at hl 3 rfl) ?_
  refine lv_iload_n hx hb dL_law_769 rfl (lv_at hl 0 rfl) ?_
  refine lv_iconst (v := 1) hx hb dL_law_770 z39 ?_
  refine lv_iadd hx hb dL_law_771 ?_
  refine tpi z281 ?_
  refine va_sld hx hb hX hbl hbA hS (vin _ _ rfl) dL_law_772 ?_
  refine tpv (v := .int x1) (congrArg Value.int e1) ?_
  refine call_iV (ci := 11) (As := [.int x1]) (rest := [.int (-1000000)]) (wr := []) ⟨hx, hb, hml, hown, hts⟩ (k295_X11_lots l dC dI cB cI cJ cZ cO n x1 h0 h2) (cwV 1 hts gL_law_X11_lots rfl rfl rfl ⟨rfl, z1021⟩ ⟨Nat.le_of_ble_eq_true rfl, Nat.le_of_ble_eq_true rfl⟩) hK hP hD hS hA [0, 1, 2, 3] [] rfl rfl (by decide +kernel) (by decide +kernel) (by decide +kernel) rfl rfl rfl hl.1 (Nat.le_of_ble_eq_true rfl) rfl rfl dL_law_773 ⟨by decide +kernel, by decide +kernel⟩ (fun u1 H locs hP hD hS => ?_)
  refine lv_icmp_eq (tgt := 1093) hx hb dL_law_776 z1019 (fun _ => ?_) (fun c1 => absurd (rfl) c1)
  refine lv_iinc (v := 6) (lv' := [(3, .int 6), (2, .ref (n 0)), (1, .ref (r 0)), (0, .ref b)]) hx hb dL_law_1093 hl (k := 0) rfl z943 (nlt rfl) rfl (fun ls hl => ?_)
  refine lv_goto (tgt := 18) hx hb dL_law_1096 z944 ?_
  refine lv_iload_n hx hb dL_law_18 rfl (lv_at hl 0 rfl) ?_
  refine lv_aload_n hx hb dL_law_19 rfl (lv_at hl 3 rfl) ?_
  refine va_slen hx hb hX hbl hbA hS dL_law_20 ?_
  refine tpv (v := .int 6) rfl ?_
  refine lv_bipush (v := 6) hx hb dL_law_21 z4 ?_
  refine lv_isub hx hb dL_law_23 ?_
  refine tpi z945 ?_
  refine lv_icmp_gt (tgt := 1099) hx hb dL_law_24 z947 (fun _ => ?_) (fun c1 => absurd (z946) c1)
  refine lv_iconst (v := 1) hx hb dL_law_1099 z39 ?_
  refine va_forget (fun q hq => hS.2.2 q hq) ?_
  refine W.widen (k := 600000) (n := 7302250) (by decide) (by decide) ?_
  exact lw_ret hx hb hr hlocks dL_law_1100

set_option maxHeartbeats 4000000 in
set_option maxRecDepth 100000 in
theorem lc_24_2 {p : Program} {e : Env} {s : State} {m : MethodId} {below : List Frame} {meth : Method} {c : Code} (l : Launch) {b : Nat} {xs : Nat → Int32} (C0 : lw_At p s m meth c b 6 xs) (dC : Nat → ClassId) (dI : Nat → Nat → Nat) (cB cI cJ cZ cO : ClassId) (r n : Nat → Nat) (x1 : Int32) (e1 : xs 1 = x1) (h0 : ¬ x1 < 0) (h1 : 3 ≤ x1) (h2 : 2 < x1) (H : Heap) (locs : List Loc) (hK : va_K (dC, dI) vwCl (tyL cB cI cJ cZ cO) s) (hP : va_P (dC, dI) vwCl [((r 0), .inr (10, fX r)), ((r 38), .inr (0, [.ref (r 39), .int 0, .ref (r 40), .ref (r 41), .ref (r 42), .ref (r 43), .ref (r 44), .int 0, .int 0])), ((r 65), .inr (9, [.int 0, .int 0, .ref (r 66), .ref (r 67), .ref (r 68), .ref (r 69), .int 0, .int 0, .int 0, .int 0, .int 0])), ((r 18), .inr (4, [.int 0, .ref (r 19), .ref (r 20), .int 0, .ref (r 21), .ref (r 22), .int 0, .ref (r 23), .ref (r 24), .int 0, .ref (r 25), .ref (r 26), .int 3, .int 0, .int 0, .ref (r 27)])), ((r 66), .inl (cI, 3000, .inl (fun _ => 0))), ((r 67), .inl (cI, 3000, .inl (fun _ => 0))), ((r 69), .inl (cI, 3000, .inl (fun _ => 0))), ((r 68), .inl (cI, 9000, .inl (fun _ => 0))), ((r 55), .inr (5, [.ref (r 56), .ref (r 57)])), ((n 0), .inr (11, fM n))] H) (hD : va_D (fun q : Nat => s.heap.size ≤ q) [((r 0), .inr (10, fX r)), ((r 38), .inr (0, [.ref (r 39), .int 0, .ref (r 40), .ref (r 41), .ref (r 42), .ref (r 43), .ref (r 44), .int 0, .int 0])), ((r 65), .inr (9, [.int 0, .int 0, .ref (r 66), .ref (r 67), .ref (r 68), .ref (r 69), .int 0, .int 0, .int 0, .int 0, .int 0])), ((r 18), .inr (4, [.int 0, .ref (r 19), .ref (r 20), .int 0, .ref (r 21), .ref (r 22), .int 0, .ref (r 23), .ref (r 24), .int 0, .ref (r 25), .ref (r 26), .int 3, .int 0, .int 0, .ref (r 27)])), ((r 66), .inl (cI, 3000, .inl (fun _ => 0))), ((r 67), .inl (cI, 3000, .inl (fun _ => 0))), ((r 69), .inl (cI, 3000, .inl (fun _ => 0))), ((r 68), .inl (cI, 9000, .inl (fun _ => 0))), ((r 55), .inr (5, [.ref (r 56), .ref (r 57)])), ((n 0), .inr (11, fM n))]) (hS : va_S (fun q : Nat => s.heap.size ≤ q) s.heap H locs) (ls : Array Slot) (hl : lv_has ls 4 [(3, .int 0), (2, .ref (n 0)), (1, .ref (r 0)), (0, .ref b)]) : W p l e room_1 s m #[Value.ref b] below meth c H locs 135 85080 (lw_Z below #[Value.ref b] s) (F0 m 758 ls []) := by
  obtain ⟨hx, hb, hr, hml, hown, hts0, hX, hbl, hlocks, hgv⟩ := C0
  have hts : ∀ w ∈ wsL_law, w.before #[Value.ref b] s = true := fun w h => hts0 w (wsL_law_in w h)
  have hA : ∀ q : Nat, s.heap.size ≤ q → (fun q : Nat => s.heap.size ≤ q) q := fun _ h => h
  have hbA : ¬ (fun q : Nat => s.heap.size ≤ q) b := Nat.not_le.mpr hbl
  have hown : s.vm.findClass RL = some m.cls := hown
  refine lv_aload_n hx hb dL_law_758 rfl (lv_at hl 2 rfl) ?_
  refine lv_aload_n hx hb dL_law_759 rfl (lv_at hl 3 rfl) ?_
  refine lv_iload_n hx hb dL_law_760 rfl (lv_at hl 0 rfl) ?_
  refine lv_iconst (v := 1) hx hb dL_law_761 z39 ?_
  refine lv_iadd hx hb dL_law_762 ?_
  refine tpi z281 ?_
  refine va_sld hx hb hX hbl hbA hS (vin _ _ rfl) dL_law_763 ?_
  refine tpv (v := .int x1) (congrArg Value.int e1) ?_
  refine call_iV (ci := 10) (As := [.int x1]) (rest := []) (wr := [((n 0), .inr (11, fM n))]) ⟨hx, hb, hml, hown, hts⟩ (k296_X10_lots l dC dI cB cI cJ cZ cO r x1 h0 h1) (cwV 1 hts gL_law_X10_lots rfl rfl rfl ⟨rfl, z1020⟩ ⟨Nat.le_of_ble_eq_true rfl, Nat.le_of_ble_eq_true rfl⟩) hK hP hD hS hA [0, 1, 2, 3, 4, 5, 6, 7, 8] [9] rfl rfl (by decide +kernel) (by decide +kernel) (by decide +kernel) rfl rfl rfl hl.1 (Nat.le_of_ble_eq_true rfl) rfl rfl dL_law_764 ⟨by decide +kernel, by decide +kernel⟩ (fun u0 H locs hP hD hS => ?_)
  refine lv_aload_n hx hb dL_law_767 rfl (lv_at hl 1 rfl) ?_
  refine lv_aload_n hx hb dL_law_768 rfl (lv_at hl 3 rfl) ?_
  refine lv_iload_n hx hb dL_law_769 rfl (lv_at hl 0 rfl) ?_
  refine lv_iconst (v := 1) hx hb dL_law_770 z39 ?_
  refine lv_iadd hx hb dL_law_771 ?_
  refine tpi z281 ?_
  refine va_sld hx hb hX hbl hbA hS (vin _ _ rfl) dL_law_772 ?_
  refine tpv (v := .int x1) (congrArg Value.int e1) ?_
  refine call_iV (ci := 11) (As := [.int x1]) (rest := [.int (-1000000)]) (wr := []) ⟨hx, hb, hml, hown, hts⟩ (k297_X11_lots l dC dI cB cI cJ cZ cO n x1 h0 h2) (cwV 1 hts gL_law_X11_lots rfl rfl rfl ⟨rfl, z1021⟩ ⟨Nat.le_of_ble_eq_true rfl, Nat.le_of_ble_eq_true rfl⟩) hK hP hD hS hA [0] [] rfl rfl (by decide +kernel) (by decide +kernel) (by decide +kernel) rfl rfl rfl hl.1 (Nat.le_of_ble_eq_true rfl) rfl rfl dL_law_773 ⟨by decide +kernel, by decide +kernel⟩ (fun u1 H locs hP hD hS => ?_)
  refine lv_icmp_eq (tgt := 1093) hx hb dL_law_776 z1019 (fun _ => ?_) (fun c1 => absurd (rfl) c1)
  refine lv_iinc (v := 6) (lv' := [(3, .int 6), (2, .ref (n 0)), (1, .ref (r 0)), (0, .ref b)]) hx hb dL_law_1093 hl (k := 0) rfl z943 (nlt rfl) rfl (fun ls hl => ?_)
  refine lv_goto (tgt := 18) hx hb dL_law_1096 z944 ?_
  refine lv_iload_n hx hb dL_law_18 rfl (lv_at hl 0 rfl) ?_
  refine lv_aload_n hx hb dL_law_19 rfl (lv_at hl 3 rfl) ?_
  refine va_slen hx hb hX hbl hbA hS dL_law_20 ?_
  refine tpv (v := .int 6) rfl ?_
  refine lv_bipush (v := 6) hx hb dL_law_21 z4 ?_
  refine lv_isub hx hb dL_law_23 ?_
  refine tpi z945 ?_
  refine lv_icmp_gt (tgt := 1099) hx hb dL_law_24 z947 (fun _ => ?_) (fun c1 => absurd (z946) c1)
  refine lv_iconst (v := 1) hx hb dL_law_1099 z39 ?_
  refine va_forget (fun q hq => hS.2.2 q hq) ?_
  refine W.widen (k := 600000) (n := 7302250) (by decide) (by decide) ?_
  exact lw_ret hx hb hr hlocks dL_law_1100
