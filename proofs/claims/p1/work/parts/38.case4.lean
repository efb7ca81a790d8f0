set_option maxHeartbeats 4000000 in
set_option maxRecDepth 100000 in
theorem lc_25_0 {p : Program} {e : Env} {s : State} {m : MethodId} {below : List Frame} {meth : Method} {c : Code} (l : Launch) {b : Nat} {xs : Nat → Int32} (C0 : lw_At p s m meth c b 6 xs) (dC : Nat → ClassId) (dI : Nat → Nat → Nat) (cB cI cJ cZ cO : ClassId) (r n : Nat → Nat) (x1 : Int32) (x2 : Int32) (e1 : xs 1 = x1) (e2 : xs 2 = x2) (h0 : x1 < 0) (H : Heap) (locs : List Loc) (hK : va_K (dC, dI) vwCl (tyL cB cI cJ cZ cO) s) (hP : va_P (dC, dI) vwCl [((r 0), .inr (10, fX r)), ((r 18), .inr (4, [.int 0, .ref (r 19), .ref (r 20), .int 0, .ref (r 21), .ref (r 22), .int 0, .ref (r 23), .ref (r 24), .int 0, .ref (r 25), .ref (r 26), .int 3, .int 0, .int 0, .ref (r 27)])), ((n 0), .inr (11, fM n)), ((n 7), .inl (cI, 2, .inl (upd (fun _ => 0) 0 3)))] H) (hD : va_D (fun q : Nat => s.heap.size ≤ q) [((r 0), .inr (10, fX r)), ((r 18), .inr (4, [.int 0, .ref (r 19), .ref (r 20), .int 0, .ref (r 21), .ref (r 22), .int 0, .ref (r 23), .ref (r 24), .int 0, .ref (r 25), .ref (r 26), .int 3, .int 0, .int 0, .ref (r 27)])), ((n 0), .inr (11, fM n)), ((n 7), .inl (cI, 2, .inl (upd (fun _ => 0) 0 3)))]) (hS : va_S (fun q : Nat => s.heap.size ≤ q) s.heap H locs) (ls : Array Slot) (hl : lv_has ls 4 [(3, .int 0), (2, .ref (n 0)), (1, .ref (r 0)), (0, .ref b)]) : W p l e room_1 s m #[Value.ref b] below meth c H locs 135 85080 (lw_Z below #[Value.ref b] s) (F0 m 781 ls []) := by
  obtain ⟨hx, hb, hr, hml, hown, hts0, hX, hbl, hlocks, hgv⟩ := C0
  have hts : ∀ w ∈ wsL_law, w.before #[Value.ref b] s = true := fun w h => hts0 w (wsL_law_in w h)
  have hA : ∀ q : Nat, s.heap.size ≤ q → (fun q : Nat => s.heap.size ≤ q) q := fun _ h => h
  have hbA : ¬ (fun q : Nat => s.heap.size ≤ q) b := Nat.not_le.mpr hbl
  have hown : s.vm.findClass RL = some m.cls := hown
  refine lv_aload_n hx hb dL_law_781 rfl (lv_at hl 2 rfl) ?_
  refine lv_aload_n hx hb dL_law_782 rfl (lv_at hl 3 rfl) ?_
  refine lv_iload_n hx hb dL_law_783 rfl (lv_at hl 0 rfl) ?_
  refine lv_iconst (v := 1) hx hb dL_law_784 z39 ?_
  refine lv_iadd hx hb dL_law_785 ?_
  refine tpi z281 ?_
  refine va_sld hx hb hX hbl hbA hS (vin _ _ rfl) dL_law_786 ?_
  refine tpv (v := .int x1) (congrArg Value.int e1) ?_
  refine lv_aload_n hx hb dL_law_787 rfl (lv_at hl 3 rfl) ?_
  refine lv_iload_n hx hb dL_law_788 rfl (lv_at hl 0 rfl) ?_
  refine lv_iconst (v := 2) hx hb dL_law_789 z54 ?_
  refine lv_iadd hx hb dL_law_790 ?_
  refine tpi z362 ?_
  refine va_sld hx hb hX hbl hbA hS (vin _ _ rfl) dL_law_791 ?_
  refine tpv (v := .int x2) (congrArg Value.int e2) ?_
  refine call_iV (ci := 10) (As := [.int x1, .int x2]) (rest := []) (wr := [((n 0), .inr (11, fM n)), ((n 7), .inl (cI, 2, .inl (upd (fun _ => 0) 0 3)))]) ⟨hx, hb, hml, hown, hts⟩ (k298_X10_hole l dC dI cB cI cJ cZ cO r x1 x2 h0) (cwV 2 hts gL_law_X10_hole rfl rfl rfl ⟨rfl, z1023⟩ ⟨Nat.le_of_ble_eq_true rfl, Nat.le_of_ble_eq_true rfl⟩) hK hP hD hS hA [0, 1] [2, 3] rfl rfl (by decide +kernel) (by decide +kernel) (by decide +kernel) rfl rfl rfl hl.1 (Nat.le_of_ble_eq_true rfl) rfl rfl dL_law_792 ⟨by decide +kernel, by decide +kernel⟩ (fun u0 H locs hP hD hS => ?_)
  refine lv_aload_n hx hb dL_law_795 rfl (lv_at hl 1 rfl) ?_
  refine lv_aload_n hx hb dL_law_796 rfl (lv_at hl 3 rfl) ?_
  refine lv_iload_n hx hb dL_law_797 rfl (lv_at hl 0 rfl) ?_
  refine lv_iconst (v := 1) hx hb dL_law_798 z39 ?_
  refine lv_iadd hx hb dL_law_799 ?_
  refine tpi z281 ?_
  refine va_sld hx hb hX hbl hbA hS (vin _ _ rfl) dL_law_800 ?_
  refine tpv (v := .int x1) (congrArg Value.int e1) ?_
  refine lv_aload_n hx hb dL_law_801 rfl (lv_at hl 3 rfl) ?_
  refine lv_iload_n hx hb dL_law_802 rfl (lv_at hl 0 rfl) ?_
  refine lv_iconst (v := 2) hx hb dL_law_803 z54 ?_
  refine lv_iadd hx hb dL_law_804 ?_
  refine tpi z362 ?_
  refine va_sld hx hb hX hbl hbA hS (vin _ _ rfl) dL_law_805 ?_
  refine tpv (v := .int x2) (congrArg Value.int e2) ?_
  refine call_iV (ci := 11) (As := [.int x1, .int x2]) (rest := [.int 0]) (wr := []) ⟨hx, hb, hml, hown, hts⟩ (k299_X11_hole l dC dI cB cI cJ cZ cO n x1 x2 h0) (cwV 2 hts gL_law_X11_hole rfl rfl rfl ⟨rfl, z1024⟩ ⟨Nat.le_of_ble_eq_true rfl, Nat.le_of_ble_eq_true rfl⟩) hK hP hD hS hA [0, 1] [] rfl rfl (by decide +kernel) (by decide +kernel) (by decide +kernel) rfl rfl rfl hl.1 (Nat.le_of_ble_eq_true rfl) rfl rfl dL_law_806 ⟨by decide +kernel, by decide +kernel⟩ (fun u1 H locs hP hD hS => ?_)
  refine lv_icmp_eq (tgt := 1093) hx hb dL_law_809 z1022 (fun _ => ?_) (fun c1 => absurd (rfl) c1)
  refine lv_iinc (v := 6) (lv' := [(3, .int 6), (2, .ref (n 0)), (1, .ref (r 0)), (0, .ref b)]) hx hb dL_law_1093 hl (k := 0) rfl z943 (nlt rfl) rfl (fun ls hl => ?_)
  refine lv_goto (tgt := 18) hx hb dL_law_1096 z944 ?_
  refine lv_iload_n hx hb dL_law_18 rfl (lv_at hl 0 rfl) ?_
  refine lv_aload_n hx hb dL_law_19 rfl (lv_at hl 3 rfl) ?_
  refine va_slen hx hb hX hbl hbA hS dL_law_20 ?_
  refine tpv (v := .int 6) rfl ?_
  refine lv_bipush (v := 6) hx hb dL_law_21 z4 ?_
  refine lv_isub hx hb dL_law_23 ?_
  refine tpi z945 ?_
  refine lv_icmp_gt (tgt := 1099) hx hb dL_law_24 z947 (fun _ => ?_) (fun c1 => absurd (z946) c1)
  refine lv_iconst (v := 1) hx hb dL_law_1099 z39 ?_
  refine va_forget (fun q hq => hS.2.2 q hq) ?_
  refine W.widen (k := 600000) (n := 7302250) (by decide) (by decide) ?_
  exact lw_ret hx hb hr hlocks dL_law_1100

set_option maxHeartbeats 4000000 in
set_option maxRecDepth 100000 in
theorem lc_25_1 {p : Program} {e : Env} {s : State} {m : MethodId} {below : List Frame} {meth : Method} {c : Code} (l : Launch) {b : Nat} {xs : Nat → Int32} (C0 : lw_At p s m meth c b 6 xs) (dC : Nat → ClassId) (dI : Nat → Nat → Nat) (cB cI cJ cZ cO : ClassId) (r n : Nat → Nat) (x1 : Int32) (x2 : Int32) (e1 : xs 1 = x1) (e2 : xs 2 = x2) (h0 : ¬ x1 < 0) (h1 : 3 ≤ x1) (h2 : 2 < x1) (H : Heap) (locs : List Loc) (hK : va_K (dC, dI) vwCl (tyL cB cI cJ cZ cO) s) (hP : va_P (dC, dI) vwCl [((r 0), .inr (10, fX r)), ((r 18), .inr (4, [.int 0, .ref (r 19), .ref (r 20), .int 0, .ref (r 21), .ref (r 22), .int 0, .ref (r 23), .ref (r 24), .int 0, .ref (r 25), .ref (r 26), .int 3, .int 0, .int 0, .ref (r 27)])), ((n 0), .inr (11, fM n)), ((n 7), .inl (cI, 2, .inl (upd (fun _ => 0) 0 3)))] H) (hD : va_D (fun q : Nat => s.heap.size ≤ q) [((r 0), .inr (10, fX r)), ((r 18), .inr (4, [.int 0, .ref (r 19), .ref (r 20), .int 0, .ref (r 21), .ref (r 22), .int 0, .ref (r 23), .ref (r 24), .int 0, .ref (r 25), .ref (r 26), .int 3, .int 0, .int 0, .ref (r 27)])), ((n 0), .inr (11, fM n)), ((n 7), .inl (cI, 2, .inl (upd (fun _ => 0) 0 3)))]) (hS : va_S (fun q : Nat => s.heap.size ≤ q) s.heap H locs) (ls : Array Slot) (hl : lv_has ls 4 [(3, .int 0), (2, .ref (n 0)), (1, .ref (r 0)), (0, .ref b)]) : W p l e room_1 s m #[Value.ref b] below meth c H locs 135 85080 (lw_Z below #[Value.ref b] s) (F0 m 781 ls []) := by
  obtain ⟨hx, hb, hr, hml, hown, hts0, hX, hbl, hlocks, hgv⟩ := C0
  have hts : ∀ w ∈ wsL_law, w.before #[Value.ref b] s = true := fun w h => hts0 w (wsL_law_in w h)
  have hA : ∀ q : Nat, s.heap.size ≤ q → (fun q : Nat => s.heap.size ≤ q) q := fun _ h => h
  have hbA : ¬ (fun q : Nat => s.heap.size ≤ q) b := Nat.not_le.mpr hbl
  have hown : s.vm.findClass RL = some m.cls := hown
  refine lv_aload_n hx hb dL_law_781 rfl (lv_at hl 2 rfl) ?_
  refine lv_aload_n hx hb dL_law_782 rfl (lv_at hl 3 rfl) ?_
  refine lv_iload_n hx hb dL_law_783 rfl (lv_at hl 0 rfl) ?_
  refine lv_iconst (v := 1) hx hb dL_law_784 z39 ?_
  refine lv_iadd hx hb dL_law_785 ?_
  refine tpi z281 ?_
  refine va_sld hx hb hX hbl hbA hS (vin _ _ rfl) dL_law_786 ?_
  refine tpv (v := .int x1) (congrArg Value.int e1) ?_
  refine lv_aload_n hx hb dL_law_787 rfl (lv_at hl 3 rfl) ?_
  refine lv_iload_n hx hb dL_law_788 rfl (lv_at hl 0 rfl) ?_
  refine lv_iconst (v := 2) hx hb dL_law_789 z54 ?_
  refine lv_iadd hx hb dL_law_790 ?_
  refine tpi z362 ?_
  refine va_sld hx hb hX hbl hbA hS (vin _ _ rfl) dL_law_791 ?_
  refine tpv (v := .int x2) (congrArg Value.int e2) ?_
  refine call_iV (ci := 10) (As := [.int x1, .int x2]) (rest := []) (wr := [((n 0), .inr (11, fM n)), ((n 7), .inl (cI, 2, .inl (upd (fun _ => 0) 0 3)))]) ⟨hx, hb, hml, hown, hts⟩ (k300_X10_hole l dC dI cB cI cJ cZ cO r x1 x2 h0 h1) (cwV 2 hts gL_law_X10_hole rfl rfl rfl ⟨rfl, z1023⟩ ⟨Nat.le_of_ble_eq_true rfl, Nat.le_of_ble_eq_true rfl⟩) hK hP hD hS hA [0, 1] [2, 3] rfl rfl (by decide +kernel) (by decide +kernel) (by decide +kernel) rfl rfl rfl hl.1 (Nat.le_of_ble_eq_true rfl) rfl rfl dL_law_792 ⟨by decide +kernel, by decide +kernel⟩ (fun u0 H locs hP hD hS => ?_)
  refine lv_aload_n hx hb dL_law_795 rfl (lv_at hl 1 rfl) ?_
  refine lv_aload_n hx hb dL_law_796 rfl (lv_at hl 3 rfl) ?_
  refine lv_iload_n hx hb dL_law_797 rfl (lv_at hl 0 rfl) ?_
  refine lv_iconst (v := 1) hx hb dL_law_798 z39 ?_
  refine lv_iadd hx hb dL_law_799 ?_
  refine tpi z281 ?_
  refine va_sld hx hb hX hbl hbA hS (vin _ _ rfl) dL_law_800 ?_
  refine tpv (v := .int x1) (congrArg Value.int e1) ?_
  refine lv_aload_n hx hb dL_law_801 rfl (lv_at hl 3 rfl) ?_
  refine lv_iload_n hx hb dL_law_802 rfl (lv_at hl 0 rfl) ?_
  refine lv_iconst (v := 2) hx hb dL_law_803 z54 ?_
  refine lv_iadd hx hb dL_law_804 ?_
  refine tpi z362 ?_
  refine va_sld hx hb hX hbl hbA hS (vin _ _ rfl) dL_law_805 ?_
  refine tpv (v := .int x2) (congrArg Value.int e2) ?_
  refine call_iV (ci := 11) (As := [.int x1, .int x2]) (rest := [.int 0]) (wr := []) ⟨hx, hb, hml, hown, hts⟩ (k301_X11_hole l dC dI cB cI cJ cZ cO n x1 x2 h0 h2) (cwV 2 hts gL_law_X11_hole rfl rfl rfl ⟨rfl, z1024⟩ ⟨Nat.le_of_ble_eq_true rfl, Nat.le_of_ble_eq_true rfl⟩) hK hP hD hS hA [0, 1] [] rfl rfl (by decide +kernel) (by decide +kernel) (by decide +kernel) rfl rfl rfl hl.1 (Nat.le_of_ble_eq_true rfl) rfl rfl dL_law_806 ⟨by decide +kernel, by decide +kernel⟩ (fun u1 H locs hP hD hS => ?_)
  refine lv_icmp_eq (tgt := 1093) hx hb dL_law_809 z1022 (fun _ => ?_) (fun c1 => absurd (rfl) c1)
  refine lv_iinc (v := 6) (lv' := [(3, .int 6), (2, .ref (n 0)), (1, .ref (r 0)), (0, .ref b)]) hx hb dL_law_1093 hl (k := 0) rfl z943 (nlt rfl) rfl (fun ls hl => ?_)
  refine lv_goto (tgt := 18) hx hb dL_law_1096 z944 ?_
  refine lv_iload_n hx hb dL_law_18 rfl (lv_at hl 0 rfl) ?_
  refine lv_aload_n hx hb dL_law_19 rfl (lv_at hl 3 rfl) ?_
  refine va_slen hx hb hX hbl hbA hS dL_law_20 ?_
  refine tpv (v := .int 6) rfl ?_
  refine lv_bipush (v := 6) hx hb dL_law_21 z4 ?_
  refine lv_isub hx hb dL_law_23 ?_
  refine tpi z945 ?_
  refine lv_icmp_gt (tgt := 1099) hx hb dL_law_24 z947 (fun _ => ?_) (fun c1 => absurd (z946) c1)
  refine lv_iconst (v := 1) hx hb dL_law_1099 z39 ?_
  refine va_forget (fun q hq => hS.2.2 q hq) ?_
  refine W.widen (k := 600000) (n := 7302250) (by decide) (by decide) ?_
  exact lw_ret hx hb hr hlocks dL_law_1100

set_option maxHeartbeats 4000000 in
set_option maxRecDepth 100000 in
theorem lc_25_2 {p : Program} {e : Env} {s : State} {m : MethodId} {below : List Frame} {meth : Method} {c : Code} (l : Launch) {b : Nat} {xs : Nat → Int32} (C0 : lw_At p s m meth c b 6 xs) (dC : Nat → ClassId) (dI : Nat → Nat → Nat) (cB cI cJ cZ cO : ClassId) (r n : Nat → Nat) (x2 : Int32) (e1 : xs 1 = 0) (e2 : xs 2 = x2) (h0 : ¬ x2 = (-1)) (h1 : x2 < 0) (H : Heap) (locs : List Loc) (hK : va_K (dC, dI) vwCl (tyL cB cI cJ cZ cO) s) (hP : va_P (dC, dI) vwCl [((r 0), .inr (10, fX r)), ((r 18), .inr (4, [.int 0, .ref (r 19), .ref (r 20), .int 0, .ref (r 21), .ref (r 22), .int 0, .ref (r 23), .ref (r 24), .int 0, .ref (r 25), .ref (r 26), .int 3, .int 0, .int 0, .ref (r 27)])), ((n 0), .inr (11, fM n)), ((n 7), .inl (cI, 2, .inl (upd (fun _ => 0) 0 3))), ((n 3), .inl (cI, 2, .inl (fun _ => 0)))] H) (hD : va_D (fun q : Nat => s.heap.size ≤ q) [((r 0), .inr (10, fX r)), ((r 18), .inr (4, [.int 0, .ref (r 19), .ref (r 20), .int 0, .ref (r 21), .ref (r 22), .int 0, .ref (r 23), .ref (r 24), .int 0, .ref (r 25), .ref (r 26), .int 3, .int 0, .int 0, .ref (r 27)])), ((n 0), .inr (11, fM n)), ((n 7), .inl (cI, 2, .inl (upd (fun _ => 0) 0 3))), ((n 3), .inl (cI, 2, .inl (fun _ => 0)))]) (hS : va_S (fun q : Nat => s.heap.size ≤ q) s.heap H locs) (ls : Array Slot) (hl : lv_has ls 4 [(3, .int 0), (2, .ref (n 0)), (1, .ref (r 0)), (0, .ref b)]) : W p l e room_1 s m #[Value.ref b] below meth c H locs 135 85080 (lw_Z below #[Value.ref b] s) (F0 m 781 ls []) := by
  obtain ⟨hx, hb, hr, hml, hown, hts0, hX, hbl, hlocks, hgv⟩ := C0
  have hts : ∀ w ∈ wsL_law, w.before #[Value.ref b] s = true := fun w h => hts0 w (wsL_law_in w h)
  have hA : ∀ q : Nat, s.heap.size ≤ q → (fun q : Nat => s.heap.size ≤ q) q := fun _ h => h
  have hbA : ¬ (fun q : Nat => s.heap.size ≤ q) b := Nat.not_le.mpr hbl
  have hown : s.vm.findClass RL = some m.cls := hown
  refine lv_aload_n hx hb dL_law_781 rfl (lv_at hl 2 rfl) ?_
  refine lv_aload_n hx hb dL_law_782 rfl (lv_at hl 3 rfl) ?_
  refine lv_iload_n hx hb dL_law_783 rfl (lv_at hl 0 rfl) ?_
  refine lv_iconst (v := 1) hx hb dL_law_784 z39 ?_
  refine lv_iadd hx hb dL_law_785 ?_
  refine tpi z281 ?_
  refine va_sld hx hb hX hbl hbA hS (vin _ _ rfl) dL_law_786 ?_
  refine tpv (v := .int 0) (congrArg Value.int e1) ?_
  refine lv_aload_n hx hb dL_law_787 rfl (lv_at hl 3 rfl) ?_
  refine lv_iload_n hx hb dL_law_788 rfl (lv_at hl 0 rfl) ?_
  refine lv_iconst (v := 2) hx hb dL_law_789 z54 ?_
  refine lv_iadd hx hb dL_law_790 ?_
  refine tpi z362 ?_
  refine va_sld hx hb hX hbl hbA hS (vin _ _ rfl) dL_law_791 ?_
  refine tpv (v := .int x2) (congrArg Value.int e2) ?_
  refine call_iV (ci := 10) (As := [.int 0, .int x2]) (rest := []) (wr := [((n 0), .inr (11, fM n)), ((n 7), .inl (cI, 2, .inl (upd (fun _ => 0) 0 3))), ((n 3), .inl (cI, 2, .inl (fun _ => 0)))]) ⟨hx, hb, hml, hown, hts⟩ (k302_X10_hole l dC dI cB cI cJ cZ cO r x2 h0 h1) (cwV 2 hts gL_law_X10_hole rfl rfl rfl ⟨rfl, z1023⟩ ⟨Nat.le_of_ble_eq_true rfl, Nat.le_of_ble_eq_true rfl⟩) hK hP hD hS hA [0, 1] [2, 3, 4] rfl rfl (by decide +kernel) (by decide +kernel) (by decide +kernel) rfl rfl rfl hl.1 (Nat.le_of_ble_eq_true rfl) rfl rfl dL_law_792 ⟨by decide +kernel, by decide +kernel⟩ (fun u0 H locs hP hD hS => ?_)
  refine lv_aload_n hx hb dL_law_795 rfl (lv_at hl 1 rfl) ?_
  refine lv_aload_n hx hb dL_law_796 rfl (lv_at hl 3 rfl) ?_
  refine lv_iload_n hx hb dL_law_797 rfl (lv_at hl 0 rfl) ?_
  refine lv_iconst (v := 1) hx hb dL_law_798 z39 ?_
  refine lv_iadd hx hb dL_law_799 ?_
  refine tpi z281 ?_
  refine va_sld hx hb hX hbl hbA hS (vin _ _ rfl) dL_law_800 ?_
  refine tpv (v := .int 0) (congrArg Value.int e1) ?_
  refine lv_aload_n hx hb dL_law_801 rfl (lv_at hl 3 rfl) ?_
  refine lv_iload_n hx hb dL_law_802 rfl (lv_at hl 0 rfl) ?_
  refine lv_iconst (v := 2) hx hb dL_law_803 z54 ?_
  refine lv_iadd hx hb dL_law_804 ?_
  refine tpi z362 ?_
  refine va_sld hx hb hX hbl hbA hS (vin _ _ rfl) dL_law_805 ?_
  refine tpv (v := .int x2) (congrArg Value.int e2) ?_
  refine call_iV (ci := 11) (As := [.int 0, .int x2]) (rest := [.int 0]) (wr := []) ⟨hx, hb, hml, hown, hts⟩ (k303_X11_hole l dC dI cB cI cJ cZ cO n x2 h0 h1) (cwV 2 hts gL_law_X11_hole rfl rfl rfl ⟨rfl, z1024⟩ ⟨Nat.le_of_ble_eq_true rfl, Nat.le_of_ble_eq_true rfl⟩) hK hP hD hS hA [0, 1, 2] [] rfl rfl (by decide +kernel) (by decide +kernel) (by decide +kernel) rfl rfl rfl hl.1 (Nat.le_of_ble_eq_true rfl) rfl rfl dL_law_806 ⟨by decide +kernel, by decide +kernel⟩ (fun u1 H locs hP hD hS => ?_)
  refine lv_icmp_eq (tgt := 1093) hx hb dL_law_809 z1022 (fun _ => ?_) (fun c1 => absurd (rfl) c1)
  refine lv_iinc (v := 6) (lv' := [(3, .int 6), (2, .ref (n 0)), (1, .ref (r 0)), (0, .ref b)]) hx hb dL_law_1093 hl (k := 0) rfl z943 (nlt rfl) rfl (fun ls hl => ?_)
  refine lv_goto (tgt := 18) hx hb dL_law_1096 z944 ?_
  refine lv_iload_n hx hb dL_law_18 rfl (lv_at hl 0 rfl) ?_
  refine lv_aload_n hx hb dL_law_19 rfl (lv_at hl 3 rfl) ?_
  refine va_slen hx hb hX hbl hbA hS dL_law_20 ?_
  refine tpv (v := .int 6) rfl ?_
  refine lv_bipush (v := 6) hx hb dL_law_21 z4 ?_
  refine lv_isub hx hb dL_law_23 ?_
  refine tpi z945 ?_
  refine lv_icmp_gt (tgt := 1099) hx hb dL_law_24 z947 (fun _ => ?_) (fun c1 => absurd (z946) c1)
  refine lv_iconst (v := 1) hx hb dL_law_1099 z39 ?_
  refine va_forget (fun q hq => hS.2.2 q hq) ?_
  refine W.widen (k := 600000) (n := 7302250) (by decide) (by decide) ?_
  exact lw_ret hx hb hr hlocks dL_law_1100

set_option maxHeartbeats 4000000 in
set_option maxRecDepth 100000 in
theorem lc_25_3 {p : Program} {e : Env} {s : State} {m : MethodId} {below : List Frame} {meth : Method} {c : Code} (l : Launch) {b : Nat} {xs : Nat → Int32} (C0 : lw_At p s m meth c b 6 xs) (dC : Nat → ClassId) (dI : Nat → Nat → Nat) (cB cI cJ cZ cO : ClassId) (r n : Nat → Nat) (e1 : xs 1 = 0) (e2 : xs 2 = (-1)) (H : Heap) (locs : List Loc) (hK : va_K (dC, dI) vwCl (tyL cB cI cJ cZ cO) s) (hP : va_P (dC, dI) vwCl [((r 0), .inr (10, fX r)), ((r 18), .inr (4, [.int 0, .ref (r 19), .ref (r 20), .int 0, .ref (r 21), .ref (r 22), .int 0, .ref (r 23), .ref (r 24), .int 0, .ref (r 25), .ref (r 26), .int 3, .int 0, .int 0, .ref (r 27)])), ((n 0), .inr (11, fM n)), ((n 7), .inl (cI, 2, .inl (upd (fun _ => 0) 0 3))), ((n 28), .inl (cI, 6, .inl (upd (upd (upd (upd (upd (upd (fun _ => 0) 0 (-1)) 1 (-1)) 2 (-1)) 3 (-1)) 4 (-1)) 5 (-1))))] H) (hD : va_D (fun q : Nat => s.heap.size ≤ q) [((r 0), .inr (10, fX r)), ((r 18), .inr (4, [.int 0, .ref (r 19), .ref (r 20), .int 0, .ref (r 21), .ref (r 22), .int 0, .ref (r 23), .ref (r 24), .int 0, .ref (r 25), .ref (r 26), .int 3, .int 0, .int 0, .ref (r 27)])), ((n 0), .inr (11, fM n)), ((n 7), .inl (cI, 2, .inl (upd (fun _ => 0) 0 3))), ((n 28), .inl (cI, 6, .inl (upd (upd (upd (upd (upd (upd (fun _ => 0) 0 (-1)) 1 (-1)) 2 (-1)) 3 (-1)) 4 (-1)) 5 (-1))))]) (hS : va_S (fun q : Nat => s.heap.size ≤ q) s.heap H locs) (ls : Array Slot) (hl : lv_has ls 4 [(3, .int 0), (2, .ref (n 0)), (1, .ref (r 0)), (0, .ref b)]) : W p l e room_1 s m #[Value.ref b] below meth c H locs 135 85080 (lw_Z below #[Value.ref b] s) (F0 m 781 ls []) := by
  obtain ⟨hx, hb, hr, hml, hown, hts0, hX, hbl, hlocks, hgv⟩ := C0
  have hts : ∀ w ∈ wsL_law, w.before #[Value.ref b] s = true := fun w h => hts0 w (wsL_law_in w h)
  have hA : ∀ q : Nat, s.heap.size ≤ q → (fun q : Nat => s.heap.size ≤ q) q := fun _ h => h
  have hbA : ¬ (fun q : Nat => s.heap.size ≤ q) b := Nat.not_le.mpr hbl
  have hown : s.vm.findClass RL = some m.cls := hown
  refine lv_aload_n hx hb dL_law_781 rfl (lv_at hl 2 rfl) ?_
  refine lv_aload_n hx hb dL_law_782 rfl (lv_at hl 3 rfl) ?_
  refine lv_iload_n hx hb dL_law_783 rfl (lv_at hl 0 rfl) ?_
  refine lv_iconst (v := 1) hx hb dL_law_784 z39 ?_
  refine lv_iadd hx hb dL_law_785 ?_
  refine tpi z281 ?_
  refine va_sld hx hb hX hbl hbA hS (vin _ _ rfl) dL_law_786 ?_
  refine tpv (v := .int 0) (congrArg Value.int e1) ?_
  refine lv_aload_n hx hb dL_law_787 rfl (lv_at hl 3 rfl) ?_
  refine lv_iload_n hx hb dL_law_788 rfl (lv_at hl 0 rfl) ?_
  refine lv_iconst (v := 2) hx hb dL_law_789 z54 ?_
  refine lv_iadd hx hb dL_law_790 ?_
  refine tpi z362 ?_
  refine va_sld hx hb hX hbl hbA hS (vin _ _ rfl) dL_law_791 ?_
  refine tpv (v := .int (-1)) (congrArg Value.int e2) ?_
  refine call_iV (ci := 10) (As := [.int 0, .int (-1)]) (rest := []) (wr := [((n 0), .inr (11, fM n)), ((n 7), .inl (cI, 2, .inl (upd (fun _ => 0) 0 3))), ((n 28), .inl (cI, 6, .inl (upd (upd (upd (upd (upd (upd (fun _ => 0) 0 (-1)) 1 (-1)) 2 (-1)) 3 (-1)) 4 (-1)) 5 (-1))))]) ⟨hx, hb, hml, hown, hts⟩ (k304_X10_hole l dC dI cB cI cJ cZ cO r) (cwV 2 hts gL_law_X10_hole rfl rfl rfl ⟨rfl, z1023⟩ ⟨Nat.le_of_ble_eq_true rfl, Nat.le_of_ble_eq_true rfl⟩) hK hP hD hS hA [0, 1] [2, 3, 4] rfl rfl (by decide +kernel) (by decide +kernel) (by decide +kernel) rfl rfl rfl hl.1 (Nat.le_of_ble_eq_true rfl) rfl rfl dL_law_792 ⟨by decide +kernel, by decide +kernel⟩ (fun u0 H locs hP hD hS => ?_)
  refine lv_aload_n hx hb dL_law_795 rfl (lv_at hl 1 rfl) ?_
  refine lv_aload_n hx hb dL_law_796 rfl (lv_at hl 3 rfl) ?_
  refine lv_iload_n hx hb dL_law_797 rfl (lv_at hl 0 rfl) ?_
  refine lv_iconst (v := 1) hx hb dL_law_798 z39 ?_
  refine lv_iadd hx hb dL_law_799 ?_
  refine tpi z281 ?_
  refine va_sld hx hb hX hbl hbA hS (vin _ _ rfl) dL_law_800 ?_
  refine tpv (v := .int 0) (congrArg Value.int e1) ?_
  refine lv_aload_n hx hb dL_law_801 rfl (lv_at hl 3 rfl) ?_
  refine lv_iload_n hx hb dL_law_802 rfl (lv_at hl 0 rfl) ?_
  refine lv_iconst (v := 2) hx hb dL_law_803 z54 ?_
  refine lv_iadd hx hb dL_law_804 ?_
  refine tpi z362 ?_
  refine va_sld hx hb hX hbl hbA hS (vin _ _ rfl) dL_law_805 ?_
  refine tpv (v := .int (-1)) (congrArg Value.int e2) ?_
  refine call_iV (ci := 11) (As := [.int 0, .int (-1)]) (rest := [.int 1]) (wr := []) ⟨hx, hb, hml, hown, hts⟩ (k305_X11_hole l dC dI cB cI cJ cZ cO n) (cwV 2 hts gL_law_X11_hole rfl rfl rfl ⟨rfl, z1024⟩ ⟨Nat.le_of_ble_eq_true rfl, Nat.le_of_ble_eq_true rfl⟩) hK hP hD hS hA [0, 1, 2] [] rfl rfl (by decide +kernel) (by decide +kernel) (by decide +kernel) rfl rfl rfl hl.1 (Nat.le_of_ble_eq_true rfl) rfl rfl dL_law_806 ⟨by decide +kernel, by decide +kernel⟩ (fun u1 H locs hP hD hS => ?_)
  refine lv_icmp_eq (tgt := 1093) hx hb dL_law_809 z1022 (fun _ => ?_) (fun c1 => absurd (rfl) c1)
  refine lv_iinc (v := 6) (lv' := [(3, .int 6), (2, .ref (n 0)), (1, .ref (r 0)), (0, .ref b)]) hx hb dL_law_1093 hl (k := 0) rfl z943 (nlt rfl) rfl (fun ls hl => ?_)
  refine lv_goto (tgt := 18) hx hb dL_law_1096 z944 ?_
  refine lv_iload_n hx hb dL_law_18 rfl (lv_at hl 0 rfl) ?_
  refine lv_aload_n hx hb dL_law_19 rfl (lv_at hl 3 rfl) ?_
  refine va_slen hx hb hX hbl hbA hS dL_law_20 ?_
  refine tpv (v := .int 6) rfl ?_
  refine lv_bipush (v := 6) hx hb dL_law_21 z4 ?_
  refine lv_isub hx hb dL_law_23 ?_
  refine tpi z945 ?_
  refine lv_icmp_gt (tgt := 1099) hx hb dL_law_24 z947 (fun _ => ?_) (fun c1 => absurd (z946) c1)
  refine lv_iconst (v := 1) hx hb dL_law_1099 z39 ?_
  refine va_forget (fun q hq => hS.2.2 q hq) ?_
  refine W.widen (k := 600000) (n := 7302250) (by decide) (by decide) ?_
  exact lw_ret hx hb hr hlocks dL_law_1100

set_option maxHeartbeats 4000000 in
set_option maxRecDepth 100000 in
theorem lc_25_4 {p : Program} {e : Env} {s : State} {m : MethodId} {below : List Frame} {meth : Method} {c : Code} (l : Launch) {b : Nat} {xs : Nat → Int32} (C0 : lw_At p s m meth c b 6 xs) (dC : Nat → ClassId) (dI : Nat → Nat → Nat) (cB cI cJ cZ cO : ClassId) (r n : Nat → Nat) (x2 : Int32) (e1 : xs 1 = 0) (e2 : xs 2 = x2) (h0 : ¬ x2 = (-1)) (h1 : ¬ x2 < 0) (h2 : 0 ≤ x2) (h3 : (-1) < x2) (H : Heap) (locs : List Loc) (hK : va_K (dC, dI) vwCl (tyL cB cI cJ cZ cO) s) (hP : va_P (dC, dI) vwCl [((r 0), .inr (10, fX r)), ((r 18), .inr (4, [.int 0, .ref (r 19), .ref (r 20), .int 0, .ref (r 21), .ref (r 22), .int 0, .ref (r 23), .ref (r 24), .int 0, .ref (r 25), .ref (r 26), .int 3, .int 0, .int 0, .ref (r 27)])), ((n 0), .inr (11, fM n)), ((n 7), .inl (cI, 2, .inl (upd (fun _ => 0) 0 3))), ((n 3), .inl (cI, 2, .inl (fun _ => 0)))] H) (hD : va_D (fun q : Nat => s.heap.size ≤ q) [((r 0), .inr (10, fX r)), ((r 18), .inr (4, [.int 0, .ref (r 19), .ref (r 20), .int 0, .ref (r 21), .ref (r 22), .int 0, .ref (r 23), .ref (r 24), .int 0, .ref (r 25), .ref (r 26), .int 3, .int 0, .int 0, .ref (r 27)])), ((n 0), .inr (11, fM n)), ((n 7), .inl (cI, 2, .inl (upd (fun _ => 0) 0 3))), ((n 3), .inl (cI, 2, .inl (fun _ => 0)))]) (hS : va_S (fun q : Nat => s.heap.size ≤ q) s.heap H locs) (ls : Array Slot) (hl : lv_has ls 4 [(3, .int 0), (2, .ref (n 0)), (1, .ref (r 0)), (0, .ref b)]) : W p l e room_1 s m #[Value.ref b] below meth c H locs 135 85080 (lw_Z below #[Value.ref b] s) (F0 m 781 ls []) := by
  obtain ⟨hx, hb, hr, hml, hown, hts0, hX, hbl, hlocks, hgv⟩ := C0
  have hts : ∀ w ∈ wsL_law, w.before #[Value.ref b] s = true := fun w h => hts0 w (wsL_law_in w h)
  have hA : ∀ q : Nat, s.heap.size ≤ q → (fun q : Nat => s.heap.size ≤ q) q := fun _ h => h
  have hbA : ¬ (fun q : Nat => s.heap.size ≤ q) b := Nat.not_le.mpr hbl
  have hown : s.vm.findClass RL = some m.cls := hown
  refine lv_aload_n hx hb dL_law_781 rfl (lv_at hl 2 rfl) ?_
  refine lv_aload_n hx hb dL_law_782 rfl (lv_at hl 3 rfl) ?_
  refine lv_iload_n hx hb dL_law_783 rfl (lv_at hl 0 rfl) ?_
  refine lv_iconst (v := 1) hx hb dL_law_784 z39 ?_
  refine lv_iadd hx hb dL_law_785 ?_
  refine tpi z281 ?_
  refine va_sld hx hb hX hbl hbA hS (vin _ _ rfl) dL_law_786 ?_
  refine tpv (v := .int 0) (congrArg Value.int e1) ?_
  refine lv_aload_n hx hb dL_law_787 rfl (lv_at hl 3 rfl) ?_
  refine lv_iload_n hx hb dL_law_788 rfl (lv_at hl 0 rfl) ?_
  refine lv_iconst (v := 2) hx hb dL_law_789 z54 ?_
  refine lv_iadd hx hb dL_law_790 ?_
  refine tpi z362 ?_
  refine va_sld hx hb hX hbl hbA hS (vin _ _ rfl) dL_law_791 ?_
  refine tpv (v := .int x2) (congrArg Value.int e2) ?_
  refine call_iV (ci := 10) (As := [.int 0, .int x2]) (rest := []) (wr := [((n 0), .inr (11, fM n)), ((n 7), .inl (cI, 2, .inl (upd (fun _ => 0) 0 3))), ((n 3), .inl (cI, 2, .inl (fun _ => 0)))]) ⟨hx, hb, hml, hown, hts⟩ (k306_X10_hole l dC dI cB cI cJ cZ cO r x2 h0 h1 h2) (cwV 2 hts gL_law_X10_hole rfl rfl rfl ⟨rfl, z1023⟩ ⟨Nat.le_of_ble_eq_true rfl, Nat.le_of_ble_eq_true rfl⟩) hK hP hD hS hA [0, 1] [2, 3, 4] rfl rfl (by decide +kernel) (by decide +kernel) (by decide +kernel) rfl rfl rfl hl.1 (Nat.le_of_ble_eq_true rfl) rfl rfl dL_law_792 ⟨by decide +kernel, by decide +kernel⟩ (fun u0 H locs hP hD hS => ?_)
  refine lv_aload_n hx hb dL_law_795 rfl (lv_at hl 1 rfl) ?_
  refine lv_aload_n hx hb dL_law_796 rfl (lv_at hl 3 rfl) ?_
  refine lv_iload_n hx hb dL_law_797 rfl (lv_at hl 0 rfl) ?_
  refine lv_iconst (v := 1) hx hb dL_law_798 z39 ?_
  refine lv_iadd hx hb dL_law_799 ?_
  refine tpi z281 ?_
  refine va_sld hx hb hX hbl hbA hS (vin _ _ rfl) dL_law_800 ?_
  refine tpv (v := .int 0) (congrArg Value.int e1) ?_
  refine lv_aload_n hx hb dL_law_801 rfl (lv_at hl 3 rfl) ?_
  refine lv_iload_n hx hb dL_law_802 rfl (lv_at hl 0 rfl) ?_
  refine lv_iconst (v := 2) hx hb dL_law_803 z54 ?_
  refine lv_iadd hx hb dL_law_804 ?_
  refine tpi z362 ?_
  refine va_sld hx hb hX hbl hbA hS (vin _ _ rfl) dL_law_805 ?_
  refine tpv (v := .int x2) (congrArg Value.int e2) ?_
  refine call_iV (ci := 11) (As := [.int 0, .int x2]) (rest := [.int 0]) (wr := []) ⟨hx, hb, hml, hown, hts⟩ (k307_X11_hole l dC dI cB cI cJ cZ cO n x2 h0 h1 h3) (cwV 2 hts gL_law_X11_hole rfl rfl rfl ⟨rfl, z1024⟩ ⟨Nat.le_of_ble_eq_true rfl, Nat.le_of_ble_eq_true rfl⟩) hK hP hD hS hA [0, 1, 2] [] rfl rfl (by decide +kernel) (by decide +kernel) (by decide +kernel) rfl rfl rfl hl.1 (Nat.le_of_ble_eq_true rfl) rfl rfl dL_law_806 ⟨by decide +kernel, by decide +kernel⟩ (fun u1 H locs hP hD hS => ?_)
  refine lv_icmp_eq (tgt := 1093) hx hb dL_law_809 z1022 (fun _ => ?_) (fun c1 => absurd (rfl) c1)
  refine lv_iinc (v := 6) (lv' := [(3, .int 6), (2, .ref (n 0)), (1, .ref (r 0)), (0, .ref b)]) hx hb dL_law_1093 hl (k := 0) rfl z943 (nlt rfl) rfl (fun ls hl => ?_)
  refine lv_goto (tgt := 18) hx hb dL_law_1096 z944 ?_
  refine lv_iload_n hx hb dL_law_18 rfl (lv_at hl 0 rfl) ?_
  refine lv_aload_n hx hb dL_law_19 rfl (lv_at hl 3 rfl) ?_
  refine va_slen hx hb hX hbl hbA hS dL_law_20 ?_
  refine tpv (v := .int 6) rfl ?_
  refine lv_bipush (v := 6) hx hb dL_law_21 z4 ?_
  refine lv_isub hx hb dL_law_23 ?_
  refine tpi z945 ?_
  refine lv_icmp_gt (tgt := 1099) hx hb dL_law_24 z947 (fun _ => ?_) (fun c1 => absurd (z946) c1)
  refine lv_iconst (v := 1) hx hb dL_law_1099 z39 ?_
  refine va_forget (fun q hq => hS.2.2 q hq) ?_
  refine W.widen (k := 600000) (n := 7302250) (by decide) (by decide) ?_
  exact lw_ret hx hb hr hlocks dL_law_1100

set_option maxHeartbeats 4000000 in
set_option maxRecDepth 100000 in
theorem lc_25_5 {p : Program} {e : Env} {s : State} {m : MethodId} {below : List Frame} {meth : Method} {c : Code} (l : Launch) {b : Nat} {xs : Nat → Int32} (C0 : lw_At p s m meth c b 6 xs) (dC : Nat → ClassId) (dI : Nat → Nat → Nat) (cB cI cJ cZ cO : ClassId) (r n : Nat → Nat) (x2 : Int32) (e1 : xs 1 = 1) (e2 : xs 2 = x2) (h0 : ¬ x2 = (-1)) (h1 : x2 < 0) (H : Heap) (locs : List Loc) (hK : va_K (dC, dI) vwCl (tyL cB cI cJ cZ cO) s) (hP : va_P (dC, dI) vwCl [((r 0), .inr (10, fX r)), ((r 18), .inr (4, [.int 0, .ref (r 19), .ref (r 20), .int 0, .ref (r 21), .ref (r 22), .int 0, .ref (r 23), .ref (r 24), .int 0, .ref (r 25), .ref (r 26), .int 3, .int 0, .int 0, .ref (r 27)])), ((n 0), .inr (11, fM n)), ((n 7), .inl (cI, 2, .inl (upd (fun _ => 0) 0 3))), ((n 3), .inl (cI, 2, .inl (fun _ => 0)))] H) (hD : va_D (fun q : Nat => s.heap.size ≤ q) [((r 0), .inr (10, fX r)), ((r 18), .inr (4, [.int 0, .ref (r 19), .ref (r 20), .int 0, .ref (r 21), .ref (r 22), .int 0, .ref (r 23), .ref (r 24), .int 0, .ref (r 25), .ref (r 26), .int 3, .int 0, .int 0, .ref (r 27)])), ((n 0), .inr (11, fM n)), ((n 7), .inl (cI, 2, .inl (upd (fun _ => 0) 0 3))), ((n 3), .inl (cI, 2, .inl (fun _ => 0)))]) (hS : va_S (fun q : Nat => s.heap.size ≤ q) s.heap H locs) (ls : Array Slot) (hl : lv_has ls 4 [(3, .int 0), (2, .ref (n 0)), (1, .ref (r 0)), (0, .ref b)]) : W p l e room_1 s m #[Value.ref b] below meth c H locs 135 85080 (lw_Z below #[Value.ref b] s) (F0 m 781 ls []) := by
  obtain ⟨hx, hb, hr, hml, hown, hts0, hX, hbl, hlocks, hgv⟩ := C0
  have hts : ∀ w ∈ wsL_law, w.before #[Value.ref b] s = true := fun w h => hts0 w (wsL_law_in w h)
  have hA : ∀ q : Nat, s.heap.size ≤ q → (fun q : Nat => s.heap.size ≤ q) q := fun _ h => h
  have hbA : ¬ (fun q : Nat => s.heap.size ≤ q) b := Nat.not_le.mpr hbl
  have hown : s.vm.findClass RL = some m.cls := hown
  refine lv_aload_n hx hb dL_law_781 rfl (lv_at hl 2 rfl) ?_
  refine lv_aload_n hx hb dL_law_782 rfl (lv_at hl 3 rfl) ?_
  refine lv_iload_n hx hb dL_law_783 rfl (lv_at hl 0 rfl) ?_
  refine lv_iconst (v := 1) hx hb dL_law_784 z39 ?_
  refine lv_iadd hx hb dL_law_785 ?_
  refine tpi z281 ?_
  refine va_sld hx hb hX hbl hbA hS (vin _ _ rfl) dL_law_786 ?_
  refine tpv (v := .int 1) (congrArg Value.int e1) ?_
  refine lv_aload_n hx hb dL_law_787 rfl (lv_at hl 3 rfl) ?_
  refine lv_iload_n hx hb dL_law_788 rfl (lv_at hl 0 rfl) ?_
  refine lv_iconst (v := 2) hx hb dL_law_789 z54 ?_
  refine lv_iadd hx hb dL_law_790 ?_
  refine tpi z362 ?_
  refine va_sld hx hb hX hbl hbA hS (vin _ _ rfl) dL_law_791 ?_
  refine tpv (v := .int x2) (congrArg Value.int e2) ?_
  refine call_iV (ci := 10) (As := [.int 1, .int x2]) (rest := []) (wr := [((n 0), .inr (11, fM n)), ((n 7), .inl (cI, 2, .inl (upd (fun _ => 0) 0 3))), ((n 3), .inl (cI, 2, .inl (fun _ => 0)))]) ⟨hx, hb, hml, hown, hts⟩ (k308_X10_hole l dC dI cB cI cJ cZ cO r x2 h0 h1) (cwV 2 hts gL_law_X10_hole rfl rfl rfl ⟨rfl, z1023⟩ ⟨Nat.le_of_ble_eq_true rfl, Nat.le_of_ble_eq_true rfl⟩) hK hP hD hS hA [0, 1] [2, 3, 4] rfl rfl (by decide +kernel) (by decide +kernel) (by decide +kernel) rfl rfl rfl hl.1 (Nat.le_of_ble_eq_true rfl) rfl rfl dL_law_792 ⟨by decide +kernel, by decide +kernel⟩ (fun u0 H locs hP hD hS => ?_)
  refine lv_aload_n hx hb dL_law_795 rfl (lv_at hl 1 rfl) ?_
  refine lv_aload_n hx hb dL_law_796 rfl (lv_at hl 3 rfl) ?_
  refine lv_iload_n hx hb dL_law_797 rfl (lv_at hl 0 rfl) ?_
  refine lv_iconst (v := 1) hx hb dL_law_798 z39 ?_
  refine lv_iadd hx hb dL_law_799 ?_
  refine tpi z281 ?_
  refine va_sld hx hb hX hbl hbA hS (vin _ _ rfl) dL_law_800 ?_
  refine tpv (v := .int 1) (congrArg Value.int e1) ?_
  refine lv_aload_n hx hb dL_law_801 rfl (lv_at hl 3 rfl) ?_
  refine lv_iload_n hx hb dL_law_802 rfl (lv_at hl 0 rfl) ?_
  refine lv_iconst (v := 2) hx hb dL_law_803 z54 ?_
  refine lv_iadd hx hb dL_law_804 ?_
  refine tpi z362 ?_
  refine va_sld hx hb hX hbl hbA hS (vin _ _ rfl) dL_law_805 ?_
  refine tpv (v := .int x2) (congrArg Value.int e2) ?_
  refine call_iV (ci := 11) (As := [.int 1, .int x2]) (rest := [.int 0]) (wr := []) ⟨hx, hb, hml, hown, hts⟩ (k309_X11_hole l dC dI cB cI cJ cZ cO n x2 h0 h1) (cwV 2 hts gL_law_X11_hole rfl rfl rfl ⟨rfl, z1024⟩ ⟨Nat.le_of_ble_eq_true rfl, Nat.le_of_ble_eq_true rfl⟩) hK hP hD hS hA [0, 1, 2] [] rfl rfl (by decide +kernel) (by decide +kernel) (by decide +kernel) rfl rfl rfl hl.1 (Nat.le_of_ble_eq_true rfl) rfl rfl dL_law_806 ⟨by decide +kernel, by decide +kernel⟩ (fun u1 H locs hP hD hS => ?_)
  refine lv_icmp_eq (tgt := 1093) hx hb dL_law_809 z1022 (fun _ => ?_) (fun c1 => absurd (rfl) c1)
  refine lv_iinc (v := 6) (lv' := [(3, .int 6), (2, .ref (n 0)), (1, .ref (r 0)), (0, .ref b)]) hx hb dL_law_1093 hl (k := 0) rfl z943 (nlt rfl) rfl (fun ls hl => ?_)
  refine lv_goto (tgt := 18) hx hb dL_law_1096 z944 ?_
  refine lv_iload_n hx hb dL_law_18 rfl (lv_at hl 0 rfl) ?_
  refine lv_aload_n hx hb dL_law_19 rfl (lv_at hl 3 rfl) ?_
  refine va_slen hx hb hX hbl hbA hS dL_law_20 ?_
  refine tpv (v := .int 6) rfl ?_
  refine lv_bipush (v := 6) hx hb dL_law_21 z4 ?_
  refine lv_isub hx hb dL_law_23 ?_
  refine tpi z945 ?_
  refine lv_icmp_gt (tgt := 1099) hx hb dL_law_24 z947 (fun _ => ?_) (fun c1 => absurd (z946) c1)
  refine lv_iconst (v := 1) hx hb dL_law_1099 z39 ?_
  refine va_forget (fun q hq => hS.2.2 q hq) ?_
  refine W.widen (k := 600000) (n := 7302250) (by decide) (by decide) ?_
  exact lw_ret hx hb hr hlocks dL_law_1100

set_option maxHeartbeats 4000000 in
set_option maxRecDepth 100000 in
theorem lc_25_6 {p : Program} {e : Env} {s : State} {m : MethodId} {below : List Frame} {meth : Method} {c : Code} (l : Launch) {b : Nat} {xs : Nat → Int32} (C0 : lw_At p s m meth c b 6 xs) (dC : Nat → ClassId) (dI : Nat → Nat → Nat) (cB cI cJ cZ cO : ClassId) (r n : Nat → Nat) (e1 : xs 1 = 1) (e2 : xs 2 = (-1)) (H : Heap) (locs : List Loc) (hK : va_K (dC, dI) vwCl (tyL cB cI cJ cZ cO) s) (hP : va_P (dC, dI) vwCl [((r 0), .inr (10, fX r)), ((r 18), .inr (4, [.int 0, .ref (r 19), .ref (r 20), .int 0, .ref (r 21), .ref (r 22), .int 0, .ref (r 23), .ref (r 24), .int 0, .ref (r 25), .ref (r 26), .int 3, .int 0, .int 0, .ref (r 27)])), ((n 0), .inr (11, fM n)), ((n 7), .inl (cI, 2, .inl (upd (fun _ => 0) 0 3))), ((n 28), .inl (cI, 6, .inl (upd (upd (upd (upd (upd (upd (fun _ => 0) 0 (-1)) 1 (-1)) 2 (-1)) 3 (-1)) 4 (-1)) 5 (-1))))] H) (hD : va_D (fun q : Nat => s.heap.size ≤ q) [((r 0), .inr (10, fX r)), ((r 18), .inr (4, [.int 0, .ref (r 19), .ref (r 20), .int 0, .ref (r 21), .ref (r 22), .int 0, .ref (r 23), .ref (r 24), .int 0, .ref (r 25), .ref (r 26), .int 3, .int 0, .int 0, .ref (r 27)])), ((n 0), .inr (11, fM n)), ((n 7), .inl (cI, 2, .inl (upd (fun _ => 0) 0 3))), ((n 28), .inl (cI, 6, .inl (upd (upd (upd (upd (upd (upd (fun _ => 0) 0 (-1)) 1 (-1)) 2 (-1)) 3 (-1)) 4 (-1)) 5 (-1))))]) (hS : va_S (fun q : Nat => s.heap.size ≤ q) s.heap H locs) (ls : Array Slot) (hl : lv_has ls 4 [(3, .int 0), (2, .ref (n 0)), (1, .ref (r 0)), (0, .ref b)]) : W p l e room_1 s m #[Value.ref b] below meth c H locs 135 85080 (lw_Z below #[Value.ref b] s) (F0 m 781 ls []) := by
  obtain ⟨hx, hb, hr, hml, hown, hts0, hX, hbl, hlocks, hgv⟩ := C0
  have hts : ∀ w ∈ wsL_law, w.before #[Value.ref b] s = true := fun w h => hts0 w (wsL_law_in w h)
  have hA : ∀ q : Nat, s.heap.size ≤ q → (fun q : Nat => s.heap.size ≤ q) q := fun _ h => h
  have hbA : ¬ (fun q : Nat => s.heap.size ≤ q) b := Nat.not_le.mpr hbl
  have hown : s.vm.findClass RL = some m.cls := hown
  refine lv_aload_n hx hb dL_law_781 rfl (lv_at hl 2 rfl) ?_
  refine lv_aload_n hx hb dL_law_782 rfl (lv_at hl 3 rfl) ?_
  refine lv_iload_n hx hb dL_law_783 rfl (lv_at hl 0 rfl) ?_
  refine lv_iconst (v := 1) hx hb dL_law_784 z39 ?_
  refine lv_iadd hx hb dL_law_785 ?_
  refine tpi z281 ?_
  refine va_sld hx hb hX hbl hbA hS (vin _ _ rfl) dL_law_786 ?_
  refine tpv (v := .int 1) (congrArg Value.int e1) ?_
  refine lv_aload_n hx hb dL_law_787 rfl (lv_at hl 3 rfl) ?_
  refine lv_iload_n hx hb dL_law_788 rfl (lv_at hl 0 rfl) ?_
  refine lv_iconst (v := 2) hx hb dL_law_789 z54 ?_
  refine lv_iadd hx hb dL_law_790 ?_
  refine tpi z362 ?_
  refine va_sld hx hb hX hbl hbA hS (vin _ _ rfl) dL_law_791 ?_
  refine tpv (v := .int (-1)) (congrArg Value.int e2) ?_
  refine call_iV (ci := 10) (As := [.int 1, .int (-1)]) (rest := []) (wr := [((n 0), .inr (11, fM n)), ((n 7), .inl (cI, 2, .inl (upd (fun _ => 0) 0 3))), ((n 28), .inl (cI, 6, .inl (upd (upd (upd (upd (upd (upd (fun _ => 0) 0 (-1)) 1 (-1)) 2 (-1)) 3 (-1)) 4 (-1)) 5 (-1))))]) ⟨hx, hb, hml, hown, hts⟩ (k310_X10_hole l dC dI cB cI cJ cZ cO r) (cwV 2 hts gL_law_X10_hole rfl rfl rfl ⟨rfl, z1023⟩ ⟨Nat.le_of_ble_eq_true rfl, Nat.le_of_ble_eq_true rfl⟩) hK hP hD hS hA [0, 1] [2, 3, 4] rfl rfl (by decide +kernel) (by decide +kernel) (by decide +kernel) rfl rfl rfl hl.1 (Nat.le_of_ble_eq_true rfl) rfl rfl dL_law_792 ⟨by decide +kernel, by decide +kernel⟩ (fun u0 H locs hP hD hS => ?_)
  refine lv_aload_n hx hb dL_law_795 rfl (lv_at hl 1 rfl) ?_
  refine lv_aload_n hx hb dL_law_796 rfl (lv_at hl 3 rfl) ?_
  refine lv_iload_n hx hb dL_law_797 rfl (lv_at hl 0 rfl) ?_
  refine lv_iconst (v := 1) hx hb dL_law_798 z39 ?_
  refine lv_iadd hx hb dL_law_799 ?_
  refine tpi z281 ?_
  refine va_sld hx hb hX hbl hbA hS (vin _ _ rfl) dL_law_800 ?_
  refine tpv (v := .int 1) (congrArg Value.int e1) ?_
  refine lv_aload_n hx hb dL_law_801 rfl (lv_at hl 3 rfl) ?_
  refine lv_iload_n hx hb dL_law_802 rfl (lv_at hl 0 rfl) ?_
  refine lv_iconst (v := 2) hx hb dL_law_803 z54 ?_
  refine lv_iadd hx hb dL_law_804 ?_
  refine tpi z362 ?_
  refine va_sld hx hb hX hbl hbA hS (vin _ _ rfl) dL_law_805 ?_
  refine tpv (v := .int (-1)) (congrArg Value.int e2) ?_
  refine call_iV (ci := 11) (As := [.int 1, .int (-1)]) (rest := [.int 1]) (wr := []) ⟨hx, hb, hml, hown, hts⟩ (k311_X11_hole l dC dI cB cI cJ cZ cO n) (cwV 2 hts gL_law_X11_hole rfl rfl rfl ⟨rfl, z1024⟩ ⟨Nat.le_of_ble_eq_true rfl, Nat.le_of_ble_eq_true rfl⟩) hK hP hD hS hA [0, 1, 2] [] rfl rfl (by decide +kernel) (by decide +kernel) (by decide +kernel) rfl rfl rfl hl.1 (Nat.le_of_ble_eq_true rfl) rfl rfl dL_law_806 ⟨by decide +kernel, by decide +kernel⟩ (fun u1 H locs hP hD hS => ?_)
  refine lv_icmp_eq (tgt := 1093) hx hb dL_law_809 z1022 (fun _ => ?_) (fun c1 => absurd (rfl) c1)
  refine lv_iinc (v := 6) (lv' := [(3, .int 6), (2, .ref (n 0)), (1, .ref (r 0)), (0, .ref b)]) hx hb dL_law_1093 hl (k := 0) rfl z943 (nlt rfl) rfl (fun ls hl => ?_)
  refine lv_goto (tgt := 18) hx hb dL_law_1096 z944 ?_
  refine lv_iload_n hx hb dL_law_18 rfl (lv_at hl 0 rfl) ?_
  refine lv_aload_n hx hb dL_law_19 rfl (lv_at hl 3 rfl) ?_
  refine va_slen hx hb hX hbl hbA hS dL_law_20 ?_
  refine tpv (v := .int 6) rfl ?_
  refine lv_bipush (v := 6) hx hb dL_law_21 z4 ?_
  refine lv_isub hx hb dL_law_23 ?_
  refine tpi z945 ?_
  refine lv_icmp_gt (tgt := 1099) hx hb dL_law_24 z947 (fun _ => ?_) (fun c1 => absurd (z946) c1)
  refine lv_iconst (v := 1) hx hb dL_law_1099 z39 ?_
  refine va_forget (fun q hq => hS.2.2 q hq) ?_
  refine W.widen (k := 600000) (n := 7302250) (by decide) (by decide) ?_
  exact lw_ret hx hb hr hlocks dL_law_1100

set_option maxHeartbeats 4000000 in
set_option maxRecDepth 100000 in
theorem lc_25_7 {p : Program} {e : Env} {s : State} {m : MethodId} {below : List Frame} {meth : Method} {c : Code} (l : Launch) {b : Nat} {xs : Nat → Int32} (C0 : lw_At p s m meth c b 6 xs) (dC : Nat → ClassId) (dI : Nat → Nat → Nat) (cB cI cJ cZ cO : ClassId) (r n : Nat → Nat) (x2 : Int32) (e1 : xs 1 = 1) (e2 : xs 2 = x2) (h0 : ¬ x2 = (-1)) (h1 : ¬ x2 < 0) (h2 : 0 ≤ x2) (h3 : (-1) < x2) (H : Heap) (locs : List Loc) (hK : va_K (dC, dI) vwCl (tyL cB cI cJ cZ cO) s) (hP : va_P (dC, dI) vwCl [((r 0), .inr (10, fX r)), ((r 18), .inr (4, [.int 0, .ref (r 19), .ref (r 20), .int 0, .ref (r 21), .ref (r 22), .int 0, .ref (r 23), .ref (r 24), .int 0, .ref (r 25), .ref (r 26), .int 3, .int 0, .int 0, .ref (r 27)])), ((n 0), .inr (11, fM n)), ((n 7), .inl (cI, 2, .inl (upd (fun _ => 0) 0 3))), ((n 3), .inl (cI, 2, .inl (fun _ => 0)))] H) (hD : va_D (fun q : Nat => s.heap.size ≤ q) [((r 0), .inr (10, fX r)), ((r 18), .inr (4, [.int 0, .ref (r 19), .ref (r 20), .int 0, .ref (r 21), .ref (r 22), .int 0, .ref (r 23), .ref (r 24), .int 0, .ref (r 25), .ref (r 26), .int 3, .int 0, .int 0, .ref (r 27)])), ((n 0), .inr (11, fM n)), ((n 7), .inl (cI, 2, .inl (upd (fun _ => 0) 0 3))), ((n 3), .inl (cI, 2, .inl (fun _ => 0)))]) (hS : va_S (fun q : Nat => s.heap.size ≤ q) s.heap H locs) (ls : Array Slot) (hl : lv_has ls 4 [(3, .int 0), (2, .ref (n 0)), (1, .ref (r 0)), (0, .ref b)]) : W p l e room_1 s m #[Value.ref b] below meth c H locs 135 85080 (lw_Z below #[Value.ref b] s) (F0 m 781 ls []) := by
  obtain ⟨hx, hb, hr, hml, hown, hts0, hX, hbl, hlocks, hgv⟩ := C0
  have hts : ∀ w ∈ wsL_law, w.before #[Value.ref b] s = true := fun w h => hts0 w (wsL_law_in w h)
  have hA : ∀ q : Nat, s.heap.size ≤ q → (fun q : Nat => s.heap.size ≤ q) q := fun _ h => h
  have hbA : ¬ (fun q : Nat => s.heap.size ≤ q) b := Nat.not_le.mpr hbl
  have hown : s.vm.findClass RL = some m.cls := hown
  refine lv_aload_n hx hb dL_law_781 rfl (lv_at hl 2 rfl) ?_
  refine lv_aload_n hx hb dL_law_782 rfl (lv_at hl 3 rfl) ?_
  refine lv_iload_n hx hb dL_law_783 rfl (lv_at hl 0 rfl) ?_
  refine lv_iconst (v := 1) hx hb dL_law_784 z39 ?_
  refine lv_iadd hx hb dL_law_785 ?_
  refine tpi z281 ?_
  refine va_sld hx hb hX hbl hbA hS (vin _ _ rfl) dL_law_786 ?_
  refine tpv (v := .int 1) (congrArg Value.int e1) ?_
  refine lv_aload_n hx hb dL_law_787 rfl (lv_at hl 3 rfl) ?_
  refine lv_iload_n hx hb dL_law_788 rfl (lv_at hl 0 rfl) ?_
  refine lv_iconst (v := 2) hx hb dL_law_789 z54 ?_
  refine lv_iadd hx hb dL_law_790 ?_
  refine tpi z362 ?_
  refine va_sld hx hb hX hbl hbA hS (vin _ _ rfl) dL_law_791 ?_
  refine tpv (v := .int x2) (congrArg Value.int e2) ?_
  refine call_iV (ci := 10) (As := [.int 1, .int x2]) (rest := []) (wr := [((n 0), .inr (11, fM n)), ((n 7), .inl (cI, 2, .inl (upd (fun _ => 0) 0 3))), ((n 3), .inl (cI, 2, .inl (fun _ => 0)))]) ⟨hx, hb, hml, hown, hts⟩ (k312_X10_hole l dC dI cB cI cJ cZ cO r x2 h0 h1 h2) (cwV 2 hts gL_law_X10_hole rfl rfl rfl ⟨rfl, z1023⟩ ⟨Nat.le_of_ble_eq_true rfl, Nat.le_of_ble_eq_true rfl⟩) hK hP hD hS hA [0, 1] [2, 3, 4] rfl rfl (by decide +kernel) (by decide +kernel) (by decide +kernel) rfl rfl rfl hl.1 (Nat.le_of_ble_eq_true rfl) rfl rfl dL_law_792 ⟨by decide +kernel, by decide +kernel⟩ (fun u0 H locs hP hD hS => ?_)
  refine lv_aload_n hx hb dL_law_795 rfl (lv_at hl 1 rfl) ?_
  refine lv_aload_n hx hb dL_law_796 rfl (lv_at hl 3 rfl) ?_
  refine lv_iload_n hx hb dL_law_797 rfl (lv_at hl 0 rfl) ?_
  refine lv_iconst (v := 1) hx hb dL_law_798 z39 ?_
  refine lv_iadd hx hb dL_law_799 ?_
  refine tpi z281 ?_
  refine va_sld hx hb hX hbl hbA hS (vin _ _ rfl) dL_law_800 ?_
  refine tpv (v := .int 1) (congrArg Value.int e1) ?_
  refine lv_aload_n hx hb dL_law_801 rfl (lv_at hl 3 rfl) ?_
  refine lv_iload_n hx hb dL_law_802 rfl (lv_at hl 0 rfl) ?_
  refine lv_iconst (v := 2) hx hb dL_law_803 z54 ?_
  refine lv_iadd hx hb dL_law_804 ?_
  refine tpi z362 ?_
  refine va_sld hx hb hX hbl hbA hS (vin _ _ rfl) dL_law_805 ?_
  refine tpv (v := .int x2) (congrArg Value.int e2) ?_
  refine call_iV (ci := 11) (As := [.int 1, .int x2]) (rest := [.int 0]) (wr := []) ⟨hx, hb, hml, hown, hts⟩ (k313_X11_hole l dC dI cB cI cJ cZ cO n x2 h0 h1 h3) (cwV 2 hts gL_law_X11_hole rfl rfl rfl ⟨rfl, z1024⟩ ⟨Nat.le_of_ble_eq_true rfl, Nat.le_of_ble_eq_true rfl⟩) hK hP hD hS hA [0, 1, 2] [] rfl rfl (by decide +kernel) (by decide +kernel) (by decide +kernel) rfl rfl rfl hl.1 (Nat.le_of_ble_eq_true rfl) rfl rfl dL_law_806 ⟨by decide +kernel, by decide +kernel⟩ (fun u1 H locs hP hD hS => ?_)
  refine lv_icmp_eq (tgt := 1093) hx hb dL_law_809 z1022 (fun _ => ?_) (fun c1 => absurd (rfl) c1)
  refine lv_iinc (v := 6) (lv' := [(3, .int 6), (2, .ref (n 0)), (1, .ref (r 0)), (0, .ref b)]) hx hb dL_law_1093 hl (k := 0) rfl z943 (nlt rfl) rfl (fun ls hl => ?_)
  refine lv_goto (tgt := 18) hx hb dL_law_1096 z944 ?_
  refine lv_iload_n hx hb dL_law_18 rfl (lv_at hl 0 rfl) ?_
  refine lv_aload_n hx hb dL_law_19 rfl (lv_at hl 3 rfl) ?_
  refine va_slen hx hb hX hbl hbA hS dL_law_20 ?_
  refine tpv (v := .int 6) rfl ?_
  refine lv_bipush (v := 6) hx hb dL_law_21 z4 ?_
  refine lv_isub hx hb dL_law_23 ?_
  refine tpi z945 ?_
  refine lv_icmp_gt (tgt := 1099) hx hb dL_law_24 z947 (fun _ => ?_) (fun c1 => absurd (z946) c1)
  refine lv_iconst (v := 1) hx hb dL_law_1099 z39 ?_
  refine va_forget (fun q hq => hS.2.2 q hq) ?_
  refine W.widen (k := 600000) (n := 7302250) (by decide) (by decide) ?_
  exact lw_ret hx hb hr hlocks dL_law_1100

set_option maxHeartbeats 4000000 in
set_option maxRecDepth 100000 in
theorem lc_25_8 {p : Program} {e : Env} {s : State} {m : MethodId} {below : List Frame} {meth : Method} {c : Code} (l : Launch) {b : Nat} {xs : Nat → Int32} (C0 : lw_At p s m meth c b 6 xs) (dC : Nat → ClassId) (dI : Nat → Nat → Nat) (cB cI cJ cZ cO : ClassId) (r n : Nat → Nat) (x2 : Int32) (e1 : xs 1 = 2) (e2 : xs 2 = x2) (h0 : ¬ x2 = (-1)) (h1 : x2 < 0) (H : Heap) (locs : List Loc) (hK : va_K (dC, dI) vwCl (tyL cB cI cJ cZ cO) s) (hP : va_P (dC, dI) vwCl [((r 0), .inr (10, fX r)), ((r 18), .inr (4, [.int 0, .ref (r 19), .ref (r 20), .int 0, .ref (r 21), .ref (r 22), .int 0, .ref (r 23), .ref (r 24), .int 0, .ref (r 25), .ref (r 26), .int 3, .int 0, .int 0, .ref (r 27)])), ((n 0), .inr (11, fM n)), ((n 7), .inl (cI, 2, .inl (upd (fun _ => 0) 0 3))), ((n 3), .inl (cI, 2, .inl (fun _ => 0)))] H) (hD : va_D (fun q : Nat => s.heap.size ≤ q) [((r 0), .inr (10, fX r)), ((r 18), .inr (4, [.int 0, .ref (r 19), .ref (r 20), .int 0, .ref (r 21), .ref (r 22), .int 0, .ref (r 23), .ref (r 24), .int 0, .ref (r 25), .ref (r 26), .int 3, .int 0, .int 0, .ref (r 27)])), ((n 0), .inr (11, fM n)), ((n 7), .inl (cI, 2, .inl (upd (fun _ => 0) 0 3))), ((n 3), .inl (cI, 2, .inl (fun _ => 0)))]) (hS : va_S (fun q : Nat => s.heap.size ≤ q) s.heap H locs) (ls : Array Slot) (hl : lv_has ls 4 [(3, .int 0), (2, .ref (n 0)), (1, .ref (r 0)), (0, .ref b)]) : W p l e room_1 s m #[Value.ref b] below meth c H locs 135 85080 (lw_Z below #[Value.ref b] s) (F0 m 781 ls []) := by
  obtain ⟨hx, hb, hr, hml, hown, hts0, hX, hbl, hlocks, hgv⟩ := C0
  have hts : ∀ w ∈ wsL_law, w.before #[Value.ref b] s = true := fun w h => hts0 w (wsL_law_in w h)
  have hA : ∀ q : Nat, s.heap.size ≤ q → (fun q : Nat => s.heap.size ≤ q) q := fun _ h => h
  have hbA : ¬ (fun q : Nat => s.heap.size ≤ q) b := Nat.not_le.mpr hbl
  have hown : s.vm.findClass RL = some m.cls := hown
  refine lv_aload_n hx hb dL_law_781 rfl (lv_at hl 2 rfl) ?_
  refine lv_aload_n hx hb dL_law_782 rfl (lv_at hl 3 rfl) ?_
  refine lv_iload_n hx hb dL_law_783 rfl (lv_at hl 0 rfl) ?_
  refine lv_iconst (v := 1) hx hb dL_law_784 z39 ?_
  refine lv_iadd hx hb dL_law_785 ?_
  refine tpi z281 ?_
  refine va_sld hx hb hX hbl hbA hS (vin _ _ rfl) dL_law_786 ?_
  refine tpv (v := .int 2) (congrArg Value.int e1) ?_
  refine lv_aload_n hx hb dL_law_787 rfl (lv_at hl 3 rfl) ?_
  refine lv_iload_n hx hb dL_law_788 rfl (lv_at hl 0 rfl) ?_
  refine lv_iconst (v := 2) hx hb dL_law_789 z54 ?_
  refine lv_iadd hx hb dL_law_790 ?_
  refine tpi z362 ?_
  refine va_sld hx hb hX hbl hbA hS (vin _ _ rfl) dL_law_791 ?_
  refine tpv (v := .int x2) (congrArg Value.int e2) ?_
  refine call_iV (ci := 10) (As := [.int 2, .int x2]) (rest := []) (wr := [((n 0), .inr (11, fM n)), ((n 7), .inl (cI, 2, .inl (upd (fun _ => 0) 0 3))), ((n 3), .inl (cI, 2, .inl (fun _ => 0)))]) ⟨hx, hb, hml, hown, hts⟩ (k314_X10_hole l dC dI cB cI cJ cZ cO r x2 h0 h1) (cwV 2 hts gL_law_X10_hole rfl rfl rfl ⟨rfl, z1023⟩ ⟨Nat.le_of_ble_eq_true rfl, Nat.le_of_ble_eq_true rfl⟩) hK hP hD hS hA [0, 1] [2, 3, 4] rfl rfl (by decide +kernel) (by decide +kernel) (by decide +kernel) rfl rfl rfl hl.1 (Nat.le_of_ble_eq_true rfl) rfl rfl dL_law_792 ⟨by decide +kernel, by decide +kernel⟩ (fun u0 H locs hP hD hS => ?_)
  refine lv_aload_n hx hb dL_law_795 rfl (lv_at hl 1 rfl) ?_
  refine lv_aload_n hx hb dL_law_796 rfl (lv_at hl 3 rfl) ?_
  refine lv_iload_n hx hb dL_law_797 rfl (lv_at hl 0 rfl) ?_
  refine lv_iconst (v := 1) hx hb dL_law_798 z39 ?_
  refine lv_iadd hx hb dL_law_799 ?_
  refine tpi z281 ?_
  refine va_sld hx hb hX hbl hbA hS (vin _ _ rfl) dL_law_800 ?_
  refine tpv (v := .int 2) (congrArg Value.int e1) ?_
  refine lv_aload_n hx hb dL_law_801 rfl (lv_at hl 3 rfl) ?_
  refine lv_iload_n hx hb dL_law_802 rfl (lv_at hl 0 rfl) ?_
  refine lv_iconst (v := 2) hx hb dL_law_803 z54 ?_
  refine lv_iadd hx hb dL_law_804 ?_
  refine tpi z362 ?_
  refine va_sld hx hb hX hbl hbA hS (vin _ _ rfl) dL_law_805 ?_
  refine tpv (v := .int x2) (congrArg Value.int e2) ?_
  refine call_iV (ci := 11) (As := [.int 2, .int x2]) (rest := [.int 0]) (wr := []) ⟨hx, hb, hml, hown, hts⟩ (k315_X11_hole l dC dI cB cI cJ cZ cO n x2 h0 h1) (cwV 2 hts gL_law_X11_hole rfl rfl rfl ⟨rfl, z1024⟩ ⟨Nat.le_of_ble_eq_true rfl, Nat.le_of_ble_eq_true rfl⟩) hK hP hD hS hA [0, 1, 2] [] rfl rfl (by decide +kernel) (by decide +kernel) (by decide +kernel) rfl rfl rfl hl.1 (Nat.le_of_ble_eq_true rfl) rfl rfl dL_law_806 ⟨by decide +kernel, by decide +kernel⟩ (fun u1 H locs hP hD hS => ?_)
  refine lv_icmp_eq (tgt := 1093) hx hb dL_law_809 z1022 (fun _ => ?_) (fun c1 => absurd (rfl) c1)
  refine lv_iinc (v := 6) (lv' := [(3, .int 6), (2, .ref (n 0)), (1, .ref (r 0)), (0, .ref b)]) hx hb dL_law_1093 hl (k := 0) rfl z943 (nlt rfl) rfl (fun ls hl => ?_)
  refine lv_goto (tgt := 18) hx hb dL_law_1096 z944 ?_
  refine lv_iload_n hx hb dL_law_18 rfl (lv_at hl 0 rfl) ?_
  refine lv_aload_n hx hb dL_law_19 rfl (lv_at hl 3 rfl) ?_
  refine va_slen hx hb hX hbl hbA hS dL_law_20 ?_
  refine tpv (v := .int 6) rfl ?_
  refine lv_bipush (v := 6) hx hb dL_law_21 z4 ?_
  refine lv_isub hx hb dL_law_23 ?_
  refine tpi z945 ?_
  refine lv_icmp_gt (tgt := 1099) hx hb dL_law_24 z947 (fun _ => ?_) (fun c1 => absurd (z946) c1)
  refine lv_iconst (v := 1) hx hb dL_law_1099 z39 ?_
  refine va_forget (fun q hq => hS.2.2 q hq) ?_
  refine W.widen (k := 600000) (n := 7302250) (by decide) (by decide) ?_
  exact lw_ret hx hb hr hlocks dL_law_1100

set_option maxHeartbeats 4000000 in
set_option maxRecDepth 100000 in
theorem lc_25_9 {p : Program} {e : Env} {s : State} {m : MethodId} {below : List Frame} {meth : Method} {c : Code} (l : Launch) {b : Nat} {xs : Nat → Int32} (C0 : lw_At p s m meth c b 6 xs) (dC : Nat → ClassId) (dI : Nat → Nat → Nat) (cB cI cJ cZ cO : ClassId) (r n : Nat → Nat) (e1 : xs 1 = 2) (e2 : xs 2 = (-1)) (H : Heap) (locs : List Loc) (hK : va_K (dC, dI) vwCl (tyL cB cI cJ cZ cO) s) (hP : va_P (dC, dI) vwCl [((r 0), .inr (10, fX r)), ((r 18), .inr (4, [.int 0, .ref (r 19), .ref (r 20), .int 0, .ref (r 21), .ref (r 22), .int 0, .ref (r 23), .ref (r 24), .int 0, .ref (r 25), .ref (r 26), .int 3, .int 0, .int 0, .ref (r 27)])), ((n 0), .inr (11, fM n)), ((n 7), .inl (cI, 2, .inl (upd (fun _ => 0) 0 3))), ((n 28), .inl (cI, 6, .inl (upd (upd (upd (upd (upd (upd (fun _ => 0) 0 (-1)) 1 (-1)) 2 (-1)) 3 (-1)) 4 (-1)) 5 (-1))))] H) (hD : va_D (fun q : Nat => s.heap.size ≤ q) [((r 0), .inr (10, fX r)), ((r 18), .inr (4, [.int 0, .ref (r 19), .ref (r 20), .int 0, .ref (r 21), .ref (r 22), .int 0, .ref (r 23), .ref (r 24), .int 0, .ref (r 25), .ref (r 26), .int 3, .int 0, .int 0, .ref (r 27)])), ((n 0), .inr (11, fM n)), ((n 7), .inl (cI, 2, .inl (upd (fun _ => 0) 0 3))), ((n 28), .inl (cI, 6, .inl (upd (upd (upd (upd (upd (upd (fun _ => 0) 0 (-1)) 1 (-1)) 2 (-1)) 3 (-1)) 4 (-1)) 5 (-1))))]) (hS : va_S (fun q : Nat => s.heap.size ≤ q) s.heap H locs) (ls : Array Slot) (hl : lv_has ls 4 [(3, .int 0), (2, .ref (n 0)), (1, .ref (r 0)), (0, .ref b)]) : W p l e room_1 s m #[Value.ref b] below meth c H locs 135 85080 (lw_Z below #[Value.ref b] s) (F0 m 781 ls []) := by
  obtain ⟨hx, hb, hr, hml, hown, hts0, hX, hbl, hlocks, hgv⟩ := C0
  have hts : ∀ w ∈ wsL_law, w.before #[Value.ref b] s = true := fun w h => hts0 w (wsL_law_in w h)
  have hA : ∀ q : Nat, s.heap.size ≤ q → (fun q : Nat => s.heap.size ≤ q) q := fun _ h => h
  have hbA : ¬ (fun q : Nat => s.heap.size ≤ q) b := Nat.not_le.mpr hbl
  have hown : s.vm.findClass RL = some m.cls := hown
  refine lv_aload_n hx hb dL_law_781 rfl (lv_at hl 2 rfl) ?_
  refine lv_aload_n hx hb dL_law_782 rfl (lv_at hl 3 rfl) ?_
  refine lv_iload_n hx hb dL_law_783 rfl (lv_at hl 0 rfl) ?_
  refine lv_iconst (v := 1) hx hb dL_law_784 z39 ?_
  refine lv_iadd hx hb dL_law_785 ?_
  refine tpi z281 ?_
  refine va_sld hx hb hX hbl hbA hS (vin _ _ rfl) dL_law_786 ?_
  refine tpv (v := .int 2) (congrArg Value.int e1) ?_
  refine lv_aload_n hx hb dL_law_787 rfl (lv_at hl 3 rfl) ?_
  refine lv_iload_n hx hb dL_law_788 rfl (lv_at hl 0 rfl) ?_
  refine lv_iconst (v := 2) hx hb dL_law_789 z54 ?_
  refine lv_iadd hx hb dL_law_790 ?_
  refine tpi z362 ?_
  refine va_sld hx hb hX hbl hbA hS (vin _ _ rfl) dL_law_791 ?_
  refine tpv (v := .int (-1)) (congrArg Value.int e2) ?_
  refine call_iV (ci := 10) (As := [.int 2, .int (-1)]) (rest := []) (wr := [((n 0), .inr (11, fM n)), ((n 7), .inl (cI, 2, .inl (upd (fun _ => 0) 0 3))), ((n 28), .inl (cI, 6, .inl (upd (upd (upd (upd (upd (upd (fun _ => 0) 0 (-1)) 1 (-1)) 2 (-1)) 3 (-1)) 4 (-1)) 5 (-1))))]) ⟨hx, hb, hml, hown, hts⟩ (k316_X10_hole l dC dI cB cI cJ cZ cO r) (cwV 2 hts gL_law_X10_hole rfl rfl rfl ⟨rfl, z1023⟩ ⟨Nat.le_of_ble_eq_true rfl, Nat.le_of_ble_eq_true rfl⟩) hK hP hD hS hA [0, 1] [2, 3, 4] rfl rfl (by decide +kernel) (by decide +kernel) (by decide +kernel) rfl rfl rfl hl.1 (Nat.le_of_ble_eq_true rfl) rfl rfl dL_law_792 ⟨by decide +kernel, by decide +kernel⟩ (fun u0 H locs hP hD hS => ?_)
  refine lv_aload_n hx hb dL_law_795 rfl (lv_at hl 1 rfl) ?_
  refine lv_aload_n hx hb dL_law_796 rfl (lv_at hl 3 rfl) ?_
  refine lv_iload_n hx hb dL_law_797 rfl (lv_at hl 0 rfl) ?_
  refine lv_iconst (v := 1) hx hb dL_law_798 z39 ?_
  refine lv_iadd hx hb dL_law_799 ?_
  refine tpi z281 ?_
  refine va_sld hx hb hX hbl hbA hS (vin _ _ rfl) dL_law_800 ?_
  refine tpv (v := .int 2) (congrArg Value.int e1) ?_
  refine lv_aload_n hx hb dL_law_801 rfl (lv_at hl 3 rfl) ?_
  refine lv_iload_n hx hb dL_law_802 rfl (lv_at hl 0 rfl) ?_
  refine lv_iconst (v := 2) hx hb dL_law_803 z54 ?_
  refine lv_iadd hx hb dL_law_804 ?_
  refine tpi z362 ?_
  refine va_sld hx hb hX hbl hbA hS (vin _ _ rfl) dL_law_805 ?_
  refine tpv (v := .int (-1)) (congrArg Value.int e2) ?_
  refine call_iV (ci := 11) (As := [.int 2, .int (-1)]) (rest := [.int 1]) (wr := []) ⟨hx, hb, hml, hown, hts⟩ (k317_X11_hole l dC dI cB cI cJ cZ cO n) (cwV 2 hts gL_law_X11_hole rfl rfl rfl ⟨rfl, z1024⟩ ⟨Nat.le_of_ble_eq_true rfl, Nat.le_of_ble_eq_true rfl⟩) hK hP hD hS hA [0, 1, 2] [] rfl rfl (by decide +kernel) (by decide +kernel) (by decide +kernel) rfl rfl rfl hl.1 (Nat.le_of_ble_eq_true rfl) rfl rfl dL_law_806 ⟨by decide +kernel, by decide +kernel⟩ (fun u1 H locs hP hD hS => ?_)
  refine lv_icmp_eq (tgt := 1093) hx hb dL_law_809 z1022 (fun _ => ?_) (fun c1 => absurd (rfl) c1)
  refine lv_iinc (v := 6) (lv' := [(3, .int 6), (2, .ref (n 0)), (1, .ref (r 0)), (0, .ref b)]) hx hb dL_law_1093 hl (k := 0) rfl z943 (nlt rfl) rfl (fun ls hl => ?_)
  refine lv_goto (tgt := 18) hx hb dL_law_1096 z944 ?_
  refine lv_iload_n hx hb dL_law_18 rfl (lv_at hl 0 rfl) ?_
  refine lv_aload_n hx hb dL_law_19 rfl (lv_at hl 3 rfl) ?_
  refine va_slen hx hb hX hbl hbA hS dL_law_20 ?_
  refine tpv (v := .int 6) rfl ?_
  refine lv_bipush (v := 6) hx hb dL_law_21 z4 ?_
  refine lv_isub hx hb dL_law_23 ?_
  refine tpi z945 ?_
  refine lv_icmp_gt (tgt := 1099) hx hb dL_law_24 z947 (fun _ => ?_) (fun c1 => absurd (z946) c1)
  refine lv_iconst (v := 1) hx hb dL_law_1099 z39 ?_
  refine va_forget (fun q hq => hS.2.2 q hq) ?_
  refine W.widen (k := 600000) (n := 7302250) (by decide) (by decide) ?_
  exact lw_ret hx hb hr hlocks dL_law_1100

set_option maxHeartbeats 4000000 in
set_option maxRecDepth 100000 in
theorem lc_25_10 {p : Program} {e : Env} {s : State} {m : MethodId} {below : List Frame} {meth : Method} {c : Code} (l : Launch) {b : Nat} {xs : Nat → Int32} (C0 : lw_At p s m meth c b 6 xs) (dC : Nat → ClassId) (dI : Nat → Nat → Nat) (cB cI cJ cZ cO : ClassId) (r n : Nat → Nat) (x2 : Int32) (e1 : xs 1 = 2) (e2 : xs 2 = x2) (h0 : ¬ x2 = (-1)) (h1 : ¬ x2 < 0) (h2 : 0 ≤ x2) (h3 : (-1) < x2) (H : Heap) (locs : List Loc) (hK : va_K (dC, dI) vwCl (tyL cB cI cJ cZ cO) s) (hP : va_P (dC, dI) vwCl [((r 0), .inr (10, fX r)), ((r 18), .inr (4, [.int 0, .ref (r 19), .ref (r 20), .int 0, .ref (r 21), .ref (r 22), .int 0, .ref (r 23), .ref (r 24), .int 0, .ref (r 25), .ref (r 26), .int 3, .int 0, .int 0, .ref (r 27)])), ((n 0), .inr (11, fM n)), ((n 7), .inl (cI, 2, .inl (upd (fun _ => 0) 0 3))), ((n 3), .inl (cI, 2, .inl (fun _ => 0)))] H) (hD : va_D (fun q : Nat => s.heap.size ≤ q) [((r 0), .inr (10, fX r)), ((r 18), .inr (4, [.int 0, .ref (r 19), .ref (r 20), .int 0, .ref (r 21), .ref (r 22), .int 0, .ref (r 23), .ref (r 24), .int 0, .ref (r 25), .ref (r 26), .int 3, .int 0, .int 0, .ref (r 27)])), ((n 0), .inr (11, fM n)), ((n 7), .inl (cI, 2, .inl (upd (fun _ => 0) 0 3))), ((n 3), .inl (cI, 2, .inl (fun _ => 0)))]) (hS : va_S (fun q : Nat => s.heap.size ≤ q) s.heap H locs) (ls : Array Slot) (hl : lv_has ls 4 [(3, .int 0), (2, .ref (n 0)), (1, .ref (r 0)), (0, .ref b)]) : W p l e room_1 s m #[Value.ref b] below meth c H locs 135 85080 (lw_Z below #[Value.ref b] s) (F0 m 781 ls []) := by
  obtain ⟨hx, hb, hr, hml, hown, hts0, hX, hbl, hlocks, hgv⟩ := C0
  have hts : ∀ w ∈ wsL_law, w.before #[Value.ref b] s = true := fun w h => hts0 w (wsL_law_in w h)
  have hA : ∀ q : Nat, s.heap.size ≤ q → (fun q : Nat => s.heap.size ≤ q) q := fun _ h => h
  have hbA : ¬ (fun q : Nat => s.heap.size ≤ q) b := Nat.not_le.mpr hbl
  have hown : s.vm.findClass RL = some m.cls := hown
  refine lv_aload_n hx hb dL_law_781 rfl (lv_at hl 2 rfl) ?_
  refine lv_aload_n hx hb dL_law_782 rfl (lv_at hl 3 rfl) ?_
  refine lv_iload_n hx hb dL_law_783 rfl (lv_at hl 0 rfl) ?_
  refine lv_iconst (v := 1) hx hb dL_law_784 z39 ?_
  refine lv_iadd hx hb dL_law_785 ?_
  refine tpi z281 ?_
  refine va_sld hx hb hX hbl hbA hS (vin _ _ rfl) dL_law_786 ?_
  refine tpv (v := .int 2) (congrArg Value.int e1) ?_
  refine lv_aload_n hx hb dL_law_787 rfl (lv_at hl 3 rfl) ?_
  refine lv_iload_n hx hb dL_law_788 rfl (lv_at hl 0 rfl) ?_
  refine lv_iconst (v := 2) hx hb dL_law_789 z54 ?_
  refine lv_iadd hx hb dL_law_790 ?_
  refine tpi z362 ?_
  refine va_sld hx hb hX hbl hbA hS (vin _ _ rfl) dL_law_791 ?_
  refine tpv (v := .int x2) (congrArg Value.int e2) ?_
  refine call_iV (ci := 10) (As := [.int 2, .int x2]) (rest := []) (wr := [((n 0), .inr (11, fM n)), ((n 7), .inl (cI, 2, .inl (upd (fun _ => 0) 0 3))), ((n 3), .inl (cI, 2, .inl (fun _ => 0)))]) ⟨hx, hb, hml, hown, hts⟩ (k318_X10_hole l dC dI cB cI cJ cZ cO r x2 h0 h1 h2) (cwV 2 hts gL_law_X10_hole rfl rfl rfl ⟨rfl, z1023⟩ ⟨Nat.le_of_ble_eq_true rfl, Nat.le_of_ble_eq_true rfl⟩) hK hP hD hS hA [0, 1] [2, 3, 4] rfl rfl (by decide +kernel) (by decide +kernel) (by decide +kernel) rfl rfl rfl hl.1 (Nat.le_of_ble_eq_true rfl) rfl rfl dL_law_792 ⟨by decide +kernel, by decide +kernel⟩ (fun u0 H locs hP hD hS => ?_)
  refine lv_aload_n hx hb dL_law_795 rfl (lv_at hl 1 rfl) ?_
  refine lv_aload_n hx hb dL_law_796 rfl (lv_at hl 3 rfl) ?_
  refine lv_iload_n hx hb dL_law_797 rfl (lv_at hl 0 rfl) ?_
  refine lv_iconst (v := 1) hx hb dL_law_798 z39 ?_
  refine lv_iadd hx hb dL_law_799 ?_
  refine tpi z281 ?_
  refine va_sld hx hb hX hbl hbA hS (vin _ _ rfl) dL_law_800 ?_
  refine tpv (v := .int 2) (congrArg Value.int e1) ?_
  refine lv_aload_n hx hb dL_law_801 rfl (lv_at hl 3 rfl) ?_
  refine lv_iload_n hx hb dL_law_802 rfl (lv_at hl 0 rfl) ?_
  refine lv_iconst (v := 2) hx hb dL_law_803 z54 ?_
  refine lv_iadd hx hb dL_law_804 ?_
  refine tpi z362 ?_
  refine va_sld hx hb hX hbl hbA hS (vin _ _ rfl) dL_law_805 ?_
  refine tpv (v := .int x2) (congrArg Value.int e2) ?_
  refine call_iV (ci := 11) (As := [.int 2, .int x2]) (rest := [.int 0]) (wr := []) ⟨hx, hb, hml, hown, hts⟩ (k319_X11_hole l dC dI cB cI cJ cZ cO n x2 h0 h1 h3) (cwV 2 hts gL_law_X11_hole rfl rfl rfl ⟨rfl, z1024⟩ ⟨Nat.le_of_ble_eq_true rfl, Nat.le_of_ble_eq_true rfl⟩) hK hP hD hS hA [0, 1, 2] [] rfl rfl (by decide +kernel) (by decide +kernel) (by decide +kernel) rfl rfl rfl hl.1 (Nat.le_of_ble_eq_true rfl) rfl rfl dL_law_806 ⟨by decide +kernel, by decide +kernel⟩ (fun u1 H locs hP hD hS => ?_)
  refine lv_icmp_eq (tgt := 1093) hx hb dL_law_809 z1022 (fun _ => ?_) (fun c1 => absurd (rfl) c1)
  refine lv_iinc (v := 6) (lv' := [(3, .int 6), (2, .ref (n 0)), (1, .ref (r 0)), (0, .ref b)]) hx hb dL_law_1093 hl (k := 0) rfl z943 (nlt rfl) rfl (fun ls hl => ?_)
  refine lv_goto (tgt := 18) hx hb dL_law_1096 z944 ?_
  refine lv_iload_n hx hb dL_law_18 rfl (lv_at hl 0 rfl) ?_
  refine lv_aload_n hx hb dL_law_19 rfl (lv_at hl 3 rfl) ?_
  refine va_slen hx hb hX hbl hbA hS dL_law_20 ?_
  refine tpv (v := .int 6) rfl ?_
  refine lv_bipush (v := 6) hx hb dL_law_21 z4 ?_
  refine lv_isub hx hb dL_law_23 ?_
  refine tpi z945 ?_
  refine lv_icmp_gt (tgt := 1099) hx hb dL_law_24 z947 (fun _ => ?_) (fun c1 => absurd (z946) c1)
  refine lv_iconst (v := 1) hx hb dL_law_1099 z39 ?_
  refine va_forget (fun q hq => hS.2.2 q hq) ?_
  refine W.widen (k := 600000) (n := 7302250) (by decide) (by decide) ?_
  exact lw_ret hx hb hr hlocks dL_law_1100

set_option maxHeartbeats 4000000 in
set_option maxRecDepth 100000 in
theorem lc_26_0 {p : Program} {e : Env} {s : State} {m : MethodId} {below : List Frame} {meth : Method} {c : Code} (l : Launch) {b : Nat} {xs : Nat → Int32} (C0 : lw_At p s m meth c b 6 xs) (dC : Nat → ClassId) (dI : Nat → Nat → Nat) (cB cI cJ cZ cO : ClassId) (r n : Nat → Nat) (H : Heap) (locs : List Loc) (hK : va_K (dC, dI) vwCl (tyL cB cI cJ cZ cO) s) (hP : va_P (dC, dI) vwCl [((r 0), .inr (10, fX r)), ((r 38), .inr (0, [.ref (r 39), .int 0, .ref (r 40), .ref (r 41), .ref (r 42), .ref (r 43), .ref (r 44), .int 0, .int 0])), ((r 65), .inr (9, [.int 0, .int 0, .ref (r 66), .ref (r 67), .ref (r 68), .ref (r 69), .int 0, .int 0, .int 0, .int 0, .int 0])), ((r 18), .inr (4, [.int 0, .ref (r 19), .ref (r 20), .int 0, .ref (r 21), .ref (r 22), .int 0, .ref (r 23), .ref (r 24), .int 0, .ref (r 25), .ref (r 26), .int 3, .int 0, .int 0, .ref (r 27)])), ((r 66), .inl (cI, 3000, .inl (fun _ => 0))), ((r 67), .inl (cI, 3000, .inl (fun _ => 0))), ((r 69), .inl (cI, 3000, .inl (fun _ => 0))), ((r 68), .inl (cI, 9000, .inl (fun _ => 0))), ((r 55), .inr (5, [.ref (r 56), .ref (r 57)])), ((n 0), .inr (11, fM n)), ((n 28), .inl (cI, 6, .inl (upd (upd (upd (upd (upd (upd (fun _ => 0) 0 (-1)) 1 (-1)) 2 (-1)) 3 (-1)) 4 (-1)) 5 (-1)))), ((n 7), .inl (cI, 2, .inl (upd (fun _ => 0) 0 3))), ((n 21), .inl (cI, 6, .inl (fun _ => 0))), ((n 5), .inl (cI, 2, .inl (fun _ => 0)))] H) (hD : va_D (fun q : Nat => s.heap.size ≤ q) [((r 0), .inr (10, fX r)), ((r 38), .inr (0, [.ref (r 39), .int 0, .ref (r 40), .ref (r 41), .ref (r 42), .ref (r 43), .ref (r 44), .int 0, .int 0])), ((r 65), .inr (9, [.int 0, .int 0, .ref (r 66), .ref (r 67), .ref (r 68), .ref (r 69), .int 0, .int 0, .int 0, .int 0, .int 0])), ((r 18), .inr (4, [.int 0, .ref (r 19), .ref (r 20), .int 0, .ref (r 21), .ref (r 22), .int 0, .ref (r 23), .ref (r 24), .int 0, .ref (r 25), .ref (r 26), .int 3, .int 0, .int 0, .ref (r 27)])), ((r 66), .inl (cI, 3000, .inl (fun _ => 0))), ((r 67), .inl (cI, 3000, .inl (fun _ => 0))), ((r 69), .inl (cI, 3000, .inl (fun _ => 0))), ((r 68), .inl (cI, 9000, .inl (fun _ => 0))), ((r 55), .inr (5, [.ref (r 56), .ref (r 57)])), ((n 0), .inr (11, fM n)), ((n 28), .inl (cI, 6, .inl (upd (upd (upd (upd (upd (upd (fun _ => 0) 0 (-1)) 1 (-1)) 2 (-1)) 3 (-1)) 4 (-1)) 5 (-1)))), ((n 7), .inl (cI, 2, .inl (upd (fun _ => 0) 0 3))), ((n 21), .inl (cI, 6, .inl (fun _ => 0))), ((n 5), .inl (cI, 2, .inl (fun _ => 0)))]) (hS : va_S (fun q : Nat => s.heap.size ≤ q) s.heap H locs) (ls : Array Slot) (hl : lv_has ls 4 [(3, .int 0), (2, .ref (n 0)), (1, .ref (r 0)), (0, .ref b)]) : W p l e room_1 s m #[Value.ref b] below meth c H locs 135 85080 (lw_Z below #[Value.ref b] s) (F0 m 814 ls []) := by
  obtain ⟨hx, hb, hr, hml, hown, hts0, hX, hbl, hlocks, hgv⟩ := C0
  have hts : ∀ w ∈ wsL_law, w.before #[Value.ref b] s = true := fun w h => hts0 w (wsL_law_in w h)
  have hA : ∀ q : Nat, s.heap.size ≤ q → (fun q : Nat => s.heap.size ≤ q) q := fun _ h => h
  have hbA : ¬ (fun q : Nat => s.heap.size ≤ q) b := Nat.not_le.mpr hbl
  have hown : s.vm.findClass RL = some m.cls := hown
  refine lv_aload_n hx hb dL_law_814 rfl (lv_at hl 2 rfl) ?_
  refine call_iV (ci := 10) (As := []) (rest := []) (wr := [((n 0), .inr (11, fM n)), ((n 28), .inl (cI, 6, .inl (upd (upd (upd (upd (upd (upd (fun _ => 0) 0 (-1)) 1 (-1)) 2 (-1)) 3 (-1)) 4 (-1)) 5 (-1)))), ((n 7), .inl (cI, 2, .inl (upd (fun _ => 0) 0 3))), ((n 21), .inl (cI, 6, .inl (fun _ => 0))), ((n 5), .inl (cI, 2, .inl (fun _ => 0)))]) ⟨hx, hb, hml, hown, hts⟩ (k321_X10_fit l dC dI cB cI cJ cZ cO r) (cwV 0 hts gL_law_X10_fit rfl rfl rfl ⟨rfl, z1026⟩ ⟨Nat.le_of_ble_eq_true rfl, Nat.le_of_ble_eq_true rfl⟩) hK hP hD hS hA [0, 1, 2, 3, 4, 5, 6, 7, 8] [9, 10, 11, 12, 13] rfl rfl (by decide +kernel) (by decide +kernel) (by decide +kernel) rfl rfl rfl hl.1 (Nat.le_of_ble_eq_true rfl) rfl rfl dL_law_815 ⟨by decide +kernel, by decide +kernel⟩ (fun u0 H locs hP hD hS => ?_)
  refine lv_aload_n hx hb dL_law_818 rfl (lv_at hl 1 rfl) ?_
  refine call_iV (ci := 11) (As := []) (rest := [.int 0]) (wr := []) ⟨hx, hb, hml, hown, hts⟩ (k328_X11_fit l dC dI cB cI cJ cZ cO n) (cwV 0 hts gL_law_X11_fit rfl rfl rfl ⟨rfl, z1027⟩ ⟨Nat.le_of_ble_eq_true rfl, Nat.le_of_ble_eq_true rfl⟩) hK hP hD hS hA [0, 1, 2, 3, 4] [] rfl rfl (by decide +kernel) (by decide +kernel) (by decide +kernel) rfl rfl rfl hl.1 (Nat.le_of_ble_eq_true rfl) rfl rfl dL_law_819 ⟨by decide +kernel, by decide +kernel⟩ (fun u1 H locs hP hD hS => ?_)
  refine lv_icmp_eq (tgt := 1093) hx hb dL_law_822 z1025 (fun _ => ?_) (fun c1 => absurd (rfl) c1)
  refine lv_iinc (v := 6) (lv' := [(3, .int 6), (2, .ref (n 0)), (1, .ref (r 0)), (0, .ref b)]) hx hb dL_law_1093 hl (k := 0) rfl z943 (nlt rfl) rfl (fun ls hl => ?_)
  refine lv_goto (tgt := 18) hx hb dL_law_1096 z944 ?_
  refine lv_iload_n hx hb dL_law_18 rfl (lv_at hl 0 rfl) ?_
  refine lv_aload_n hx hb dL_law_19 rfl (lv_at hl 3 rfl) ?_
  refine va_slen hx hb hX hbl hbA hS dL_law_20 ?_
  refine tpv (v := .int 6) rfl ?_
  refine lv_bipush (v := 6) hx hb dL_law_21 z4 ?_
  refine lv_isub hx hb dL_law_23 ?_
  refine tpi z945 ?_
  refine lv_icmp_gt (tgt := 1099) hx hb dL_law_24 z947 (fun _ => ?_) (fun c1 => absurd (z946) c1)
  refine lv_iconst (v := 1) hx hb dL_law_1099 z39 ?_
  refine va_forget (fun q hq => hS.2.2 q hq) ?_
  refine W.widen (k := 600000) (n := 7302250) (by decide) (by decide) ?_
  exact lw_ret hx hb hr hlocks dL_law_1100

set_option maxHeartbeats 4000000 in
set_option maxRecDepth 100000 in
theorem lc_27_0 {p : Program} {e : Env} {s : State} {m : MethodId} {below : List Frame} {meth : Method} {c : Code} (l : Launch) {b : Nat} {xs : Nat → Int32} (C0 : lw_At p s m meth c b 6 xs) (dC : Nat → ClassId) (dI : Nat → Nat → Nat) (cB cI cJ cZ cO : ClassId) (r n : Nat → Nat) (x1 : Int32) (e1 : xs 1 = x1) (h0 : x1 < 0) (H : Heap) (locs : List Loc) (hK : va_K (dC, dI) vwCl (tyL cB cI cJ cZ cO) s) (hP : va_P (dC, dI) vwCl [((r 0), .inr (10, fX r)), ((r 38), .inr (0, [.ref (r 39), .int 0, .ref (r 40), .ref (r 41), .ref (r 42), .ref (r 43), .ref (r 44), .int 0, .int 0])), ((r 65), .inr (9, [.int 0, .int 0, .ref (r 66), .ref (r 67), .ref (r 68), .ref (r 69), .int 0, .int 0, .int 0, .int 0, .int 0])), ((r 18), .inr (4, [.int 0, .ref (r 19), .ref (r 20), .int 0, .ref (r 21), .ref (r 22), .int 0, .ref (r 23), .ref (r 24), .int 0, .ref (r 25), .ref (r 26), .int 3, .int 0, .int 0, .ref (r 27)])), ((r 66), .inl (cI, 3000, .inl (fun _ => 0))), ((r 67), .inl (cI, 3000, .inl (fun _ => 0))), ((r 69), .inl (cI, 3000, .inl (fun _ => 0))), ((r 68), .inl (cI, 9000, .inl (fun _ => 0))), ((r 55), .inr (5, [.ref (r 56), .ref (r 57)])), ((n 0), .inr (11, fM n))] H) (hD : va_D (fun q : Nat => s.heap.size ≤ q) [((r 0), .inr (10, fX r)), ((r 38), .inr (0, [.ref (r 39), .int 0, .ref (r 40), .ref (r 41), .ref (r 42), .ref (r 43), .ref (r 44), .int 0, .int 0])), ((r 65), .inr (9, [.int 0, .int 0, .ref (r 66), .ref (r 67), .ref (r 68), .ref (r 69), .int 0, .int 0, .int 0, .int 0, .int 0])), ((r 18), .inr (4, [.int 0, .ref (r 19), .ref (r 20), .int 0, .ref (r 21), .ref (r 22), .int 0, .ref (r 23), .ref (r 24), .int 0, .ref (r 25), .ref (r 26), .int 3, .int 0, .int 0, .ref (r 27)])), ((r 66), .inl (cI, 3000, .inl (fun _ => 0))), ((r 67), .inl (cI, 3000, .inl (fun _ => 0))), ((r 69), .inl (cI, 3000, .inl (fun _ => 0))), ((r 68), .inl (cI, 9000, .inl (fun _ => 0))), ((r 55), .inr (5, [.ref (r 56), .ref (r 57)])), ((n 0), .inr (11, fM n))]) (hS : va_S (fun q : Nat => s.heap.size ≤ q) s.heap H locs) (ls : Array Slot) (hl : lv_has ls 4 [(3, .int 0), (2, .ref (n 0)), (1, .ref (r 0)), (0, .ref b)]) : W p l e room_1 s m #[Value.ref b] below meth c H locs 135 85080 (lw_Z below #[Value.ref b] s) (F0 m 827 ls []) := by
  obtain ⟨hx, hb, hr, hml, hown, hts0, hX, hbl, hlocks, hgv⟩ := C0
  have hts : ∀ w ∈ wsL_law, w.before #[Value.ref b] s = true := fun w h => hts0 w (wsL_law_in w h)
  have hA : ∀ q : Nat, s.heap.size ≤ q → (fun q : Nat => s.heap.size ≤ q) q := fun _ h => h
  have hbA : ¬ (fun q : Nat => s.heap.size ≤ q) b := Nat.not_le.mpr hbl
  have hown : s.vm.findClass RL = some m.cls := hown
  refine lv_aload_n hx hb dL_law_827 rfl (lv_at hl 2 rfl) ?_
  refine lv_aload_n hx hb dL_law_828 rfl (lv_at hl 3 rfl) ?_
  refine lv_iload_n hx hb dL_law_829 rfl (lv_at hl 0 rfl) ?_
  refine lv_iconst (v := 1) hx hb dL_law_830 z39 ?_
  refine lv_iadd hx hb dL_law_831 ?_
  refine tpi z281 ?_
  refine va_sld hx hb hX hbl hbA hS (vin _ _ rfl) dL_law_832 ?_
  refine tpv (v := .int x1) (congrArg Value.int e1) ?_
  refine call_iV (ci := 10) (As := [.int x1]) (rest := []) (wr := [((n 0), .inr (11, fM n))]) ⟨hx, hb, hml, hown, hts⟩ (k329_X10_best l dC dI cB cI cJ cZ cO r x1 h0) (cwV 1 hts gL_law_X10_best rfl rfl rfl ⟨rfl, z1029⟩ ⟨Nat.le_of_ble_eq_true rfl, Nat.le_of_ble_eq_true rfl⟩) hK hP hD hS hA [0, 1, 2, 3, 4, 5, 6, 7, 8] [9] rfl rfl (by decide +kernel) (by decide +kernel) (by decide +kernel) rfl rfl rfl hl.1 (Nat.le_of_ble_eq_true rfl) rfl rfl dL_law_833 ⟨by decide +kernel, by decide +kernel⟩ (fun u0 H locs hP hD hS => ?_)
  refine lv_aload_n hx hb dL_law_836 rfl (lv_at hl 1 rfl) ?_
  refine lv_aload_n hx hb dL_law_837 rfl (lv_at hl 3 rfl) ?_
  refine lv_iload_n hx hb dL_law_838 rfl (lv_at hl 0 rfl) ?_
  refine lv_iconst (v := 1) hx hb dL_law_839 z39 ?_
  refine lv_iadd hx hb dL_law_840 ?_
  refine tpi z281 ?_
  refine va_sld hx hb hX hbl hbA hS (vin _ _ rfl) dL_law_841 ?_
  refine tpv (v := .int x1) (congrArg Value.int e1) ?_
  refine call_iV (ci := 11) (As := [.int x1]) (rest := [.int (-1000000)]) (wr := []) ⟨hx, hb, hml, hown, hts⟩ (k330_X11_best l dC dI cB cI cJ cZ cO n x1 h0) (cwV 1 hts gL_law_X11_best rfl rfl rfl ⟨rfl, z1030⟩ ⟨Nat.le_of_ble_eq_true rfl, Nat.le_of_ble_eq_true rfl⟩) hK hP hD hS hA [0] [] rfl rfl (by decide +kernel) (by decide +kernel) (by decide +kernel) rfl rfl rfl hl.1 (Nat.le_of_ble_eq_true rfl) rfl rfl dL_law_842 ⟨by decide +kernel, by decide +kernel⟩ (fun u1 H locs hP hD hS => ?_)
  refine lv_icmp_eq (tgt := 1093) hx hb dL_law_845 z1028 (fun _ => ?_) (fun c1 => absurd (rfl) c1)
  refine lv_iinc (v := 6) (lv' := [(3, .int 6), (2, .ref (n 0)), (1, .ref (r 0)), (0, .ref b)]) hx hb dL_law_1093 hl (k := 0) rfl z943 (nlt rfl) rfl (fun ls hl => ?_)
  refine lv_goto (tgt := 18) hx hb dL_law_1096 z944 ?_
  refine lv_iload_n hx hb dL_law_18 rfl (lv_at hl 0 rfl) ?_
  refine lv_aload_n hx hb dL_law_19 rfl (lv_at hl 3 rfl) ?_
  refine va_slen hx hb hX hbl hbA hS dL_law_20 ?_
  refine tpv (v := .int 6) rfl ?_
  refine lv_bipush (v := 6) hx hb dL_law_21 z4 ?_
  refine lv_isub hx hb dL_law_23 ?_
  refine tpi z945 ?_
  refine lv_icmp_gt (tgt := 1099) hx hb dL_law_24 z947 (fun _ => ?_) (fun c1 => absurd (z946) c1)
  refine lv_iconst (v := 1) hx hb dL_law_1099 z39 ?_
  refine va_forget (fun q hq => hS.2.2 q hq) ?_
  refine W.widen (k := 600000) (n := 7302250) (by decide) (by decide) ?_
  exact lw_ret hx hb hr hlocks dL_law_1100

set_option maxHeartbeats 4000000 in
set_option maxRecDepth 100000 in
theorem lc_27_1 {p : Program} {e : Env} {s : State} {m : MethodId} {below : List Frame} {meth : Method} {c : Code} (l : Launch) {b : Nat} {xs : Nat → Int32} (C0 : lw_At p s m meth c b 6 xs) (dC : Nat → ClassId) (dI : Nat → Nat → Nat) (cB cI cJ cZ cO : ClassId) (r n : Nat → Nat) (x1 : Int32) (e1 : xs 1 = x1) (h0 : ¬ x1 < 0) (h1 : ¬ 3 ≤ x1) (h2 : ¬ 2 < x1) (H : Heap) (locs : List Loc) (hK : va_K (dC, dI) vwCl (tyL cB cI cJ cZ cO) s) (hP : va_P (dC, dI) vwCl [((r 0), .inr (10, fX r)), ((r 38), .inr (0, [.ref (r 39), .int 0, .ref (r 40), .ref (r 41), .ref (r 42), .ref (r 43), .ref (r 44), .int 0, .int 0])), ((r 65), .inr (9, [.int 0, .int 0, .ref (r 66), .ref (r 67), .ref (r 68), .ref (r 69), .int 0, .int 0, .int 0, .int 0, .int 0])), ((r 18), .inr (4, [.int 0, .ref (r 19), .ref (r 20), .int 0, .ref (r 21), .ref (r 22), .int 0, .ref (r 23), .ref (r 24), .int 0, .ref (r 25), .ref (r 26), .int 3, .int 0, .int 0, .ref (r 27)])), ((r 66), .inl (cI, 3000, .inl (fun _ => 0))), ((r 67), .inl (cI, 3000, .inl (fun _ => 0))), ((r 69), .inl (cI, 3000, .inl (fun _ => 0))), ((r 68), .inl (cI, 9000, .inl (fun _ => 0))), ((r 55), .inr (5, [.ref (r 56), .ref (r 57)])), ((n 0), .inr (11, fM n)), ((n 28), .inl (cI, 6, .inl (upd (upd (upd (upd (upd (upd (fun _ => 0) 0 (-1)) 1 (-1)) 2 (-1)) 3 (-1)) 4 (-1)) 5 (-1)))), ((n 7), .inl (cI, 2, .inl (upd (fun _ => 0) 0 3))), ((n 21), .inl (cI, 6, .inl (fun _ => 0))), ((n 5), .inl (cI, 2, .inl (fun _ => 0)))] H) (hD : va_D (fun q : Nat => s.heap.size ≤ q) [((r 0), .inr (10, fX r)), ((r 38), .inr (0, [.ref (r 39), .int 0, .ref (r 40), .ref (r 41), .ref (r 42), .ref (r 43), .ref (r 44), .int 0, .int 0])), ((r 65), .inr (9, [.int 0, .int 0, .ref (r 66), .ref (r 67), .ref (r 68), .ref (r 69), .int 0, .int 0, .int 0, .int 0, .int 0])), ((r 18), .inr (4, [.int 0, .ref (r 19), .ref (r 20), .int 0, .ref (r 21), .ref (r 22), .int 0, .ref (r 23), .ref (r 24), .int 0, .ref (r 25), .ref (r 26), .int 3, .int 0, .int 0, .ref (r 27)])), ((r 66), .inl (cI, 3000, .inl (fun _ => 0))), ((r 67), .inl (cI, 3000, .inl (fun _ => 0))), ((r 69), .inl (cI, 3000, .inl (fun _ => 0))), ((r 68), .inl (cI, 9000, .inl (fun _ => 0))), ((r 55), .inr (5, [.ref (r 56), .ref (r 57)])), ((n 0), .inr (11, fM n)), ((n 28), .inl (cI, 6, .inl (upd (upd (upd (upd (upd (upd (fun _ => 0) 0 (-1)) 1 (-1)) 2 (-1)) 3 (-1)) 4 (-1)) 5 (-1)))), ((n 7), .inl (cI, 2, .inl (upd (fun _ => 0) 0 3))), ((n 21), .inl (cI, 6, .inl (fun _ => 0))), ((n 5), .inl (cI, 2, .inl (fun _ => 0)))]) (hS : va_S (fun q : Nat => s.heap.size ≤ q) s.heap H locs) (ls : Array Slot) (hl : lv_has ls 4 [(3, .int 0), (2, .ref (n 0)), (1, .ref (r 0)), (0, .ref b)]) : W p l e room_1 s m #[Value.ref b] below meth c H locs 135 85080 (lw_Z below #[Value.ref b] s) (F0 m 827 ls []) := by
  obtain ⟨hx, hb, hr, hml, hown, hts0, hX, hbl, hlocks, hgv⟩ := C0
  have hts : ∀ w ∈ wsL_law, w.before #[Value.ref b] s = true := fun w h => hts0 w (wsL_law_in w h)
  have hA : ∀ q : Nat, s.heap.size ≤ q → (fun q : Nat => s.heap.size ≤ q) q := fun _ h => h
  have hbA : ¬ (fun q : Nat => s.heap.size ≤ q) b := Nat.not_le.mpr hbl
  have hown : s.vm.findClass RL = some m.cls := hown
  refine lv_aload_n hx hb dL_law_827 rfl (lv_at hl 2 rfl) ?_
  refine lv_aload_n hx hb dL_law_828 rfl (lv_at hl 3 rfl) ?_
  refine lv_iload_n hx hb dL_law_829 rfl (lv_at hl 0 rfl) ?_
  refine lv_iconst (v := 1) hx hb dL_law_830 z39 ?_
  refine lv_iadd hx hb dL_law_831 ?_
  refine tpi z281 ?_
  refine va_sld hx hb hX hbl hbA hS (vin _ _ rfl) dL_law_832 ?_
  refine tpv (v := .int x1) (congrArg Value.int e1) ?_
  refine call_iV (ci := 10) (As := [.int x1]) (rest := []) (wr := [((n 0), .inr (11, fM n)), ((n 28), .inl (cI, 6, .inl (upd (upd (upd (upd (upd (upd (fun _ => 0) 0 (-1)) 1 (-1)) 2 (-1)) 3 (-1)) 4 (-1)) 5 (-1)))), ((n 7), .inl (cI, 2, .inl (upd (fun _ => 0) 0 3))), ((n 21), .inl (cI, 6, .inl (fun _ => 0))), ((n 5), .inl (cI, 2, .inl (fun _ => 0)))]) ⟨hx, hb, hml, hown, hts⟩ (k331_X10_best l dC dI cB cI cJ cZ cO r x1 h0 h1) (cwV 1 hts gL_law_X10_best rfl rfl rfl ⟨rfl, z1029⟩ ⟨Nat.le_of_ble_eq_true rfl, Nat.le_of_ble_eq_true rfl⟩) hK hP hD hS hA [0, 1, 2, 3, 4, 5, 6, 7, 8] [9, 10, 11, 12, 13] rfl rfl (by decide +kernel) (by decide +kernel) (by decide +kernel) rfl rfl rfl hl.1 (Nat.le_of_ble_eq_true rfl) rfl rfl dL_law_833 ⟨by decide +kernel, by decide +kernel⟩ (fun u0 H locs hP hD hS => ?_)
  refine lv_aload_n hx hb dL_law_836 rfl (lv_at hl 1 rfl) ?_
  refine lv_aload_n hx hb dL_law_837 rfl (lv_at hl 3 rfl) ?_
  refine lv_iload_n hx hb dL_law_838 rfl (lv_at hl 0 rfl) ?_
  refine lv_iconst (v := 1) hx hb dL_law_839 z39 ?_
  refine lv_iadd hx hb dL_law_840 ?_
  refine tpi z281 ?_
  refine va_sld hx hb hX hbl hbA hS (vin _ _ rfl) dL_law_841 ?_
  refine tpv (v := .int x1) (congrArg Value.int e1) ?_
  refine call_iV (ci := 11) (As := [.int x1]) (rest := [.int (-1000000)]) (wr := []) ⟨hx, hb, hml, hown, hts⟩ (k332_X11_best l dC dI cB cI cJ cZ cO n x1 h0 h2) (cwV 1 hts gL_law_X11_best rfl rfl rfl ⟨rfl, z1030⟩ ⟨Nat.le_of_ble_eq_true rfl, Nat.le_of_ble_eq_true rfl⟩) hK hP hD hS hA [0, 1, 2, 3, 4] [] rfl rfl (by decide +kernel) (by decide +kernel) (by decide +kernel) rfl rfl rfl hl.1 (Nat.le_of_ble_eq_true rfl) rfl rfl dL_law_842 ⟨by decide +kernel, by decide +kernel⟩ (fun u1 H locs hP hD hS => ?_)
  refine lv_icmp_eq (tgt := 1093) hx hb dL_law_845 z1028 (fun _ => ?_) (fun c1 => absurd (rfl) c1)
  refine lv_iinc (v := 6) (lv' := [(3, .int 6), (2, .ref (n 0)), (1, .ref (r 0)), (0, .ref b)]) hx hb dL_law_1093 hl (k := 0) rfl z943 (nlt rfl) rfl (fun ls hl => ?_)
  refine lv_goto (tgt := 18) hx hb dL_law_1096 z944 ?_
  refine lv_iload_n hx hb dL_law_18 rfl (lv_at hl 0 rfl) ?_
  refine lv_aload_n hx hb dL_law_19 rfl (lv_at hl 3 rfl) ?_
  refine va_slen hx hb hX hbl hbA hS dL_law_20 ?_
  refine tpv (v := .int 6) rfl ?_
  refine lv_bipush (v := 6) hx hb dL_law_21 z4 ?_
  refine lv_isub hx hb dL_law_23 ?_
  refine tpi z945 ?_
  refine lv_icmp_gt (tgt := 1099) hx hb dL_law_24 z947 (fun _ => ?_) (fun c1 => absurd (z946) c1)
  refine lv_iconst (v := 1) hx hb dL_law_1099 z39 ?_
  refine va_forget (fun q hq => hS.2.2 q hq) ?_
  refine W.widen (k := 600000) (n := 7302250) (by decide) (by decide) ?_
  exact lw_ret hx hb hr hlocks dL_law_1100
