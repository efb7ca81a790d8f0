set_option maxHeartbeats 4000000 in
set_option maxRecDepth 100000 in
theorem lc_36_0 {p : Program} {e : Env} {s : State} {m : MethodId} {below : List Frame} {meth : Method} {c : Code} (l : Launch) {b : Nat} {xs : Nat → Int32} (C0 : lw_At p s m meth c b 6 xs) (dC : Nat → ClassId) (dI : Nat → Nat → Nat) (cB cI cJ cZ cO : ClassId) (r n : Nat → Nat) (e1 : xs 1 = 0) (H : Heap) (locs : List Loc) (hK : va_K (dC, dI) vwCl (tyL cB cI cJ cZ cO) s) (hP : va_P (dC, dI) vwCl [((r 0), .inr (10, fX r)), ((r 18), .inr (4, [.int 0, .ref (r 19), .ref (r 20), .int 0, .ref (r 21), .ref (r 22), .int 0, .ref (r 23), .ref (r 24), .int 0, .ref (r 25), .ref (r 26), .int 3, .int 0, .int 0, .ref (r 27)])), ((n 0), .inr (11, fM n)), ((n 3), .inl (cI, 2, .inl (fun _ => 0)))] H) (hD : va_D (fun q : Nat => s.heap.size ≤ q) [((r 0), .inr (10, fX r)), ((r 18), .inr (4, [.int 0, .ref (r 19), .ref (r 20), .int 0, .ref (r 21), .ref (r 22), .int 0, .ref (r 23), .ref (r 24), .int 0, .ref (r 25), .ref (r 26), .int 3, .int 0, .int 0, .ref (r 27)])), ((n 0), .inr (11, fM n)), ((n 3), .inl (cI, 2, .inl (fun _ => 0)))]) (hS : va_S (fun q : Nat => s.heap.size ≤ q) s.heap H locs) (ls : Array Slot) (hl : lv_has ls 4 [(3, .int 0), (2, .ref (n 0)), (1, .ref (r 0)), (0, .ref b)]) : W p l e room_1 s m #[Value.ref b] below meth c H locs 135 85080 (lw_Z below #[Value.ref b] s) (F0 m 1070 ls []) := by
  obtain ⟨hx, hb, hr, hml, hown, hts0, hX, hbl, hlocks, hgv⟩ := C0
  have hts : ∀ w ∈ wsL_law, w.before #[Value.ref b] s = true := fun w h => hts0 w (wsL_law_in w h)
  have hA : ∀ q : Nat, s.heap.size ≤ q → (fun q : Nat => s.heap.size ≤ q) q := fun _ h => h
  have hbA : ¬ (fun q : Nat => s.heap.size ≤ q) b := Nat.not_le.mpr hbl
  have hown : s.vm.findClass RL = some m.cls := hown
  refine lv_aload_n hx hb dL_law_1070 rfl (lv_at hl 2 rfl) ?_
  refine lv_aload_n hx hb dL_law_1071 rfl (lv_at hl 3 rfl) ?_
  refine lv_iload_n hx hb dL_law_1072 rfl (lv_at hl 0 rfl) ?_
  refine lv_iconst (v := 1) hx hb dL_law_1073 z39 ?_
  refine lv_iadd hx hb dL_law_1074 ?_
  refine tpi z281 ?_
  refine va_sld hx hb hX hbl hbA hS (vin _ _ rfl) dL_law_1075 ?_
  refine tpv (v := .int 0) (congrArg Value.int e1) ?_
  refine call_iV (ci := 10) (As := [.int 0]) (rest := []) (wr := [((n 0), .inr (11, fM n)), ((n 3), .inl (cI, 2, .inl (fun _ => 0)))]) ⟨hx, hb, hml, hown, hts⟩ (k403_X10_about l dC dI cB cI cJ cZ cO r) (cwV 1 hts gL_law_X10_about rfl rfl rfl ⟨rfl, z1060⟩ ⟨Nat.le_of_ble_eq_true rfl, Nat.le_of_ble_eq_true rfl⟩) hK hP hD hS hA [0, 1] [2, 3] rfl rfl (by decide +kernel) (by decide +kernel) (by decide +kernel) rfl rfl rfl hl.1 (Nat.le_of_ble_eq_true rfl) rfl rfl dL_law_1076 ⟨by decide +kernel, by decide +kernel⟩ (fun u0 H locs hP hD hS => ?_)
  refine lv_aload_n hx hb dL_law_1079 rfl (lv_at hl 1 rfl) ?_
  refine lv_aload_n hx hb dL_law_1080 rfl (lv_at hl 3 rfl) ?_
  refine lv_iload_n hx hb dL_law_1081 rfl (lv_at hl 0 rfl) ?_
  refine lv_iconst (v := 1) hx hb dL_law_1082 z39 ?_
  refine lv_iadd hx hb dL_law_1083 ?_
  refine tpi z281 ?_
  refine va_sld hx hb hX hbl hbA hS (vin _ _ rfl) dL_law_1084 ?_
  refine tpv (v := .int 0) (congrArg Value.int e1) ?_
  refine call_iV (ci := 11) (As := [.int 0]) (rest := [.int 0]) (wr := []) ⟨hx, hb, hml, hown, hts⟩ (k404_X11_about l dC dI cB cI cJ cZ cO n) (cwV 1 hts gL_law_X11_about rfl rfl rfl ⟨rfl, z1061⟩ ⟨Nat.le_of_ble_eq_true rfl, Nat.le_of_ble_eq_true rfl⟩) hK hP hD hS hA [0, 1] [] rfl rfl (by decide +kernel) (by decide +kernel) (by decide +kernel) rfl rfl rfl hl.1 (Nat.le_of_ble_eq_true rfl) rfl rfl dL_law_1085 ⟨by decide +kernel, by decide +kernel⟩ (fun u1 H locs hP hD hS => ?_)
  refine lv_icmp_eq (tgt := 1093) hx hb dL_law_1088 z1059 (fun _ => ?_) (fun c1 => absurd (rfl) c1)
  refine lv_iinc (v := 6) (lv' := [(3, .int 6), (2, .ref (n 0)), (1, .ref (r 0)), (0, .ref b)]) hx hb dL_law_1093 hl (k := 0) rfl z943 (nlt rfl) rfl (fun ls hl => ?_)
  refine lv_goto (tgt := 18) hx hb dL_law_1096 z944 ?_
  refine lv_iload_n hx hb dL_law_18 rfl (lv_at hl 0 rfl) ?_
  refine lv_aload_n hx hb dL_law_19 rfl (lv_at hl 3 rfl) ?_
  refine va_slen hx hb hX hbl hbA hS dL_law_20 ?_
  refine tpv (v := .int 6) rfl ?_
  refine lv_bipush (v := 6) hx hb dL_law_21 z4 ?_
  refine lv_isub hx hb dL_law_23 ?_
  refine tpi z945 ?_
  refine lv_icmp_gt (tgt := 1099) hx hb dL_law_24 z947 (fun _ => ?_) (fun c1 => absurd (z946) c1)
  refine lv_iconst (v := 1) hx hb dL_law_1099 z39 ?_
  refine va_forget (fun q hq => hS.2.2 q hq) ?_
  refine W.widen (k := 600000) (n := 7302250) (by decide) (by decide) ?_
  exact lw_ret hx hb hr hlocks dL_law_1100

set_option maxHeartbeats 4000000 in
set_option maxRecDepth 100000 in
theorem lc_36_1 {p : Program} {e : Env} {s : State} {m : MethodId} {below : List Frame} {meth : Method} {c : Code} (l : Launch) {b : Nat} {xs : Nat → Int32} (C0 : lw_At p s m meth c b 6 xs) (dC : Nat → ClassId) (dI : Nat → Nat → Nat) (cB cI cJ cZ cO : ClassId) (r n : Nat → Nat) (e1 : xs 1 = 1) (H : Heap) (locs : List Loc) (hK : va_K (dC, dI) vwCl (tyL cB cI cJ cZ cO) s) (hP : va_P (dC, dI) vwCl [((r 0), .inr (10, fX r)), ((r 18), .inr (4, [.int 0, .ref (r 19), .ref (r 20), .int 0, .ref (r 21), .ref (r 22), .int 0, .ref (r 23), .ref (r 24), .int 0, .ref (r 25), .ref (r 26), .int 3, .int 0, .int 0, .ref (r 27)])), ((n 0), .inr (11, fM n)), ((n 4), .inl (cI, 2, .inl (fun _ => 0)))] H) (hD : va_D (fun q : Nat => s.heap.size ≤ q) [((r 0), .inr (10, fX r)), ((r 18), .inr (4, [.int 0, .ref (r 19), .ref (r 20), .int 0, .ref (r 21), .ref (r 22), .int 0, .ref (r 23), .ref (r 24), .int 0, .ref (r 25), .ref (r 26), .int 3, .int 0, .int 0, .ref (r 27)])), ((n 0), .inr (11, fM n)), ((n 4), .inl (cI, 2, .inl (fun _ => 0)))]) (hS : va_S (fun q : Nat => s.heap.size ≤ q) s.heap H locs) (ls : Array Slot) (hl : lv_has ls 4 [(3, .int 0), (2, .ref (n 0)), (1, .ref (r 0)), (0, .ref b)]) : W p l e room_1 s m #[Value.ref b] below meth c H locs 135 85080 (lw_Z below #[Value.ref b] s) (F0 m 1070 ls []) := by
  obtain ⟨hx, hb, hr, hml, hown, hts0, hX, hbl, hlocks, hgv⟩ := C0
  have hts : ∀ w ∈ wsL_law, w.before #[Value.ref b] s = true := fun w h => hts0 w (wsL_law_in w h)
  have hA : ∀ q : Nat, s.heap.size ≤ q → (fun q : Nat => s.heap.size ≤ q) q := fun _ h => h
  have hbA : ¬ (fun q : Nat => s.heap.size ≤ q) b := Nat.not_le.mpr hbl
  have hown : s.vm.findClass RL = some m.cls := hown
  refine lv_aload_n hx hb dL_law_1070 rfl (lv_at hl 2 rfl) ?_
  refine lv_aload_n hx hb dL_law_1071 rfl (lv_at hl 3 rfl) ?_
  refine lv_iload_n hx hb dL_law_1072 rfl (lv_at hl 0 rfl) ?_
  refine lv_iconst (v := 1) hx hb dL_law_1073 z39 ?_
  refine lv_iadd hx hb dL_law_1074 ?_
  refine tpi z281 ?_
  refine va_sld hx hb hX hbl hbA hS (vin _ _ rfl) dL_law_1075 ?_
  refine tpv (v := .int 1) (congrArg Value.int e1) ?_
  refine call_iV (ci := 10) (As := [.int 1]) (rest := []) (wr := [((n 0), .inr (11, fM n)), ((n 4), .inl (cI, 2, .inl (fun _ => 0)))]) ⟨hx, hb, hml, hown, hts⟩ (k405_X10_about l dC dI cB cI cJ cZ cO r) (cwV 1 hts gL_law_X10_about rfl rfl rfl ⟨rfl, z1060⟩ ⟨Nat.le_of_ble_eq_true rfl, Nat.le_of_ble_eq_true rfl⟩) hK hP hD hS hA [0, 1] [2, 3] rfl rfl (by decide +kernel) (by decide +kernel) (by decide +kernel) rfl rfl rfl hl.1 (Nat.le_of_ble_eq_true rfl) rfl rfl dL_law_1076 ⟨by decide +kernel, by decide +kernel⟩ (fun u0 H locs hP hD hS => ?_)
  refine lv_aload_n hx hb dL_law_1079 rfl (lv_at hl 1 rfl) ?_
  refine lv_aload_n hx hb dL_law_1080 rfl (lv_at hl 3 rfl) ?_
  refine lv_iload_n hx hb dL_law_1081 rfl (lv_at hl 0 rfl) ?_
  refine lv_iconst (v := 1) hx hb dL_law_1082 z39 ?_
  refine lv_iadd hx hb dL_law_1083 ?_
  refine tpi z281 ?_
  refine va_sld hx hb hX hbl hbA hS (vin _ _ rfl) dL_law_1084 ?_
  refine tpv (v := .int 1) (congrArg Value.int e1) ?_
  refine call_iV (ci := 11) (As := [.int 1]) (rest := [.int 0]) (wr := []) ⟨hx, hb, hml, hown, hts⟩ (k406_X11_about l dC dI cB cI cJ cZ cO n) (cwV 1 hts gL_law_X11_about rfl rfl rfl ⟨rfl, z1061⟩ ⟨Nat.le_of_ble_eq_true rfl, Nat.le_of_ble_eq_true rfl⟩) hK hP hD hS hA [0, 1] [] rfl rfl (by decide +kernel) (by decide +kernel) (by decide +kernel) rfl rfl rfl hl.1 (Nat.le_of_ble_eq_true rfl) rfl rfl dL_law_1085 ⟨by decide +kernel, by decide +kernel⟩ (fun u1 H locs hP hD hS => ?_)
  refine lv_icmp_eq (tgt := 1093) hx hb dL_law_1088 z1059 (fun _ => ?_) (fun c1 => absurd (rfl) c1)
  refine lv_iinc (v := 6) (lv' := [(3, .int 6), (2, .ref (n 0)), (1, .ref (r 0)), (0, .ref b)]) hx hb dL_law_1093 hl (k := 0) rfl z943 (nlt rfl) rfl (fun ls hl => ?_)
  refine lv_goto (tgt := 18) hx hb dL_law_1096 z944 ?_
  refine lv_iload_n hx hb dL_law_18 rfl (lv_at hl 0 rfl) ?_
  refine lv_aload_n hx hb dL_law_19 rfl (lv_at hl 3 rfl) ?_
  refine va_slen hx hb hX hbl hbA hS dL_law_20 ?_
  refine tpv (v := .int 6) rfl ?_
  refine lv_bipush (v := 6) hx hb dL_law_21 z4 ?_
  refine lv_isub hx hb dL_law_23 ?_
  refine tpi z945 ?_
  refine lv_icmp_gt (tgt := 1099) hx hb dL_law_24 z947 (fun _ => ?_) (fun c1 => absurd (z946) c1)
  refine lv_iconst (v := 1) hx hb dL_law_1099 z39 ?_
  refine va_forget (fun q hq => hS.2.2 q hq) ?_
  refine W.widen (k := 600000) (n := 7302250) (by decide) (by decide) ?_
  exact lw_ret hx hb hr hlocks dL_law_1100

set_option maxHeartbeats 4000000 in
set_option maxRecDepth 100000 in
theorem lc_36_2 {p : Program} {e : Env} {s : State} {m : MethodId} {below : List Frame} {meth : Method} {c : Code} (l : Launch) {b : Nat} {xs : Nat → Int32} (C0 : lw_At p s m meth c b 6 xs) (dC : Nat → ClassId) (dI : Nat → Nat → Nat) (cB cI cJ cZ cO : ClassId) (r n : Nat → Nat) (e1 : xs 1 = 2) (H : Heap) (locs : List Loc) (hK : va_K (dC, dI) vwCl (tyL cB cI cJ cZ cO) s) (hP : va_P (dC, dI) vwCl [((r 0), .inr (10, fX r)), ((r 18), .inr (4, [.int 0, .ref (r 19), .ref (r 20), .int 0, .ref (r 21), .ref (r 22), .int 0, .ref (r 23), .ref (r 24), .int 0, .ref (r 25), .ref (r 26), .int 3, .int 0, .int 0, .ref (r 27)])), ((n 0), .inr (11, fM n)), ((n 5), .inl (cI, 2, .inl (fun _ => 0)))] H) (hD : va_D (fun q : Nat => s.heap.size ≤ q) [((r 0), .inr (10, fX r)), ((r 18), .inr (4, [.int 0, .ref (r 19), .ref (r 20), .int 0, .ref (r 21), .ref (r 22), .int 0, .ref (r 23), .ref (r 24), .int 0, .ref (r 25), .ref (r 26), .int 3, .int 0, .int 0, .ref (r 27)])), ((n 0), .inr (11, fM n)), ((n 5), .inl (cI, 2, .inl (fun _ => 0)))]) (hS : va_S (fun q : Nat => s.heap.size ≤ q) s.heap H locs) (ls : Array Slot) (hl : lv_has ls 4 [(3, .int 0), (2, .ref (n 0)), (1, .ref (r 0)), (0, .ref b)]) : W p l e room_1 s m #[Value.ref b] below meth c H locs 135 85080 (lw_Z below #[Value.ref b] s) (F0 m 1070 ls []) := by
  obtain ⟨hx, hb, hr, hml, hown, hts0, hX, hbl, hlocks, hgv⟩ := C0
  have hts : ∀ w ∈ wsL_law, w.before #[Value.ref b] s = true := fun w h => hts0 w (wsL_law_in w h)
  have hA : ∀ q : Nat, s.heap.size ≤ q → (fun q : Nat => s.heap.size ≤ q) q := fun _ h => h
  have hbA : ¬ (fun q : Nat => s.heap.size ≤ q) b := Nat.not_le.mpr hbl
  have hown : s.vm.findClass RL = some m.cls := hown
  refine lv_aload_n hx hb dL_law_1070 rfl (lv_at hl 2 rfl) ?_
  refine lv_aload_n hx hb dL_law_1071 rfl (lv_at hl 3 rfl) ?_
  refine lv_iload_n hx hb dL_law_1072 rfl (lv_at hl 0 rfl) ?_
  refine lv_iconst (v := 1) hx hb dL_law_1073 z39 ?_
  refine lv_iadd hx hb dL_law_1074 ?_
  refine tpi z281 ?_
  refine va_sld hx hb hX hbl hbA hS (vin _ _ rfl) dL_law_1075 ?_
  refine tpv (v := .int 2) (congrArg Value.int e1) ?_
  refine call_iV (ci := 10) (As := [.int 2]) (rest := []) (wr := [((n 0), .inr (11, fM n)), ((n 5), .inl (cI, 2, .inl (fun _ => 0)))]) ⟨hx, hb, hml, hown, hts⟩ (k407_X10_about l dC dI cB cI cJ cZ cO r) (cwV 1 hts gL_law_X10_about rfl rfl rfl ⟨rfl, z1060⟩ ⟨Nat.le_of_ble_eq_true rfl, Nat.le_of_ble_eq_true rfl⟩) hK hP hD hS hA [0, 1] [2, 3] rfl rfl (by decide +kernel) (by decide +kernel) (by decide +kernel) rfl rfl rfl hl.1 (Nat.le_of_ble_eq_true rfl) rfl rfl dL_law_1076 ⟨by decide +kernel, by decide +kernel⟩ (fun u0 H locs hP hD hS => ?_)
  refine lv_aload_n hx hb dL_law_1079 rfl (lv_at hl 1 rfl) ?_
  refine lv_aload_n hx hb dL_law_1080 rfl (lv_at hl 3 rfl) ?_
  refine lv_iload_n hx hb dL_law_1081 rfl (lv_at hl 0 rfl) ?_
  refine lv_iconst (v := 1) hx hb dL_law_1082 z39 ?_
  refine lv_iadd hx hb dL_law_1083 ?_
  refine tpi z281 ?_
  refine va_sld hx hb hX hbl hbA hS (vin _ _ rfl) dL_law_1084 ?_
  refine tpv (v := .int 2) (congrArg Value.int e1) ?_
  refine call_iV (ci := 11) (As := [.int 2]) (rest := [.int 0]) (wr := []) ⟨hx, hb, hml, hown, hts⟩ (k408_X11_about l dC dI cB cI cJ cZ cO n) (cwV 1 hts gL_law_X11_about rfl rfl rfl ⟨rfl, z1061⟩ ⟨Nat.le_of_ble_eq_true rfl, Nat.le_of_ble_eq_true rfl⟩) hK hP hD hS hA [0, 1] [] rfl rfl (by decide +kernel) (by decide +kernel) (by decide +kernel) rfl rfl rfl hl.1 (Nat.le_of_ble_eq_true rfl) rfl rfl dL_law_1085 ⟨by decide +kernel, by decide +kernel⟩ (fun u1 H locs hP hD hS => ?_)
  refine lv_icmp_eq (tgt := 1093) hx hb dL_law_1088 z1059 (fun _ => ?_) (fun c1 => absurd (rfl) c1)
  refine lv_iinc (v := 6) (lv' := [(3, .int 6), (2, .ref (n 0)), (1, .ref (r 0)), (0, .ref b)]) hx hb dL_law_1093 hl (k := 0) rfl z943 (nlt rfl) rfl (fun ls hl => ?_)
  refine lv_goto (tgt := 18) hx hb dL_law_1096 z944 ?_
  refine lv_iload_n hx hb dL_law_18 rfl (lv_at hl 0 rfl) ?_
  refine lv_aload_n hx hb dL_law_19 rfl (lv_at hl 3 rfl) ?_
  refine va_slen hx hb hX hbl hbA hS dL_law_20 ?_
  refine tpv (v := .int 6) rfl ?_
  refine lv_bipush (v := 6) hx hb dL_law_21 z4 ?_
  refine lv_isub hx hb dL_law_23 ?_
  refine tpi z945 ?_
  refine lv_icmp_gt (tgt := 1099) hx hb dL_law_24 z947 (fun _ => ?_) (fun c1 => absurd (z946) c1)
  refine lv_iconst (v := 1) hx hb dL_law_1099 z39 ?_
  refine va_forget (fun q hq => hS.2.2 q hq) ?_
  refine W.widen (k := 600000) (n := 7302250) (by decide) (by decide) ?_
  exact lw_ret hx hb hr hlocks dL_law_1100

set_option maxHeartbeats 4000000 in
set_option maxRecDepth 100000 in
theorem lc_36_3 {p : Program} {e : Env} {s : State} {m : MethodId} {below : List Frame} {meth : Method} {c : Code} (l : Launch) {b : Nat} {xs : Nat → Int32} (C0 : lw_At p s m meth c b 6 xs) (dC : Nat → ClassId) (dI : Nat → Nat → Nat) (cB cI cJ cZ cO : ClassId) (r n : Nat → Nat) (e1 : xs 1 = 3) (H : Heap) (locs : List Loc) (hK : va_K (dC, dI) vwCl (tyL cB cI cJ cZ cO) s) (hP : va_P (dC, dI) vwCl [((r 0), .inr (10, fX r)), ((r 18), .inr (4, [.int 0, .ref (r 19), .ref (r 20), .int 0, .ref (r 21), .ref (r 22), .int 0, .ref (r 23), .ref (r 24), .int 0, .ref (r 25), .ref (r 26), .int 3, .int 0, .int 0, .ref (r 27)])), ((n 0), .inr (11, fM n)), ((n 6), .inl (cI, 2, .inl (fun _ => 0)))] H) (hD : va_D (fun q : Nat => s.heap.size ≤ q) [((r 0), .inr (10, fX r)), ((r 18), .inr (4, [.int 0, .ref (r 19), .ref (r 20), .int 0, .ref (r 21), .ref (r 22), .int 0, .ref (r 23), .ref (r 24), .int 0, .ref (r 25), .ref (r 26), .int 3, .int 0, .int 0, .ref (r 27)])), ((n 0), .inr (11, fM n)), ((n 6), .inl (cI, 2, .inl (fun _ => 0)))]) (hS : va_S (fun q : Nat => s.heap.size ≤ q) s.heap H locs) (ls : Array Slot) (hl : lv_has ls 4 [(3, .int 0), (2, .ref (n 0)), (1, .ref (r 0)), (0, .ref b)]) : W p l e room_1 s m #[Value.ref b] below meth c H locs 135 85080 (lw_Z below #[Value.ref b] s) (F0 m 1070 ls []) := by
  obtain ⟨hx, hb, hr, hml, hown, hts0, hX, hbl, hlocks, hgv⟩ := C0
  have hts : ∀ w ∈ wsL_law, w.before #[Value.ref b] s = true := fun w h => hts0 w (wsL_law_in w h)
  have hA : ∀ q : Nat, s.heap.size ≤ q → (fun q : Nat => s.heap.size ≤ q) q := fun _ h => h
  have hbA : ¬ (fun q : Nat => s.heap.size ≤ q) b := Nat.not_le.mpr hbl
  have hown : s.vm.findClass RL = some m.cls := hown
  refine lv_aload_n hx hb dL_law_1070 rfl (lv_at hl 2 rfl) ?_
  refine lv_aload_n hx hb dL_law_1071 rfl (lv_at hl 3 rfl) ?_
  refine lv_iload_n hx hb dL_law_1072 rfl (lv_at hl 0 rfl) ?_
  refine lv_iconst (v := 1) hx hb dL_law_1073 z39 ?_
  refine lv_iadd hx hb dL_law_1074 ?_
  refine tpi z281 ?_
  refine va_sld hx hb hX hbl hbA hS (vin _ _ rfl) dL_law_1075 ?_
  refine tpv (v := .int 3) (congrArg Value.int e1) ?_
  refine call_iV (ci := 10) (As := [.int 3]) (rest := []) (wr := [((n 0), .inr (11, fM n)), ((n 6), .inl (cI, 2, .inl (fun _ => 0)))]) ⟨hx, hb, hml, hown, hts⟩ (k409_X10_about l dC dI cB cI cJ cZ cO r) (cwV 1 hts gL_law_X10_about rfl rfl rfl ⟨rfl, z1060⟩ ⟨Nat.le_of_ble_eq_true rfl, Nat.le_of_ble_eq_true rfl⟩) hK hP hD hS hA [0, 1] [2, 3] rfl rfl (by decide +kernel) (by decide +kernel) (by decide +kernel) rfl rfl rfl hl.1 (Nat.le_of_ble_eq_true rfl) rfl rfl dL_law_1076 ⟨by decide +kernel, by decide +kernel⟩ (fun u0 H locs hP hD hS => ?_)
  refine lv_aload_n hx hb dL_law_1079 rfl (lv_at hl 1 rfl) ?_
  refine lv_aload_n hx hb dL_law_1080 rfl (lv_at hl 3 rfl) ?_
  refine lv_iload_n hx hb dL_law_1081 rfl (lv_at hl 0 rfl) ?_
  refine lv_iconst (v := 1) hx hb dL_law_1082 z39 ?_
  refine lv_iadd hx hb dL_law_1083 ?_
  refine tpi z281 ?_
  refine va_sld hx hb hX hbl hbA hS (vin _ _ rfl) dL_law_1084 ?_
  refine tpv (v := .int 3) (congrArg Value.int e1) ?_
  refine call_iV (ci := 11) (As := [.int 3]) (rest := [.int 0]) (wr := []) ⟨hx, hb, hml, hown, hts⟩ (k410_X11_about l dC dI cB cI cJ cZ cO n) (cwV 1 hts gL_law_X11_about rfl rfl rfl ⟨rfl, z1061⟩ ⟨Nat.le_of_ble_eq_true rfl, Nat.le_of_ble_eq_true rfl⟩) hK hP hD hS hA [0, 1] [] rfl rfl (by decide +kernel) (by decide +kernel) (by decide +kernel) rfl rfl rfl hl.1 (Nat.le_of_ble_eq_true rfl) rfl rfl dL_law_1085 ⟨by decide +kernel, by decide +kernel⟩ (fun u1 H locs hP hD hS => ?_)
  refine lv_icmp_eq (tgt := 1093) hx hb dL_law_1088 z1059 (fun _ => ?_) (fun c1 => absurd (rfl) c1)
  refine lv_iinc (v := 6) (lv' := [(3, .int 6), (2, .ref (n 0)), (1, .ref (r 0)), (0, .ref b)]) hx hb dL_law_1093 hl (k := 0) rfl z943 (nlt rfl) rfl (fun ls hl => ?_)
  refine lv_goto (tgt := 18) hx hb dL_law_1096 z944 ?_
  refine lv_iload_n hx hb dL_law_18 rfl (lv_at hl 0 rfl) ?_
  refine lv_aload_n hx hb dL_law_19 rfl (lv_at hl 3 rfl) ?_
  refine va_slen hx hb hX hbl hbA hS dL_law_20 ?_
  refine tpv (v := .int 6) rfl ?_
  refine lv_bipush (v := 6) hx hb dL_law_21 z4 ?_
  refine lv_isub hx hb dL_law_23 ?_
  refine tpi z945 ?_
  refine lv_icmp_gt (tgt := 1099) hx hb dL_law_24 z947 (fun _ => ?_) (fun c1 => absurd (z946) c1)
  refine lv_iconst (v := 1) hx hb dL_law_1099 z39 ?_
  refine va_forget (fun q hq => hS.2.2 q hq) ?_
  refine W.widen (k := 600000) (n := 7302250) (by decide) (by decide) ?_
  exact lw_ret hx hb hr hlocks dL_law_1100

set_option maxHeartbeats 4000000 in
set_option maxRecDepth 100000 in
theorem lc_36_4 {p : Program} {e : Env} {s : State} {m : MethodId} {below : List Frame} {meth : Method} {c : Code} (l : Launch) {b : Nat} {xs : Nat → Int32} (C0 : lw_At p s m meth c b 6 xs) (dC : Nat → ClassId) (dI : Nat → Nat → Nat) (cB cI cJ cZ cO : ClassId) (r n : Nat → Nat) (e1 : xs 1 = 4) (H : Heap) (locs : List Loc) (hK : va_K (dC, dI) vwCl (tyL cB cI cJ cZ cO) s) (hP : va_P (dC, dI) vwCl [((r 0), .inr (10, fX r)), ((r 18), .inr (4, [.int 0, .ref (r 19), .ref (r 20), .int 0, .ref (r 21), .ref (r 22), .int 0, .ref (r 23), .ref (r 24), .int 0, .ref (r 25), .ref (r 26), .int 3, .int 0, .int 0, .ref (r 27)])), ((n 0), .inr (11, fM n)), ((n 7), .inl (cI, 2, .inl (upd (fun _ => 0) 0 3)))] H) (hD : va_D (fun q : Nat => s.heap.size ≤ q) [((r 0), .inr (10, fX r)), ((r 18), .inr (4, [.int 0, .ref (r 19), .ref (r 20), .int 0, .ref (r 21), .ref (r 22), .int 0, .ref (r 23), .ref (r 24), .int 0, .ref (r 25), .ref (r 26), .int 3, .int 0, .int 0, .ref (r 27)])), ((n 0), .inr (11, fM n)), ((n 7), .inl (cI, 2, .inl (upd (fun _ => 0) 0 3)))]) (hS : va_S (fun q : Nat => s.heap.size ≤ q) s.heap H locs) (ls : Array Slot) (hl : lv_has ls 4 [(3, .int 0), (2, .ref (n 0)), (1, .ref (r 0)), (0, .ref b)]) : W p l e room_1 s m #[Value.ref b] below meth c H locs 135 85080 (lw_Z below #[Value.ref b] s) (F0 m 1070 ls []) := by
  obtain ⟨hx, hb, hr, hml, hown, hts0, hX, hbl, hlocks, hgv⟩ := C0
  have hts : ∀ w ∈ wsL_law, w.before #[Value.ref b] s = true := fun w h => hts0 w (wsL_law_in w h)
  have hA : ∀ q : Nat, s.heap.size ≤ q → (fun q : Nat => s.heap.size ≤ q) q := fun _ h => h
  have hbA : ¬ (fun q : Nat => s.heap.size ≤ q) b := Nat.not_le.mpr hbl
  have hown : s.vm.findClass RL = some m.cls := hown
  refine lv_aload_n hx hb dL_law_1070 rfl (lv_at hl 2 rfl) ?_
  refine lv_aload_n hx hb dL_law_1071 rfl (lv_at hl 3 rfl) ?_
  refine lv_iload_n hx hb dL_law_1072 rfl (lv_at hl 0 rfl) ?_
  refine lv_iconst (v := 1) hx hb dL_law_1073 z39 ?_
  refine lv_iadd hx hb dL_law_1074 ?_
  refine tpi z281 ?_
  refine va_sld hx hb hX hbl hbA hS (vin _ _ rfl) dL_law_1075 ?_
  refine tpv (v := .int 4) (congrArg Value.int e1) ?_
  refine call_iV (ci := 10) (As := [.int 4]) (rest := []) (wr := [((n 0), .inr (11, fM n)), ((n 7), .inl (cI, 2, .inl (upd (fun _ => 0) 0 3)))]) ⟨hx, hb, hml, hown, hts⟩ (k411_X10_about l dC dI cB cI cJ cZ cO r) (cwV 1 hts gL_law_X10_about rfl rfl rfl ⟨rfl, z1060⟩ ⟨Nat.le_of_ble_eq_true rfl, Nat.le_of_ble_eq_true rfl⟩) hK hP hD hS hA [0, 1] [2, 3] rfl rfl (by decide +kernel) (by decide +kernel) (by decide +kernel) rfl rfl rfl hl.1 (Nat.le_of_ble_eq_true rfl) rfl rfl dL_law_1076 ⟨by decide +kernel, by decide +kernel⟩ (fun u0 H locs hP hD hS => ?_)
  refine lv_aload_n hx hb dL_law_1079 rfl (lv_at hl 1 rfl) ?_
  refine lv_aload_n hx hb dL_law_1080 rfl (lv_at hl 3 rfl) ?_
  refine lv_iload_n hx hb dL_law_1081 rfl (lv_at hl 0 rfl) ?_
  refine lv_iconst (v := 1) hx hb dL_law_1082 z39 ?_
  refine lv_iadd hx hb dL_law_1083 ?_
  refine tpi z281 ?_
  refine va_sld hx hb hX hbl hbA hS (vin _ _ rfl) dL_law_1084 ?_
  refine tpv (v := .int 4) (congrArg Value.int e1) ?_
  refine call_iV (ci := 11) (As := [.int 4]) (rest := [.int 3]) (wr := []) ⟨hx, hb, hml, hown, hts⟩ (k412_X11_about l dC dI cB cI cJ cZ cO n) (cwV 1 hts gL_law_X11_about rfl rfl rfl ⟨rfl, z1061⟩ ⟨Nat.le_of_ble_eq_true rfl, Nat.le_of_ble_eq_true rfl⟩) hK hP hD hS hA [0, 1] [] rfl rfl (by decide +kernel) (by decide +kernel) (by decide +kernel) rfl rfl rfl hl.1 (Nat.le_of_ble_eq_true rfl) rfl rfl dL_law_1085 ⟨by decide +kernel, by decide +kernel⟩ (fun u1 H locs hP hD hS => ?_)
  refine lv_icmp_eq (tgt := 1093) hx hb dL_law_1088 z1059 (fun _ => ?_) (fun c1 => absurd (rfl) c1)
  refine lv_iinc (v := 6) (lv' := [(3, .int 6), (2, .ref (n 0)), (1, .ref (r 0)), (0, .ref b)]) hx hb dL_law_1093 hl (k := 0) rfl z943 (nlt rfl) rfl (fun ls hl => ?_)
  refine lv_goto (tgt := 18) hx hb dL_law_1096 z944 ?_
  refine lv_iload_n hx hb dL_law_18 rfl (lv_at hl 0 rfl) ?_
  refine lv_aload_n hx hb dL_law_19 rfl (lv_at hl 3 rfl) ?_
  refine va_slen hx hb hX hbl hbA hS dL_law_20 ?_
  refine tpv (v := .int 6) rfl ?_
  refine lv_bipush (v := 6) hx hb dL_law_21 z4 ?_
  refine lv_isub hx hb dL_law_23 ?_
  refine tpi z945 ?_
  refine lv_icmp_gt (tgt := 1099) hx hb dL_law_24 z947 (fun _ => ?_) (fun c1 => absurd (z946) c1)
  refine lv_iconst (v := 1) hx hb dL_law_1099 z39 ?_
  refine va_forget (fun q hq => hS.2.2 q hq) ?_
  refine W.widen (k := 600000) (n := 7302250) (by decide) (by decide) ?_
  exact lw_ret hx hb hr hlocks dL_law_1100

set_option maxHeartbeats 4000000 in
set_option maxRecDepth 100000 in
theorem lc_36_5 {p : Program} {e : Env} {s : State} {m : MethodId} {below : List Frame} {meth : Method} {c : Code} (l : Launch) {b : Nat} {xs : Nat → Int32} (C0 : lw_At p s m meth c b 6 xs) (dC : Nat → ClassId) (dI : Nat → Nat → Nat) (cB cI cJ cZ cO : ClassId) (r n : Nat → Nat) (e1 : xs 1 = 5) (H : Heap) (locs : List Loc) (hK : va_K (dC, dI) vwCl (tyL cB cI cJ cZ cO) s) (hP : va_P (dC, dI) vwCl [((r 0), .inr (10, fX r)), ((r 38), .inr (0, [.ref (r 39), .int 0, .ref (r 40), .ref (r 41), .ref (r 42), .ref (r 43), .ref (r 44), .int 0, .int 0])), ((n 0), .inr (11, fM n))] H) (hD : va_D (fun q : Nat => s.heap.size ≤ q) [((r 0), .inr (10, fX r)), ((r 38), .inr (0, [.ref (r 39), .int 0, .ref (r 40), .ref (r 41), .ref (r 42), .ref (r 43), .ref (r 44), .int 0, .int 0])), ((n 0), .inr (11, fM n))]) (hS : va_S (fun q : Nat => s.heap.size ≤ q) s.heap H locs) (ls : Array Slot) (hl : lv_has ls 4 [(3, .int 0), (2, .ref (n 0)), (1, .ref (r 0)), (0, .ref b)]) : W p l e room_1 s m #[Value.ref b] below meth c H locs 135 85080 (lw_Z below #[Value.ref b] s) (F0 m 1070 ls []) := by
  obtain ⟨hx, hb, hr, hml, hown, hts0, hX, hbl, hlocks, hgv⟩ := C0
  have hts : ∀ w ∈ wsL_law, w.before #[Value.ref b] s = true := fun w h => hts0 w (wsL_law_in w h)
  have hA : ∀ q : Nat, s.heap.size ≤ q → (fun q : Nat => s.heap.size ≤ q) q := fun _ h => h
  have hbA : ¬ (fun q : Nat => s.heap.size ≤ q) b := Nat.not_le.mpr hbl
  have hown : s.vm.findClass RL = some m.cls := hown
  refine lv_aload_n hx hb dL_law_1070 rfl (lv_at hl 2 rfl) ?_
  refine lv_aload_n hx hb dL_law_1071 rfl (lv_at hl 3 rfl) ?_
  refine lv_iload_n hx hb dL_law_1072 rfl (lv_at hl 0 rfl) ?_
  refine lv_iconst (v := 1) hx hb dL_law_1073 z39 ?_
  refine lv_iadd hx hb dL_law_1074 ?_
  refine tpi z281 ?_
  refine va_sld hx hb hX hbl hbA hS (vin _ _ rfl) dL_law_1075 ?_
  refine tpv (v := .int 5) (congrArg Value.int e1) ?_
  refine call_iV (ci := 10) (As := [.int 5]) (rest := []) (wr := [((n 0), .inr (11, fM n))]) ⟨hx, hb, hml, hown, hts⟩ (k413_X10_about l dC dI cB cI cJ cZ cO r) (cwV 1 hts gL_law_X10_about rfl rfl rfl ⟨rfl, z1060⟩ ⟨Nat.le_of_ble_eq_true rfl, Nat.le_of_ble_eq_true rfl⟩) hK hP hD hS hA [0, 1] [2] rfl rfl (by decide +kernel) (by decide +kernel) (by decide +kernel) rfl rfl rfl hl.1 (Nat.le_of_ble_eq_true rfl) rfl rfl dL_law_1076 ⟨by decide +kernel, by decide +kernel⟩ (fun u0 H locs hP hD hS => ?_)
  refine lv_aload_n hx hb dL_law_1079 rfl (lv_at hl 1 rfl) ?_
  refine lv_aload_n hx hb dL_law_1080 rfl (lv_at hl 3 rfl) ?_
  refine lv_iload_n hx hb dL_law_1081 rfl (lv_at hl 0 rfl) ?_
  refine lv_iconst (v := 1) hx hb dL_law_1082 z39 ?_
  refine lv_iadd hx hb dL_law_1083 ?_
  refine tpi z281 ?_
  refine va_sld hx hb hX hbl hbA hS (vin _ _ rfl) dL_law_1084 ?_
  refine tpv (v := .int 5) (congrArg Value.int e1) ?_
  refine call_iV (ci := 11) (As := [.int 5]) (rest := [.int 0]) (wr := []) ⟨hx, hb, hml, hown, hts⟩ (k414_X11_about l dC dI cB cI cJ cZ cO n) (cwV 1 hts gL_law_X11_about rfl rfl rfl ⟨rfl, z1061⟩ ⟨Nat.le_of_ble_eq_true rfl, Nat.le_of_ble_eq_true rfl⟩) hK hP hD hS hA [0] [] rfl rfl (by decide +kernel) (by decide +kernel) (by decide +kernel) rfl rfl rfl hl.1 (Nat.le_of_ble_eq_true rfl) rfl rfl dL_law_1085 ⟨by decide +kernel, by decide +kernel⟩ (fun u1 H locs hP hD hS => ?_)
  refine lv_icmp_eq (tgt := 1093) hx hb dL_law_1088 z1059 (fun _ => ?_) (fun c1 => absurd (rfl) c1)
  refine lv_iinc (v := 6) (lv' := [(3, .int 6), (2, .ref (n 0)), (1, .ref (r 0)), (0, .ref b)]) hx hb dL_law_1093 hl (k := 0) rfl z943 (nlt rfl) rfl (fun ls hl => ?_)
  refine lv_goto (tgt := 18) hx hb dL_law_1096 z944 ?_
  refine lv_iload_n hx hb dL_law_18 rfl (lv_at hl 0 rfl) ?_
  refine lv_aload_n hx hb dL_law_19 rfl (lv_at hl 3 rfl) ?_
  refine va_slen hx hb hX hbl hbA hS dL_law_20 ?_
  refine tpv (v := .int 6) rfl ?_
  refine lv_bipush (v := 6) hx hb dL_law_21 z4 ?_
  refine lv_isub hx hb dL_law_23 ?_
  refine tpi z945 ?_
  refine lv_icmp_gt (tgt := 1099) hx hb dL_law_24 z947 (fun _ => ?_) (fun c1 => absurd (z946) c1)
  refine lv_iconst (v := 1) hx hb dL_law_1099 z39 ?_
  refine va_forget (fun q hq => hS.2.2 q hq) ?_
  refine W.widen (k := 600000) (n := 7302250) (by decide) (by decide) ?_
  exact lw_ret hx hb hr hlocks dL_law_1100

set_option maxHeartbeats 4000000 in
set_option maxRecDepth 100000 in
theorem lc_36_6 {p : Program} {e : Env} {s : State} {m : MethodId} {below : List Frame} {meth : Method} {c : Code} (l : Launch) {b : Nat} {xs : Nat → Int32} (C0 : lw_At p s m meth c b 6 xs) (dC : Nat → ClassId) (dI : Nat → Nat → Nat) (cB cI cJ cZ cO : ClassId) (r n : Nat → Nat) (e1 : xs 1 = 6) (H : Heap) (locs : List Loc) (hK : va_K (dC, dI) vwCl (tyL cB cI cJ cZ cO) s) (hP : va_P (dC, dI) vwCl [((r 0), .inr (10, fX r)), ((r 38), .inr (0, [.ref (r 39), .int 0, .ref (r 40), .ref (r 41), .ref (r 42), .ref (r 43), .ref (r 44), .int 0, .int 0])), ((n 0), .inr (11, fM n))] H) (hD : va_D (fun q : Nat => s.heap.size ≤ q) [((r 0), .inr (10, fX r)), ((r 38), .inr (0, [.ref (r 39), .int 0, .ref (r 40), .ref (r 41), .ref (r 42), .ref (r 43), .ref (r 44), .int 0, .int 0])), ((n 0), .inr (11, fM n))]) (hS : va_S (fun q : Nat => s.heap.size ≤ q) s.heap H locs) (ls : Array Slot) (hl : lv_has ls 4 [(3, .int 0), (2, .ref (n 0)), (1, .ref (r 0)), (0, .ref b)]) : W p l e room_1 s m #[Value.ref b] below meth c H locs 135 85080 (lw_Z below #[Value.ref b] s) (F0 m 1070 ls []) := by
  obtain ⟨hx, hb, hr, hml, hown, hts0, hX, hbl, hlocks, hgv⟩ := C0
  have hts : ∀ w ∈ wsL_law, w.before #[Value.ref b] s = true := fun w h => hts0 w (wsL_law_in w h)
  have hA : ∀ q : Nat, s.heap.size ≤ q → (fun q : Nat => s.heap.size ≤ q) q := fun _ h => h
  have hbA : ¬ (fun q : Nat => s.heap.size ≤ q) b := Nat.not_le.mpr hbl
  have hown : s.vm.findClass RL = some m.cls := hown
  refine lv_aload_n hx hb dL_law_1070 rfl (lv_at hl 2 rfl) ?_
  refine lv_aload_n hx hb dL_law_1071 rfl (lv_at hl 3 rfl) ?_
  refine lv_iload_n hx hb dL_law_1072 rfl (lv_at hl 0 rfl) ?_
  refine lv_iconst (v := 1) hx hb dL_law_1073 z39 ?_
  refine lv_iadd hx hb dL_law_1074 ?_
  refine tpi z281 ?_
  refine va_sld hx hb hX hbl hbA hS (vin _ _ rfl) dL_law_1075 ?_
  refine tpv (v := .int 6) (congrArg Value.int e1) ?_
  refine call_iV (ci := 10) (As := [.int 6]) (rest := []) (wr := [((n 0), .inr (11, fM n))]) ⟨hx, hb, hml, hown, hts⟩ (k415_X10_about l dC dI cB cI cJ cZ cO r) (cwV 1 hts gL_law_X10_about rfl rfl rfl ⟨rfl, z1060⟩ ⟨Nat.le_of_ble_eq_true rfl, Nat.le_of_ble_eq_true rfl⟩) hK hP hD hS hA [0, 1] [2] rfl rfl (by decide +kernel) (by decide +kernel) (by decide +kernel) rfl rfl rfl hl.1 (Nat.le_of_ble_eq_true rfl) rfl rfl dL_law_1076 ⟨by decide +kernel, by decide +kernel⟩ (fun u0 H locs hP hD hS => ?_)
  refine lv_aload_n hx hb dL_law_1079 rfl (lv_at hl 1 rfl) ?_
  refine lv_aload_n hx hb dL_law_1080 rfl (lv_at hl 3 rfl) ?_
  refine lv_iload_n hx hb dL_law_1081 rfl (lv_at hl 0 rfl) ?_
  refine lv_iconst (v := 1) hx hb dL_law_1082 z39 ?_
  refine lv_iadd hx hb dL_law_1083 ?_
  refine tpi z281 ?_
  refine va_sld hx hb hX hbl hbA hS (vin _ _ rfl) dL_law_1084 ?_
  refine tpv (v := .int 6) (congrArg Value.int e1) ?_
  refine call_iV (ci := 11) (As := [.int 6]) (rest := [.int 0]) (wr := []) ⟨hx, hb, hml, hown, hts⟩ (k416_X11_about l dC dI cB cI cJ cZ cO n) (cwV 1 hts gL_law_X11_about rfl rfl rfl ⟨rfl, z1061⟩ ⟨Nat.le_of_ble_eq_true rfl, Nat.le_of_ble_eq_true rfl⟩) hK hP hD hS hA [0] [] rfl rfl (by decide +kernel) (by decide +kernel) (by decide +kernel) rfl rfl rfl hl.1 (Nat.le_of_ble_eq_true rfl) rfl rfl dL_law_1085 ⟨by decide +kernel, by decide +kernel⟩ (fun u1 H locs hP hD hS => ?_)
  refine lv_icmp_eq (tgt := 1093) hx hb dL_law_1088 z1059 (fun _ => ?_) (fun c1 => absurd (rfl) c1)
  refine lv_iinc (v := 6) (lv' := [(3, .int 6), (2, .ref (n 0)), (1, .ref (r 0)), (0, .ref b)]) hx hb dL_law_1093 hl (k := 0) rfl z943 (nlt rfl) rfl (fun ls hl => ?_)
  refine lv_goto (tgt := 18) hx hb dL_law_1096 z944 ?_
  refine lv_iload_n hx hb dL_law_18 rfl (lv_at hl 0 rfl) ?_
  refine lv_aload_n hx hb dL_law_19 rfl (lv_at hl 3 rfl) ?_
  refine va_slen hx hb hX hbl hbA hS dL_law_20 ?_
  refine tpv (v := .int 6) rfl ?_
  refine lv_bipush (v := 6) hx hb dL_law_21 z4 ?_
  refine lv_isub hx hb dL_law_23 ?_
  refine tpi z945 ?_
  refine lv_icmp_gt (tgt := 1099) hx hb dL_law_24 z947 (fun _ => ?_) (fun c1 => absurd (z946) c1)
  refine lv_iconst (v := 1) hx hb dL_law_1099 z39 ?_
  refine va_forget (fun q hq => hS.2.2 q hq) ?_
  refine W.widen (k := 600000) (n := 7302250) (by decide) (by decide) ?_
  exact lw_ret hx hb hr hlocks dL_law_1100

set_option maxHeartbeats 4000000 in
set_option maxRecDepth 100000 in
theorem lc_36_7 {p : Program} {e : Env} {s : State} {m : MethodId} {below : List Frame} {meth : Method} {c : Code} (l : Launch) {b : Nat} {xs : Nat → Int32} (C0 : lw_At p s m meth c b 6 xs) (dC : Nat → ClassId) (dI : Nat → Nat → Nat) (cB cI cJ cZ cO : ClassId) (r n : Nat → Nat) (e1 : xs 1 = 7) (H : Heap) (locs : List Loc) (hK : va_K (dC, dI) vwCl (tyL cB cI cJ cZ cO) s) (hP : va_P (dC, dI) vwCl [((r 0), .inr (10, fX r)), ((r 38), .inr (0, [.ref (r 39), .int 0, .ref (r 40), .ref (r 41), .ref (r 42), .ref (r 43), .ref (r 44), .int 0, .int 0])), ((n 0), .inr (11, fM n))] H) (hD : va_D (fun q : Nat => s.heap.size ≤ q) [((r 0), .inr (10, fX r)), ((r 38), .inr (0, [.ref (r 39), .int 0, .ref (r 40), .ref (r 41), .ref (r 42), .ref (r 43), .ref (r 44), .int 0, .int 0])), ((n 0), .inr (11, fM n))]) (hS : va_S (fun q : Nat => s.heap.size ≤ q) s.heap H locs) (ls : Array Slot) (hl : lv_has ls 4 [(3, .int 0), (2, .ref (n 0)), (1, .ref (r 0)), (0, .ref b)]) : W p l e room_1 s m #[Value.ref b] below meth c H locs 135 85080 (lw_Z below #[Value.ref b] s) (F0 m 1070 ls []) := by
  obtain ⟨hx, hb, hr, hml, hown, hts0, hX, hbl, hlocks, hgv⟩ := C0
  have hts : ∀ w ∈ wsL_law, w.before #[Value.ref b] s = true := fun w h => hts0 w (wsL_law_in w h)
  have hA : ∀ q : Nat, s.heap.size ≤ q → (fun q : Nat => s.heap.size ≤ q) q := fun _ h => h
  have hbA : ¬ (fun q : Nat => s.heap.size ≤ q) b := Nat.not_le.mpr hbl
  have hown : s.vm.findClass RL = some m.cls := hown
  refine lv_aload_n hx hb dL_law_1070 rfl (lv_at hl 2 rfl) ?_
  refine lv_aload_n hx hb dL_law_1071 rfl (lv_at hl 3 rfl) ?_
  refine lv_iload_n hx hb dL_law_1072 rfl (lv_at hl 0 rfl) ?_
  refine lv_iconst (v := 1) hx hb dL_law_1073 z39 ?_
  refine lv_iadd hx hb dL_law_1074 ?_
  refine tpi z281 ?_
  refine va_sld hx hb hX hbl hbA hS (vin _ _ rfl) dL_law_1075 ?_
  refine tpv (v := .int 7) (congrArg Value.int e1) ?_
  refine call_iV (ci := 10) (As := [.int 7]) (rest := []) (wr := [((n 0), .inr (11, fM n))]) ⟨hx, hb, hml, hown, hts⟩ (k417_X10_about l dC dI cB cI cJ cZ cO r) (cwV 1 hts gL_law_X10_about rfl rfl rfl ⟨rfl, z1060⟩ ⟨Nat.le_of_ble_eq_true rfl, Nat.le_of_ble_eq_true rfl⟩) hK hP hD hS hA [0, 1] [2] rfl rfl (by decide +kernel) (by decide +kernel) (by decide +kernel) rfl rfl rfl hl.1 (Nat.le_of_ble_eq_true rfl) rfl rfl dL_law_1076 ⟨by decide +kernel, by decide +kernel⟩ (fun u0 H locs hP hD hS => ?_)
  refine lv_aload_n hx hb dL_law_1079 rfl (lv_at hl 1 rfl) ?_
  refine lv_aload_n hx hb dL_law_1080 rfl (lv_at hl 3 rfl) ?_
  refine lv_iload_n hx hb dL_law_1081 rfl (lv_at hl 0 rfl) ?_
  refine lv_iconst (v := 1) hx hb dL_law_1082 z39 ?_
  refine lv_iadd hx hb dL_law_1083 ?_
  refine tpi z281 ?_
  refine va_sld hx hb hX hbl hbA hS (vin _ _ rfl) dL_law_1084 ?_
  refine tpv (v := .int 7) (congrArg Value.int e1) ?_
  refine call_iV (ci := 11) (As := [.int 7]) (rest := [.int 0]) (wr := []) ⟨hx, hb, hml, hown, hts⟩ (k418_X11_about l dC dI cB cI cJ cZ cO n) (cwV 1 hts gL_law_X11_about rfl rfl rfl ⟨rfl, z1061⟩ ⟨Nat.le_of_ble_eq_true rfl, Nat.le_of_ble_eq_true rfl⟩) hK hP hD hS hA [0] [] rfl rfl (by decide +kernel) (by decide +kernel) (by decide +kernel) rfl rfl rfl hl.1 (Nat.le_of_ble_eq_true rfl) rfl rfl dL_law_1085 ⟨by decide +kernel, by decide +kernel⟩ (fun u1 H locs hP hD hS => ?_)
  refine lv_icmp_eq (tgt := 1093) hx hb dL_law_1088 z1059 (fun _ => ?_) (fun c1 => absurd (rfl) c1)
  refine lv_iinc (v := 6) (lv' := [(3, .int 6), (2, .ref (n 0)), (1, .ref (r 0)), (0, .ref b)]) hx hb dL_law_1093 hl (k := 0) rfl z943 (nlt rfl) rfl (fun ls hl => ?_)
  refine lv_goto (tgt := 18) hx hb dL_law_1096 z944 ?_
  refine lv_iload_n hx hb dL_law_18 rfl (lv_at hl 0 rfl) ?_
  refine lv_aload_n hx hb dL_law_19 rfl (lv_at hl 3 rfl) ?_
  refine va_slen hx hb hX hbl hbA hS dL_law_20 ?_
  refine tpv (v := .int 6) rfl ?_
  refine lv_bipush (v := 6) hx hb dL_law_21 z4 ?_
  refine lv_isub hx hb dL_law_23 ?_
  refine tpi z945 ?_
  refine lv_icmp_gt (tgt := 1099) hx hb dL_law_24 z947 (fun _ => ?_) (fun c1 => absurd (z946) c1)
  refine lv_iconst (v := 1) hx hb dL_law_1099 z39 ?_
  refine va_forget (fun q hq => hS.2.2 q hq) ?_
  refine W.widen (k := 600000) (n := 7302250) (by decide) (by decide) ?_
  exact lw_ret hx hb hr hlocks dL_law_1100

set_option maxHeartbeats 4000000 in
set_option maxRecDepth 100000 in
theorem lc_36_8 {p : Program} {e : Env} {s : State} {m : MethodId} {below : List Frame} {meth : Method} {c : Code} (l : Launch) {b : Nat} {xs : Nat → Int32} (C0 : lw_At p s m meth c b 6 xs) (dC : Nat → ClassId) (dI : Nat → Nat → Nat) (cB cI cJ cZ cO : ClassId) (r n : Nat → Nat) (e1 : xs 1 = 8) (H : Heap) (locs : List Loc) (hK : va_K (dC, dI) vwCl (tyL cB cI cJ cZ cO) s) (hP : va_P (dC, dI) vwCl [((r 0), .inr (10, fX r)), ((r 80), .inr (6, [.int 0, .int 0, .ref (r 81), .ref (r 82), .ref (r 83), .ref (r 84), .ref (r 85)])), ((n 0), .inr (11, fM n))] H) (hD : va_D (fun q : Nat => s.heap.size ≤ q) [((r 0), .inr (10, fX r)), ((r 80), .inr (6, [.int 0, .int 0, .ref (r 81), .ref (r 82), .ref (r 83), .ref (r 84), .ref (r 85)])), ((n 0), .inr (11, fM n))]) (hS : va_S (fun q : Nat => s.heap.size ≤ q) s.heap H locs) (ls : Array Slot) (hl : lv_has ls 4 [(3, .int 0), (2, .ref (n 0)), (1, .ref (r 0)), (0, .ref b)]) : W p l e room_1 s m #[Value.ref b] below meth c H locs 135 85080 (lw_Z below #[Value.ref b] s) (F0 m 1070 ls []) := by
  obtain ⟨hx, hb, hr, hml, hown, hts0, hX, hbl, hlocks, hgv⟩ := C0
  have hts : ∀ w ∈ wsL_law, w.before #[Value.ref b] s = true := fun w h => hts0 w (wsL_law_in w h)
  have hA : ∀ q : Nat, s.heap.size ≤ q → (fun q : Nat => s.heap.size ≤ q) q := fun _ h => h
  have hbA : ¬ (fun q : Nat => s.heap.size ≤ q) b := Nat.not_le.mpr hbl
  have hown : s.vm.findClass RL = some m.cls := hown
  refine lv_aload_n hx hb dL_law_1070 rfl (lv_at hl 2 rfl) ?_
  refine lv_aload_n hx hb dL_law_1071 rfl (lv_at hl 3 rfl) ?_
  refine lv_iload_n hx hb dL_law_1072 rfl (lv_at hl 0 rfl) ?_
  refine lv_iconst (v := 1) hx hb dL_law_1073 z39 ?_
  refine lv_iadd hx hb dL_law_1074 ?_
  refine tpi z281 ?_
  refine va_sld hx hb hX hbl hbA hS (vin _ _ rfl) dL_law_1075 ?_
  refine tpv (v := .int 8) (congrArg Value.int e1) ?_
  refine call_iV (ci := 10) (As := [.int 8]) (rest := []) (wr := [((n 0), .inr (11, fM n))]) ⟨hx, hb, hml, hown, hts⟩ (k419_X10_about l dC dI cB cI cJ cZ cO r) (cwV 1 hts gL_law_X10_about rfl rfl rfl ⟨rfl, z1060⟩ ⟨Nat.le_of_ble_eq_true rfl, Nat.le_of_ble_eq_true rfl⟩) hK hP hD hS hA [0, 1] [2] rfl rfl (by decide +kernel) (by decide +kernel) (by decide +kernel) rfl rfl rfl hl.1 (Nat.le_of_ble_eq_true rfl) rfl rfl dL_law_1076 ⟨by decide +kernel, by decide +kernel⟩ (fun u0 H locs hP hD hS => ?_)
  refine lv_aload_n hx hb dL_law_1079 rfl (lv_at hl 1 rfl) ?_
  refine lv_aload_n hx hb dL_law_1080 rfl (lv_at hl 3 rfl) ?_
  refine lv_iload_n hx hb dL_law_1081 rfl (lv_at hl 0 rfl) ?_
  refine lv_iconst (v := 1) hx hb dL_law_1082 z39 ?_
  refine lv_iadd hx hb dL_law_1083 ?_
  refine tpi z281 ?_
  refine va_sld hx hb hX hbl hbA hS (vin _ _ rfl) dL_law_1084 ?_
  refine tpv (v := .int 8) (congrArg Value.int e1) ?_
  refine call_iV (ci := 11) (As := [.int 8]) (rest := [.int 0]) (wr := []) ⟨hx, hb, hml, hown, hts⟩ (k420_X11_about l dC dI cB cI cJ cZ cO n) (cwV 1 hts gL_law_X11_about rfl rfl rfl ⟨rfl, z1061⟩ ⟨Nat.le_of_ble_eq_true rfl, Nat.le_of_ble_eq_true rfl⟩) hK hP hD hS hA [0] [] rfl rfl (by decide +kernel) (by decide +kernel) (by decide +kernel) rfl rfl rfl hl.1 (Nat.le_of_ble_eq_true rfl) rfl rfl dL_law_1085 ⟨by decide +kernel, by decide +kernel⟩ (fun u1 H locs hP hD hS => ?_)
  refine lv_icmp_eq (tgt := 1093) hx hb dL_law_1088 z1059 (fun _ => ?_) (fun c1 => absurd (rfl) c1)
  refine lv_iinc (v := 6) (lv' := [(3, .int 6), (2, .ref (n 0)), (1, .ref (r 0)), (0, .ref b)]) hx hb dL_law_1093 hl (k := 0) rfl z943 (nlt rfl) rfl (fun ls hl => ?_)
  refine lv_goto (tgt := 18) hx hb dL_law_1096 z944 ?_
  refine lv_iload_n hx hb dL_law_18 rfl (lv_at hl 0 rfl) ?_
  refine lv_aload_n hx hb dL_law_19 rfl (lv_at hl 3 rfl) ?_
  refine va_slen hx hb hX hbl hbA hS dL_law_20 ?_
  refine tpv (v := .int 6) rfl ?_
  refine lv_bipush (v := 6) hx hb dL_law_21 z4 ?_
  refine lv_isub hx hb dL_law_23 ?_
  refine tpi z945 ?_
  refine lv_icmp_gt (tgt := 1099) hx hb dL_law_24 z947 (fun _ => ?_) (fun c1 => absurd (z946) c1)
  refine lv_iconst (v := 1) hx hb dL_law_1099 z39 ?_
  refine va_forget (fun q hq => hS.2.2 q hq) ?_
  refine W.widen (k := 600000) (n := 7302250) (by decide) (by decide) ?_
  exact lw_ret hx hb hr hlocks dL_law_1100

set_option maxHeartbeats 4000000 in
set_option maxRecDepth 100000 in
theorem lc_36_9 {p : Program} {e : Env} {s : State} {m : MethodId} {below : List Frame} {meth : Method} {c : Code} (l : Launch) {b : Nat} {xs : Nat → Int32} (C0 : lw_At p s m meth c b 6 xs) (dC : Nat → ClassId) (dI : Nat → Nat → Nat) (cB cI cJ cZ cO : ClassId) (r n : Nat → Nat) (e1 : xs 1 = 9) (H : Heap) (locs : List Loc) (hK : va_K (dC, dI) vwCl (tyL cB cI cJ cZ cO) s) (hP : va_P (dC, dI) vwCl [((r 0), .inr (10, fX r)), ((r 80), .inr (6, [.int 0, .int 0, .ref (r 81), .ref (r 82), .ref (r 83), .ref (r 84), .ref (r 85)])), ((n 0), .inr (11, fM n))] H) (hD : va_D (fun q : Nat => s.heap.size ≤ q) [((r 0), .inr (10, fX r)), ((r 80), .inr (6, [.int 0, .int 0, .ref (r 81), .ref (r 82), .ref (r 83), .ref (r 84), .ref (r 85)])), ((n 0), .inr (11, fM n))]) (hS : va_S (fun q : Nat => s.heap.size ≤ q) s.heap H locs) (ls : Array Slot) (hl : lv_has ls 4 [(3, .int 0), (2, .ref (n 0)), (1, .ref (r 0)), (0, .ref b)]) : W p l e room_1 s m #[Value.ref b] below meth c H locs 135 85080 (lw_Z below #[Value.ref b] s) (F0 m 1070 ls []) := by
  obtain ⟨hx, hb, hr, hml, hown, hts0, hX, hbl, hlocks, hgv⟩ := C0
  have hts : ∀ w ∈ wsL_law, w.before #[Value.ref b] s = true := fun w h => hts0 w (wsL_law_in w h)
  have hA : ∀ q : Nat, s.heap.size ≤ q → (fun q : Nat => s.heap.size ≤ q) q := fun _ h => h
  have hbA : ¬ (fun q : Nat => s.heap.size ≤ q) b := Nat.not_le.mpr hbl
  have hown : s.vm.findClass RL = some m.cls := hown
  refine lv_aload_n hx hb dL_law_1070 rfl (lv_at hl 2 rfl) ?_
  refine lv_aload_n hx hb dL_law_1071 rfl (lv_at hl 3 rfl) ?_
  refine lv_iload_n hx hb dL_law_1072 rfl (lv_at hl 0 rfl) ?_
  refine lv_iconst (v := 1) hx hb dL_law_1073 z39 ?_
  refine lv_iadd hx hb dL_law_1074 ?_
  refine tpi z281 ?_
  refine va_sld hx hb hX hbl hbA hS (vin _ _ rfl) dL_law_1075 ?_
  refine tpv (v := .int 9) (congrArg Value.int e1) ?_
  refine call_iV (ci := 10) (As := [.int 9]) (rest := []) (wr := [((n 0), .inr (11, fM n))]) ⟨hx, hb, hml, hown, hts⟩ (k421_X10_about l dC dI cB cI cJ cZ cO r) (cwV 1 hts gL_law_X10_about rfl rfl rfl ⟨rfl, z1060⟩ ⟨Nat.le_of_ble_eq_true rfl, Nat.le_of_ble_eq_true rfl⟩) hK hP hD hS hA [0, 1] [2] rfl rfl (by decide +kernel) (by decide +kernel) (by decide +kernel) rfl rfl rfl hl.1 (Nat.le_of_ble_eq_true rfl) rfl rfl dL_law_1076 ⟨by decide +kernel, by decide +kernel⟩ (fun u0 H locs hP hD hS => ?_)
  refine lv_aload_n hx hb dL_law_1079 rfl (lv_at hl 1 rfl) ?_
  refine lv_aload_n hx hb dL_law_1080 rfl (lv_at hl 3 rfl) ?_
  refine lv_iload_n hx hb dL_law_1081 rfl (lv_at hl 0 rfl) ?_
  refine lv_iconst (v := 1) hx hb dL_law_1082 z39 ?_
  refine lv_iadd hx hb dL_law_1083 ?_
  refine tpi z281 ?_
  refine va_sld hx hb hX hbl hbA hS (vin _ _ rfl) dL_law_1084 ?_
  refine tpv (v := .int 9) (congrArg Value.int e1) ?_
  refine call_iV (ci := 11) (As := [.int 9]) (rest := [.int 0]) (wr := []) ⟨hx, hb, hml, hown, hts⟩ (k422_X11_about l dC dI cB cI cJ cZ cO n) (cwV 1 hts gL_law_X11_about rfl rfl rfl ⟨rfl, z1061⟩ ⟨Nat.le_of_ble_eq_true rfl, Nat.le_of_ble_eq_true rfl⟩) hK hP hD hS hA [0] [] rfl rfl (by decide +kernel) (by decide +kernel) (by decide +kernel) rfl rfl rfl hl.1 (Nat.le_of_ble_eq_true rfl) rfl rfl dL_law_1085 ⟨by decide +kernel, by decide +kernel⟩ (fun u1 H locs hP hD hS => ?_)
  refine lv_icmp_eq (tgt := 1093) hx hb dL_law_1088 z1059 (fun _ => ?_) (fun c1 => absurd (rfl) c1)
  refine lv_iinc (v := 6) (lv' := [(3, .int 6), (2, .ref (n 0)), (1, .ref (r 0)), (0, .ref b)]) hx hb dL_law_1093 hl (k := 0) rfl z943 (nlt rfl) rfl (fun ls hl => ?_)
  refine lv_goto (tgt := 18) hx hb dL_law_1096 z944 ?_
  refine lv_iload_n hx hb dL_law_18 rfl (lv_at hl 0 rfl) ?_
  refine lv_aload_n hx hb dL_law_19 rfl (lv_at hl 3 rfl) ?_
  refine va_slen hx hb hX hbl hbA hS dL_law_20 ?_
  refine tpv (v := .int 6) rfl ?_
  refine lv_bipush (v := 6) hx hb dL_law_21 z4 ?_
  refine lv_isub hx hb dL_law_23 ?_
  refine tpi z945 ?_
  refine lv_icmp_gt (tgt := 1099) hx hb dL_law_24 z947 (fun _ => ?_) (fun c1 => absurd (z946) c1)
  refine lv_iconst (v := 1) hx hb dL_law_1099 z39 ?_
  refine va_forget (fun q hq => hS.2.2 q hq) ?_
  refine W.widen (k := 600000) (n := 7302250) (by decide) (by decide) ?_
  exact lw_ret hx hb hr hlocks dL_law_1100

set_option maxHeartbeats 4000000 in
set_option maxRecDepth 100000 in
theorem lc_36_10 {p : Program} {e : Env} {s : State} {m : MethodId} {below : List Frame} {meth : Method} {c : Code} (l : Launch) {b : Nat} {xs : Nat → Int32} (C0 : lw_At p s m meth c b 6 xs) (dC : Nat → ClassId) (dI : Nat → Nat → Nat) (cB cI cJ cZ cO : ClassId) (r n : Nat → Nat) (e1 : xs 1 = 10) (H : Heap) (locs : List Loc) (hK : va_K (dC, dI) vwCl (tyL cB cI cJ cZ cO) s) (hP : va_P (dC, dI) vwCl [((r 0), .inr (10, fX r)), ((n 0), .inr (11, fM n))] H) (hD : va_D (fun q : Nat => s.heap.size ≤ q) [((r 0), .inr (10, fX r)), ((n 0), .inr (11, fM n))]) (hS : va_S (fun q : Nat => s.heap.size ≤ q) s.heap H locs) (ls : Array Slot) (hl : lv_has ls 4 [(3, .int 0), (2, .ref (n 0)), (1, .ref (r 0)), (0, .ref b)]) : W p l e room_1 s m #[Value.ref b] below meth c H locs 135 85080 (lw_Z below #[Value.ref b] s) (F0 m 1070 ls []) := by
  obtain ⟨hx, hb, hr, hml, hown, hts0, hX, hbl, hlocks, hgv⟩ := C0
  have hts : ∀ w ∈ wsL_law, w.before #[Value.ref b] s = true := fun w h => hts0 w (wsL_law_in w h)
  have hA : ∀ q : Nat, s.heap.size ≤ q → (fun q : Nat => s.heap.size ≤ q) q := fun _ h => h
  have hbA : ¬ (fun q : Nat => s.heap.size ≤ q) b := Nat.not_le.mpr hbl
  have hown : s.vm.findClass RL = some m.cls := hown
  refine lv_aload_n hx hb dL_law_1070 rfl (lv_at hl 2 rfl) ?_
  refine lv_aload_n hx hb dL_law_1071 rfl (lv_at hl 3 rfl) ?_
  refine lv_iload_n hx hb dL_law_1072 rfl (lv_at hl 0 rfl) ?_
  refine lv_iconst (v := 1) hx hb dL_law_1073 z39 ?_
  refine lv_iadd hx hb dL_law_1074 ?_
  refine tpi z281 ?_
  refine va_sld hx hb hX hbl hbA hS (vin _ _ rfl) dL_law_1075 ?_
  refine tpv (v := .int 10) (congrArg Value.int e1) ?_
  refine call_iV (ci := 10) (As := [.int 10]) (rest := []) (wr := [((n 0), .inr (11, fM n))]) ⟨hx, hb, hml, hown, hts⟩ (k423_X10_about l dC dI cB cI cJ cZ cO r) (cwV 1 hts gL_law_X10_about rfl rfl rfl ⟨rfl, z1060⟩ ⟨Nat.le_of_ble_eq_true rfl, Nat.le_of_ble_eq_true rfl⟩) hK hP hD hS hA [0] [1] rfl rfl (by decide +kernel) (by decide +kernel) (by decide +kernel) rfl rfl rfl hl.1 (Nat.le_of_ble_eq_true rfl) rfl rfl dL_law_1076 ⟨by decide +kernel, by decide +kernel⟩ (fun u0 H locs hP hD hS => ?_)
  refine lv_aload_n hx hb dL_law_1079 rfl (lv_at hl 1 rfl) ?_
  refine lv_aload_n hx hb dL_law_1080 rfl (lv_at hl 3 rfl) ?_
  refine lv_iload_n hx hb dL_law_1081 rfl (lv_at hl 0 rfl) ?_
  refine lv_iconst (v := 1) hx hb dL_law_1082 z39 ?_
  refine lv_iadd hx hb dL_law_1083 ?_
  refine tpi z281 ?_
  refine va_sld hx hb hX hbl hbA hS (vin _ _ rfl) dL_law_1084 ?_
  refine tpv (v := .int 10) (congrArg Value.int e1) ?_
  refine call_iV (ci := 11) (As := [.int 10]) (rest := [.int 0]) (wr := []) ⟨hx, hb, hml, hown, hts⟩ (k424_X11_about l dC dI cB cI cJ cZ cO n) (cwV 1 hts gL_law_X11_about rfl rfl rfl ⟨rfl, z1061⟩ ⟨Nat.le_of_ble_eq_true rfl, Nat.le_of_ble_eq_true rfl⟩) hK hP hD hS hA [0] [] rfl rfl (by decide +kernel) (by decide +kernel) (by decide +kernel) rfl rfl rfl hl.1 (Nat.le_of_ble_eq_true rfl) rfl rfl dL_law_1085 ⟨by decide +kernel, by decide +kernel⟩ (fun u1 H locs hP hD hS => ?_)
  refine lv_icmp_eq (tgt := 1093) hx hb dL_law_1088 z1059 (fun _ => ?_) (fun c1 => absurd (rfl) c1)
  refine lv_iinc (v := 6) (lv' := [(3, .int 6), (2, .ref (n 0)), (1, .ref (r 0)), (0, .ref b)]) hx hb dL_law_1093 hl (k := 0) rfl z943 (nlt rfl) rfl (fun ls hl => ?_)
  refine lv_goto (tgt := 18) hx hb dL_law_1096 z944 ?_
  refine lv_iload_n hx hb dL_law_18 rfl (lv_at hl 0 rfl) ?_
  refine lv_aload_n hx hb dL_law_19 rfl (lv_at hl 3 rfl) ?_
  refine va_slen hx hb hX hbl hbA hS dL_law_20 ?_
  refine tpv (v := .int 6) rfl ?_
  refine lv_bipush (v := 6) hx hb dL_law_21 z4 ?_
  refine lv_isub hx hb dL_law_23 ?_
  refine tpi z945 ?_
  refine lv_icmp_gt (tgt := 1099) hx hb dL_law_24 z947 (fun _ => ?_) (fun c1 => absurd (z946) c1)
  refine lv_iconst (v := 1) hx hb dL_law_1099 z39 ?_
  refine va_forget (fun q hq => hS.2.2 q hq) ?_
  refine W.widen (k := 600000) (n := 7302250) (by decide) (by decide) ?_
  exact lw_ret hx hb hr hlocks dL_law_1100

set_option maxHeartbeats 4000000 in
set_option maxRecDepth 100000 in
theorem lc_36_11 {p : Program} {e : Env} {s : State} {m : MethodId} {below : List Frame} {meth : Method} {c : Code} (l : Launch) {b : Nat} {xs : Nat → Int32} (C0 : lw_At p s m meth c b 6 xs) (dC : Nat → ClassId) (dI : Nat → Nat → Nat) (cB cI cJ cZ cO : ClassId) (r n : Nat → Nat) (e1 : xs 1 = 11) (H : Heap) (locs : List Loc) (hK : va_K (dC, dI) vwCl (tyL cB cI cJ cZ cO) s) (hP : va_P (dC, dI) vwCl [((r 0), .inr (10, fX r)), ((n 0), .inr (11, fM n))] H) (hD : va_D (fun q : Nat => s.heap.size ≤ q) [((r 0), .inr (10, fX r)), ((n 0), .inr (11, fM n))]) (hS : va_S (fun q : Nat => s.heap.size ≤ q) s.heap H locs) (ls : Array Slot) (hl : lv_has ls 4 [(3, .int 0), (2, .ref (n 0)), (1, .ref (r 0)), (0, .ref b)]) : W p l e room_1 s m #[Value.ref b] below meth c H locs 135 85080 (lw_Z below #[Value.ref b] s) (F0 m 1070 ls []) := by
  obtain ⟨hx, hb, hr, hml, hown, hts0, hX, hbl, hlocks, hgv⟩ := C0
  have hts : ∀ w ∈ wsL_law, w.before #[Value.ref b] s = true := fun w h => hts0 w (wsL_law_in w h)
  have hA : ∀ q : Nat, s.heap.size ≤ q → (fun q : Nat => s.heap.size ≤ q) q := fun _ h => h
  have hbA : ¬ (fun q : Nat => s.heap.size ≤ q) b := Nat.not_le.mpr hbl
  have hown : s.vm.findClass RL = some m.cls := hown
  refine lv_aload_n hx hb dL_law_1070 rfl (lv_at hl 2 rfl) ?_
  refine lv_aload_n hx hb dL_law_1071 rfl (lv_at hl 3 rfl) ?_
  refine lv_iload_n hx hb dL_law_1072 rfl (lv_at hl 0 rfl) ?_
  refine lv_iconst (v := 1) hx hb dL_law_1073 z39 ?_
  refine lv_iadd hx hb dL_law_1074 ?_
  refine tpi z281 ?_
  refine va_sld hx hb hX hbl hbA hS (vin _ _ rfl) dL_law_1075 ?_
  refine tpv (v := .int 11) (congrArg Value.int e1) ?_
  refine call_iV (ci := 10) (As := [.int 11]) (rest := []) (wr := [((n 0), .inr (11, fM n))]) ⟨hx, hb, hml, hown, hts⟩ (k425_X10_about l dC dI cB cI cJ cZ cO r) (cwV 1 hts gL_law_X10_about rfl rfl rfl ⟨rfl, z1060⟩ ⟨Nat.le_of_ble_eq_true rfl, Nat.le_of_ble_eq_true rfl⟩) hK hP hD hS hA [0] [1] rfl rfl (by decide +kernel) (by decide +kernel) (by decide +kernel) rfl rfl rfl hl.1 (Nat.le_of_ble_eq_true rfl) rfl rfl dL_law_1076 ⟨by decide +kernel, by decide +kernel⟩ (fun u0 H locs hP hD hS => ?_)
  refine lv_aload_n hx hb dL_law_1079 rfl (lv_at hl 1 rfl) ?_
  refine lv_aload_n hx hb dL_law_1080 rfl (lv_at hl 3 rfl) ?_
  refine lv_iload_n hx hb dL_law_1081 rfl (lv_at hl 0 rfl) ?_
  refine lv_iconst (v := 1) hx hb dL_law_1082 z39 ?_
  refine lv_iadd hx hb dL_law_1083 ?_
  refine tpi z281 ?_
  refine va_sld hx hb hX hbl hbA hS (vin _ _ rfl) dL_law_1084 ?_
  refine tpv (v := .int 11) (congrArg Value.int e1) ?_
  refine call_iV (ci := 11) (As := [.int 11]) (rest := [.int 0]) (wr := []) ⟨hx, hb, hml, hown, hts⟩ (k426_X11_about l dC dI cB cI cJ cZ cO n) (cwV 1 hts gL_law_X11_about rfl rfl rfl ⟨rfl, z1061⟩ ⟨Nat.le_of_ble_eq_true rfl, Nat.le_of_ble_eq_true rfl⟩) hK hP hD hS hA [0] [] rfl rfl (by decide +kernel) (by decide +kernel) (by decide +kernel) rfl rfl rfl hl.1 (Nat.le_of_ble_eq_true rfl) rfl rfl dL_law_1085 ⟨by decide +kernel, by decide +kernel⟩ (fun u1 H locs hP hD hS => ?_)
  refine lv_icmp_eq (tgt := 1093) hx hb dL_law_1088 z1059 (fun _ => ?_) (fun c1 => absurd (rfl) c1)
  refine lv_iinc (v := 6) (lv' := [(3, .int 6), (2, .ref (n 0)), (1, .ref (r 0)), (0, .ref b)]) hx hb dL_law_1093 hl (k := 0) rfl z943 (nlt rfl) rfl (fun ls hl => ?_)
  refine lv_goto (tgt := 18) hx hb dL_law_1096 z944 ?_
  refine lv_iload_n hx hb dL_law_18 rfl (lv_at hl 0 rfl) ?_
  refine lv_aload_n hx hb dL_law_19 rfl (lv_at hl 3 rfl) ?_
  refine va_slen hx hb hX hbl hbA hS dL_law_20 ?_
  refine tpv (v := .int 6) rfl ?_
  refine lv_bipush (v := 6) hx hb dL_law_21 z4 ?_
  refine lv_isub hx hb dL_law_23 ?_
  refine tpi z945 ?_
  refine lv_icmp_gt (tgt := 1099) hx hb dL_law_24 z947 (fun _ => ?_) (fun c1 => absurd (z946) c1)
  refine lv_iconst (v := 1) hx hb dL_law_1099 z39 ?_
  refine va_forget (fun q hq => hS.2.2 q hq) ?_
  refine W.widen (k := 600000) (n := 7302250) (by decide) (by decide) ?_
  exact lw_ret hx hb hr hlocks dL_law_1100

set_option maxHeartbeats 4000000 in
set_option maxRecDepth 100000 in
theorem lc_36_12 {p : Program} {e : Env} {s : State} {m : MethodId} {below : List Frame} {meth : Method} {c : Code} (l : Launch) {b : Nat} {xs : Nat → Int32} (C0 : lw_At p s m meth c b 6 xs) (dC : Nat → ClassId) (dI : Nat → Nat → Nat) (cB cI cJ cZ cO : ClassId) (r n : Nat → Nat) (x1 : Int32) (e1 : xs 1 = x1) (h0 : (x1).toInt < 0 ∨ 11 < (x1).toInt) (H : Heap) (locs : List Loc) (hK : va_K (dC, dI) vwCl (tyL cB cI cJ cZ cO) s) (hP : va_P (dC, dI) vwCl [((r 0), .inr (10, fX r)), ((n 0), .inr (11, fM n))] H) (hD : va_D (fun q : Nat => s.heap.size ≤ q) [((r 0), .inr (10, fX r)), ((n 0), .inr (11, fM n))]) (hS : va_S (fun q : Nat => s.heap.size ≤ q) s.heap H locs) (ls : Array Slot) (hl : lv_has ls 4 [(3, .int 0), (2, .ref (n 0)), (1, .ref (r 0)), (0, .ref b)]) : W p l e room_1 s m #[Value.ref b] below meth c H locs 135 85080 (lw_Z below #[Value.ref b] s) (F0 m 1070 ls []) := by
  obtain ⟨hx, hb, hr, hml, hown, hts0, hX, hbl, hlocks, hgv⟩ := C0
  have hts : ∀ w ∈ wsL_law, w.before #[Value.ref b] s = true := fun w h => hts0 w (wsL_law_in w h)
  have hA : ∀ q : Nat, s.heap.size ≤ q → (fun q : Nat => s.heap.size ≤ q) q := fun _ h => h
  have hbA : ¬ (fun q : Nat => s.heap.size ≤ q) b := Nat.not_le.mpr hbl
  have hown : s.vm.findClass RL = some m.cls := hown
  refine lv_aload_n hx hb dL_law_1070 rfl (lv_at hl 2 rfl) ?_
  refine lv_aload_n hx hb dL_law_1071 rfl (lv_at hl 3 rfl) ?_
  refine lv_iload_n hx hb dL_law_1072 rfl (lv_at hl 0 rfl) ?_
  refine lv_iconst (v := 1) hx hb dL_law_1073 z39 ?_
  refine lv_iadd hx hb dL_law_1074 ?_
  refine tpi z281 ?_
  refine va_sld hx hb hX hbl hbA hS (vin _ _ rfl) dL_law_1075 ?_
  refine tpv (v := .int x1) (congrArg Value.int e1) ?_
  refine call_iV (ci := 10) (As := [.int x1]) (rest := []) (wr := [((n 0), .inr (11, fM n))]) ⟨hx, hb, hml, hown, hts⟩ (k427_X10_about l dC dI cB cI cJ cZ cO r x1 h0) (cwV 1 hts gL_law_X10_about rfl rfl rfl ⟨rfl, z1060⟩ ⟨Nat.le_of_ble_eq_true rfl, Nat.le_of_ble_eq_true rfl⟩) hK hP hD hS hA [0] [1] rfl rfl (by decide +kernel) (by decide +kernel) (by decide +kernel) rfl rfl rfl hl.1 (Nat.le_of_ble_eq_true rfl) rfl rfl dL_law_1076 ⟨by decide +kernel, by decide +kernel⟩ (fun u0 H locs hP hD hS => ?_)
  refine lv_aload_n hx hb dL_law_1079 rfl (lv_at hl 1 rfl) ?_
  refine lv_aload_n hx hb dL_law_1080 rfl (lv_at hl 3 rfl) ?_
  refine lv_iload_n hx hb dL_law_1081 rfl (lv_at hl 0 rfl) ?_
  refine lv_iconst (v := 1) hx hb dL_law_1082 z39 ?_
  refine lv_iadd hx hb dL_law_1083 ?_
  refine tpi z281 ?_
  refine va_sld hx hb hX hbl hbA hS (vin _ _ rfl) dL_law_1084 ?_
  refine tpv (v := .int x1) (congrArg Value.int e1) ?_
  refine call_iV (ci := 11) (As := [.int x1]) (rest := [.int (-1)]) (wr := []) ⟨hx, hb, hml, hown, hts⟩ (k428_X11_about l dC dI cB cI cJ cZ cO n x1 h0) (cwV 1 hts gL_law_X11_about rfl rfl rfl ⟨rfl, z1061⟩ ⟨Nat.le_of_ble_eq_true rfl, Nat.le_of_ble_eq_true rfl⟩) hK hP hD hS hA [0] [] rfl rfl (by decide +kernel) (by decide +kernel) (by decide +kernel) rfl rfl rfl hl.1 (Nat.le_of_ble_eq_true rfl) rfl rfl dL_law_1085 ⟨by decide +kernel, by decide +kernel⟩ (fun u1 H locs hP hD hS => ?_)
  refine lv_icmp_eq (tgt := 1093) hx hb dL_law_1088 z1059 (fun _ => ?_) (fun c1 => absurd (rfl) c1)
  refine lv_iinc (v := 6) (lv' := [(3, .int 6), (2, .ref (n 0)), (1, .ref (r 0)), (0, .ref b)]) hx hb dL_law_1093 hl (k := 0) rfl z943 (nlt rfl) rfl (fun ls hl => ?_)
  refine lv_goto (tgt := 18) hx hb dL_law_1096 z944 ?_
  refine lv_iload_n hx hb dL_law_18 rfl (lv_at hl 0 rfl) ?_
  refine lv_aload_n hx hb dL_law_19 rfl (lv_at hl 3 rfl) ?_
  refine va_slen hx hb hX hbl hbA hS dL_law_20 ?_
  refine tpv (v := .int 6) rfl ?_
  refine lv_bipush (v := 6) hx hb dL_law_21 z4 ?_
  refine lv_isub hx hb dL_law_23 ?_
  refine tpi z945 ?_
  refine lv_icmp_gt (tgt := 1099) hx hb dL_law_24 z947 (fun _ => ?_) (fun c1 => absurd (z946) c1)
  refine lv_iconst (v := 1) hx hb dL_law_1099 z39 ?_
  refine va_forget (fun q hq => hS.2.2 q hq) ?_
  refine W.widen (k := 600000) (n := 7302250) (by decide) (by decide) ?_
  exact lw_ret hx hb hr hlocks dL_law_1100

set_option maxHeartbeats 4000000 in
set_option maxRecDepth 100000 in
theorem lc_36_13 {p : Program} {e : Env} {s : State} {m : MethodId} {below : List Frame} {meth : Method} {c : Code} (l : Launch) {b : Nat} {xs : Nat → Int32} (C0 : lw_At p s m meth c b 6 xs) (dC : Nat → ClassId) (dI : Nat → Nat → Nat) (cB cI cJ cZ cO : ClassId) (r n : Nat → Nat) (x1 : Int32) (e1 : xs 1 = x1) (h0 : (x1).toInt < 0 ∨ 11 < (x1).toInt) (H : Heap) (locs : List Loc) (hK : va_K (dC, dI) vwCl (tyL cB cI cJ cZ cO) s) (hP : va_P (dC, dI) vwCl [((r 0), .inr (10, fX r)), ((n 0), .inr (11, fM n))] H) (hD : va_D (fun q : Nat => s.heap.size ≤ q) [((r 0), .inr (10, fX r)), ((n 0), .inr (11, fM n))]) (hS : va_S (fun q : Nat => s.heap.size ≤ q) s.heap H locs) (ls : Array Slot) (hl : lv_has ls 4 [(3, .int 0), (2, .ref (n 0)), (1, .ref (r 0)), (0, .ref b)]) : W p l e room_1 s m #[Value.ref b] below meth c H locs 135 85080 (lw_Z below #[Value.ref b] s) (F0 m 1070 ls []) := by
  obtain ⟨hx, hb, hr, hml, hown, hts0, hX, hbl, hlocks, hgv⟩ := C0
  have hts : ∀ w ∈ wsL_law, w.before #[Value.ref b] s = true := fun w h => hts0 w (wsL_law_in w h)
  have hA : ∀ q : Nat, s.heap.size ≤ q → (fun q : Nat => s.heap.size ≤ q) q := fun _ h => h
  have hbA : ¬ (fun q : Nat => s.heap.size ≤ q) b := Nat.not_le.mpr hbl
  have hown : s.vm.findClass RL = some m.cls := hown
  refine lv_aload_n hx hb dL_law_1070 rfl (lv_at hl 2 rfl) ?_
  refine lv_aload_n hx hb dL_law_1071 rfl (lv_at hl 3 rfl) ?_
  refine lv_iload_n hx hb dL_law_1072 rfl (lv_at hl 0 rfl) ?_
  refine lv_iconst (v := 1) hx hb dL_law_1073 z39 ?_
  refine lv_iadd hx hb dL_law_1074 ?_
  refine tpi z281 ?_
  refine va_sld hx hb hX hbl hbA hS (vin _ _ rfl) dL_law_1075 ?_
  refine tpv (v := .int x1) (congrArg Value.int e1) ?_
  refine call_iV (ci := 10) (As := [.int x1]) (rest := []) (wr := [((n 0), .inr (11, fM n))]) ⟨hx, hb, hml, hown, hts⟩ (k429_X10_about l dC dI cB cI cJ cZ cO r x1 h0) (cwV 1 hts gL_law_X10_about rfl rfl rfl ⟨rfl, z1060⟩ ⟨Nat.le_of_ble_eq_true rfl, Nat.le_of_ble_eq_true rfl⟩) hK hP hD hS hA [0] [1] rfl rfl (by decide +kernel) (by decide +kernel) (by decide +kernel) rfl rfl rfl hl.1 (Nat.le_of_ble_eq_true rfl) rfl rfl dL_law_1076 ⟨by decide +kernel, by decide +kernel⟩ (fun u0 H locs hP hD hS => ?_)
  refine lv_aload_n hx hb dL_law_1079 rfl (lv_at hl 1 rfl) ?_
  refine lv_aload_n hx hb dL_law_1080 rfl (lv_at hl 3 rfl) ?_
  refine lv_iload_n hx hb dL_law_1081 rfl (lv_at hl 0 rfl) ?_
  refine lv_iconst (v := 1) hx hb dL_law_1082 z39 ?_
  refine lv_iadd hx hb dL_law_1083 ?_
  refine tpi z281 ?_
  refine va_sld hx hb hX hbl hbA hS (vin _ _ rfl) dL_law_1084 ?_
  refine tpv (v := .int x1) (congrArg Value.int e1) ?_
  refine call_iV (ci := 11) (As := [.int x1]) (rest := [.int (-1)]) (wr := []) ⟨hx, hb, hml, hown, hts⟩ (k430_X11_about l dC dI cB cI cJ cZ cO n x1 h0) (cwV 1 hts gL_law_X11_about rfl rfl rfl ⟨rfl, z1061⟩ ⟨Nat.le_of_ble_eq_true rfl, Nat.le_of_ble_eq_true rfl⟩) hK hP hD hS hA [0] [] rfl rfl (by decide +kernel) (by decide +kernel) (by decide +kernel) rfl rfl rfl hl.1 (Nat.le_of_ble_eq_true rfl) rfl rfl dL_law_1085 ⟨by decide +kernel, by decide +kernel⟩ (fun u1 H locs hP hD hS => ?_)
  refine lv_icmp_eq (tgt := 1093) hx hb dL_law_1088 z1059 (fun _ => ?_) (fun c1 => absurd (rfl) c1)
  refine lv_iinc (v := 6) (lv' := [(3, .int 6), (2, .ref (n 0)), (1, .ref (r 0)), (0, .ref b)]) hx hb dL_law_1093 hl (k := 0) rfl z943 (nlt rfl) rfl (fun ls hl => ?_)
  refine lv_goto (tgt := 18) hx hb dL_law_1096 z944 ?_
  refine lv_iload_n hx hb dL_law_18 rfl (lv_at hl 0 rfl) ?_
  refine lv_aload_n hx hb dL_law_19 rfl (lv_at hl 3 rfl) ?_
  refine va_slen hx hb hX hbl hbA hS dL_law_20 ?_
  refine tpv (v := .int 6) rfl ?_
  refine lv_bipush (v := 6) hx hb dL_law_21 z4 ?_
  refine lv_isub hx hb dL_law_23 ?_
  refine tpi z945 ?_
  refine lv_icmp_gt (tgt := 1099) hx hb dL_law_24 z947 (fun _ => ?_) (fun c1 => absurd (z946) c1)
  refine lv_iconst (v := 1) hx hb dL_law_1099 z39 ?_
  refine va_forget (fun q hq => hS.2.2 q hq) ?_
  refine W.widen (k := 600000) (n := 7302250) (by decide) (by decide) ?_
  exact lw_ret hx hb hr hlocks dL_law_1100
