set_option maxHeartbeats 4000000 in
set_option maxRecDepth 100000 in
theorem lc_27_2 {p : Program} {e : Env} {s : State} {m : MethodId} {below : List Frame} {meth : Method} {c : Code} (l : Launch) {b : Nat} {xs : Nat → Int32} (C0 : lw_At p s m meth c b 6 xs) (dC : Nat → ClassId) (dI : Nat → Nat → Nat) (cB cI cJ cZ cO : ClassId) (r n : Nat → Nat) (x1 : Int32) (e1 : xs 1 = x1) (h0 : ¬ x1 < 0) (h1 : 3 ≤ x1) (h2 : 2 < x1) (H : Heap) (locs : List Loc) (hK : va_K (dC, dI) vwCl (tyL cB cI cJ cZ cO) s) (hP : va_P (dC, dI) vwCl [((r 0), .inr (10, fX r)), ((r 38), .inr (0, [.ref (r 39), .int 0, .ref (r 40), .ref (r 41), .ref (r 42), .ref (r 43), .ref (r 44), .int 0, .int 0])), ((r 65), .inr (9, [.int 0, .int 0, .ref (r 66), .ref (r 67), .ref (r 68), .ref (r 69), .int 0, .int 0, .int 0, .int 0, .int 0])), ((r 18), .inr (4, [.int 0, .ref (r 19), .ref (r 20), .int 0, .ref (r 21), .ref (r 22), .int 0, .ref (r 23), .ref (r 24), .int 0, .ref (r 25), .ref (r 26), .int 3, .int 0, .int 0, .ref (r 27)])), ((r 66), .inl (cI, 3000, .inl (fun _ => 0))), ((r 67), .inl (cI, 3000, .inl (fun _ => 0))), ((r 69), .inl (cI, 3000, .inl (fun _ => 0))), ((r 68), .inl (cI, 9000, .inl (fun _ => 0))), ((r 55), .inr (5, [.ref (r 56), .ref (r 57)])), ((n 0), .inr (11, fM n))] H) (hD : va_D (fun q : Nat => s.heap.size ≤ q) [((r 0), .inr (10, fX r)), ((r 38), .inr (0, [.ref (r 39), .int 0, .ref (r 40), .ref (r 41), .ref (r 42), .ref (r 43), .ref (r 44), .int 0, .int 0])), ((r 65), .inr (9, [.int 0, .int 0, .ref (r 66), .ref (r 67), .ref (r 68), .ref (r 69), .int 0, .int 0, .int 0, .int 0, .int 0])), ((r 18), .inr (4, [.int 0, .ref (r 19), .ref (r 20), .int 0, .ref (r 21), .ref (r 22), .int 0, .ref (r 23), .ref (r 24), .int 0, .ref (r 25), .ref (r 26), .int 3, .int 0, .int 0, .ref (r 27)])), ((r 66), .inl (cI, 3000, .inl (fun _ => 0))), ((r 67), .inl (cI, 3000, .inl (fun _ => 0))), ((r 69), .inl (cI, 3000, .inl (fun _ => 0))), ((r 68), .inl (cI, 9000, .inl (fun _ => 0))), ((r 55), .inr (5, [.ref (r 56), .ref (r 57)])), ((n 0), .inr (11, fM n))]) (hS : va_S (fun q : Nat => s.heap.size ≤ q) s.heap H locs) (ls : Array Slot) (hl : lv_has ls 4 [(3, .int 0), (2, .ref (n 0)), (1, .ref (r 0)), (0, .ref b)]) : W p l e room_1 s m #[Value.ref b] below meth c H locs 135 85080 (lw_Z below #[Value.ref b] s) (F0 m 827 ls []) := by
  obtain ⟨hx, hb, hr, hml, hown, hts0, hX, hbl, hlocks, hgv⟩ := C0
  have hts : ∀ w ∈ wsL_law, w.before #[Value.ref b] s = true := fun w h => hts0 w (wsL_law_in w h)
  have hA : ∀ q : Nat, s.heap.size ≤ q → (fun q : Nat => s.heap.size ≤ q) q := fun _ h => h
  have hbA : ¬ (fun q : Nat => s.heap.size ≤ q) b := Nat.not_le.mpr hbl
  have hown : s.vm.findClass RL = some m.cls := hown
  refine lv_aload_n hx hb dL_law_827 rfl (lv_at hl 2 rfl) ?_
  refine lv_aload_n hx hb dL_law_828 rfl (lv_at hl 3 rfl) ?_
  refine lv_iload_n hx hb dL_law_829 rfl (lv_at hl 0 rfl) ?_
  refine lv_iconst (v := 1) hx hb dL_law_830 z39 ?_
  refine lv_iadd hx hb dL_law_831 ?_
  refine tpi z281 ?_
  refine va_sld hx hb hX hbl hbA hS (vin _ _ rfl) dL_law_832 ?_
  refine tpv (v := .int x1) (congrArg Value.int e1) ?_
  refine call_iV (ci := 10) (As := [.int x1]) (rest := []) (wr := [((n 0), .inr (11, fM n))]) ⟨hx, hb, hml, hown, hts⟩ (k333_X10_best l dC dI cB cI cJ cZ cO r x1 h0 h1) (cwV 1 hts gL_law_X10_best rfl rfl rfl ⟨rfl, z1029⟩ ⟨Nat.le_of_ble_eq_true rfl, Nat.le_of_ble_eq_true rfl⟩) hK hP hD hS hA [0, 1, 2, 3, 4, 5, 6, 7, 8] [9] rfl rfl (by decide +kernel) (by decide +kernel) (by decide +kernel) rfl rfl rfl hl.1 (Nat.le_of_ble_eq_true rfl) rfl rfl dL_law_833 ⟨by decide +kernel, by decide +kernel⟩ (fun u0 H locs hP hD hS => ?_)
  refine lv_aload_n hx hb dL_law_836 rfl (lv_at hl 1 rfl) ?_
  refine lv_aload_n hx hb dL_law_837 rfl (lv_at hl 3 rfl) ?_
  refine lv_iload_n hx hb dL_law_838 rfl (lv_at hl 0 rfl) ?_
  refine lv_iconst (v := 1) hx hb dL_law_839 z39 ?_
  refine lv_iadd hx hb dL_law_840 ?_
  refine tpi z281 ?_
  refine va_sld hx hb hX hbl hbA hS (vin _ _ rfl) dL_law_841 ?_
  refine tpv (v := .int x1) (congrArg Value.int e1) ?_
  refine call_iV (ci := 11) (As := [.int x1]) (rest := [.int (-1000000)]) (wr := []) ⟨hx, hb, hml, hown, hts⟩ (k334_X11_best l dC dI cB cI cJ cZ cO n x1 h0 h2) (cwV 1 hts gL_law_X11_best rfl rfl rfl ⟨rfl, z1030⟩ ⟨Nat.le_of_ble_eq_true rfl, Nat.le_of_ble_eq_true rfl⟩) hK hP hD hS hA [0] [] rfl rfl (by decide +kernel) (by decide +kernel) (by decide +kernel) rfl rfl rfl hl.1 (Nat.le_of_ble_eq_true rfl) rfl rfl dL_law_842 ⟨by decide +kernel, by decide +kernel⟩ (fun u1 H locs hP hD hS => ?_)
  refine lv_icmp_eq (tgt := 1093) hx hb dL_law_845 z1028 (fun _ => ?_) (fun c1 => absurd (rfl) c1)
  refine lv_iinc (v := 6) (lv' := [(3, .int 6), (2, .ref (n 0)), (1, .ref (r 0)), (0, .ref b)]) hx hb dL_law_1093 hl (k := 0) rfl z943 (nlt rfl) rfl (fun ls hl => ?_)
  refine lv_goto (tgt := 18) hx hb dL_law_1096 z944 ?_
  refine lv_iload_n hx hb dL_law_18 rfl (lv_at hl 0 rfl) ?_
  refine lv_aload_n hx hb dL_law_19 rfl (lv_at hl 3 rfl) ?_
  refine va_slen hx hb hX hbl hbA hS dL_law_20 ?_
  refine tpv (v := .int 6) rfl ?_
  refine lv_bipush (v := 6) hx hb dL_law_21 z4 ?_
  refine lv_isub hx hb dL_law_23 ?_
  refine tpi z945 ?_
  refine lv_icmp_gt (tgt := 1099) hx hb dL_law_24 z947 (fun _ => ?_) (fun c1 => absurd (z946) c1)
  refine lv_iconst (v := 1) hx hb dL_law_1099 z39 ?_
  refine va_forget (fun q hq => hS.2.2 q hq) ?_
  refine W.widen (k := 600000) (n := 7302250) (by decide) (by decide) ?_
  exact lw_ret hx hb hr hlocks dL_law_1100

set_option maxHeartbeats 4000000 in
set_option maxRecDepth 100000 in
theorem lc_28_0 {p : Program} {e : Env} {s : State} {m : MethodId} {below : List Frame} {meth : Method} {c : Code} (l : Launch) {b : Nat} {xs : Nat → Int32} (C0 : lw_At p s m meth c b 6 xs) (dC : Nat → ClassId) (dI : Nat → Nat → Nat) (cB cI cJ cZ cO : ClassId) (r n : Nat → Nat) (x1 : Int32) (e1 : xs 1 = x1) (h0 : x1 < 0) (H : Heap) (locs : List Loc) (hK : va_K (dC, dI) vwCl (tyL cB cI cJ cZ cO) s) (hP : va_P (dC, dI) vwCl [((r 0), .inr (10, fX r)), ((n 0), .inr (11, fM n))] H) (hD : va_D (fun q : Nat => s.heap.size ≤ q) [((r 0), .inr (10, fX r)), ((n 0), .inr (11, fM n))]) (hS : va_S (fun q : Nat => s.heap.size ≤ q) s.heap H locs) (ls : Array Slot) (hl : lv_has ls 4 [(3, .int 0), (2, .ref (n 0)), (1, .ref (r 0)), (0, .ref b)]) : W p l e room_1 s m #[Value.ref b] below meth c H locs 135 85080 (lw_Z below #[Value.ref b] s) (F0 m 850 ls []) := by
  obtain ⟨hx, hb, hr, hml, hown, hts0, hX, hbl, hlocks, hgv⟩ := C0
  have hts : ∀ w ∈ wsL_law, w.before #[Value.ref b] s = true := fun w h => hts0 w (wsL_law_in w h)
  have hA : ∀ q : Nat, s.heap.size ≤ q → (fun q : Nat => s.heap.size ≤ q) q := fun _ h => h
  have hbA : ¬ (fun q : Nat => s.heap.size ≤ q) b := Nat.not_le.mpr hbl
  have hown : s.vm.findClass RL = some m.cls := hown
  refine lv_aload_n hx hb dL_law_850 rfl (lv_at hl 2 rfl) ?_
  refine lv_aload_n hx hb dL_law_851 rfl (lv_at hl 3 rfl) ?_
  refine lv_iload_n hx hb dL_law_852 rfl (lv_at hl 0 rfl) ?_
  refine lv_iconst (v := 1) hx hb dL_law_853 z39 ?_
  refine lv_iadd hx hb dL_law_854 ?_
  refine tpi z281 ?_
  refine va_sld hx hb hX hbl hbA hS (vin _ _ rfl) dL_law_855 ?_
  refine tpv (v := .int x1) (congrArg Value.int e1) ?_
  refine call_iV (ci := 10) (As := [.int x1]) (rest := []) (wr := [((n 0), .inr (11, fM n))]) ⟨hx, hb, hml, hown, hts⟩ (k335_X10_struck l dC dI cB cI cJ cZ cO r x1 h0) (cwV 1 hts gL_law_X10_struck rfl rfl rfl ⟨rfl, z1032⟩ ⟨Nat.le_of_ble_eq_true rfl, Nat.le_of_ble_eq_true rfl⟩) hK hP hD hS hA [0] [1] rfl rfl (by decide +kernel) (by decide +kernel) (by decide +kernel) rfl rfl rfl hl.1 (Nat.le_of_ble_eq_true rfl) rfl rfl dL_law_856 ⟨by decide +kernel, by decide +kernel⟩ (fun u0 H locs hP hD hS => ?_)
  refine lv_aload_n hx hb dL_law_859 rfl (lv_at hl 1 rfl) ?_
  refine lv_aload_n hx hb dL_law_860 rfl (lv_at hl 3 rfl) ?_
  refine lv_iload_n hx hb dL_law_861 rfl (lv_at hl 0 rfl) ?_
  refine lv_iconst (v := 1) hx hb dL_law_862 z39 ?_
  refine lv_iadd hx hb dL_law_863 ?_
  refine tpi z281 ?_
  refine va_sld hx hb hX hbl hbA hS (vin _ _ rfl) dL_law_864 ?_
  refine tpv (v := .int x1) (congrArg Value.int e1) ?_
  refine call_iV (ci := 11) (As := [.int x1]) (rest := [.int (-1)]) (wr := []) ⟨hx, hb, hml, hown, hts⟩ (k336_X11_struck l dC dI cB cI cJ cZ cO n x1 h0) (cwV 1 hts gL_law_X11_struck rfl rfl rfl ⟨rfl, z1033⟩ ⟨Nat.le_of_ble_eq_true rfl, Nat.le_of_ble_eq_true rfl⟩) hK hP hD hS hA [0] [] rfl rfl (by decide +kernel) (by decide +kernel) (by decide +kernel) rfl rfl rfl hl.1 (Nat.le_of_ble_eq_true rfl) rfl rfl dL_law_865 ⟨by decide +kernel, by decide +kernel⟩ (fun u1 H locs hP hD hS => ?_)
  refine lv_icmp_eq (tgt := 1093) hx hb dL_law_868 z1031 (fun _ => ?_) (fun c1 => absurd (rfl) c1)
  refine lv_iinc (v := 6) (lv' := [(3, .int 6), (2, .ref (n 0)), (1, .ref (r 0)), (0, .ref b)]) hx hb dL_law_1093 hl (k := 0) rfl z943 (nlt rfl) rfl (fun ls hl => ?_)
  refine lv_goto (tgt := 18) hx hb dL_law_1096 z944 ?_
  refine lv_iload_n hx hb dL_law_18 rfl (lv_at hl 0 rfl) ?_
  refine lv_aload_n hx hb dL_law_19 rfl (lv_at hl 3 rfl) ?_
  refine va_slen hx hb hX hbl hbA hS dL_law_20 ?_
  refine tpv (v := .int 6) rfl ?_
  refine lv_bipush (v := 6) hx hb dL_law_21 z4 ?_
  refine lv_isub hx hb dL_law_23 ?_
  refine tpi z945 ?_
  refine lv_icmp_gt (tgt := 1099) hx hb dL_law_24 z947 (fun _ => ?_) (fun c1 => absurd (z946) c1)
  refine lv_iconst (v := 1) hx hb dL_law_1099 z39 ?_
  refine va_forget (fun q hq => hS.2.2 q hq) ?_
  refine W.widen (k := 600000) (n := 7302250) (by decide) (by decide) ?_
  exact lw_ret hx hb hr hlocks dL_law_1100

set_option maxHeartbeats 4000000 in
set_option maxRecDepth 100000 in
theorem lc_28_1 {p : Program} {e : Env} {s : State} {m : MethodId} {below : List Frame} {meth : Method} {c : Code} (l : Launch) {b : Nat} {xs : Nat → Int32} (C0 : lw_At p s m meth c b 6 xs) (dC : Nat → ClassId) (dI : Nat → Nat → Nat) (cB cI cJ cZ cO : ClassId) (r n : Nat → Nat) (x1 : Int32) (e1 : xs 1 = x1) (h0 : ¬ x1 < 0) (h1 : ¬ 3 ≤ x1) (h2 : ¬ 2 < x1) (H : Heap) (locs : List Loc) (hK : va_K (dC, dI) vwCl (tyL cB cI cJ cZ cO) s) (hP : va_P (dC, dI) vwCl [((r 0), .inr (10, fX r)), ((r 38), .inr (0, [.ref (r 39), .int 0, .ref (r 40), .ref (r 41), .ref (r 42), .ref (r 43), .ref (r 44), .int 0, .int 0])), ((r 58), .inr (7, [.ref (r 59), .int 0, .ref (r 60)])), ((n 0), .inr (11, fM n)), ((n 5), .inl (cI, 2, .inl (fun _ => 0)))] H) (hD : va_D (fun q : Nat => s.heap.size ≤ q) [((r 0), .inr (10, fX r)), ((r 38), .inr (0, [.ref (r 39), .int 0, .ref (r 40), .ref (r 41), .ref (r 42), .ref (r 43), .ref (r 44), .int 0, .int 0])), ((r 58), .inr (7, [.ref (r 59), .int 0, .ref (r 60)])), ((n 0), .inr (11, fM n)), ((n 5), .inl (cI, 2, .inl (fun _ => 0)))]) (hS : va_S (fun q : Nat => s.heap.size ≤ q) s.heap H locs) (ls : Array Slot) (hl : lv_has ls 4 [(3, .int 0), (2, .ref (n 0)), (1, .ref (r 0)), (0, .ref b)]) : W p l e room_1 s m #[Value.ref b] below meth c H locs 135 85080 (lw_Z below #[Value.ref b] s) (F0 m 850 ls []) := by
  obtain ⟨hx, hb, hr, hml, hown, hts0, hX, hbl, hlocks, hgv⟩ := C0
  have hts : ∀ w ∈ wsL_law, w.before #[Value.ref b] s = true := fun w h => hts0 w (wsL_law_in w h)
  have hA : ∀ q : Nat, s.heap.size ≤ q → (fun q : Nat => s.heap.size ≤ q) q := fun _ h => h
  have hbA : ¬ (fun q : Nat => s.heap.size ≤ q) b := Nat.not_le.mpr hbl
  have hown : s.vm.findClass RL = some m.cls := hown
  refine lv_aload_n hx hb dL_law_850 rfl (lv_at hl 2 rfl) ?_
  refine lv_aload_n hx hb dL_law_851 rfl (lv_at hl 3 rfl) ?_
  refine lv_iload_n hx hb dL_law_852 rfl (lv_at hl 0 rfl) ?_
  refine lv_iconst (v := 1) hx hb dL_law_853 z39 ?_
  refine lv_iadd hx hb dL_law_854 ?_
  refine tpi z281 ?_
  refine va_sld hx hb hX hbl hbA hS (vin _ _ rfl) dL_law_855 ?_
  refine tpv (v := .int x1) (congrArg Value.int e1) ?_
  refine call_iV (ci := 10) (As := [.int x1]) (rest := []) (wr := [((n 0), .inr (11, fM n)), ((n 5), .inl (cI, 2, .inl (fun _ => 0)))]) ⟨hx, hb, hml, hown, hts⟩ (k337_X10_struck l dC dI cB cI cJ cZ cO r x1 h0 h1) (cwV 1 hts gL_law_X10_struck rfl rfl rfl ⟨rfl, z1032⟩ ⟨Nat.le_of_ble_eq_true rfl, Nat.le_of_ble_eq_true rfl⟩) hK hP hD hS hA [0, 1, 2] [3, 4] rfl rfl (by decide +kernel) (by decide +kernel) (by decide +kernel) rfl rfl rfl hl.1 (Nat.le_of_ble_eq_true rfl) rfl rfl dL_law_856 ⟨by decide +kernel, by decide +kernel⟩ (fun u0 H locs hP hD hS => ?_)
  refine lv_aload_n hx hb dL_law_859 rfl (lv_at hl 1 rfl) ?_
  refine lv_aload_n hx hb dL_law_860 rfl (lv_at hl 3 rfl) ?_
  refine lv_iload_n hx hb dL_law_861 rfl (lv_at hl 0 rfl) ?_
  refine lv_iconst (v := 1) hx hb dL_law_862 z39 ?_
  refine lv_iadd hx hb dL_law_863 ?_
  refine tpi z281 ?_
  refine va_sld hx hb hX hbl hbA hS (vin _ _ rfl) dL_law_864 ?_
  refine tpv (v := .int x1) (congrArg Value.int e1) ?_
  refine call_iV (ci := 11) (As := [.int x1]) (rest := [.int (-1)]) (wr := []) ⟨hx, hb, hml, hown, hts⟩ (k339_X11_struck l dC dI cB cI cJ cZ cO n x1 h0 h2) (cwV 1 hts gL_law_X11_struck rfl rfl rfl ⟨rfl, z1033⟩ ⟨Nat.le_of_ble_eq_true rfl, Nat.le_of_ble_eq_true rfl⟩) hK hP hD hS hA [0, 1] [] rfl rfl (by decide +kernel) (by decide +kernel) (by decide +kernel) rfl rfl rfl hl.1 (Nat.le_of_ble_eq_true rfl) rfl rfl dL_law_865 ⟨by decide +kernel, by decide +kernel⟩ (fun u1 H locs hP hD hS => ?_)
  refine lv_icmp_eq (tgt := 1093) hx hb dL_law_868 z1031 (fun _ => ?_) (fun c1 => absurd (rfl) c1)
  refine lv_iinc (v := 6) (lv' := [(3, .int 6), (2, .ref (n 0)), (1, .ref (r 0)), (0, .ref b)]) hx hb dL_law_1093 hl (k := 0) rfl z943 (nlt rfl) rfl (fun ls hl => ?_)
  refine lv_goto (tgt := 18) hx hb dL_law_1096 z944 ?_
  refine lv_iload_n hx hb dL_law_18 rfl (lv_at hl 0 rfl) ?_
  refine lv_aload_n hx hb dL_law_19 rfl (lv_at hl 3 rfl) ?_
  refine va_slen hx hb hX hbl hbA hS dL_law_20 ?_
  refine tpv (v := .int 6) rfl ?_
  refine lv_bipush (v := 6) hx hb dL_law_21 z4 ?_
  refine lv_isub hx hb dL_law_23 ?_
  refine tpi z945 ?_
  refine lv_icmp_gt (tgt := 1099) hx hb dL_law_24 z947 (fun _ => ?_) (fun c1 => absurd (z946) c1)
  refine lv_iconst (v := 1) hx hb dL_law_1099 z39 ?_
  refine va_forget (fun q hq => hS.2.2 q hq) ?_
  refine W.widen (k := 600000) (n := 7302250) (by decide) (by decide) ?_
  exact lw_ret hx hb hr hlocks dL_law_1100

set_option maxHeartbeats 4000000 in
set_option maxRecDepth 100000 in
theorem lc_28_2 {p : Program} {e : Env} {s : State} {m : MethodId} {below : List Frame} {meth : Method} {c : Code} (l : Launch) {b : Nat} {xs : Nat → Int32} (C0 : lw_At p s m meth c b 6 xs) (dC : Nat → ClassId) (dI : Nat → Nat → Nat) (cB cI cJ cZ cO : ClassId) (r n : Nat → Nat) (x1 : Int32) (e1 : xs 1 = x1) (h0 : ¬ x1 < 0) (h1 : 3 ≤ x1) (h2 : 2 < x1) (H : Heap) (locs : List Loc) (hK : va_K (dC, dI) vwCl (tyL cB cI cJ cZ cO) s) (hP : va_P (dC, dI) vwCl [((r 0), .inr (10, fX r)), ((n 0), .inr (11, fM n))] H) (hD : va_D (fun q : Nat => s.heap.size ≤ q) [((r 0), .inr (10, fX r)), ((n 0), .inr (11, fM n))]) (hS : va_S (fun q : Nat => s.heap.size ≤ q) s.heap H locs) (ls : Array Slot) (hl : lv_has ls 4 [(3, .int 0), (2, .ref (n 0)), (1, .ref (r 0)), (0, .ref b)]) : W p l e room_1 s m #[Value.ref b] below meth c H locs 135 85080 (lw_Z below #[Value.ref b] s) (F0 m 850 ls []) := by
  obtain ⟨hx, hb, hr, hml, hown, hts0, hX, hbl, hlocks, hgv⟩ := C0
  have hts : ∀ w ∈ wsL_law, w.before #[Value.ref b] s = true := fun w h => hts0 w (wsL_law_in w h)
  have hA : ∀ q : Nat, s.heap.size ≤ q → (fun q : Nat => s.heap.size ≤ q) q := fun _ h => h
  have hbA : ¬ (fun q : Nat => s.heap.size ≤ q) b := Nat.not_le.mpr hbl
  have hown : s.vm.findClass RL = some m.cls := hown
  refine lv_aload_n hx hb dL_law_850 rfl (lv_at hl 2 rfl) ?_
  refine lv_aload_n hx hb dL_law_851 rfl (lv_at hl 3 rfl) ?_
  refine lv_iload_n hx hb dL_law_852 rfl (lv_at hl 0 rfl) ?_
  refine lv_iconst (v := 1) hx hb dL_law_853 z39 ?_
  refine lv_iadd hx hb dL_law_854 ?_
  refine tpi z281 ?_
  refine va_sld hx hb hX hbl hbA hS (vin _ _ rfl) dL_law_855 ?_
  refine tpv (v := .int x1) (congrArg Value.int e1) ?_
  refine call_iV (ci := 10) (As := [.int x1]) (rest := []) (wr := [((n 0), .inr (11, fM n))]) ⟨hx, hb, hml, hown, hts⟩ (k340_X10_struck l dC dI cB cI cJ cZ cO r x1 h0 h1) (cwV 1 hts gL_law_X10_struck rfl rfl rfl ⟨rfl, z1032⟩ ⟨Nat.le_of_ble_eq_true rfl, Nat.le_of_ble_eq_true rfl⟩) hK hP hD hS hA [0] [1] rfl rfl (by decide +kernel) (by decide +kernel) (by decide +kernel) rfl rfl rfl hl.1 (Nat.le_of_ble_eq_true rfl) rfl rfl dL_law_856 ⟨by decide +kernel, by decide +kernel⟩ (fun u0 H locs hP hD hS => ?_)
  refine lv_aload_n hx hb dL_law_859 rfl (lv_at hl 1 rfl) ?_
  refine lv_aload_n hx hb dL_law_860 rfl (lv_at hl 3 rfl) ?_
  refine lv_iload_n hx hb dL_law_861 rfl (lv_at hl 0 rfl) ?_
  refine lv_iconst (v := 1) hx hb dL_law_862 z39 ?_
  refine lv_iadd hx hb dL_law_863 ?_
  refine tpi z281 ?_
  refine va_sld hx hb hX hbl hbA hS (vin _ _ rfl) dL_law_864 ?_
  refine tpv (v := .int x1) (congrArg Value.int e1) ?_
  refine call_iV (ci := 11) (As := [.int x1]) (rest := [.int (-1)]) (wr := []) ⟨hx, hb, hml, hown, hts⟩ (k341_X11_struck l dC dI cB cI cJ cZ cO n x1 h0 h2) (cwV 1 hts gL_law_X11_struck rfl rfl rfl ⟨rfl, z1033⟩ ⟨Nat.le_of_ble_eq_true rfl, Nat.le_of_ble_eq_true rfl⟩) hK hP hD hS hA [0] [] rfl rfl (by decide +kernel) (by decide +kernel) (by decide +kernel) rfl rfl rfl hl.1 (Nat.le_of_ble_eq_true rfl) rfl rfl dL_law_865 ⟨by decide +kernel, by decide +kernel⟩ (fun u1 H locs hP hD hS => ?_)
  refine lv_icmp_eq (tgt := 1093) hx hb dL_law_868 z1031 (fun _ => ?_) (fun c1 => absurd (rfl) c1)
  refine lv_iinc (v := 6) (lv' := [(3, .int 6), (2, .ref (n 0)), (1, .ref (r 0)), (0, .ref b)]) hx hb dL_law_1093 hl (k := 0) rfl z943 (nlt rfl) rfl (fun ls hl => ?_)
  refine lv_goto (tgt := 18) hx hb dL_law_1096 z944 ?_
  refine lv_iload_n hx hb dL_law_18 rfl (lv_at hl 0 rfl) ?_
  refine lv_aload_n hx hb dL_law_19 rfl (lv_at hl 3 rfl) ?_
  refine va_slen hx hb hX hbl hbA hS dL_law_20 ?_
  refine tpv (v := .int 6) rfl ?_
  refine lv_bipush (v := 6) hx hb dL_law_21 z4 ?_
  refine lv_isub hx hb dL_law_23 ?_
  refine tpi z945 ?_
  refine lv_icmp_gt (tgt := 1099) hx hb dL_law_24 z947 (fun _ => ?_) (fun c1 => absurd (z946) c1)
  refine lv_iconst (v := 1) hx hb dL_law_1099 z39 ?_
  refine va_forget (fun q hq => hS.2.2 q hq) ?_
  refine W.widen (k := 600000) (n := 7302250) (by decide) (by decide) ?_
  exact lw_ret hx hb hr hlocks dL_law_1100

set_option maxHeartbeats 4000000 in
set_option maxRecDepth 100000 in
theorem lc_29_0 {p : Program} {e : Env} {s : State} {m : MethodId} {below : List Frame} {meth : Method} {c : Code} (l : Launch) {b : Nat} {xs : Nat → Int32} (C0 : lw_At p s m meth c b 6 xs) (dC : Nat → ClassId) (dI : Nat → Nat → Nat) (cB cI cJ cZ cO : ClassId) (r n : Nat → Nat) (x1 : Int32) (e1 : xs 1 = x1) (h0 : x1 < 0) (H : Heap) (locs : List Loc) (hK : va_K (dC, dI) vwCl (tyL cB cI cJ cZ cO) s) (hP : va_P (dC, dI) vwCl [((r 0), .inr (10, fX r)), ((n 0), .inr (11, fM n))] H) (hD : va_D (fun q : Nat => s.heap.size ≤ q) [((r 0), .inr (10, fX r)), ((n 0), .inr (11, fM n))]) (hS : va_S (fun q : Nat => s.heap.size ≤ q) s.heap H locs) (ls : Array Slot) (hl : lv_has ls 4 [(3, .int 0), (2, .ref (n 0)), (1, .ref (r 0)), (0, .ref b)]) : W p l e room_1 s m #[Value.ref b] below meth c H locs 135 85080 (lw_Z below #[Value.ref b] s) (F0 m 873 ls []) := by
  obtain ⟨hx, hb, hr, hml, hown, hts0, hX, hbl, hlocks, hgv⟩ := C0
  have hts : ∀ w ∈ wsL_law, w.before #[Value.ref b] s = true := fun w h => hts0 w (wsL_law_in w h)
  have hA : ∀ q : Nat, s.heap.size ≤ q → (fun q : Nat => s.heap.size ≤ q) q := fun _ h => h
  have hbA : ¬ (fun q : Nat => s.heap.size ≤ q) b := Nat.not_le.mpr hbl
  have hown : s.vm.findClass RL = some m.cls := hown
  refine lv_aload_n hx hb dL_law_873 rfl (lv_at hl 2 rfl) ?_
  refine lv_aload_n hx hb dL_law_874 rfl (lv_at hl 3 rfl) ?_
  refine lv_iload_n hx hb dL_law_875 rfl (lv_at hl 0 rfl) ?_
  refine lv_iconst (v := 1) hx hb dL_law_876 z39 ?_
  refine lv_iadd hx hb dL_law_877 ?_
  refine tpi z281 ?_
  refine va_sld hx hb hX hbl hbA hS (vin _ _ rfl) dL_law_878 ?_
  refine tpv (v := .int x1) (congrArg Value.int e1) ?_
  refine call_iV (ci := 10) (As := [.int x1]) (rest := []) (wr := [((n 0), .inr (11, fM n))]) ⟨hx, hb, hml, hown, hts⟩ (k342_X10_lies l dC dI cB cI cJ cZ cO r x1 h0) (cwV 1 hts gL_law_X10_lies rfl rfl rfl ⟨rfl, z1035⟩ ⟨Nat.le_of_ble_eq_true rfl, Nat.le_of_ble_eq_true rfl⟩) hK hP hD hS hA [0] [1] rfl rfl (by decide +kernel) (by decide +kernel) (by decide +kernel) rfl rfl rfl hl.1 (Nat.le_of_ble_eq_true rfl) rfl rfl dL_law_879 ⟨by decide +kernel, by decide +kernel⟩ (fun u0 H locs hP hD hS => ?_)
  refine lv_aload_n hx hb dL_law_882 rfl (lv_at hl 1 rfl) ?_
  refine lv_aload_n hx hb dL_law_883 rfl (lv_at hl 3 rfl) ?_
  refine lv_iload_n hx hb dL_law_884 rfl (lv_at hl 0 rfl) ?_
  refine lv_iconst (v := 1) hx hb dL_law_885 z39 ?_
  refine lv_iadd hx hb dL_law_886 ?_
  refine tpi z281 ?_
  refine va_sld hx hb hX hbl hbA hS (vin _ _ rfl) dL_law_887 ?_
  refine tpv (v := .int x1) (congrArg Value.int e1) ?_
  refine call_iV (ci := 11) (As := [.int x1]) (rest := [.int (-1)]) (wr := []) ⟨hx, hb, hml, hown, hts⟩ (k343_X11_lies l dC dI cB cI cJ cZ cO n x1 h0) (cwV 1 hts gL_law_X11_lies rfl rfl rfl ⟨rfl, z1036⟩ ⟨Nat.le_of_ble_eq_true rfl, Nat.le_of_ble_eq_true rfl⟩) hK hP hD hS hA [0] [] rfl rfl (by decide +kernel) (by decide +kernel) (by decide +kernel) rfl rfl rfl hl.1 (Nat.le_of_ble_eq_true rfl) rfl rfl dL_law_888 ⟨by decide +kernel, by decide +kernel⟩ (fun u1 H locs hP hD hS => ?_)
  refine lv_icmp_eq (tgt := 1093) hx hb dL_law_891 z1034 (fun _ => ?_) (fun c1 => absurd (rfl) c1)
  refine lv_iinc (v := 6) (lv' := [(3, .int 6), (2, .ref (n 0)), (1, .ref (r 0)), (0, .ref b)]) hx hb dL_law_1093 hl (k := 0) rfl z943 (nlt rfl) rfl (fun ls hl => ?_)
  refine lv_goto (tgt := 18) hx hb dL_law_1096 z944 ?_
  refine lv_iload_n hx hb dL_law_18 rfl (lv_at hl 0 rfl) ?_
  refine lv_aload_n hx hb dL_law_19 rfl (lv_at hl 3 rfl) ?_
  refine va_slen hx hb hX hbl hbA hS dL_law_20 ?_
  refine tpv (v := .int 6) rfl ?_
  refine lv_bipush (v := 6) hx hb dL_law_21 z4 ?_
  refine lv_isub hx hb dL_law_23 ?_
  refine tpi z945 ?_
  refine lv_icmp_gt (tgt := 1099) hx hb dL_law_24 z947 (fun _ => ?_) (fun c1 => absurd (z946) c1)
  refine lv_iconst (v := 1) hx hb dL_law_1099 z39 ?_
  refine va_forget (fun q hq => hS.2.2 q hq) ?_
  refine W.widen (k := 600000) (n := 7302250) (by decide) (by decide) ?_
  exact lw_ret hx hb hr hlocks dL_law_1100

set_option maxHeartbeats 4000000 in
set_option maxRecDepth 100000 in
theorem lc_29_1 {p : Program} {e : Env} {s : State} {m : MethodId} {below : List Frame} {meth : Method} {c : Code} (l : Launch) {b : Nat} {xs : Nat → Int32} (C0 : lw_At p s m meth c b 6 xs) (dC : Nat → ClassId) (dI : Nat → Nat → Nat) (cB cI cJ cZ cO : ClassId) (r n : Nat → Nat) (x1 : Int32) (e1 : xs 1 = x1) (h0 : ¬ x1 < 0) (h1 : 0 ≤ x1) (h2 : (-1) < x1) (H : Heap) (locs : List Loc) (hK : va_K (dC, dI) vwCl (tyL cB cI cJ cZ cO) s) (hP : va_P (dC, dI) vwCl [((r 0), .inr (10, fX r)), ((n 0), .inr (11, fM n))] H) (hD : va_D (fun q : Nat => s.heap.size ≤ q) [((r 0), .inr (10, fX r)), ((n 0), .inr (11, fM n))]) (hS : va_S (fun q : Nat => s.heap.size ≤ q) s.heap H locs) (ls : Array Slot) (hl : lv_has ls 4 [(3, .int 0), (2, .ref (n 0)), (1, .ref (r 0)), (0, .ref b)]) : W p l e room_1 s m #[Value.ref b] below meth c H locs 135 85080 (lw_Z below #[Value.ref b] s) (F0 m 873 ls []) := by
  obtain ⟨hx, hb, hr, hml, hown, hts0, hX, hbl, hlocks, hgv⟩ := C0
  have hts : ∀ w ∈ wsL_law, w.before #[Value.ref b] s = true := fun w h => hts0 w (wsL_law_in w h)
  have hA : ∀ q : Nat, s.heap.size ≤ q → (fun q : Nat => s.heap.size ≤ q) q := fun _ h => h
  have hbA : ¬ (fun q : Nat => s.heap.size ≤ q) b := Nat.not_le.mpr hbl
  have hown : s.vm.findClass RL = some m.cls := hown
  refine lv_aload_n hx hb dL_law_873 rfl (lv_at hl 2 rfl) ?_
  refine lv_aload_n hx hb dL_law_874 rfl (lv_at hl 3 rfl) ?_
  refine lv_iload_n hx hb dL_law_875 rfl (lv_at hl 0 rfl) ?_
  refine lv_iconst (v := 1) hx hb dL_law_876 z39 ?_
  refine lv_iadd hx hb dL_law_877 ?_
  refine tpi z281 ?_
  refine va_sld hx hb hX hbl hbA hS (vin _ _ rfl) dL_law_878 ?_
  refine tpv (v := .int x1) (congrArg Value.int e1) ?_
  refine call_iV (ci := 10) (As := [.int x1]) (rest := []) (wr := [((n 0), .inr (11, fM n))]) ⟨hx, hb, hml, hown, hts⟩ (k344_X10_lies l dC dI cB cI cJ cZ cO r x1 h0 h1) (cwV 1 hts gL_law_X10_lies rfl rfl rfl ⟨rfl, z1035⟩ ⟨Nat.le_of_ble_eq_true rfl, Nat.le_of_ble_eq_true rfl⟩) hK hP hD hS hA [0] [1] rfl rfl (by decide +kernel) (by decide +kernel) (by decide +kernel) rfl rfl rfl hl.1 (Nat.le_of_ble_eq_true rfl) rfl rfl dL_law_879 ⟨by decide +kernel, by decide +kernel⟩ (fun u0 H locs hP hD hS => ?_)
  refine lv_aload_n hx hb dL_law_882 rfl (lv_at hl 1 rfl) ?_
  refine lv_aload_n hx hb dL_law_883 rfl (lv_at hl 3 rfl) ?_
  refine lv_iload_n hx hb dL_law_884 rfl (lv_at hl 0 rfl) ?_
  refine lv_iconst (v := 1) hx hb dL_law_885 z39 ?_
  refine lv_iadd hx hb dL_law_886 ?_
  refine tpi z281 ?_
  refine va_sld hx hb hX hbl hbA hS (vin _ _ rfl) dL_law_887 ?_
  refine tpv (v := .int x1) (congrArg Value.int e1) ?_
  refine call_iV (ci := 11) (As := [.int x1]) (rest := [.int (-1)]) (wr := []) ⟨hx, hb, hml, hown, hts⟩ (k345_X11_lies l dC dI cB cI cJ cZ cO n x1 h0 h2) (cwV 1 hts gL_law_X11_lies rfl rfl rfl ⟨rfl, z1036⟩ ⟨Nat.le_of_ble_eq_true rfl, Nat.le_of_ble_eq_true rfl⟩) hK hP hD hS hA [0] [] rfl rfl (by decide +kernel) (by decide +kernel) (by decide +kernel) rfl rfl rfl hl.1 (Nat.le_of_ble_eq_true rfl) rfl rfl dL_law_888 ⟨by decide +kernel, by decide +kernel⟩ (fun u1 H locs hP hD hS => ?_)
  refine lv_icmp_eq (tgt := 1093) hx hb dL_law_891 z1034 (fun _ => ?_) (fun c1 => absurd (rfl) c1)
  refine lv_iinc (v := 6) (lv' := [(3, .int 6), (2, .ref (n 0)), (1, .ref (r 0)), (0, .ref b)]) hx hb dL_law_1093 hl (k := 0) rfl z943 (nlt rfl) rfl (fun ls hl => ?_)
  refine lv_goto (tgt := 18) hx hb dL_law_1096 z944 ?_
  refine lv_iload_n hx hb dL_law_18 rfl (lv_at hl 0 rfl) ?_
  refine lv_aload_n hx hb dL_law_19 rfl (lv_at hl 3 rfl) ?_
  refine va_slen hx hb hX hbl hbA hS dL_law_20 ?_
  refine tpv (v := .int 6) rfl ?_
  refine lv_bipush (v := 6) hx hb dL_law_21 z4 ?_
  refine lv_isub hx hb dL_law_23 ?_
  refine tpi z945 ?_
  refine lv_icmp_gt (tgt := 1099) hx hb dL_law_24 z947 (fun _ => ?_) (fun c1 => absurd (z946) c1)
  refine lv_iconst (v := 1) hx hb dL_law_1099 z39 ?_
  refine va_forget (fun q hq => hS.2.2 q hq) ?_
  refine W.widen (k := 600000) (n := 7302250) (by decide) (by decide) ?_
  exact lw_ret hx hb hr hlocks dL_law_1100

set_option maxHeartbeats 4000000 in
set_option maxRecDepth 100000 in
theorem lc_30_0 {p : Program} {e : Env} {s : State} {m : MethodId} {below : List Frame} {meth : Method} {c : Code} (l : Launch) {b : Nat} {xs : Nat → Int32} (C0 : lw_At p s m meth c b 6 xs) (dC : Nat → ClassId) (dI : Nat → Nat → Nat) (cB cI cJ cZ cO : ClassId) (r n : Nat → Nat) (x1 : Int32) (x2 : Int32) (e1 : xs 1 = x1) (e2 : xs 2 = x2) (e3 : xs 3 = 0) (h0 : x1 < 0) (H : Heap) (locs : List Loc) (hK : va_K (dC, dI) vwCl (tyL cB cI cJ cZ cO) s) (hP : va_P (dC, dI) vwCl [((r 0), .inr (10, fX r)), ((r 18), .inr (4, [.int 0, .ref (r 19), .ref (r 20), .int 0, .ref (r 21), .ref (r 22), .int 0, .ref (r 23), .ref (r 24), .int 0, .ref (r 25), .ref (r 26), .int 3, .int 0, .int 0, .ref (r 27)])), ((n 0), .inr (11, fM n)), ((n 7), .inl (cI, 2, .inl (upd (fun _ => 0) 0 3)))] H) (hD : va_D (fun q : Nat => s.heap.size ≤ q) [((r 0), .inr (10, fX r)), ((r 18), .inr (4, [.int 0, .ref (r 19), .ref (r 20), .int 0, .ref (r 21), .ref (r 22), .int 0, .ref (r 23), .ref (r 24), .int 0, .ref (r 25), .ref (r 26), .int 3, .int 0, .int 0, .ref (r 27)])), ((n 0), .inr (11, fM n)), ((n 7), .inl (cI, 2, .inl (upd (fun _ => 0) 0 3)))]) (hS : va_S (fun q : Nat => s.heap.size ≤ q) s.heap H locs) (ls : Array Slot) (hl : lv_has ls 4 [(3, .int 0), (2, .ref (n 0)), (1, .ref (r 0)), (0, .ref b)]) : W p l e room_1 s m #[Value.ref b] below meth c H locs 135 85080 (lw_Z below #[Value.ref b] s) (F0 m 896 ls []) := by
  obtain ⟨hx, hb, hr, hml, hown, hts0, hX, hbl, hlocks, hgv⟩ := C0
  have hts : ∀ w ∈ wsL_law, w.before #[Value.ref b] s = true := fun w h => hts0 w (wsL_law_in w h)
  have hA : ∀ q : Nat, s.heap.size ≤ q → (fun q : Nat => s.heap.size ≤ q) q := fun _ h => h
  have hbA : ¬ (fun q : Nat => s.heap.size ≤ q) b := Nat.not_le.mpr hbl
  have hown : s.vm.findClass RL = some m.cls := hown
  refine lv_aload_n hx hb dL_law_896 rfl (lv_at hl 2 rfl) ?_
  refine lv_aload_n hx hb dL_law_897 rfl (lv_at hl 3 rfl) ?_
  refine lv_iload_n hx hb dL_law_898 rfl (lv_at hl 0 rfl) ?_
  refine lv_iconst (v := 1) hx hb dL_law_899 z39 ?_
  refine lv_iadd hx hb dL_law_900 ?_
  refine tpi z281 ?_
  refine va_sld hx hb hX hbl hbA hS (vin _ _ rfl) dL_law_901 ?_
  refine tpv (v := .int x1) (congrArg Value.int e1) ?_
  refine lv_aload_n hx hb dL_law_902 rfl (lv_at hl 3 rfl) ?_
  refine lv_iload_n hx hb dL_law_903 rfl (lv_at hl 0 rfl) ?_
  refine lv_iconst (v := 2) hx hb dL_law_904 z54 ?_
  refine lv_iadd hx hb dL_law_905 ?_
  refine tpi z362 ?_
  refine va_sld hx hb hX hbl hbA hS (vin _ _ rfl) dL_law_906 ?_
  refine tpv (v := .int x2) (congrArg Value.int e2) ?_
  refine lv_aload_n hx hb dL_law_907 rfl (lv_at hl 3 rfl) ?_
  refine lv_iload_n hx hb dL_law_908 rfl (lv_at hl 0 rfl) ?_
  refine lv_iconst (v := 3) hx hb dL_law_909 z69 ?_
  refine lv_iadd hx hb dL_law_910 ?_
  refine tpi z368 ?_
  refine va_sld hx hb hX hbl hbA hS (vin _ _ rfl) dL_law_911 ?_
  refine tpv (v := .int 0) (congrArg Value.int e3) ?_
  refine lv_if_eq (tgt := 919) hx hb dL_law_912 z1037 (fun _ => ?_) (fun c1 => absurd (rfl) c1)
  refine lv_iconst (v := 0) hx hb dL_law_919 z8 ?_
  refine call_iV (ci := 10) (As := [.int x1, .int x2, .int 0]) (rest := []) (wr := [((n 0), .inr (11, fM n)), ((n 7), .inl (cI, 2, .inl (upd (fun _ => 0) 0 3)))]) ⟨hx, hb, hml, hown, hts⟩ (k346_X10_seen l dC dI cB cI cJ cZ cO r x1 x2 h0) (cwV 3 hts gL_law_X10_seen rfl rfl rfl ⟨rfl, z1040⟩ ⟨Nat.le_of_ble_eq_true rfl, Nat.le_of_ble_eq_true rfl⟩) hK hP hD hS hA [0, 1] [2, 3] rfl rfl (by decide +kernel) (by decide +kernel) (by decide +kernel) rfl rfl rfl hl.1 (Nat.le_of_ble_eq_true rfl) rfl rfl dL_law_920 ⟨by decide +kernel, by decide +kernel⟩ (fun u0 H locs hP hD hS => ?_)
  refine lv_aload_n hx hb dL_law_923 rfl (lv_at hl 1 rfl) ?_
  refine lv_aload_n hx hb dL_law_924 rfl (lv_at hl 3 rfl) ?_
  refine lv_iload_n hx hb dL_law_925 rfl (lv_at hl 0 rfl) ?_
  refine lv_iconst (v := 1) hx hb dL_law_926 z39 ?_
  refine lv_iadd hx hb dL_law_927 ?_
  refine tpi z281 ?_
  refine va_sld hx hb hX hbl hbA hS (vin _ _ rfl) dL_law_928 ?_
  refine tpv (v := .int x1) (congrArg Value.int e1) ?_
  refine lv_aload_n hx hb dL_law_929 rfl (lv_at hl 3 rfl) ?_
  refine lv_iload_n hx hb dL_law_930 rfl (lv_at hl 0 rfl) ?_
  refine lv_iconst (v := 2) hx hb dL_law_931 z54 ?_
  refine lv_iadd hx hb dL_law_932 ?_
  refine tpi z362 ?_
  refine va_sld hx hb hX hbl hbA hS (vin _ _ rfl) dL_law_933 ?_
  refine tpv (v := .int x2) (congrArg Value.int e2) ?_
  refine lv_aload_n hx hb dL_law_934 rfl (lv_at hl 3 rfl) ?_
  refine lv_iload_n hx hb dL_law_935 rfl (lv_at hl 0 rfl) ?_
  refine lv_iconst (v := 3) hx hb dL_law_936 z69 ?_
  refine lv_iadd hx hb dL_law_937 ?_
  refine tpi z368 ?_
  refine va_sld hx hb hX hbl hbA hS (vin _ _ rfl) dL_law_938 ?_
  refine tpv (v := .int 0) (congrArg Value.int e3) ?_
  refine lv_if_eq (tgt := 946) hx hb dL_law_939 z1038 (fun _ => ?_) (fun c1 => absurd (rfl) c1)
  refine lv_iconst (v := 0) hx hb dL_law_946 z8 ?_
  refine call_iV (ci := 11) (As := [.int x1, .int x2, .int 0]) (rest := [.int (-1)]) (wr := []) ⟨hx, hb, hml, hown, hts⟩ (k347_X11_seen l dC dI cB cI cJ cZ cO n x1 x2 h0) (cwV 3 hts gL_law_X11_seen rfl rfl rfl ⟨rfl, z1041⟩ ⟨Nat.le_of_ble_eq_true rfl, Nat.le_of_ble_eq_true rfl⟩) hK hP hD hS hA [0, 1] [] rfl rfl (by decide +kernel) (by decide +kernel) (by decide +kernel) rfl rfl rfl hl.1 (Nat.le_of_ble_eq_true rfl) rfl rfl dL_law_947 ⟨by decide +kernel, by decide +kernel⟩ (fun u1 H locs hP hD hS => ?_)
  refine lv_icmp_eq (tgt := 1093) hx hb dL_law_950 z1039 (fun _ => ?_) (fun c1 => absurd (rfl) c1)
  refine lv_iinc (v := 6) (lv' := [(3, .int 6), (2, .ref (n 0)), (1, .ref (r 0)), (0, .ref b)]) hx hb dL_law_1093 hl (k := 0) rfl z943 (nlt rfl) rfl (fun ls hl => ?_)
  refine lv_goto (tgt := 18) hx hb dL_law_1096 z944 ?_
  refine lv_iload_n hx hb dL_law_18 rfl (lv_at hl 0 rfl) ?_
  refine lv_aload_n hx hb dL_law_19 rfl (lv_at hl 3 rfl) ?_
  refine va_slen hx hb hX hbl hbA hS dL_law_20 ?_
  refine tpv (v := .int 6) rfl ?_
  refine lv_bipush (v := 6) hx hb dL_law_21 z4 ?_
  refine lv_isub hx hb dL_law_23 ?_
  refine tpi z945 ?_
  refine lv_icmp_gt (tgt := 1099) hx hb dL_law_24 z947 (fun _ => ?_) (fun c1 => absurd (z946) c1)
  refine lv_iconst (v := 1) hx hb dL_law_1099 z39 ?_
  refine va_forget (fun q hq => hS.2.2 q hq) ?_
  refine W.widen (k := 600000) (n := 7302250) (by decide) (by decide) ?_
  exact lw_ret hx hb hr hlocks dL_law_1100

set_option maxHeartbeats 4000000 in
set_option maxRecDepth 100000 in
theorem lc_30_1 {p : Program} {e : Env} {s : State} {m : MethodId} {below : List Frame} {meth : Method} {c : Code} (l : Launch) {b : Nat} {xs : Nat → Int32} (C0 : lw_At p s m meth c b 6 xs) (dC : Nat → ClassId) (dI : Nat → Nat → Nat) (cB cI cJ cZ cO : ClassId) (r n : Nat → Nat) (x1 : Int32) (x2 : Int32) (x3 : Int32) (e1 : xs 1 = x1) (e2 : xs 2 = x2) (e3 : xs 3 = x3) (h0 : ¬ x3 = 0) (h1 : x1 < 0) (H : Heap) (locs : List Loc) (hK : va_K (dC, dI) vwCl (tyL cB cI cJ cZ cO) s) (hP : va_P (dC, dI) vwCl [((r 0), .inr (10, fX r)), ((r 18), .inr (4, [.int 0, .ref (r 19), .ref (r 20), .int 0, .ref (r 21), .ref (r 22), .int 0, .ref (r 23), .ref (r 24), .int 0, .ref (r 25), .ref (r 26), .int 3, .int 0, .int 0, .ref (r 27)])), ((n 0), .inr (11, fM n)), ((n 7), .inl (cI, 2, .inl (upd (fun _ => 0) 0 3)))] H) (hD : va_D (fun q : Nat => s.heap.size ≤ q) [((r 0), .inr (10, fX r)), ((r 18), .inr (4, [.int 0, .ref (r 19), .ref (r 20), .int 0, .ref (r 21), .ref (r 22), .int 0, .ref (r 23), .ref (r 24), .int 0, .ref (r 25), .ref (r 26), .int 3, .int 0, .int 0, .ref (r 27)])), ((n 0), .inr (11, fM n)), ((n 7), .inl (cI, 2, .inl (upd (fun _ => 0) 0 3)))]) (hS : va_S (fun q : Nat => s.heap.size ≤ q) s.heap H locs) (ls : Array Slot) (hl : lv_has ls 4 [(3, .int 0), (2, .ref (n 0)), (1, .ref (r 0)), (0, .ref b)]) : W p l e room_1 s m #[Value.ref b] below meth c H locs 135 85080 (lw_Z below #[Value.ref b] s) (F0 m 896 ls []) := by
  obtain ⟨hx, hb, hr, hml, hown, hts0, hX, hbl, hlocks, hgv⟩ := C0
  have hts : ∀ w ∈ wsL_law, w.before #[Value.ref b] s = true := fun w h => hts0 w (wsL_law_in w h)
  have hA : ∀ q : Nat, s.heap.size ≤ q → (fun q : Nat => s.heap.size ≤ q) q := fun _ h => h
  have hbA : ¬ (fun q : Nat => s.heap.size ≤ q) b := Nat.not_le.mpr hbl
  have hown : s.vm.findClass RL = some m.cls := hown
  refine lv_aload_n hx hb dL_law_896 rfl (lv_at hl 2 rfl) ?_
  refine lv_aload_n hx hb dL_law_897 rfl (lv_at hl 3 rfl) ?_
  refine lv_iload_n hx hb dL_law_898 rfl (lv_at hl 0 rfl) ?_
  refine lv_iconst (v := 1) hx hb dL_law_899 z39 ?_
  refine lv_iadd hx hb dL_law_900 ?_
  refine tpi z281 ?_
  refine va_sld hx hb hX hbl hbA hS (vin _ _ rfl) dL_law_901 ?_
  refine tpv (v := .int x1) (congrArg Value.int e1) ?_
  refine lv_aload_n hx hb dL_law_902 rfl (lv_at hl 3 rfl) ?_
  refine lv_iload_n hx hb dL_law_903 rfl (lv_at hl 0 rfl) ?_
  refine lv_iconst (v := 2) hx hb dL_law_904 z54 ?_
  refine lv_iadd hx hb dL_law_905 ?_
  refine tpi z362 ?_
  refine va_sld hx hb hX hbl hbA hS (vin _ _ rfl) dL_law_906 ?_
  refine tpv (v := .int x2) (congrArg Value.int e2) ?_
  refine lv_aload_n hx hb dL_law_907 rfl (lv_at hl 3 rfl) ?_
  refine lv_iload_n hx hb dL_law_908 rfl (lv_at hl 0 rfl) ?_
  refine lv_iconst (v := 3) hx hb dL_law_909 z69 ?_
  refine lv_iadd hx hb dL_law_910 ?_
  refine tpi z368 ?_
  refine va_sld hx hb hX hbl hbA hS (vin _ _ rfl) dL_law_911 ?_
  refine tpv (v := .int x3) (congrArg Value.int e3) ?_
  refine lv_if_eq (tgt := 919) hx hb dL_law_912 z1037 (fun c1 => absurd c1 (h0)) (fun _ => ?_)
  refine lv_iconst (v := 1) hx hb dL_law_915 z39 ?_
  refine lv_goto (tgt := 920) hx hb dL_law_916 z1042 ?_
  refine call_iV (ci := 10) (As := [.int x1, .int x2, .int 1]) (rest := []) (wr := [((n 0), .inr (11, fM n)), ((n 7), .inl (cI, 2, .inl (upd (fun _ => 0) 0 3)))]) ⟨hx, hb, hml, hown, hts⟩ (k348_X10_seen l dC dI cB cI cJ cZ cO r x1 x2 h1) (cwV 3 hts gL_law_X10_seen rfl rfl rfl ⟨rfl, z1040⟩ ⟨Nat.le_of_ble_eq_true rfl, Nat.le_of_ble_eq_true rfl⟩) hK hP hD hS hA [0, 1] [2, 3] rfl rfl (by decide +kernel) (by decide +kernel) (by decide +kernel) rfl rfl rfl hl.1 (Nat.le_of_ble_eq_true rfl) rfl rfl dL_law_920 ⟨by decide +kernel, by decide +kernel⟩ (fun u0 H locs hP hD hS => ?_)
  refine lv_aload_n hx hb dL_law_923 rfl (lv_at hl 1 rfl) ?_
  refine lv_aload_n hx hb dL_law_924 rfl (lv_at hl 3 rfl) ?_
  refine lv_iload_n hx hb dL_law_925 rfl (lv_at hl 0 rfl) ?_
  refine lv_iconst (v := 1) hx hb dL_law_926 z39 ?_
  refine lv_iadd hx hb dL_law_927 ?_
  refine tpi z281 ?_
  refine va_sld hx hb hX hbl hbA hS (vin _ _ rfl) dL_law_928 ?_
  refine tpv (v := .int x1) (congrArg Value.int e1) ?_
  refine lv_aload_n hx hb dL_law_929 rfl (lv_at hl 3 rfl) ?_
  refine lv_iload_n hx hb dL_law_930 rfl (lv_at hl 0 rfl) ?_
  refine lv_iconst (v := 2) hx hb dL_law_931 z54 ?_
  refine lv_iadd hx hb dL_law_932 ?_
  refine tpi z362 ?_
  refine va_sld hx hb hX hbl hbA hS (vin _ _ rfl) dL_law_933 ?_
  refine tpv (v := .int x2) (congrArg Value.int e2) ?_
  refine lv_aload_n hx hb dL_law_934 rfl (lv_at hl 3 rfl) ?_
  refine lv_iload_n hx hb dL_law_935 rfl (lv_at hl 0 rfl) ?_
  refine lv_iconst (v := 3) hx hb dL_law_936 z69 ?_
  refine lv_iadd hx hb dL_law_937 ?_
  refine tpi z368 ?_
  refine va_sld hx hb hX hbl hbA hS (vin _ _ rfl) dL_law_938 ?_
  refine tpv (v := .int x3) (congrArg Value.int e3) ?_
  refine lv_if_eq (tgt := 946) hx hb dL_law_939 z1038 (fun c1 => absurd c1 (h0)) (fun _ => ?_)
  refine lv_iconst (v := 1) hx hb dL_law_942 z39 ?_
  refine lv_goto (tgt := 947) hx hb dL_law_943 z1043 ?_
  refine call_iV (ci := 11) (As := [.int x1, .int x2, .int 1]) (rest := [.int (-1)]) (wr := []) ⟨hx, hb, hml, hown, hts⟩ (k349_X11_seen l dC dI cB cI cJ cZ cO n x1 x2 h1) (cwV 3 hts gL_law_X11_seen rfl rfl rfl ⟨rfl, z1041⟩ ⟨Nat.le_of_ble_eq_true rfl, Nat.le_of_ble_eq_true rfl⟩) hK hP hD hS hA [0, 1] [] rfl rfl (by decide +kernel) (by decide +kernel) (by decide +kernel) rfl rfl rfl hl.1 (Nat.le_of_ble_eq_true rfl) rfl rfl dL_law_947 ⟨by decide +kernel, by decide +kernel⟩ (fun u1 H locs hP hD hS => ?_)
  refine lv_icmp_eq (tgt := 1093) hx hb dL_law_950 z1039 (fun _ => ?_) (fun c1 => absurd (rfl) c1)
  refine lv_iinc (v := 6) (lv' := [(3, .int 6), (2, .ref (n 0)), (1, .ref (r 0)), (0, .ref b)]) hx hb dL_law_1093 hl (k := 0) rfl z943 (nlt rfl) rfl (fun ls hl => ?_)
  refine lv_goto (tgt := 18) hx hb dL_law_1096 z944 ?_
  refine lv_iload_n hx hb dL_law_18 rfl (lv_at hl 0 rfl) ?_
  refine lv_aload_n hx hb dL_law_19 rfl (lv_at hl 3 rfl) ?_
  refine va_slen hx hb hX hbl hbA hS dL_law_20 ?_
  refine tpv (v := .int 6) rfl ?_
  refine lv_bipush (v := 6) hx hb dL_law_21 z4 ?_
  refine lv_isub hx hb dL_law_23 ?_
  refine tpi z945 ?_
  refine lv_icmp_gt (tgt := 1099) hx hb dL_law_24 z947 (fun _ => ?_) (fun c1 => absurd (z946) c1)
  refine lv_iconst (v := 1) hx hb dL_law_1099 z39 ?_
  refine va_forget (fun q hq => hS.2.2 q hq) ?_
  refine W.widen (k := 600000) (n := 7302250) (by decide) (by decide) ?_
  exact lw_ret hx hb hr hlocks dL_law_1100

set_option maxHeartbeats 4000000 in
set_option maxRecDepth 100000 in
theorem lc_30_2 {p : Program} {e : Env} {s : State} {m : MethodId} {below : List Frame} {meth : Method} {c : Code} (l : Launch) {b : Nat} {xs : Nat → Int32} (C0 : lw_At p s m meth c b 6 xs) (dC : Nat → ClassId) (dI : Nat → Nat → Nat) (cB cI cJ cZ cO : ClassId) (r n : Nat → Nat) (x1 : Int32) (x2 : Int32) (e1 : xs 1 = x1) (e2 : xs 2 = x2) (e3 : xs 3 = 0) (h0 : ¬ x1 < 0) (h1 : 3 ≤ x1) (h2 : 2 < x1) (H : Heap) (locs : List Loc) (hK : va_K (dC, dI) vwCl (tyL cB cI cJ cZ cO) s) (hP : va_P (dC, dI) vwCl [((r 0), .inr (10, fX r)), ((r 18), .inr (4, [.int 0, .ref (r 19), .ref (r 20), .int 0, .ref (r 21), .ref (r 22), .int 0, .ref (r 23), .ref (r 24), .int 0, .ref (r 25), .ref (r 26), .int 3, .int 0, .int 0, .ref (r 27)])), ((n 0), .inr (11, fM n)), ((n 7), .inl (cI, 2, .inl (upd (fun _ => 0) 0 3)))] H) (hD : va_D (fun q : Nat => s.heap.size ≤ q) [((r 0), .inr (10, fX r)), ((r 18), .inr (4, [.int 0, .ref (r 19), .ref (r 20), .int 0, .ref (r 21), .ref (r 22), .int 0, .ref (r 23), .ref (r 24), .int 0, .ref (r 25), .ref (r 26), .int 3, .int 0, .int 0, .ref (r 27)])), ((n 0), .inr (11, fM n)), ((n 7), .inl (cI, 2, .inl (upd (fun _ => 0) 0 3)))]) (hS : va_S (fun q : Nat => s.heap.size ≤ q) s.heap H locs) (ls : Array Slot) (hl : lv_has ls 4 [(3, .int 0), (2, .ref (n 0)), (1, .ref (r 0)), (0, .ref b)]) : W p l e room_1 s m #[Value.ref b] below meth c H locs 135 85080 (lw_Z below #[Value.ref b] s) (F0 m 896 ls []) := by
  obtain ⟨hx, hb, hr, hml, hown, hts0, hX, hbl, hlocks, hgv⟩ := C0
  have hts : ∀ w ∈ wsL_law, w.before #[Value.ref b] s = true := fun w h => hts0 w (wsL_law_in w h)
  have hA : ∀ q : Nat, s.heap.size ≤ q → (fun q : Nat => s.heap.size ≤ q) q := fun _ h => h
  have hbA : ¬ (fun q : Nat => s.heap.size ≤ q) b := Nat.not_le.mpr hbl
  have hown : s.vm.findClass RL = some m.cls := hown
  refine lv_aload_n hx hb dL_law_896 rfl (lv_at hl 2 rfl) ?_
  refine lv_aload_n hx hb dL_law_897 rfl (lv_at hl 3 rfl) ?_
  refine lv_iload_n hx hb dL_law_898 rfl (lv_at hl 0 rfl) ?_
  refine lv_iconst (v := 1) hx hb dL_law_899 z39 ?_
  refine lv_iadd hx hb dL_law_900 ?_
  refine tpi z281 ?_
  refine va_sld hx hb hX hbl hbA hS (vin _ _ rfl) dL_law_901 ?_
  refine tpv (v := .int x1) (congrArg Value.int e1) ?_
  refine lv_aload_n hx hb dL_law_902 rfl (lv_at hl 3 rfl) ?_
  refine lv_iload_n hx hb dL_law_903 rfl (lv_at hl 0 rfl) ?_
  refine lv_iconst (v := 2) hx hb dL_law_904 z54 ?_
  refine lv_iadd hx hb dL_law_905 ?_
  refine tpi z362 ?_
  refine va_sld hx hb hX hbl hbA hS (vin _ _ rfl) dL_law_906 ?_
  refine tpv (v := .int x2) (congrArg Value.int e2) ?_
  refine lv_aload_n hx hb dL_law_907 rfl (lv_at hl 3 rfl) ?_
  refine lv_iload_n hx hb dL_law_908 rfl (lv_at hl 0 rfl) ?_
  refine lv_iconst (v := 3) hx hb dL_law_909 z69 ?_
  refine lv_iadd hx hb dL_law_910 ?_
  refine tpi z368 ?_
  refine va_sld hx hb hX hbl hbA hS (vin _ _ rfl) dL_law_911 ?_
  refine tpv (v := .int 0) (congrArg Value.int e3) ?_
  refine lv_if_eq (tgt := 919) hx hb dL_law_912 z1037 (fun _ => ?_) (fun c1 => absurd (rfl) c1)
  refine lv_iconst (v := 0) hx hb dL_law_919 z8 ?_
  refine call_iV (ci := 10) (As := [.int x1, .int x2, .int 0]) (rest := []) (wr := [((n 0), .inr (11, fM n)), ((n 7), .inl (cI, 2, .inl (upd (fun _ => 0) 0 3)))]) ⟨hx, hb, hml, hown, hts⟩ (k350_X10_seen l dC dI cB cI cJ cZ cO r x1 x2 h0 h1) (cwV 3 hts gL_law_X10_seen rfl rfl rfl ⟨rfl, z1040⟩ ⟨Nat.le_of_ble_eq_true rfl, Nat.le_of_ble_eq_true rfl⟩) hK hP hD hS hA [0, 1] [2, 3] rfl rfl (by decide +kernel) (by decide +kernel) (by decide +kernel) rfl rfl rfl hl.1 (Nat.le_of_ble_eq_true rfl) rfl rfl dL_law_920 ⟨by decide +kernel, by decide +kernel⟩ (fun u0 H locs hP hD hS => ?_)
  refine lv_aload_n hx hb dL_law_923 rfl (lv_at hl 1 rfl) ?_
  refine lv_aload_n hx hb dL_law_924 rfl (lv_at hl 3 rfl) ?_
  refine lv_iload_n hx hb dL_law_925 rfl (lv_at hl 0 rfl) ?_
  refine lv_iconst (v := 1) hx hb dL_law_926 z39 ?_
  refine lv_iadd hx hb dL_law_927 ?_
  refine tpi z281 ?_
  refine va_sld hx hb hX hbl hbA hS (vin _ _ rfl) dL_law_928 ?_
  refine tpv (v := .int x1) (congrArg Value.int e1) ?_
  refine lv_aload_n hx hb dL_law_929 rfl (lv_at hl 3 rfl) ?_
  refine lv_iload_n hx hb dL_law_930 rfl (lv_at hl 0 rfl) ?_
  refine lv_iconst (v := 2) hx hb dL_law_931 z54 ?_
  refine lv_iadd hx hb dL_law_932 ?_
  refine tpi z362 ?_
  refine va_sld hx hb hX hbl hbA hS (vin _ _ rfl) dL_law_933 ?_
  refine tpv (v := .int x2) (congrArg Value.int e2) ?_
  refine lv_aload_n hx hb dL_law_934 rfl (lv_at hl 3 rfl) ?_
  refine lv_iload_n hx hb dL_law_935 rfl (lv_at hl 0 rfl) ?_
  refine lv_iconst (v := 3) hx hb dL_law_936 z69 ?_
  refine lv_iadd hx hb dL_law_937 ?_
  refine tpi z368 ?_
  refine va_sld hx hb hX hbl hbA hS (vin _ _ rfl) dL_law_938 ?_
  refine tpv (v := .int 0) (congrArg Value.int e3) ?_
  refine lv_if_eq (tgt := 946) hx hb dL_law_939 z1038 (fun _ => ?_) (fun c1 => absurd (rfl) c1)
  refine lv_iconst (v := 0) hx hb dL_law_946 z8 ?_
  refine call_iV (ci := 11) (As := [.int x1, .int x2, .int 0]) (rest := [.int (-1)]) (wr := []) ⟨hx, hb, hml, hown, hts⟩ (k351_X11_seen l dC dI cB cI cJ cZ cO n x1 x2 h0 h2) (cwV 3 hts gL_law_X11_seen rfl rfl rfl ⟨rfl, z1041⟩ ⟨Nat.le_of_ble_eq_true rfl, Nat.le_of_ble_eq_true rfl⟩) hK hP hD hS hA [0, 1] [] rfl rfl (by decide +kernel) (by decide +kernel) (by decide +kernel) rfl rfl rfl hl.1 (Nat.le_of_ble_eq_true rfl) rfl rfl dL_law_947 ⟨by decide +kernel, by decide +kernel⟩ (fun u1 H locs hP hD hS => ?_)
  refine lv_icmp_eq (tgt := 1093) hx hb dL_law_950 z1039 (fun _ => ?_) (fun c1 => absurd (rfl) c1)
  refine lv_iinc (v := 6) (lv' := [(3, .int 6), (2, .ref (n 0)), (1, .ref (r 0)), (0, .ref b)]) hx hb dL_law_1093 hl (k := 0) rfl z943 (nlt rfl) rfl (fun ls hl => ?_)
  refine lv_goto (tgt := 18) hx hb dL_law_1096 z944 ?_
  refine lv_iload_n hx hb dL_law_18 rfl (lv_at hl 0 rfl) ?_
  refine lv_aload_n hx hb dL_law_19 rfl (lv_at hl 3 rfl) ?_
  refine va_slen hx hb hX hbl hbA hS dL_law_20 ?_
  refine tpv (v := .int 6) rfl ?_
  refine lv_bipush (v := 6) hx hb dL_law_21 z4 ?_
  refine lv_isub hx hb dL_law_23 ?_
  refine tpi z945 ?_
  refine lv_icmp_gt (tgt := 1099) hx hb dL_law_24 z947 (fun _ => ?_) (fun c1 => absurd (z946) c1)
  refine lv_iconst (v := 1) hx hb dL_law_1099 z39 ?_
  refine va_forget (fun q hq => hS.2.2 q hq) ?_
  refine W.widen (k := 600000) (n := 7302250) (by decide) (by decide) ?_
  exact lw_ret hx hb hr hlocks dL_law_1100

set_option maxHeartbeats 4000000 in
set_option maxRecDepth 100000 in
theorem lc_30_3 {p : Program} {e : Env} {s : State} {m : MethodId} {below : List Frame} {meth : Method} {c : Code} (l : Launch) {b : Nat} {xs : Nat → Int32} (C0 : lw_At p s m meth c b 6 xs) (dC : Nat → ClassId) (dI : Nat → Nat → Nat) (cB cI cJ cZ cO : ClassId) (r n : Nat → Nat) (x1 : Int32) (x2 : Int32) (x3 : Int32) (e1 : xs 1 = x1) (e2 : xs 2 = x2) (e3 : xs 3 = x3) (h0 : ¬ x3 = 0) (h1 : ¬ x1 < 0) (h2 : 3 ≤ x1) (h3 : 2 < x1) (H : Heap) (locs : List Loc) (hK : va_K (dC, dI) vwCl (tyL cB cI cJ cZ cO) s) (hP : va_P (dC, dI) vwCl [((r 0), .inr (10, fX r)), ((r 18), .inr (4, [.int 0, .ref (r 19), .ref (r 20), .int 0, .ref (r 21), .ref (r 22), .int 0, .ref (r 23), .ref (r 24), .int 0, .ref (r 25), .ref (r 26), .int 3, .int 0, .int 0, .ref (r 27)])), ((n 0), .inr (11, fM n)), ((n 7), .inl (cI, 2, .inl (upd (fun _ => 0) 0 3)))] H) (hD : va_D (fun q : Nat => s.heap.size ≤ q) [((r 0), .inr (10, fX r)), ((r 18), .inr (4, [.int 0, .ref (r 19), .ref (r 20), .int 0, .ref (r 21), .ref (r 22), .int 0, .ref (r 23), .ref (r 24), .int 0, .ref (r 25), .ref (r 26), .int 3, .int 0, .int 0, .ref (r 27)])), ((n 0), .inr (11, fM n)), ((n 7), .inl (cI, 2, .inl (upd (fun _ => 0) 0 3)))]) (hS : va_S (fun q : Nat => s.heap.size ≤ q) s.heap H locs) (ls : Array Slot) (hl : lv_has ls 4 [(3, .int 0), (2, .ref (n 0)), (1, .ref (r 0)), (0, .ref b)]) : W p l e room_1 s m #[Value.ref b] below meth c H locs 135 85080 (lw_Z below #[Value.ref b] s) (F0 m 896 ls []) := by
  obtain ⟨hx, hb, hr, hml, hown, hts0, hX, hbl, hlocks, hgv⟩ := C0
  have hts : ∀ w ∈ wsL_law, w.before #[Value.ref b] s = true := fun w h => hts0 w (wsL_law_in w h)
  have hA : ∀ q : Nat, s.heap.size ≤ q → (fun q : Nat => s.heap.size ≤ q) q := fun _ h => h
  have hbA : ¬ (fun q : Nat => s.heap.size ≤ q) b := Nat.not_le.mpr hbl
  have hown : s.vm.findClass RL = some m.cls := hown
  refine lv_aload_n hx hb dL_law_896 rfl (lv_at hl 2 rfl) ?_
  refine lv_aload_n hx hb dL_law_897 rfl (lv_at hl 3 rfl) ?_
  refine lv_iload_n hx hb dL_law_898 rfl (lv_at hl 0 rfl) ?_
  refine lv_iconst (v := 1) hx hb dL_law_899 z39 ?_
  refine lv_iadd hx hb dL_law_900 ?_
  refine tpi z281 ?_
  refine va_sld hx hb hX hbl hbA hS (vin _ _ rfl) dL_law_901 ?_
  refine tpv (v := .int x1) (congrArg Value.int e1) ?_
  refine lv_aload_n hx hb dL_law_902 rfl (lv_at hl 3 rfl) ?_
  refine lv_iload_n hx hb dL_law_903 rfl (lv_at hl 0 rfl) ?_
  refine lv_iconst (v := 2) hx hb dL_law_904 z54 ?_
  refine lv_iadd hx hb dL_law_905 ?_
  refine tpi z362 ?_
  refine va_sld hx hb hX hbl hbA hS (vin _ _ rfl) dL_law_906 ?_
  refine tpv (v := .int x2) (congrArg Value.int e2) ?_
  refine lv_aload_n hx hb dL_law_907 rfl (lv_at hl 3 rfl) ?_
  refine lv_iload_n hx hb dL_law_908 rfl (lv_at hl 0 rfl) ?_
  refine lv_iconst (v := 3) hx hb dL_law_909 z69 ?_
  refine lv_iadd hx hb dL_law_910 ?_
  refine tpi z368 ?_
  refine va_sld hx hb hX hbl hbA hS (vin _ _ rfl) dL_law_911 ?_
  refine tpv (v := .int x3) (congrArg Value.int e3) ?_
  refine lv_if_eq (tgt := 919) hx hb dL_law_912 z1037 (fun c1 => absurd c1 (h0)) (fun _ => ?_)
  refine lv_iconst (v := 1) hx hb dL_law_915 z39 ?_
  refine lv_goto (tgt := 920) hx hb dL_law_916 z1042 ?_
  refine call_iV (ci := 10) (As := [.int x1, .int x2, .int 1]) (rest := []) (wr := [((n 0), .inr (11, fM n)), ((n 7), .inl (cI, 2, .inl (upd (fun _ => 0) 0 3)))]) ⟨hx, hb, hml, hown, hts⟩ (k352_X10_seen l dC dI cB cI cJ cZ cO r x1 x2 h1 h2) (cwV 3 hts gL_law_X10_seen rfl rfl rfl ⟨rfl, z1040⟩ ⟨Nat.le_of_ble_eq_true rfl, Nat.le_of_ble_eq_true rfl⟩) hK hP hD hS hA [0, 1] [2, 3] rfl rfl (by decide +kernel) (by decide +kernel) (by decide +kernel) rfl rfl rfl hl.1 (Nat.le_of_ble_eq_true rfl) rfl rfl dL_law_920 ⟨by decide +kernel, by decide +kernel⟩ (fun u0 H locs hP hD hS => ?_)
  refine lv_aload_n hx hb dL_law_923 rfl (lv_at hl 1 rfl) ?_
  refine lv_aload_n hx hb dL_law_924 rfl (lv_at hl 3 rfl) ?_
  refine lv_iload_n hx hb dL_law_925 rfl (lv_at hl 0 rfl) ?_
  refine lv_iconst (v := 1) hx hb dL_law_926 z39 ?_
  refine lv_iadd hx hb dL_law_927 ?_
  refine tpi z281 ?_
  refine va_sld hx hb hX hbl hbA hS (vin _ _ rfl) dL_law_928 ?_
  refine tpv (v := .int x1) (congrArg Value.int e1) ?_
  refine lv_aload_n hx hb dL_law_929 rfl (lv_at hl 3 rfl) ?_
  refine lv_iload_n hx hb dL_law_930 rfl (lv_at hl 0 rfl) ?_
  refine lv_iconst (v := 2) hx hb dL_law_931 z54 ?_
  refine lv_iadd hx hb dL_law_932 ?_
  refine tpi z362 ?_
  refine va_sld hx hb hX hbl hbA hS (vin _ _ rfl) dL_law_933 ?_
  refine tpv (v := .int x2) (congrArg Value.int e2) ?_
  refine lv_aload_n hx hb dL_law_934 rfl (lv_at hl 3 rfl) ?_
  refine lv_iload_n hx hb dL_law_935 rfl (lv_at hl 0 rfl) ?_
  refine lv_iconst (v := 3) hx hb dL_law_936 z69 ?_
  refine lv_iadd hx hb dL_law_937 ?_
  refine tpi z368 ?_
  refine va_sld hx hb hX hbl hbA hS (vin _ _ rfl) dL_law_938 ?_
  refine tpv (v := .int x3) (congrArg Value.int e3) ?_
  refine lv_if_eq (tgt := 946) hx hb dL_law_939 z1038 (fun c1 => absurd c1 (h0)) (fun _ => ?_)
  refine lv_iconst (v := 1) hx hb dL_law_942 z39 ?_
  refine lv_goto (tgt := 947) hx hb dL_law_943 z1043 ?_
  refine call_iV (ci := 11) (As := [.int x1, .int x2, .int 1]) (rest := [.int (-1)]) (wr := []) ⟨hx, hb, hml, hown, hts⟩ (k353_X11_seen l dC dI cB cI cJ cZ cO n x1 x2 h1 h3) (cwV 3 hts gL_law_X11_seen rfl rfl rfl ⟨rfl, z1041⟩ ⟨Nat.le_of_ble_eq_true rfl, Nat.le_of_ble_eq_true rfl⟩) hK hP hD hS hA [0, 1] [] rfl rfl (by decide +kernel) (by decide +kernel) (by decide +kernel) rfl rfl rfl hl.1 (Nat.le_of_ble_eq_true rfl) rfl rfl dL_law_947 ⟨by decide +kernel, by decide +kernel⟩ (fun u1 H locs hP hD hS => ?_)
  refine lv_icmp_eq (tgt := 1093) hx hb dL_law_950 z1039 (fun _ => ?_) (fun c1 => absurd (rfl) c1)
  refine lv_iinc (v := 6) (lv' := [(3, .int 6), (2, .ref (n 0)), (1, .ref (r 0)), (0, .ref b)]) hx hb dL_law_1093 hl (k := 0) rfl z943 (nlt rfl) rfl (fun ls hl => ?_)
  refine lv_goto (tgt := 18) hx hb dL_law_1096 z944 ?_
  refine lv_iload_n hx hb dL_law_18 rfl (lv_at hl 0 rfl) ?_
  refine lv_aload_n hx hb dL_law_19 rfl (lv_at hl 3 rfl) ?_
  refine va_slen hx hb hX hbl hbA hS dL_law_20 ?_
  refine tpv (v := .int 6) rfl ?_
  refine lv_bipush (v := 6) hx hb dL_law_21 z4 ?_
  refine lv_isub hx hb dL_law_23 ?_
  refine tpi z945 ?_
  refine lv_icmp_gt (tgt := 1099) hx hb dL_law_24 z947 (fun _ => ?_) (fun c1 => absurd (z946) c1)
  refine lv_iconst (v := 1) hx hb dL_law_1099 z39 ?_
  refine va_forget (fun q hq => hS.2.2 q hq) ?_
  refine W.widen (k := 600000) (n := 7302250) (by decide) (by decide) ?_
  exact lw_ret hx hb hr hlocks dL_law_1100

set_option maxHeartbeats 4000000 in
set_option maxRecDepth 100000 in
theorem lc_30_4 {p : Program} {e : Env} {s : State} {m : MethodId} {below : List Frame} {meth : Method} {c : Code} (l : Launch) {b : Nat} {xs : Nat → Int32} (C0 : lw_At p s m meth c b 6 xs) (dC : Nat → ClassId) (dI : Nat → Nat → Nat) (cB cI cJ cZ cO : ClassId) (r n : Nat → Nat) (x1 : Int32) (x2 : Int32) (e1 : xs 1 = x1) (e2 : xs 2 = x2) (e3 : xs 3 = 0) (h0 : ¬ x1 < 0) (h1 : ¬ 3 ≤ x1) (h2 : x2 < 0) (h3 : ¬ 2 < x1) (H : Heap) (locs : List Loc) (hK : va_K (dC, dI) vwCl (tyL cB cI cJ cZ cO) s) (hP : va_P (dC, dI) vwCl [((r 0), .inr (10, fX r)), ((r 18), .inr (4, [.int 0, .ref (r 19), .ref (r 20), .int 0, .ref (r 21), .ref (r 22), .int 0, .ref (r 23), .ref (r 24), .int 0, .ref (r 25), .ref (r 26), .int 3, .int 0, .int 0, .ref (r 27)])), ((n 0), .inr (11, fM n)), ((n 7), .inl (cI, 2, .inl (upd (fun _ => 0) 0 3))), ((n 3), .inl (cI, 2, .inl (fun _ => 0)))] H) (hD : va_D (fun q : Nat => s.heap.size ≤ q) [((r 0), .inr (10, fX r)), ((r 18), .inr (4, [.int 0, .ref (r 19), .ref (r 20), .int 0, .ref (r 21), .ref (r 22), .int 0, .ref (r 23), .ref (r 24), .int 0, .ref (r 25), .ref (r 26), .int 3, .int 0, .int 0, .ref (r 27)])), ((n 0), .inr (11, fM n)), ((n 7), .inl (cI, 2, .inl (upd (fun _ => 0) 0 3))), ((n 3), .inl (cI, 2, .inl (fun _ => 0)))]) (hS : va_S (fun q : Nat => s.heap.size ≤ q) s.heap H locs) (ls : Array Slot) (hl : lv_has ls 4 [(3, .int 0), (2, .ref (n 0)), (1, .ref (r 0)), (0, .ref b)]) : W p l e room_1 s m #[Value.ref b] below meth c H locs 135 85080 (lw_Z below #[Value.ref b] s) (F0 m 896 ls []) := by
  obtain ⟨hx, hb, hr, hml, hown, hts0, hX, hbl, hlocks, hgv⟩ := C0
  have hts : ∀ w ∈ wsL_law, w.before #[Value.ref b] s = true := fun w h => hts0 w (wsL_law_in w h)
  have hA : ∀ q : Nat, s.heap.size ≤ q → (fun q : Nat => s.heap.size ≤ q) q := fun _ h => h
  have hbA : ¬ (fun q : Nat => s.heap.size ≤ q) b := Nat.not_le.mpr hbl
  have hown : s.vm.findClass RL = some m.cls := hown
  refine lv_aload_n hx hb dL_law_896 rfl (lv_at hl 2 rfl) ?_
  refine lv_aload_n hx hb dL_law_897 rfl (lv_at hl 3 rfl) ?_
  refine lv_iload_n hx hb dL_law_898 rfl (lv_at hl 0 rfl) ?_
  refine lv_iconst (v := 1) hx hb dL_law_899 z39 ?_
  refine lv_iadd hx hb dL_law_900 ?_
  refine tpi z281 ?_
  refine va_sld hx hb hX hbl hbA hS (vin _ _ rfl) dL_law_901 ?_
  refine tpv (v := .int x1) (congrArg Value.int e1) ?_
  refine lv_aload_n hx hb dL_law_902 rfl (lv_at hl 3 rfl) ?_
  refine lv_iload_n hx hb dL_law_903 rfl (lv_at hl 0 rfl) ?_
  refine lv_iconst (v := 2) hx hb dL_law_904 z54 ?_
  refine lv_iadd hx hb dL_law_905 ?_
  refine tpi z362 ?_
  refine va_sld hx hb hX hbl hbA hS (vin _ _ rfl) dL_law_906 ?_
  refine tpv (v := .int x2) (congrArg Value.int e2) ?_
  refine lv_aload_n hx hb dL_law_907 rfl (lv_at hl 3 rfl) ?_
  refine lv_iload_n hx hb dL_law_908 rfl (lv_at hl 0 rfl) ?_
  refine lv_iconst (v := 3) hx hb dL_law_909 z69 ?_
  refine lv_iadd hx hb dL_law_910 ?_
  refine tpi z368 ?_
  refine va_sld hx hb hX hbl hbA hS (vin _ _ rfl) dL_law_911 ?_
  refine tpv (v := .int 0) (congrArg Value.int e3) ?_
  refine lv_if_eq (tgt := 919) hx hb dL_law_912 z1037 (fun _ => ?_) (fun c1 => absurd (rfl) c1)
  refine lv_iconst (v := 0) hx hb dL_law_919 z8 ?_
  refine call_iV (ci := 10) (As := [.int x1, .int x2, .int 0]) (rest := []) (wr := [((n 0), .inr (11, fM n)), ((n 7), .inl (cI, 2, .inl (upd (fun _ => 0) 0 3))), ((n 3), .inl (cI, 2, .inl (fun _ => 0)))]) ⟨hx, hb, hml, hown, hts⟩ (k354_X10_seen l dC dI cB cI cJ cZ cO r x1 x2 h0 h1 h2) (cwV 3 hts gL_law_X10_seen rfl rfl rfl ⟨rfl, z1040⟩ ⟨Nat.le_of_ble_eq_true rfl, Nat.le_of_ble_eq_true rfl⟩) hK hP hD hS hA [0, 1] [2, 3, 4] rfl rfl (by decide +kernel) (by decide +kernel) (by decide +kernel) rfl rfl rfl hl.1 (Nat.le_of_ble_eq_true rfl) rfl rfl dL_law_920 ⟨by decide +kernel, by decide +kernel⟩ (fun u0 H locs hP hD hS => ?_)
  refine lv_aload_n hx hb dL_law_923 rfl (lv_at hl 1 rfl) ?_
  refine lv_aload_n hx hb dL_law_924 rfl (lv_at hl 3 rfl) ?_
  refine lv_iload_n hx hb dL_law_925 rfl (lv_at hl 0 rfl) ?_
  refine lv_iconst (v := 1) hx hb dL_law_926 z39 ?_
  refine lv_iadd hx hb dL_law_927 ?_
  refine tpi z281 ?_
  refine va_sld hx hb hX hbl hbA hS (vin _ _ rfl) dL_law_928 ?_
  refine tpv (v := .int x1) (congrArg Value.int e1) ?_
  refine lv_aload_n hx hb dL_law_929 rfl (lv_at hl 3 rfl) ?_
  refine lv_iload_n hx hb dL_law_930 rfl (lv_at hl 0 rfl) ?_
  refine lv_iconst (v := 2) hx hb dL_law_931 z54 ?_
  refine lv_iadd hx hb dL_law_932 ?_
  refine tpi z362 ?_
  refine va_sld hx hb hX hbl hbA hS (vin _ _ rfl) dL_law_933 ?_
  refine tpv (v := .int x2) (congrArg Value.int e2) ?_
  refine lv_aload_n hx hb dL_law_934 rfl (lv_at hl 3 rfl) ?_
  refine lv_iload_n hx hb dL_law_935 rfl (lv_at hl 0 rfl) ?_
  refine lv_iconst (v := 3) hx hb dL_law_936 z69 ?_
  refine lv_iadd hx hb dL_law_937 ?_
  refine tpi z368 ?_
  refine va_sld hx hb hX hbl hbA hS (vin _ _ rfl) dL_law_938 ?_
  refine tpv (v := .int 0) (congrArg Value.int e3) ?_
  refine lv_if_eq (tgt := 946) hx hb dL_law_939 z1038 (fun _ => ?_) (fun c1 => absurd (rfl) c1)
  refine lv_iconst (v := 0) hx hb dL_law_946 z8 ?_
  refine call_iV (ci := 11) (As := [.int x1, .int x2, .int 0]) (rest := [.int (-1)]) (wr := []) ⟨hx, hb, hml, hown, hts⟩ (k356_X11_seen l dC dI cB cI cJ cZ cO n x1 x2 h0 h3 h2) (cwV 3 hts gL_law_X11_seen rfl rfl rfl ⟨rfl, z1041⟩ ⟨Nat.le_of_ble_eq_true rfl, Nat.le_of_ble_eq_true rfl⟩) hK hP hD hS hA [0, 1, 2] [] rfl rfl (by decide +kernel) (by decide +kernel) (by decide +kernel) rfl rfl rfl hl.1 (Nat.le_of_ble_eq_true rfl) rfl rfl dL_law_947 ⟨by decide +kernel, by decide +kernel⟩ (fun u1 H locs hP hD hS => ?_)
  refine lv_icmp_eq (tgt := 1093) hx hb dL_law_950 z1039 (fun _ => ?_) (fun c1 => absurd (rfl) c1)
  refine lv_iinc (v := 6) (lv' := [(3, .int 6), (2, .ref (n 0)), (1, .ref (r 0)), (0, .ref b)]) hx hb dL_law_1093 hl (k := 0) rfl z943 (nlt rfl) rfl (fun ls hl => ?_)
  refine lv_goto (tgt := 18) hx hb dL_law_1096 z944 ?_
  refine lv_iload_n hx hb dL_law_18 rfl (lv_at hl 0 rfl) ?_
  refine lv_aload_n hx hb dL_law_19 rfl (lv_at hl 3 rfl) ?_
  refine va_slen hx hb hX hbl hbA hS dL_law_20 ?_
  refine tpv (v := .int 6) rfl ?_
  refine lv_bipush (v := 6) hx hb dL_law_21 z4 ?_
  refine lv_isub hx hb dL_law_23 ?_
  refine tpi z945 ?_
  refine lv_icmp_gt (tgt := 1099) hx hb dL_law_24 z947 (fun _ => ?_) (fun c1 => absurd (z946) c1)
  refine lv_iconst (v := 1) hx hb dL_law_1099 z39 ?_
  refine va_forget (fun q hq => hS.2.2 q hq) ?_
  refine W.widen (k := 600000) (n := 7302250) (by decide) (by decide) ?_
  exact lw_ret hx hb hr hlocks dL_law_1100

set_option maxHeartbeats 4000000 in
set_option maxRecDepth 100000 in
theorem lc_30_5 {p : Program} {e : Env} {s : State} {m : MethodId} {below : List Frame} {meth : Method} {c : Code} (l : Launch) {b : Nat} {xs : Nat → Int32} (C0 : lw_At p s m meth c b 6 xs) (dC : Nat → ClassId) (dI : Nat → Nat → Nat) (cB cI cJ cZ cO : ClassId) (r n : Nat → Nat) (x1 : Int32) (x2 : Int32) (x3 : Int32) (e1 : xs 1 = x1) (e2 : xs 2 = x2) (e3 : xs 3 = x3) (h0 : ¬ x3 = 0) (h1 : ¬ x1 < 0) (h2 : ¬ 3 ≤ x1) (h3 : x2 < 0) (h4 : ¬ 2 < x1) (H : Heap) (locs : List Loc) (hK : va_K (dC, dI) vwCl (tyL cB cI cJ cZ cO) s) (hP : va_P (dC, dI) vwCl [((r 0), .inr (10, fX r)), ((r 18), .inr (4, [.int 0, .ref (r 19), .ref (r 20), .int 0, .ref (r 21), .ref (r 22), .int 0, .ref (r 23), .ref (r 24), .int 0, .ref (r 25), .ref (r 26), .int 3, .int 0, .int 0, .ref (r 27)])), ((n 0), .inr (11, fM n)), ((n 7), .inl (cI, 2, .inl (upd (fun _ => 0) 0 3))), ((n 3), .inl (cI, 2, .inl (fun _ => 0)))] H) (hD : va_D (fun q : Nat => s.heap.size ≤ q) [((r 0), .inr (10, fX r)), ((r 18), .inr (4, [.int 0, .ref (r 19), .ref (r 20), .int 0, .ref (r 21), .ref (r 22), .int 0, .ref (r 23), .ref (r 24), .int 0, .ref (r 25), .ref (r 26), .int 3, .int 0, .int 0, .ref (r 27)])), ((n 0), .inr (11, fM n)), ((n 7), .inl (cI, 2, .inl (upd (fun _ => 0) 0 3))), ((n 3), .inl (cI, 2, .inl (fun _ => 0)))]) (hS : va_S (fun q : Nat => s.heap.size ≤ q) s.heap H locs) (ls : Array Slot) (hl : lv_has ls 4 [(3, .int 0), (2, .ref (n 0)), (1, .ref (r 0)), (0, .ref b)]) : W p l e room_1 s m #[Value.ref b] below meth c H locs 135 85080 (lw_Z below #[Value.ref b] s) (F0 m 896 ls []) := by
  obtain ⟨hx, hb, hr, hml, hown, hts0, hX, hbl, hlocks, hgv⟩ := C0
  have hts : ∀ w ∈ wsL_law, w.before #[Value.ref b] s = true := fun w h => hts0 w (wsL_law_in w h)
  have hA : ∀ q : Nat, s.heap.size ≤ q → (fun q : Nat => s.heap.size ≤ q) q := fun _ h => h
  have hbA : ¬ (fun q : Nat => s.heap.size ≤ q) b := Nat.not_le.mpr hbl
  have hown : s.vm.findClass RL = some m.cls := hown
  refine lv_aload_n hx hb dL_law_896 rfl (lv_at hl 2 rfl) ?_
  refine lv_aload_n hx hb dL_law_897 rfl (lv_at hl 3 rfl) ?_
  refine lv_iload_n hx hb dL_law_898 rfl (lv_at hl 0 rfl) ?_
  refine lv_iconst (v := 1) hx hb dL_law_899 z39 ?_
  refine lv_iadd hx hb dL_law_900 ?_
  refine tpi z281 ?_
  refine va_sld hx hb hX hbl hbA hS (vin _ _ rfl) dL_law_901 ?_
  refine tpv (v := .int x1) (congrArg Value.int e1) ?_
  refine lv_aload_n hx hb dL_law_902 rfl (lv_at hl 3 rfl) ?_
  refine lv_iload_n hx hb dL_law_903 rfl (lv_at hl 0 rfl) ?_
  refine lv_iconst (v := 2) hx hb dL_law_904 z54 ?_
  refine lv_iadd hx hb dL_law_905 ?_
  refine tpi z362 ?_
  refine va_sld hx hb hX hbl hbA hS (vin _ _ rfl) dL_law_906 ?_
  refine tpv (v := .int x2) (congrArg Value.int e2) ?_
  refine lv_aload_n hx hb dL_law_907 rfl (lv_at hl 3 rfl) ?_
  refine lv_iload_n hx hb dL_law_908 rfl (lv_at hl 0 rfl) ?_
  refine lv_iconst (v := 3) hx hb dL_law_909 z69 ?_
  refine lv_iadd hx hb dL_law_910 ?_
  refine tpi z368 ?_
  refine va_sld hx hb hX hbl hbA hS (vin _ _ rfl) dL_law_911 ?_
  refine tpv (v := .int x3) (congrArg Value.int e3) ?_
  refine lv_if_eq (tgt := 919) hx hb dL_law_912 z1037 (fun c1 => absurd c1 (h0)) (fun _ => ?_)
  refine lv_iconst (v := 1) hx hb dL_law_915 z39 ?_
  refine lv_goto (tgt := 920) hx hb dL_law_916 z1042 ?_
  refine call_iV (ci := 10) (As := [.int x1, .int x2, .int 1]) (rest := []) (wr := [((n 0), .inr (11, fM n)), ((n 7), .inl (cI, 2, .inl (upd (fun _ => 0) 0 3))), ((n 3), .inl (cI, 2, .inl (fun _ => 0)))]) ⟨hx, hb, hml, hown, hts⟩ (k357_X10_seen l dC dI cB cI cJ cZ cO r x1 x2 h1 h2 h3) (cwV 3 hts gL_law_X10_seen rfl rfl rfl ⟨rfl, z1040⟩ ⟨Nat.le_of_ble_eq_true rfl, Nat.le_of_ble_eq_true rfl⟩) hK hP hD hS hA [0, 1] [2, 3, 4] rfl rfl (by decide +kernel) (by decide +kernel) (by decide +kernel) rfl rfl rfl hl.1 (Nat.le_of_ble_eq_true rfl) rfl rfl dL_law_920 ⟨by decide +kernel, by decide +kernel⟩ (fun u0 H locs hP hD hS => ?_)
  refine lv_aload_n hx hb dL_law_923 rfl (lv_at hl 1 rfl) ?_
  refine lv_aload_n hx hb dL_law_924 rfl (lv_at hl 3 rfl) ?_
  refine lv_iload_n hx hb dL_law_925 rfl (lv_at hl 0 rfl) ?_
  refine lv_iconst (v := 1) hx hb dL_law_926 z39 ?_
  refine lv_iadd hx hb dL_law_927 ?_
  refine tpi z281 ?_
  refine va_sld hx hb hX hbl hbA hS (vin _ _ rfl) dL_law_928 ?_
  refine tpv (v := .int x1) (congrArg Value.int e1) ?_
  refine lv_aload_n hx hb dL_law_929 rfl (lv_at hl 3 rfl) ?_
  refine lv_iload_n hx hb dL_law_930 rfl (lv_at hl 0 rfl) ?_
  refine lv_iconst (v := 2) hx hb dL_law_931 z54 ?_
  refine lv_iadd hx hb dL_law_932 ?_
  refine tpi z362 ?_
  refine va_sld hx hb hX hbl hbA hS (vin _ _ rfl) dL_law_933 ?_
  refine tpv (v := .int x2) (congrArg Value.int e2) ?_
  refine lv_aload_n hx hb dL_law_934 rfl (lv_at hl 3 rfl) ?_
  refine lv_iload_n hx hb dL_law_935 rfl (lv_at hl 0 rfl) ?_
  refine lv_iconst (v := 3) hx hb dL_law_936 z69 ?_
  refine lv_iadd hx hb dL_law_937 ?_
  refine tpi z368 ?_
  refine va_sld hx hb hX hbl hbA hS (vin _ _ rfl) dL_law_938 ?_
  refine tpv (v := .int x3) (congrArg Value.int e3) ?_
  refine lv_if_eq (tgt := 946) hx hb dL_law_939 z1038 (fun c1 => absurd c1 (h0)) (fun _ => ?_)
  refine lv_iconst (v := 1) hx hb dL_law_942 z39 ?_
  refine lv_goto (tgt := 947) hx hb dL_law_943 z1043 ?_
  refine call_iV (ci := 11) (As := [.int x1, .int x2, .int 1]) (rest := [.int (-1)]) (wr := []) ⟨hx, hb, hml, hown, hts⟩ (k358_X11_seen l dC dI cB cI cJ cZ cO n x1 x2 h1 h4 h3) (cwV 3 hts gL_law_X11_seen rfl rfl rfl ⟨rfl, z1041⟩ ⟨Nat.le_of_ble_eq_true rfl, Nat.le_of_ble_eq_true rfl⟩) hK hP hD hS hA [0, 1, 2] [] rfl rfl (by decide +kernel) (by decide +kernel) (by decide +kernel) rfl rfl rfl hl.1 (Nat.le_of_ble_eq_true rfl) rfl rfl dL_law_947 ⟨by decide +kernel, by decide +kernel⟩ (fun u1 H locs hP hD hS => ?_)
  refine lv_icmp_eq (tgt := 1093) hx hb dL_law_950 z1039 (fun _ => ?_) (fun c1 => absurd (rfl) c1)
  refine lv_iinc (v := 6) (lv' := [(3, .int 6), (2, .ref (n 0)), (1, .ref (r 0)), (0, .ref b)]) hx hb dL_law_1093 hl (k := 0) rfl z943 (nlt rfl) rfl (fun ls hl => ?_)
  refine lv_goto (tgt := 18) hx hb dL_law_1096 z944 ?_
  refine lv_iload_n hx hb dL_law_18 rfl (lv_at hl 0 rfl) ?_
  refine lv_aload_n hx hb dL_law_19 rfl (lv_at hl 3 rfl) ?_
  refine va_slen hx hb hX hbl hbA hS dL_law_20 ?_
  refine tpv (v := .int 6) rfl ?_
  refine lv_bipush (v := 6) hx hb dL_law_21 z4 ?_
  refine lv_isub hx hb dL_law_23 ?_
  refine tpi z945 ?_
  refine lv_icmp_gt (tgt := 1099) hx hb dL_law_24 z947 (fun _ => ?_) (fun c1 => absurd (z946) c1)
  refine lv_iconst (v := 1) hx hb dL_law_1099 z39 ?_
  refine va_forget (fun q hq => hS.2.2 q hq) ?_
  refine W.widen (k := 600000) (n := 7302250) (by decide) (by decide) ?_
  exact lw_ret hx hb hr hlocks dL_law_1100

set_option maxHeartbeats 4000000 in
set_option maxRecDepth 100000 in
theorem lc_30_6 {p : Program} {e : Env} {s : State} {m : MethodId} {below : List Frame} {meth : Method} {c : Code} (l : Launch) {b : Nat} {xs : Nat → Int32} (C0 : lw_At p s m meth c b 6 xs) (dC : Nat → ClassId) (dI : Nat → Nat → Nat) (cB cI cJ cZ cO : ClassId) (r n : Nat → Nat) (x1 : Int32) (x2 : Int32) (e1 : xs 1 = x1) (e2 : xs 2 = x2) (e3 : xs 3 = 0) (h0 : ¬ x1 < 0) (h1 : ¬ 3 ≤ x1) (h2 : ¬ x2 < 0) (h3 : 0 ≤ x2) (h4 : ¬ 2 < x1) (h5 : (-1) < x2) (H : Heap) (locs : List Loc) (hK : va_K (dC, dI) vwCl (tyL cB cI cJ cZ cO) s) (hP : va_P (dC, dI) vwCl [((r 0), .inr (10, fX r)), ((r 18), .inr (4, [.int 0, .ref (r 19), .ref (r 20), .int 0, .ref (r 21), .ref (r 22), .int 0, .ref (r 23), .ref (r 24), .int 0, .ref (r 25), .ref (r 26), .int 3, .int 0, .int 0, .ref (r 27)])), ((n 0), .inr (11, fM n)), ((n 7), .inl (cI, 2, .inl (upd (fun _ => 0) 0 3))), ((n 3), .inl (cI, 2, .inl (fun _ => 0)))] H) (hD : va_D (fun q : Nat => s.heap.size ≤ q) [((r 0), .inr (10, fX r)), ((r 18), .inr (4, [.int 0, .ref (r 19), .ref (r 20), .int 0, .ref (r 21), .ref (r 22), .int 0, .ref (r 23), .ref (r 24), .int 0, .ref (r 25), .ref (r 26), .int 3, .int 0, .int 0, .ref (r 27)])), ((n 0), .inr (11, fM n)), ((n 7), .inl (cI, 2, .inl (upd (fun _ => 0) 0 3))), ((n 3), .inl (cI, 2, .inl (fun _ => 0)))]) (hS : va_S (fun q : Nat => s.heap.size ≤ q) s.heap H locs) (ls : Array Slot) (hl : lv_has ls 4 [(3, .int 0), (2, .ref (n 0)), (1, .ref (r 0)), (0, .ref b)]) : W p l e room_1 s m #[Value.ref b] below meth c H locs 135 85080 (lw_Z below #[Value.ref b] s) (F0 m 896 ls []) := by
  obtain ⟨hx, hb, hr, hml, hown, hts0, hX, hbl, hlocks, hgv⟩ := C0
  have hts : ∀ w ∈ wsL_law, w.before #[Value.ref b] s = true := fun w h => hts0 w (wsL_law_in w h)
  have hA : ∀ q : Nat, s.heap.size ≤ q → (fun q : Nat => s.heap.size ≤ q) q := fun _ h => h
  have hbA : ¬ (fun q : Nat => s.heap.size ≤ q) b := Nat.not_le.mpr hbl
  have hown : s.vm.findClass RL = some m.cls := hown
  refine lv_aload_n hx hb dL_law_896 rfl (lv_at hl 2 rfl) ?_
  refine lv_aload_n hx hb dL_law_897 rfl (lv_at hl 3 rfl) ?_
  refine lv_iload_n hx hb dL_law_898 rfl (lv_at hl 0 rfl) ?_
  refine lv_iconst (v := 1) hx hb dL_law_899 z39 ?_
  refine lv_iadd hx hb dL_law_900 ?_
  refine tpi z281 ?_
  refine va_sld hx hb hX hbl hbA hS (vin _ _ rfl) dL_law_901 ?_
  refine tpv (v := .int x1) (congrArg Value.int e1) ?_
  refine lv_aload_n hx hb dL_law_902 rfl (lv_at hl 3 rfl) ?_
  refine lv_iload_n hx hb dL_law_903 rfl (lv_at hl 0 rfl) ?_
  refine lv_iconst (v := 2) hx hb dL_law_904 z54 ?_
  refine lv_iadd hx hb dL_law_905 ?_
  refine tpi z362 ?_
  refine va_sld hx hb hX hbl hbA hS (vin _ _ rfl) dL_law_906 ?_
  refine tpv (v := .int x2) (congrArg Value.int e2) ?_
  refine lv_aload_n hx hb dL_law_907 rfl (lv_at hl 3 rfl) ?_
  refine lv_iload_n hx hb dL_law_908 rfl (lv_at hl 0 rfl) ?_
  refine lv_iconst (v := 3) hx hb dL_law_909 z69 ?_
  refine lv_iadd hx hb dL_law_910 ?_
  refine tpi z368 ?_
  refine va_sld hx hb hX hbl hbA hS (vin _ _ rfl) dL_law_911 ?_
  refine tpv (v := .int 0) (congrArg Value.int e3) ?_
  refine lv_if_eq (tgt := 919) hx hb dL_law_912 z1037 (fun _ => ?_) (fun c1 => absurd (rfl) c1)
  refine lv_iconst (v := 0) hx hb dL_law_919 z8 ?_
  refine call_iV (ci := 10) (As := [.int x1, .int x2, .int 0]) (rest := []) (wr := [((n 0), .inr (11, fM n)), ((n 7), .inl (cI, 2, .inl (upd (fun _ => 0) 0 3))), ((n 3), .inl (cI, 2, .inl (fun _ => 0)))]) ⟨hx, hb, hml, hown, hts⟩ (k359_X10_seen l dC dI cB cI cJ cZ cO r x1 x2 h0 h1 h2 h3) (cwV 3 hts gL_law_X10_seen rfl rfl rfl ⟨rfl, z1040⟩ ⟨Nat.le_of_ble_eq_true rfl, Nat.le_of_ble_eq_true rfl⟩) hK hP hD hS hA [0, 1] [2, 3, 4] rfl rfl (by decide +kernel) (by decide +kernel) (by decide +kernel) rfl rfl rfl hl.1 (Nat.le_of_ble_eq_true rfl) rfl rfl dL_law_920 ⟨by decide +kernel, by decide +kernel⟩ (fun u0 H locs hP hD hS => ?_)
  refine lv_aload_n hx hb dL_law_923 rfl (lv_at hl 1 rfl) ?_
  refine lv_aload_n hx hb dL_law_924 rfl (lv_at hl 3 rfl) ?_
  refine lv_iload_n hx hb dL_law_925 rfl (lv_at hl 0 rfl) ?_
  refine lv_iconst (v := 1) hx hb dL_law_926 z39 ?_
  refine lv_iadd hx hb dL_law_927 ?_
  refine tpi z281 ?_
  refine va_sld hx hb hX hbl hbA hS (vin _ _ rfl) dL_law_928 ?_
  refine tpv (v := .int x1) (congrArg Value.int e1) ?_
  refine lv_aload_n hx hb dL_law_929 rfl (lv_at hl 3 rfl) ?_
  refine lv_iload_n hx hb dL_law_930 rfl (lv_at hl 0 rfl) ?_
  refine lv_iconst (v := 2) hx hb dL_law_931 z54 ?_
  refine lv_iadd hx hb dL_law_932 ?_
  refine tpi z362 ?_
  refine va_sld hx hb hX hbl hbA hS (vin _ _ rfl) dL_law_933 ?_
  refine tpv (v := .int x2) (congrArg Value.int e2) ?_
  refine lv_aload_n hx hb dL_law_934 rfl (lv_at hl 3 rfl) ?_
  refine lv_iload_n hx hb dL_law_935 rfl (lv_at hl 0 rfl) ?_
  refine lv_iconst (v := 3) hx hb dL_law_936 z69 ?_
  refine lv_iadd hx hb dL_law_937 ?_
  refine tpi z368 ?_
  refine va_sld hx hb hX hbl hbA hS (vin _ _ rfl) dL_law_938 ?_
  refine tpv (v := .int 0) (congrArg Value.int e3) ?_
  refine lv_if_eq (tgt := 946) hx hb dL_law_939 z1038 (fun _ => ?_) (fun c1 => absurd (rfl) c1)
  refine lv_iconst (v := 0) hx hb dL_law_946 z8 ?_
  refine call_iV (ci := 11) (As := [.int x1, .int x2, .int 0]) (rest := [.int (-1)]) (wr := []) ⟨hx, hb, hml, hown, hts⟩ (k360_X11_seen l dC dI cB cI cJ cZ cO n x1 x2 h0 h4 h2 h5) (cwV 3 hts gL_law_X11_seen rfl rfl rfl ⟨rfl, z1041⟩ ⟨Nat.le_of_ble_eq_true rfl, Nat.le_of_ble_eq_true rfl⟩) hK hP hD hS hA [0, 1, 2] [] rfl rfl (by decide +kernel) (by decide +kernel) (by decide +kernel) rfl rfl rfl hl.1 (Nat.le_of_ble_eq_true rfl) rfl rfl dL_law_947 ⟨by decide +kernel, by decide +kernel⟩ (fun u1 H locs hP hD hS => ?_)
  refine lv_icmp_eq (tgt := 1093) hx hb dL_law_950 z1039 (fun _ => ?_) (fun c1 => absurd (rfl) c1)
  refine lv_iinc (v := 6) (lv' := [(3, .int 6), (2, .ref (n 0)), (1, .ref (r 0)), (0, .ref b)]) hx hb dL_law_1093 hl (k := 0) rfl z943 (nlt rfl) rfl (fun ls hl => ?_)
  refine lv_goto (tgt := 18) hx hb dL_law_1096 z944 ?_
  refine lv_iload_n hx hb dL_law_18 rfl (lv_at hl 0 rfl) ?_
  refine lv_aload_n hx hb dL_law_19 rfl (lv_at hl 3 rfl) ?_
  refine va_slen hx hb hX hbl hbA hS dL_law_20 ?_
  refine tpv (v := .int 6) rfl ?_
  refine lv_bipush (v := 6) hx hb dL_law_21 z4 ?_
  refine lv_isub hx hb dL_law_23 ?_
  refine tpi z945 ?_
  refine lv_icmp_gt (tgt := 1099) hx hb dL_law_24 z947 (fun _ => ?_) (fun c1 => absurd (z946) c1)
  refine lv_iconst (v := 1) hx hb dL_law_1099 z39 ?_
  refine va_forget (fun q hq => hS.2.2 q hq) ?_
  refine W.widen (k := 600000) (n := 7302250) (by decide) (by decide) ?_
  exact lw_ret hx hb hr hlocks dL_law_1100
