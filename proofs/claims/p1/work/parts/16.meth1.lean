set_option maxHeartbeats 4000000 in
set_option maxRecDepth 100000 in
theorem k33_X10_end (l : Launch) (dC : Nat → ClassId) (dI : Nat → Nat → Nat) (cB cI cJ cZ cO : ClassId) (r : Nat → Nat) (x1 : Int32) (h0 : x1 < 0) : CI l yX10_end wsX10_end ({ frames := 0, cells := 0, slots := 0, locals := 0 }) (dC, dI) (tyL cB cI cJ cZ cO) [.ref (r 0), .int x1] [((r 0), .inr (10, fX r))] (fun _ => []) (-1) := by
  intro sz
  refine ct_open (cc := cX10_end) (maxL := 2) (ret := (some .int)) (by decide) rfl (Nat.le_of_ble_eq_true rfl) ?_
  intro p e s m below meth c ls A hx hb hr hml hts hown hlocks hin hP hK hD hA hS hl
  have hl : lv_has ls 2 [(0, .ref (r 0)), (1, .int x1)] := hl
  have hown : s.vm.findClass RX10 = some m.cls := hown
  refine lv_iload_n hx hb dX10_end_0 rfl (lv_at hl 1 rfl) ?_
  refine lv_if_lt (tgt := 12) hx hb dX10_end_1 z681 (fun _ => ?_) (fun c1 => absurd (h0) c1)
  refine lv_iconst (v := (-1)) hx hb dX10_end_12 z128 ?_
  refine W.widen (k := 0) (n := 0) (by decide +kernel) (by decide +kernel) ?_
  exact ret_i hx hb hr hlocks hS (u := (fun _ => 0)) (hP.sub [] rfl) (hD.sub [] (by decide +kernel) rfl) dX10_end_13

set_option maxHeartbeats 4000000 in
set_option maxRecDepth 100000 in
theorem k34_X11_end (l : Launch) (dC : Nat → ClassId) (dI : Nat → Nat → Nat) (cB cI cJ cZ cO : ClassId) (n : Nat → Nat) (x1 : Int32) (h0 : x1 < 0) : CI l yX11_end wsX11_end ({ frames := 0, cells := 0, slots := 0, locals := 0 }) (dC, dI) (tyL cB cI cJ cZ cO) [.ref (n 0), .int x1] [((n 0), .inr (11, fM n))] (fun _ => []) (-1) := by
  intro sz
  refine ct_open (cc := cX11_end) (maxL := 2) (ret := (some .int)) (by decide) rfl (Nat.le_of_ble_eq_true rfl) ?_
  intro p e s m below meth c ls A hx hb hr hml hts hown hlocks hin hP hK hD hA hS hl
  have hl : lv_has ls 2 [(0, .ref (n 0)), (1, .int x1)] := hl
  have hown : s.vm.findClass RX11 = some m.cls := hown
  refine lv_iload_n hx hb dX11_end_0 rfl (lv_at hl 1 rfl) ?_
  refine lv_if_lt (tgt := 12) hx hb dX11_end_1 z681 (fun _ => ?_) (fun c1 => absurd (h0) c1)
  refine lv_iconst (v := (-1)) hx hb dX11_end_12 z128 ?_
  refine W.widen (k := 0) (n := 0) (by decide +kernel) (by decide +kernel) ?_
  exact ret_i hx hb hr hlocks hS (u := (fun _ => 0)) (hP.sub [] rfl) (hD.sub [] (by decide +kernel) rfl) dX11_end_13

set_option maxHeartbeats 4000000 in
set_option maxRecDepth 100000 in
theorem k35_X10_end (l : Launch) (dC : Nat → ClassId) (dI : Nat → Nat → Nat) (cB cI cJ cZ cO : ClassId) (r : Nat → Nat) : CI l yX10_end wsX10_end ({ frames := 0, cells := 0, slots := 0, locals := 0 }) (dC, dI) (tyL cB cI cJ cZ cO) [.ref (r 0), .int 0] [((r 0), .inr (10, fX r))] (fun _ => []) 0 := by
  intro sz
  refine ct_open (cc := cX10_end) (maxL := 2) (ret := (some .int)) (by decide) rfl (Nat.le_of_ble_eq_true rfl) ?_
  intro p e s m below meth c ls A hx hb hr hml hts hown hlocks hin hP hK hD hA hS hl
  have hl : lv_has ls 2 [(0, .ref (r 0)), (1, .int 0)] := hl
  have hown : s.vm.findClass RX10 = some m.cls := hown
  have i10 : ∀ w ∈ u_ws RX10 TX10 18, w ∈ wsX10_end := fun _ h => List.mem_cons_of_mem _ (List.mem_append_right _ h)
  have w1 := hts (.fieldLink RX10 92 "GuildCharter" "tapeSize" "I") (List.mem_cons_of_mem _ (List.mem_append_left _ (List.mem_of_getElem? (i := 0) rfl)))
  refine lv_iload_n hx hb dX10_end_0 rfl (lv_at hl 1 rfl) ?_
  refine lv_if_lt (tgt := 12) hx hb dX10_end_1 z681 (fun c1 => absurd c1 (z125)) (fun _ => ?_)
  refine lv_iload_n hx hb dX10_end_4 rfl (lv_at hl 1 rfl) ?_
  refine lv_aload_n hx hb dX10_end_5 rfl (lv_at hl 0 rfl) ?_
  refine va_get (D := (dC, dI)) (ci := 10) (v := .int 0) (C := RX10) (T := TX10) (N := 18) hx hb hts i10 hown hK hP 0 rfl rfl 1 (nlt rfl) w1 (fun _ h9 => h9) rfl dX10_end_6 ?_
  refine lv_icmp_le (tgt := 14) hx hb dX10_end_9 z683 (fun _ => ?_) (fun c1 => absurd (z682) c1)
  refine lv_aload_n hx hb dX10_end_14 rfl (lv_at hl 0 rfl) ?_
  refine lv_iload_n hx hb dX10_end_15 rfl (lv_at hl 1 rfl) ?_
  refine va_put (D := (dC, dI)) (ci := 10) (v := .int 0) (ty := tyX10 1) (C := RX10) (T := TX10) (N := 18) hx hb hts i10 tyX10 tyX10_ok nmX10 hown hK hP hD hS 0 rfl rfl 1 (nlt rfl) w1 (fun _ h9 => h9) rfl (tyX10_ok 1 (nlt rfl)) rfl rfl (nlt rfl) dX10_end_16 (fun H locs hP hD hS => ?_)
  refine lv_iload_n hx hb dX10_end_19 rfl (lv_at hl 1 rfl) ?_
  refine W.widen (k := 0) (n := 0) (by decide +kernel) (by decide +kernel) ?_
  exact ret_i hx hb hr hlocks hS (u := (fun _ => 0)) (hP.sub [] rfl) (hD.sub [] (by decide +kernel) rfl) dX10_end_20

set_option maxHeartbeats 4000000 in
set_option maxRecDepth 100000 in
theorem k36_X11_end (l : Launch) (dC : Nat → ClassId) (dI : Nat → Nat → Nat) (cB cI cJ cZ cO : ClassId) (n : Nat → Nat) : CI l yX11_end wsX11_end ({ frames := 0, cells := 0, slots := 0, locals := 0 }) (dC, dI) (tyL cB cI cJ cZ cO) [.ref (n 0), .int 0] [((n 0), .inr (11, fM n))] (fun _ => []) 0 := by
  intro sz
  refine ct_open (cc := cX11_end) (maxL := 2) (ret := (some .int)) (by decide) rfl (Nat.le_of_ble_eq_true rfl) ?_
  intro p e s m below meth c ls A hx hb hr hml hts hown hlocks hin hP hK hD hA hS hl
  have hl : lv_has ls 2 [(0, .ref (n 0)), (1, .int 0)] := hl
  have hown : s.vm.findClass RX11 = some m.cls := hown
  have i11 : ∀ w ∈ u_ws RX11 TX11 71, w ∈ wsX11_end := fun _ h => List.mem_cons_of_mem _ (List.mem_append_right _ h)
  have w1 := hts (.fieldLink RX11 230 "GuildCharterModel" "taped" "I") (List.mem_cons_of_mem _ (List.mem_append_left _ (List.mem_of_getElem? (i := 0) rfl)))
  refine lv_iload_n hx hb dX11_end_0 rfl (lv_at hl 1 rfl) ?_
  refine lv_if_lt (tgt := 12) hx hb dX11_end_1 z681 (fun c1 => absurd c1 (z125)) (fun _ => ?_)
  refine lv_iload_n hx hb dX11_end_4 rfl (lv_at hl 1 rfl) ?_
  refine lv_aload_n hx hb dX11_end_5 rfl (lv_at hl 0 rfl) ?_
  refine va_get (D := (dC, dI)) (ci := 11) (v := .int 0) (C := RX11) (T := TX11) (N := 71) hx hb hts i11 hown hK hP 0 rfl rfl 2 (nlt rfl) w1 (fun _ h9 => h9) rfl dX11_end_6 ?_
  refine lv_icmp_le (tgt := 14) hx hb dX11_end_9 z683 (fun _ => ?_) (fun c1 => absurd (z682) c1)
  refine lv_aload_n hx hb dX11_end_14 rfl (lv_at hl 0 rfl) ?_
  refine lv_iload_n hx hb dX11_end_15 rfl (lv_at hl 1 rfl) ?_
  refine va_put (D := (dC, dI)) (ci := 11) (v := .int 0) (ty := tyX11 2) (C := RX11) (T := TX11) (N := 71) hx hb hts i11 tyX11 tyX11_ok nmX11 hown hK hP hD hS 0 rfl rfl 2 (nlt rfl) w1 (fun _ h9 => h9) rfl (tyX11_ok 2 (nlt rfl)) rfl rfl (nlt rfl) dX11_end_16 (fun H locs hP hD hS => ?_)
  refine lv_iload_n hx hb dX11_end_19 rfl (lv_at hl 1 rfl) ?_
  refine W.widen (k := 0) (n := 0) (by decide +kernel) (by decide +kernel) ?_
  exact ret_i hx hb hr hlocks hS (u := (fun _ => 0)) (hP.sub [] rfl) (hD.sub [] (by decide +kernel) rfl) dX11_end_20

set_option maxHeartbeats 4000000 in
set_option maxRecDepth 100000 in
theorem k37_X10_end (l : Launch) (dC : Nat → ClassId) (dI : Nat → Nat → Nat) (cB cI cJ cZ cO : ClassId) (r : Nat → Nat) (x1 : Int32) (h0 : ¬ x1 < 0) (h1 : ¬ x1 ≤ 0) : CI l yX10_end wsX10_end ({ frames := 0, cells := 0, slots := 0, locals := 0 }) (dC, dI) (tyL cB cI cJ cZ cO) [.ref (r 0), .int x1] [((r 0), .inr (10, fX r))] (fun _ => []) (-1) := by
  intro sz
  refine ct_open (cc := cX10_end) (maxL := 2) (ret := (some .int)) (by decide) rfl (Nat.le_of_ble_eq_true rfl) ?_
  intro p e s m below meth c ls A hx hb hr hml hts hown hlocks hin hP hK hD hA hS hl
  have hl : lv_has ls 2 [(0, .ref (r 0)), (1, .int x1)] := hl
  have hown : s.vm.findClass RX10 = some m.cls := hown
  have i10 : ∀ w ∈ u_ws RX10 TX10 18, w ∈ wsX10_end := fun _ h => List.mem_cons_of_mem _ (List.mem_append_right _ h)
  have w1 := hts (.fieldLink RX10 92 "GuildCharter" "tapeSize" "I") (List.mem_cons_of_mem _ (List.mem_append_left _ (List.mem_of_getElem? (i := 0) rfl)))
  refine lv_iload_n hx hb dX10_end_0 rfl (lv_at hl 1 rfl) ?_
  refine lv_if_lt (tgt := 12) hx hb dX10_end_1 z681 (fun c1 => absurd c1 (h0)) (fun _ => ?_)
  refine lv_iload_n hx hb dX10_end_4 rfl (lv_at hl 1 rfl) ?_
  refine lv_aload_n hx hb dX10_end_5 rfl (lv_at hl 0 rfl) ?_
  refine va_get (D := (dC, dI)) (ci := 10) (v := .int 0) (C := RX10) (T := TX10) (N := 18) hx hb hts i10 hown hK hP 0 rfl rfl 1 (nlt rfl) w1 (fun _ h9 => h9) rfl dX10_end_6 ?_
  refine lv_icmp_le (tgt := 14) hx hb dX10_end_9 z683 (fun c1 => absurd c1 (h1)) (fun _ => ?_)
  refine lv_iconst (v := (-1)) hx hb dX10_end_12 z128 ?_
  refine W.widen (k := 0) (n := 0) (by decide +kernel) (by decide +kernel) ?_
  exact ret_i hx hb hr hlocks hS (u := (fun _ => 0)) (hP.sub [] rfl) (hD.sub [] (by decide +kernel) rfl) dX10_end_13

set_option maxHeartbeats 4000000 in
set_option maxRecDepth 100000 in
theorem k38_X11_end (l : Launch) (dC : Nat → ClassId) (dI : Nat → Nat → Nat) (cB cI cJ cZ cO : ClassId) (n : Nat → Nat) (x1 : Int32) (h0 : ¬ x1 < 0) (h1 : ¬ x1 ≤ 0) : CI l yX11_end wsX11_end ({ frames := 0, cells := 0, slots := 0, locals := 0 }) (dC, dI) (tyL cB cI cJ cZ cO) [.ref (n 0), .int x1] [((n 0), .inr (11, fM n))] (fun _ => []) (-1) := by
  intro sz
  refine ct_open (cc := cX11_end) (maxL := 2) (ret := (some .int)) (by decide) rfl (Nat.le_of_ble_eq_true rfl) ?_
  intro p e s m below meth c ls A hx hb hr hml hts hown hlocks hin hP hK hD hA hS hl
  have hl : lv_has ls 2 [(0, .ref (n 0)), (1, .int x1)] := hl
  have hown : s.vm.findClass RX11 = some m.cls := hown
  have i11 : ∀ w ∈ u_ws RX11 TX11 71, w ∈ wsX11_end := fun _ h => List.mem_cons_of_mem _ (List.mem_append_right _ h)
  have w1 := hts (.fieldLink RX11 230 "GuildCharterModel" "taped" "I") (List.mem_cons_of_mem _ (List.mem_append_left _ (List.mem_of_getElem? (i := 0) rfl)))
  refine lv_iload_n hx hb dX11_end_0 rfl (lv_at hl 1 rfl) ?_
  refine lv_if_lt (tgt := 12) hx hb dX11_end_1 z681 (fun c1 => absurd c1 (h0)) (fun _ => ?_)
  refine lv_iload_n hx hb dX11_end_4 rfl (lv_at hl 1 rfl) ?_
  refine lv_aload_n hx hb dX11_end_5 rfl (lv_at hl 0 rfl) ?_
  refine va_get (D := (dC, dI)) (ci := 11) (v := .int 0) (C := RX11) (T := TX11) (N := 71) hx hb hts i11 hown hK hP 0 rfl rfl 2 (nlt rfl) w1 (fun _ h9 => h9) rfl dX11_end_6 ?_
  refine lv_icmp_le (tgt := 14) hx hb dX11_end_9 z683 (fun c1 => absurd c1 (h1)) (fun _ => ?_)
  refine lv_iconst (v := (-1)) hx hb dX11_end_12 z128 ?_
  refine W.widen (k := 0) (n := 0) (by decide +kernel) (by decide +kernel) ?_
  exact ret_i hx hb hr hlocks hS (u := (fun _ => 0)) (hP.sub [] rfl) (hD.sub [] (by decide +kernel) rfl) dX11_end_13

set_option maxHeartbeats 4000000 in
set_option maxRecDepth 100000 in
theorem k39_J7_fill_53178 (l : Launch) (dC : Nat → ClassId) (dI : Nat → Nat → Nat) (cB cI cJ cZ cO : ClassId) (r : Nat → Nat) : CV l yJ7_fill_53178 wsJ7_fill_53178 ({ frames := 0, cells := 0, slots := 0, locals := 0 }) (dC, dI) (tyL cB cI cJ cZ cO) [.ref (r 32), .int 0] [((r 32), .inl (cI, 192, .inl (fun _ => 0)))] (fun u => [((r 32), .inl (cI, 192, .inl (fun _ => 0)))]) := by
  intro sz
  refine ct_open (cc := cJ7_fill_53178) (maxL := 4) (ret := none) (by decide) rfl (Nat.le_of_ble_eq_true rfl) ?_
  intro p e s m below meth c ls A hx hb hr hml hts hown hlocks hin hP hK hD hA hS hl
  have hl : lv_has ls 4 [(0, .ref (r 32)), (1, .int 0)] := hl
  have hown : s.vm.findClass RJ7 = some m.cls := hown
  refine lv_iconst (v := 0) hx hb dJ7_fill_53178_0 z8 ?_
  refine lv_istore_n (lv' := [(2, .int 0), (0, .ref (r 32)), (1, .int 0)]) hx hb dJ7_fill_53178_1 rfl hl (nlt rfl) rfl (fun ls hl => ?_)
  refine lv_aload_n hx hb dJ7_fill_53178_2 rfl (lv_at hl 1 rfl) ?_
  refine va_alen hx hb hK hP 0 1 rfl rfl (v := 192) rfl dJ7_fill_53178_3 ?_
  refine lv_istore_n (lv' := [(3, .int 192), (2, .int 0), (0, .ref (r 32)), (1, .int 0)]) hx hb dJ7_fill_53178_4 rfl hl (nlt rfl) rfl (fun ls hl => ?_)
  refine lv_iload_n hx hb dJ7_fill_53178_5 rfl (lv_at hl 1 rfl) ?_
  refine lv_iload_n hx hb dJ7_fill_53178_6 rfl (lv_at hl 0 rfl) ?_
  refine lv_icmp_ge (tgt := 20) hx hb dJ7_fill_53178_7 z162 (fun c1 => absurd c1 (z684)) (fun _ => ?_)
  refine lv_aload_n hx hb dJ7_fill_53178_10 rfl (lv_at hl 2 rfl) ?_
  refine lv_iload_n hx hb dJ7_fill_53178_11 rfl (lv_at hl 1 rfl) ?_
  refine lv_iload_n hx hb dJ7_fill_53178_12 rfl (lv_at hl 3 rfl) ?_
  refine my_iastS hx hb hK hP hD hS 0 1 rfl rfl z685 rfl dJ7_fill_53178_13 (fun H locs hP hD hS => ?_)
  refine lv_iinc (v := 1) (lv' := [(2, .int 1), (3, .int 192), (0, .ref (r 32)), (1, .int 0)]) hx hb dJ7_fill_53178_14 hl (k := 1) rfl z17 (nlt rfl) rfl (fun ls hl => ?_)
  refine lv_goto (tgt := 5) hx hb dJ7_fill_53178_17 z163 ?_
  refine lv_iload_n hx hb dJ7_fill_53178_5 rfl (lv_at hl 0 rfl) ?_
  refine lv_iload_n hx hb dJ7_fill_53178_6 rfl (lv_at hl 1 rfl) ?_
  refine lv_icmp_ge (tgt := 20) hx hb dJ7_fill_53178_7 z162 (fun c1 => absurd c1 (z686)) (fun _ => ?_)
  refine lv_aload_n hx hb dJ7_fill_53178_10 rfl (lv_at hl 2 rfl) ?_
  refine lv_iload_n hx hb dJ7_fill_53178_11 rfl (lv_at hl 0 rfl) ?_
  refine lv_iload_n hx hb dJ7_fill_53178_12 rfl (lv_at hl 3 rfl) ?_
  refine my_iastS hx hb hK hP hD hS 0 1 rfl rfl z687 rfl dJ7_fill_53178_13 (fun H locs hP hD hS => ?_)
  refine lv_iinc (v := 2) (lv' := [(2, .int 2), (3, .int 192), (0, .ref (r 32)), (1, .int 0)]) hx hb dJ7_fill_53178_14 hl (k := 0) rfl z24 (nlt rfl) rfl (fun ls hl => ?_)
  refine lv_goto (tgt := 5) hx hb dJ7_fill_53178_17 z163 ?_
  refine lv_iload_n hx hb dJ7_fill_53178_5 rfl (lv_at hl 0 rfl) ?_
  refine lv_iload_n hx hb dJ7_fill_53178_6 rfl (lv_at hl 1 rfl) ?_
  refine lv_icmp_ge (tgt := 20) hx hb dJ7_fill_53178_7 z162 (fun c1 => absurd c1 (z688)) (fun _ => ?_)
  refine lv_aload_n hx hb dJ7_fill_53178_10 rfl (lv_at hl 2 rfl) ?_
  refine lv_iload_n hx hb dJ7_fill_53178_11 rfl (lv_at hl 0 rfl) ?_
  refine lv_iload_n hx hb dJ7_fill_53178_12 rfl (lv_at hl 3 rfl) ?_
  refine my_iastS hx hb hK hP hD hS 0 1 rfl rfl z689 rfl dJ7_fill_53178_13 (fun H locs hP hD hS => ?_)
  refine lv_iinc (v := 3) (lv' := [(2, .int 3), (3, .int 192), (0, .ref (r 32)), (1, .int 0)]) hx hb dJ7_fill_53178_14 hl (k := 0) rfl z30 (nlt rfl) rfl (fun ls hl => ?_)
  refine lv_goto (tgt := 5) hx hb dJ7_fill_53178_17 z163 ?_
  refine lv_iload_n hx hb dJ7_fill_53178_5 rfl (lv_at hl 0 rfl) ?_
  refine lv_iload_n hx hb dJ7_fill_53178_6 rfl (lv_at hl 1 rfl) ?_
  refine lv_icmp_ge (tgt := 20) hx hb dJ7_fill_53178_7 z162 (fun c1 => absurd c1 (z690)) (fun _ => ?_)
  refine lv_aload_n hx hb dJ7_fill_53178_10 rfl (lv_at hl 2 rfl) ?_
  refine lv_iload_n hx hb dJ7_fill_53178_11 rfl (lv_at hl 0 rfl) ?_
  refine lv_iload_n hx hb dJ7_fill_53178_12 rfl (lv_at hl 3 rfl) ?_
  refine my_iastS hx hb hK hP hD hS 0 1 rfl rfl z691 rfl dJ7_fill_53178_13 (fun H locs hP hD hS => ?_)
  refine lv_iinc (v := 4) (lv' := [(2, .int 4), (3, .int 192), (0, .ref (r 32)), (1, .int 0)]) hx hb dJ7_fill_53178_14 hl (k := 0) rfl z36 (nlt rfl) rfl (fun ls hl => ?_)
  refine lv_goto (tgt := 5) hx hb dJ7_fill_53178_17 z163 ?_
  refine lv_iload_n hx hb dJ7_fill_53178_5 rfl (lv_at hl 0 rfl) ?_
  refine lv_iload_n hx hb dJ7_fill_53178_6 rfl (lv_at hl 1 rfl) ?_
  refine lv_icmp_ge (tgt := 20) hx hb dJ7_fill_53178_7 z162 (fun c1 => absurd c1 (z692)) (fun _ => ?_)
  refine lv_aload_n hx hb dJ7_fill_53178_10 rfl (lv_at hl 2 rfl) ?_
  refine lv_iload_n hx hb dJ7_fill_53178_11 rfl (lv_at hl 0 rfl) ?_
  refine lv_iload_n hx hb dJ7_fill_53178_12 rfl (lv_at hl 3 rfl) ?_
  refine my_iastS hx hb hK hP hD hS 0 1 rfl rfl z693 rfl dJ7_fill_53178_13 (fun H locs hP hD hS => ?_)
  refine lv_iinc (v := 5) (lv' := [(2, .int 5), (3, .int 192), (0, .ref (r 32)), (1, .int 0)]) hx hb dJ7_fill_53178_14 hl (k := 0) rfl z98 (nlt rfl) rfl (fun ls hl => ?_)
  refine lv_goto (tgt := 5) hx hb dJ7_fill_53178_17 z163 ?_
  refine lv_iload_n hx hb dJ7_fill_53178_5 rfl (lv_at hl 0 rfl) ?_
  refine lv_iload_n hx hb dJ7_fill_53178_6 rfl (lv_at hl 1 rfl) ?_
  refine lv_icmp_ge (tgt := 20) hx hb dJ7_fill_53178_7 z162 (fun c1 => absurd c1 (z694)) (fun _ => ?_)
  refine lv_aload_n hx hb dJ7_fill_53178_10 rfl (lv_at hl 2 rfl) ?_
  refine lv_iload_n hx hb dJ7_fill_53178_11 rfl (lv_at hl 0 rfl) ?_
  refine lv_iload_n hx hb dJ7_fill_53178_12 rfl (lv_at hl 3 rfl) ?_
  refine my_iastS hx hb hK hP hD hS 0 1 rfl rfl z695 rfl dJ7_fill_53178_13 (fun H locs hP hD hS => ?_)
  refine lv_iinc (v := 6) (lv' := [(2, .int 6), (3, .int 192), (0, .ref (r 32)), (1, .int 0)]) hx hb dJ7_fill_53178_14 hl (k := 0) rfl z104 (nlt rfl) rfl (fun ls hl => ?_)
  refine lv_goto (tgt := 5) hx hb dJ7_fill_53178_17 z163 ?_
  refine lv_iload_n hx hb dJ7_fill_53178_5 rfl (lv_at hl 0 rfl) ?_
  refine lv_iload_n hx hb dJ7_fill_53178_6 rfl (lv_at hl 1 rfl) ?_
  refine lv_icmp_ge (tgt := 20) hx hb dJ7_fill_53178_7 z162 (fun c1 => absurd c1 (z696)) (fun _ => ?_)
  refine lv_aload_n hx hb dJ7_fill_53178_10 rfl (lv_at hl 2 rfl) ?_
  refine lv_iload_n hx hb dJ7_fill_53178_11 rfl (lv_at hl 0 rfl) ?_
  refine lv_iload_n hx hb dJ7_fill_53178_12 rfl (lv_at hl 3 rfl) ?_
  refine my_iastS hx hb hK hP hD hS 0 1 rfl rfl z697 rfl dJ7_fill_53178_13 (fun H locs hP hD hS => ?_)
  refine lv_iinc (v := 7) (lv' := [(2, .int 7), (3, .int 192), (0, .ref (r 32)), (1, .int 0)]) hx hb dJ7_fill_53178_14 hl (k := 0) rfl z268 (nlt rfl) rfl (fun ls hl => ?_)
  refine lv_goto (tgt := 5) hx hb dJ7_fill_53178_17 z163 ?_
  refine lv_iload_n hx hb dJ7_fill_53178_5 rfl (lv_at hl 0 rfl) ?_
  refine lv_iload_n hx hb dJ7_fill_53178_6 rfl (lv_at hl 1 rfl) ?_
  refine lv_icmp_ge (tgt := 20) hx hb dJ7_fill_53178_7 z162 (fun c1 => absurd c1 (z698)) (fun _ => ?_)
  refine lv_aload_n hx hb dJ7_fill_53178_10 rfl (lv_at hl 2 rfl) ?_
  refine lv_iload_n hx hb dJ7_fill_53178_11 rfl (lv_at hl 0 rfl) ?_
  refine lv_iload_n hx hb dJ7_fill_53178_12 rfl (lv_at hl 3 rfl) ?_
  refine my_iastS hx hb hK hP hD hS 0 1 rfl rfl z699 rfl dJ7_fill_53178_13 (fun H locs hP hD hS => ?_)
  refine lv_iinc (v := 8) (lv' := [(2, .int 8), (3, .int 192), (0, .ref (r 32)), (1, .int 0)]) hx hb dJ7_fill_53178_14 hl (k := 0) rfl z271 (nlt rfl) rfl (fun ls hl => ?_)
  refine lv_goto (tgt := 5) hx hb dJ7_fill_53178_17 z163 ?_
  refine lv_iload_n hx hb dJ7_fill_53178_5 rfl (lv_at hl 0 rfl) ?_
  refine lv_iload_n hx hb dJ7_fill_53178_6 rfl (lv_at hl 1 rfl) ?_
  refine lv_icmp_ge (tgt := 20) hx hb dJ7_fill_53178_7 z162 (fun c1 => absurd c1 (z700)) (fun _ => ?_)
  refine lv_aload_n hx hb dJ7_fill_53178_10 rfl (lv_at hl 2 rfl) ?_
  refine lv_iload_n hx hb dJ7_fill_53178_11 rfl (lv_at hl 0 rfl) ?_
  refine lv_iload_n hx hb dJ7_fill_53178_12 rfl (lv_at hl 3 rfl) ?_
  refine my_iastS hx hb hK hP hD hS 0 1 rfl rfl z701 rfl dJ7_fill_53178_13 (fun H locs hP hD hS => ?_)
  refine lv_iinc (v := 9) (lv' := [(2, .int 9), (3, .int 192), (0, .ref (r 32)), (1, .int 0)]) hx hb dJ7_fill_53178_14 hl (k := 0) rfl z274 (nlt rfl) rfl (fun ls hl => ?_)
  refine lv_goto (tgt := 5) hx hb dJ7_fill_53178_17 z163 ?_
  refine lv_iload_n hx hb dJ7_fill_53178_5 rfl (lv_at hl 0 rfl) ?_
  refine lv_iload_n hx hb dJ7_fill_53178_6 rfl (lv_at hl 1 rfl) ?_
  refine lv_icmp_ge (tgt := 20) hx hb dJ7_fill_53178_7 z162 (fun c1 => absurd c1 (z702)) (fun _ => ?_)
  refine lv_aload_n hx hb dJ7_fill_53178_10 rfl (lv_at hl 2 rfl) ?_
  refine lv_iload_n hx hb dJ7_fill_53178_11 rfl (lv_at hl 0 rfl) ?_
  refine lv_iload_n hx hb dJ7_fill_53178_12 rfl (lv_at hl 3 rfl) ?_
  refine my_iastS hx hb hK hP hD hS 0 1 rfl rfl z703 rfl dJ7_fill_53178_13 (fun H locs hP hD hS => ?_)
  refine lv_iinc (v := 10) (lv' := [(2, .int 10), (3, .int 192), (0, .ref (r 32)), (1, .int 0)]) hx hb dJ7_fill_53178_14 hl (k := 0) rfl z277 (nlt rfl) rfl (fun ls hl => ?_)
  refine lv_goto (tgt := 5) hx hb dJ7_fill_53178_17 z163 ?_
  refine lv_iload_n hx hb dJ7_fill_53178_5 rfl (lv_at hl 0 rfl) ?_
  refine lv_iload_n hx hb dJ7_fill_53178_6 rfl (lv_at hl 1 rfl) ?_
  refine lv_icmp_ge (tgt := 20) hx hb dJ7_fill_53178_7 z162 (fun c1 => absurd c1 (z704)) (fun _ => ?_)
  refine lv_aload_n hx hb dJ7_fill_53178_10 rfl (lv_at hl 2 rfl) ?_
  refine lv_iload_n hx hb dJ7_fill_53178_11 rfl (lv_at hl 0 rfl) ?_
  refine lv_iload_n hx hb dJ7_fill_53178_12 rfl (lv_at hl 3 rfl) ?_
  refine my_iastS hx hb hK hP hD hS 0 1 rfl rfl z705 rfl dJ7_fill_53178_13 (fun H locs hP hD hS => ?_)
  refine lv_iinc (v := 11) (lv' := [(2, .int 11), (3, .int 192), (0, .ref (r 32)), (1, .int 0)]) hx hb dJ7_fill_53178_14 hl (k := 0) rfl z280 (nlt rfl) rfl (fun ls hl => ?_)
  refine lv_goto (tgt := 5) hx hb dJ7_fill_53178_17 z163 ?_
  refine lv_iload_n hx hb dJ7_fill_53178_5 rfl (lv_at hl 0 rfl) ?_
  refine lv_iload_n hx hb dJ7_fill_53178_6 rfl (lv_at hl 1 rfl) ?_
  refine lv_icmp_ge (tgt := 20) hx hb dJ7_fill_53178_7 z162 (fun c1 => absurd c1 (z706)) (fun _ => ?_)
  refine lv_aload_n hx hb dJ7_fill_53178_10 rfl (lv_at hl 2 rfl) ?_
  refine lv_iload_n hx hb dJ7_fill_53178_11 rfl (lv_at hl 0 rfl) ?_
  refine lv_iload_n hx hb dJ7_fill_53178_12 rfl (lv_at hl 3 rfl) ?_
  refine my_iastS hx hb hK hP hD hS 0 1 rfl rfl z707 rfl dJ7_fill_53178_13 (fun H locs hP hD hS => ?_)
  refine lv_iinc (v := 12) (lv' := [(2, .int 12), (3, .int 192), (0, .ref (r 32)), (1, .int 0)]) hx hb dJ7_fill_53178_14 hl (k := 0) rfl z283 (nlt rfl) rfl (fun ls hl => ?_)
  refine lv_goto (tgt := 5) hx hb dJ7_fill_53178_17 z163 ?_
  refine lv_iload_n hx hb dJ7_fill_53178_5 rfl (lv_at hl 0 rfl) ?_
  refine lv_iload_n hx hb dJ7_fill_53178_6 rfl (lv_at hl 1 rfl) ?_
  refine lv_icmp_ge (tgt := 20) hx hb dJ7_fill_53178_7 z162 (fun c1 => absurd c1 (z708)) (fun _ => ?_)
  refine lv_aload_n hx hb dJ7_fill_53178_10 rfl (lv_at hl 2 rfl) ?_
  refine lv_iload_n hx hb dJ7_fill_53178_11 rfl (lv_at hl 0 rfl) ?_
  refine lv_iload_n hx hb dJ7_fill_53178_12 rfl (lv_at hl 3 rfl) ?_
  refine my_iastS hx hb hK hP hD hS 0 1 rfl rfl z709 rfl dJ7_fill_53178_13 (fun H locs hP hD hS => ?_)
  refine lv_iinc (v := 13) (lv' := [(2, .int 13), (3, .int 192), (0, .ref (r 32)), (1, .int 0)]) hx hb dJ7_fill_53178_14 hl (k := 0) rfl z286 (nlt rfl) rfl (fun ls hl => ?_)
  refine lv_goto (tgt := 5) hx hb dJ7_fill_53178_17 z163 ?_
  refine lv_iload_n hx hb dJ7_fill_53178_5 rfl (lv_at hl 0 rfl) ?_
  refine lv_iload_n hx hb dJ7_fill_53178_6 rfl (lv_at hl 1 rfl) ?_
  refine lv_icmp_ge (tgt := 20) hx hb dJ7_fill_53178_7 z162 (fun c1 => absurd c1 (z710)) (fun _ => ?_)
  refine lv_aload_n hx hb dJ7_fill_53178_10 rfl (lv_at hl 2 rfl) ?_
  refine lv_iload_n hx hb dJ7_fill_53178_11 rfl (lv_at hl 0 rfl) ?_
  refine lv_iload_n hx hb dJ7_fill_53178_12 rfl (lv_at hl 3 rfl) ?_
  refine my_iastS hx hb hK hP hD hS 0 1 rfl rfl z711 rfl dJ7_fill_53178_13 (fun H locs hP hD hS => ?_)
  refine lv_iinc (v := 14) (lv' := [(2, .int 14), (3, .int 192), (0, .ref (r 32)), (1, .int 0)]) hx hb dJ7_fill_53178_14 hl (k := 0) rfl z289 (nlt rfl) rfl (fun ls hl => ?_)
  refine lv_goto (tgt := 5) hx hb dJ7_fill_53178_17 z163 ?_
  refine lv_iload_n hx hb dJ7_fill_53178_5 rfl (lv_at hl 0 rfl) ?_
  refine lv_iload_n hx hb dJ7_fill_53178_6 rfl (lv_at hl 1 rfl) ?_
  refine lv_icmp_ge (tgt := 20) hx hb dJ7_fill_53178_7 z162 (fun c1 => absurd c1 (z712)) (fun _ => ?_)
  refine lv_aload_n hx hb dJ7_fill_53178_10 rfl (lv_at hl 2 rfl) ?_
  refine lv_iload_n hx hb dJ7_fill_53178_11 rfl (lv_at hl 0 rfl) ?_
  refine lv_iload_n hx hb dJ7_fill_53178_12 rfl (lv_at hl 3 rfl) ?_
  refine my_iastS hx hb hK hP hD hS 0 1 rfl rfl z713 rfl dJ7_fill_53178_13 (fun H locs hP hD hS => ?_)
  refine lv_iinc (v := 15) (lv' := [(2, .int 15), (3, .int 192), (0, .ref (r 32)), (1, .int 0)]) hx hb dJ7_fill_53178_14 hl (k := 0) rfl z292 (nlt rfl) rfl (fun ls hl => ?_)
  refine lv_goto (tgt := 5) hx hb dJ7_fill_53178_17 z163 ?_
  refine lv_iload_n hx hb dJ7_fill_53178_5 rfl (lv_at hl 0 rfl) ?_
  refine lv_iload_n hx hb dJ7_fill_53178_6 rfl (lv_at hl 1 rfl) ?_
  refine lv_icmp_ge (tgt := 20) hx hb dJ7_fill_53178_7 z162 (fun c1 => absurd c1 (z714)) (fun _ => ?_)
  refine lv_aload_n hx hb dJ7_fill_53178_10 rfl (lv_at hl 2 rfl) ?_
  refine lv_iload_n hx hb dJ7_fill_53178_11 rfl (lv_at hl 0 rfl) ?_
  refine lv_iload_n hx hb dJ7_fill_53178_12 rfl (lv_at hl 3 rfl) ?_
  refine my_iastS hx hb hK hP hD hS 0 1 rfl rfl z715 rfl dJ7_fill_53178_13 (fun H locs hP hD hS => ?_)
  refine lv_iinc (v := 16) (lv' := [(2, .int 16), (3, .int 192), (0, .ref (r 32)), (1, .int 0)]) hx hb dJ7_fill_53178_14 hl (k := 0) rfl z295 (nlt rfl) rfl (fun ls hl => ?_)
  refine lv_goto (tgt := 5) hx hb dJ7_fill_53178_17 z163 ?_
  refine lv_iload_n hx hb dJ7_fill_53178_5 rfl (lv_at hl 0 rfl) ?_
  refine lv_iload_n hx hb dJ7_fill_53178_6 rfl (lv_at hl 1 rfl) ?_
  refine lv_icmp_ge (tgt := 20) hx hb dJ7_fill_53178_7 z162 (fun c1 => absurd c1 (z716)) (fun _ => ?_)
  refine lv_aload_n hx hb dJ7_fill_53178_10 rfl (lv_at hl 2 rfl) ?_
  refine lv_iload_n hx hb dJ7_fill_53178_11 rfl (lv_at hl 0 rfl) ?_
  refine lv_iload_n hx hb dJ7_fill_53178_12 rfl (lv_at hl 3 rfl) ?_
  refine my_iastS hx hb hK hP hD hS 0 1 rfl rfl z717 rfl dJ7_fill_53178_13 (fun H locs hP hD hS => ?_)
  refine lv_iinc (v := 17) (lv' := [(2, .int 17), (3, .int 192), (0, .ref (r 32)), (1, .int 0)]) hx hb dJ7_fill_53178_14 hl (k := 0) rfl z298 (nlt rfl) rfl (fun ls hl => ?_)
  refine lv_goto (tgt := 5) hx hb dJ7_fill_53178_17 z163 ?_
  refine lv_iload_n hx hb dJ7_fill_53178_5 rfl (lv_at hl 0 rfl) ?_
  refine lv_iload_n hx hb dJ7_fill_53178_6 rfl (lv_at hl 1 rfl) ?_
  refine lv_icmp_ge (tgt := 20) hx hb dJ7_fill_53178_7 z162 (fun c1 => absurd c1 (z718)) (fun _ => ?_)
  refine lv_aload_n hx hb dJ7_fill_53178_10 rfl (lv_at hl 2 rfl) ?_
  refine lv_iload_n hx hb dJ7_fill_53178_11 rfl (lv_at hl 0 rfl) ?_
  refine lv_iload_n hx hb dJ7_fill_53178_12 rfl (lv_at hl 3 rfl) ?_
  refine my_iastS hx hb hK hP hD hS 0 1 rfl rfl z719 rfl dJ7_fill_53178_13 (fun H locs hP hD hS => ?_)
  refine lv_iinc (v := 18) (lv' := [(2, .int 18), (3, .int 192), (0, .ref (r 32)), (1, .int 0)]) hx hb dJ7_fill_53178_14 hl (k := 0) rfl z301 (nlt rfl) rfl (fun ls hl => ?_)
  refine lv_goto (tgt := 5) hx hb dJ7_fill_53178_17 z163 ?_
  refine lv_iload_n hx hb dJ7_fill_53178_5 rfl (lv_at hl 0 rfl) ?_
  refine lv_iload_n hx hb dJ7_fill_53178_6 rfl (lv_at hl 1 rfl) ?_
  refine lv_icmp_ge (tgt := 20) hx hb dJ7_fill_53178_7 z162 (fun c1 => absurd c1 (z720)) (fun _ => ?_)
  refine lv_aload_n hx hb dJ7_fill_53178_10 rfl (lv_at hl 2 rfl) ?_
  refine lv_iload_n hx hb dJ7_fill_53178_11 rfl (lv_at hl 0 rfl) ?_
  refine lv_iload_n hx hb dJ7_fill_53178_12 rfl (lv_at hl 3 rfl) ?_
  refine my_iastS hx hb hK hP hD hS 0 1 rfl rfl z721 rfl dJ7_fill_53178_13 (fun H locs hP hD hS => ?_)
  refine lv_iinc (v := 19) (lv' := [(2, .int 19), (3, .int 192), (0, .ref (r 32)), (1, .int 0)]) hx hb dJ7_fill_53178_14 hl (k := 0) rfl z304 (nlt rfl) rfl (fun ls hl => ?_)
  refine lv_goto (tgt := 5) hx hb dJ7_fill_53178_17 z163 ?_
  refine lv_iload_n hx hb dJ7_fill_53178_5 rfl (lv_at hl 0 rfl) ?_
  refine lv_iload_n hx hb dJ7_fill_53178_6 rfl (lv_at hl 1 rfl) ?_
  refine lv_icmp_ge (tgt := 20) hx hb dJ7_fill_53178_7 z162 (fun c1 => absurd c1 (z722)) (fun _ => ?_)
  refine lv_aload_n hx hb dJ7_fill_53178_10 rfl (lv_at hl 2 rfl) ?_
  refine lv_iload_n hx hb dJ7_fill_53178_11 rfl (lv_at hl 0 rfl) ?_
  refine lv_iload_n hx hb dJ7_fill_53178_12 rfl (lv_at hl 3 rfl) ?_
  refine my_iastS hx hb hK hP hD hS 0 1 rfl rfl z723 rfl dJ7_fill_53178_13 (fun H locs hP hD hS => ?_)
  refine lv_iinc (v := 20) (lv' := [(2, .int 20), (3, .int 192), (0, .ref (r 32)), (1, .int 0)]) hx hb dJ7_fill_53178_14 hl (k := 0) rfl z307 (nlt rfl) rfl (fun ls hl => ?_)
  refine lv_goto (tgt := 5) hx hb dJ7_fill_53178_17 z163 ?_
  refine lv_iload_n hx hb dJ7_fill_53178_5 rfl (lv_at hl 0 rfl) ?_
  refine lv_iload_n hx hb dJ7_fill_53178_6 rfl (lv_at hl 1 rfl) ?_
  refine lv_icmp_ge (tgt := 20) hx hb dJ7_fill_53178_7 z162 (fun c1 => absurd c1 (z724)) (fun _ => ?_)
  refine lv_aload_n hx hb dJ7_fill_53178_10 rfl (lv_at hl 2 rfl) ?_
  refine lv_iload_n hx hb dJ7_fill_53178_11 rfl (lv_at hl 0 rfl) ?_
  refine lv_iload_n hx hb dJ7_fill_53178_12 rfl (lv_at hl 3 rfl) ?_
  refine my_iastS hx hb hK hP hD hS 0 1 rfl rfl z725 rfl dJ7_fill_53178_13 (fun H locs hP hD hS => ?_)
  refine lv_iinc (v := 21) (lv' := [(2, .int 21), (3, .int 192), (0, .ref (r 32)), (1, .int 0)]) hx hb dJ7_fill_53178_14 hl (k := 0) rfl z310 (nlt rfl) rfl (fun ls hl => ?_)
  refine lv_goto (tgt := 5) hx hb dJ7_fill_53178_17 z163 ?_
  refine lv_iload_n hx hb dJ7_fill_53178_5 rfl (lv_at hl 0 rfl) ?_
  refine lv_iload_n hx hb dJ7_fill_53178_6 rfl (lv_at hl 1 rfl) ?_
  refine lv_icmp_ge (tgt := 20) hx hb dJ7_fill_53178_7 z162 (fun c1 => absurd c1 (z726)) (fun _ => ?_)
  refine lv_aload_n hx hb dJ7_fill_53178_10 rfl (lv_at hl 2 rfl) ?_
  refine lv_iload_n hx hb dJ7_fill_53178_11 rfl (lv_at hl 0 rfl) ?_
  refine lv_iload_n hx hb dJ7_fill_53178_12 rfl (lv_at hl 3 rfl) ?_
  refine my_iastS hx hb hK hP hD hS 0 1 rfl rfl z727 rfl dJ7_fill_53178_13 (fun H locs hP hD hS => ?_)
  refine lv_iinc (v := 22) (lv' := [(2, .int 22), (3, .int 192), (0, .ref (r 32)), (1, .int 0)]) hx hb dJ7_fill_53178_14 hl (k := 0) rfl z313 (nlt rfl) rfl (fun ls hl => ?_)
  refine lv_goto (tgt := 5) hx hb dJ7_fill_53178_17 z163 ?_
  refine lv_iload_n hx hb dJ7_fill_53178_5 rfl (lv_at hl 0 rfl) ?_
  refine lv_iload_n hx hb dJ7_fill_53178_6 rfl (lv_at hl 1 rfl) ?_
  refine lv_icmp_ge (tgt := 20) hx hb dJ7_fill_53178_7 z162 (fun c1 => absurd c1 (z728)) (fun _ => ?_)
  refine lv_aload_n hx hb dJ7_fill_53178_10 rfl (lv_at hl 2 rfl) ?_
  refine lv_iload_n hx hb dJ7_fill_53178_11 rfl (lv_at hl 0 rfl) ?_
  refine lv_iload_n hx hb dJ7_fill_53178_12 rfl (lv_at hl 3 rfl) ?_
  refine my_iastS hx hb hK hP hD hS 0 1 rfl rfl z729 rfl dJ7_fill_53178_13 (fun H locs hP hD hS => ?_)
  refine lv_iinc (v := 23) (lv' := [(2, .int 23), (3, .int 192), (0, .ref (r 32)), (1, .int 0)]) hx hb dJ7_fill_53178_14 hl (k := 0) rfl z316 (nlt rfl) rfl (fun ls hl => ?_)
  refine lv_goto (tgt := 5) hx hb dJ7_fill_53178_17 z163 ?_
  refine lv_iload_n hx hb dJ7_fill_53178_5 rfl (lv_at hl 0 rfl) ?_
  refine lv_iload_n hx hb dJ7_fill_53178_6 rfl (lv_at hl 1 rfl) ?_
  refine lv_icmp_ge (tgt := 20) hx hb dJ7_fill_53178_7 z162 (fun c1 => absurd c1 (z730)) (fun _ => ?_)
  refine lv_aload_n hx hb dJ7_fill_53178_10 rfl (lv_at hl 2 rfl) ?_
  refine lv_iload_n hx hb dJ7_fill_53178_11 rfl (lv_at hl 0 rfl) ?_
  refine lv_iload_n hx hb dJ7_fill_53178_12 rfl (lv_at hl 3 rfl) ?_
  refine my_iastS hx hb hK hP hD hS 0 1 rfl rfl z731 rfl dJ7_fill_53178_13 (fun H locs hP hD hS => ?_)
  refine lv_iinc (v := 24) (lv' := [(2, .int 24), (3, .int 192), (0, .ref (r 32)), (1, .int 0)]) hx hb dJ7_fill_53178_14 hl (k := 0) rfl z319 (nlt rfl) rfl (fun ls hl => ?_)
  refine lv_goto (tgt := 5) hx hb dJ7_fill_53178_17 z163 ?_
  refine lv_iload_n hx hb dJ7_fill_53178_5 rfl (lv_at hl 0 rfl) ?_
  refine lv_iload_n hx hb dJ7_fill_53178_6 rfl (lv_at hl 1 rfl) ?_
  refine lv_icmp_ge (tgt := 20) hx hb dJ7_fill_53178_7 z162 (fun c1 => absurd c1 (z732)) (fun _ => ?_)
  refine lv_aload_n hx hb dJ7_fill_53178_10 rfl (lv_at hl 2 rfl) ?_
  refine lv_iload_n hx hb dJ7_fill_53178_11 rfl (lv_at hl 0 rfl) ?_
  refine lv_iload_n hx hb dJ7_fill_53178_12 rfl (lv_at hl 3 rfl) ?_
  refine my_iastS hx hb hK hP hD hS 0 1 rfl rfl z733 rfl dJ7_fill_53178_13 (fun H locs hP hD hS => ?_)
  refine lv_iinc (v := 25) (lv' := [(2, .int 25), (3, .int 192), (0, .ref (r 32)), (1, .int 0)]) hx hb dJ7_fill_53178_14 hl (k := 0) rfl z322 (nlt rfl) rfl (fun ls hl => ?_)
  refine lv_goto (tgt := 5) hx hb dJ7_fill_53178_17 z163 ?_
  refine lv_iload_n hx hb dJ7_fill_53178_5 rfl (lv_at hl 0 rfl) ?_
  refine lv_iload_n hx hb dJ7_fill_53178_6 rfl (lv_at hl 1 rfl) ?_
  refine lv_icmp_ge (tgt := 20) hx hb dJ7_fill_53178_7 z162 (fun c1 => absurd c1 (z734)) (fun _ => ?_)
  refine lv_aload_n hx hb dJ7_fill_53178_10 rfl (lv_at hl 2 rfl) ?_
  refine lv_iload_n hx hb dJ7_fill_53178_11 rfl (lv_at hl 0 rfl) ?_
  refine lv_iload_n hx hb dJ7_fill_53178_12 rfl (lv_at hl 3 rfl) ?_
  refine my_iastS hx hb hK hP hD hS 0 1 rfl rfl z735 rfl dJ7_fill_53178_13 (fun H locs hP hD hS => ?_)
  refine lv_iinc (v := 26) (lv' := [(2, .int 26), (3, .int 192), (0, .ref (r 32)), (1, .int 0)]) hx hb dJ7_fill_53178_14 hl (k := 0) rfl z325 (nlt rfl) rfl (fun ls hl => ?_)
  refine lv_goto (tgt := 5) hx hb dJ7_fill_53178_17 z163 ?_
  refine lv_iload_n hx hb dJ7_fill_53178_5 rfl (lv_at hl 0 rfl) ?_
  refine lv_iload_n hx hb dJ7_fill_53178_6 rfl (lv_at hl 1 rfl) ?_
  refine lv_icmp_ge (tgt := 20) hx hb dJ7_fill_53178_7 z162 (fun c1 => absurd c1 (z736)) (fun _ => ?_)
  refine lv_aload_n hx hb dJ7_fill_53178_10 rfl (lv_at hl 2 rfl) ?_
  refine lv_iload_n hx hb dJ7_fill_53178_11 rfl (lv_at hl 0 rfl) ?_
  refine lv_iload_n hx hb dJ7_fill_53178_12 rfl (lv_at hl 3 rfl) ?_
  refine my_iastS hx hb hK hP hD hS 0 1 rfl rfl z737 rfl dJ7_fill_53178_13 (fun H locs hP hD hS => ?_)
  refine lv_iinc (v := 27) (lv' := [(2, .int 27), (3, .int 192), (0, .ref (r 32)), (1, .int 0)]) hx hb dJ7_fill_53178_14 hl (k := 0) rfl z328 (nlt rfl) rfl (fun ls hl => ?_)
  refine lv_goto (tgt := 5) hx hb dJ7_fill_53178_17 z163 ?_
  refine lv_iload_n hx hb dJ7_fill_53178_5 rfl (lv_at hl 0 rfl) ?_
  refine lv_iload_n hx hb dJ7_fill_53178_6 rfl (lv_at hl 1 rfl) ?_
  refine lv_icmp_ge (tgt := 20) hx hb dJ7_fill_53178_7 z162 (fun c1 => absurd c1 (z738)) (fun _ => ?_)
  refine lv_aload_n hx hb dJ7_fill_53178_10 rfl (lv_at hl 2 rfl) ?_
  refine lv_iload_n hx hb dJ7_fill_53178_11 rfl (lv_at hl 0 rfl) ?_
  refine lv_iload_n hx hb dJ7_fill_53178_12 rfl (lv_at hl 3 rfl) ?_
  refine my_iastS hx hb hK hP hD hS 0 1 rfl rfl z739 rfl dJ7_fill_53178_13 (fun H locs hP hD hS => ?_)
  refine lv_iinc (v := 28) (lv' := [(2, .int 28), (3, .int 192), (0, .ref (r 32)), (1, .int 0)]) hx hb dJ7_fill_53178_14 hl (k := 0) rfl z331 (nlt rfl) rfl (fun ls hl => ?_)
  refine lv_goto (tgt := 5) hx hb dJ7_fill_53178_17 z163 ?_
  refine lv_iload_n hx hb dJ7_fill_53178_5 rfl (lv_at hl 0 rfl) ?_
  refine lv_iload_n hx hb dJ7_fill_53178_6 rfl (lv_at hl 1 rfl) ?_
  refine lv_icmp_ge (tgt := 20) hx hb dJ7_fill_53178_7 z162 (fun c1 => absurd c1 (z740)) (fun _ => ?_)
  refine lv_aload_n hx hb dJ7_fill_53178_10 rfl (lv_at hl 2 rfl) ?_
  refine lv_iload_n hx hb dJ7_fill_53178_11 rfl (lv_at hl 0 rfl) ?_
  refine lv_iload_n hx hb dJ7_fill_53178_12 rfl (lv_at hl 3 rfl) ?_
  refine my_iastS hx hb hK hP hD hS 0 1 rfl rfl z741 rfl dJ7_fill_53178_13 (fun H locs hP hD hS => ?_)
  refine lv_iinc (v := 29) (lv' := [(2, .int 29), (3, .int 192), (0, .ref (r 32)), (1, .int 0)]) hx hb dJ7_fill_53178_14 hl (k := 0) rfl z334 (nlt rfl) rfl (fun ls hl => ?_)
  refine lv_goto (tgt := 5) hx hb dJ7_fill_53178_17 z163 ?_
  refine lv_iload_n hx hb dJ7_fill_53178_5 rfl (lv_at hl 0 rfl) ?_
  refine lv_iload_n hx hb dJ7_fill_53178_6 rfl (lv_at hl 1 rfl) ?_
  refine lv_icmp_ge (tgt := 20) hx hb dJ7_fill_53178_7 z162 (fun c1 => absurd c1 (z742)) (fun _ => ?_)
  refine lv_aload_n hx hb dJ7_fill_53178_10 rfl (lv_at hl 2 rfl) ?_
  refine lv_iload_n hx hb dJ7_fill_53178_11 rfl (lv_at hl 0 rfl) ?_
  refine lv_iload_n hx hb dJ7_fill_53178_12 rfl (lv_at hl 3 rfl) ?_
  refine my_iastS hx hb hK hP hD hS 0 1 rfl rfl z743 rfl dJ7_fill_53178_13 (fun H locs hP hD hS => ?_)
  refine lv_iinc (v := 30) (lv' := [(2, .int 30), (3, .int 192), (0, .ref (r 32)), (1, .int 0)]) hx hb dJ7_fill_53178_14 hl (k := 0) rfl z337 (nlt rfl) rfl (fun ls hl => ?_)
  refine lv_goto (tgt := 5) hx hb dJ7_fill_53178_17 z163 ?_
  refine lv_iload_n hx hb dJ7_fill_53178_5 rfl (lv_at hl 0 rfl) ?_
  refine lv_iload_n hx hb dJ7_fill_53178_6 rfl (lv_at hl 1 rfl) ?_
  refine lv_icmp_ge (tgt := 20) hx hb dJ7_fill_53178_7 z162 (fun c1 => absurd c1 (z744)) (fun _ => ?_)
  refine lv_aload_n hx hb dJ7_fill_53178_10 rfl (lv_at hl 2 rfl) ?_
  refine lv_iload_n hx hb dJ7_fill_53178_11 rfl (lv_at hl 0 rfl) ?_
  refine lv_iload_n hx hb dJ7_fill_53178_12 rfl (lv_at hl 3 rfl) ?_
  refine my_iastS hx hb hK hP hD hS 0 1 rfl rfl z745 rfl dJ7_fill_53178_13 (fun H locs hP hD hS => ?_)
  refine lv_iinc (v := 31) (lv' := [(2, .int 31), (3, .int 192), (0, .ref (r 32)), (1, .int 0)]) hx hb dJ7_fill_53178_14 hl (k := 0) rfl z340 (nlt rfl) rfl (fun ls hl => ?_)
  refine lv_goto (tgt := 5) hx hb dJ7_fill_53178_17 z163 ?_
  refine lv_iload_n hx hb dJ7_fill_53178_5 rfl (lv_at hl 0 rfl) ?_
  refine lv_iload_n hx hb dJ7_fill_53178_6 rfl (lv_at hl 1 rfl) ?_
  refine lv_icmp_ge (tgt := 20) hx hb dJ7_fill_53178_7 z162 (fun c1 => absurd c1 (z746)) (fun _ => ?_)
  refine lv_aload_n hx hb dJ7_fill_53178_10 rfl (lv_at hl 2 rfl) ?_
  refine lv_iload_n hx hb dJ7_fill_53178_11 rfl (lv_at hl 0 rfl) ?_
  refine lv_iload_n hx hb dJ7_fill_53178_12 rfl (lv_at hl 3 rfl) ?_
  refine my_iastS hx hb hK hP hD hS 0 1 rfl rfl z747 rfl dJ7_fill_53178_13 (fun H locs hP hD hS => ?_)
  refine lv_iinc (v := 32) (lv' := [(2, .int 32), (3, .int 192), (0, .ref (r 32)), (1, .int 0)]) hx hb dJ7_fill_53178_14 hl (k := 0) rfl z343 (nlt rfl) rfl (fun ls hl => ?_)
  refine lv_goto (tgt := 5) hx hb dJ7_fill_53178_17 z163 ?_
  refine lv_iload_n hx hb dJ7_fill_53178_5 rfl (lv_at hl 0 rfl) ?_
  refine lv_iload_n hx hb dJ7_fill_53178_6 rfl (lv_at hl 1 rfl) ?_
  refine lv_icmp_ge (tgt := 20) hx hb dJ7_fill_53178_7 z162 (fun c1 => absurd c1 (z748)) (fun _ => ?_)
  refine lv_aload_n hx hb dJ7_fill_53178_10 rfl (lv_at hl 2 rfl) ?_
  refine lv_iload_n hx hb dJ7_fill_53178_11 rfl (lv_at hl 0 rfl) ?_
  refine lv_iload_n hx hb dJ7_fill_53178_12 rfl (lv_at hl 3 rfl) ?_
  refine my_iastS hx hb hK hP hD hS 0 1 rfl rfl z749 rfl dJ7_fill_53178_13 (fun H locs hP hD hS => ?_)
  refine lv_iinc (v := 33) (lv' := [(2, .int 33), (3, .int 192), (0, .ref (r 32)), (1, .int 0)]) hx hb dJ7_fill_53178_14 hl (k := 0) rfl z346 (nlt rfl) rfl (fun ls hl => ?_)
  refine lv_goto (tgt := 5) hx hb dJ7_fill_53178_17 z163 ?_
  refine lv_iload_n hx hb dJ7_fill_53178_5 rfl (lv_at hl 0 rfl) ?_
  refine lv_iload_n hx hb dJ7_fill_53178_6 rfl (lv_at hl 1 rfl) ?_
  refine lv_icmp_ge (tgt := 20) hx hb dJ7_fill_53178_7 z162 (fun c1 => absurd c1 (z750)) (fun _ => ?_)
  refine lv_aload_n hx hb dJ7_fill_53178_10 rfl (lv_at hl 2 rfl) ?_
  refine lv_iload_n hx hb dJ7_fill_53178_11 rfl (lv_at hl 0 rfl) ?_
  refine lv_iload_n hx hb dJ7_fill_53178_12 rfl (lv_at hl 3 rfl) ?_
  refine my_iastS hx hb hK hP hD hS 0 1 rfl rfl z751 rfl dJ7_fill_53178_13 (fun H locs hP hD hS => ?_)
  refine lv_iinc (v := 34) (lv' := [(2, .int 34), (3, .int 192), (0, .ref (r 32)), (1, .int 0)]) hx hb dJ7_fill_53178_14 hl (k := 0) rfl z349 (nlt rfl) rfl (fun ls hl => ?_)
  refine lv_goto (tgt := 5) hx hb dJ7_fill_53178_17 z163 ?_
  refine lv_iload_n hx hb dJ7_fill_53178_5 rfl (lv_at hl 0 rfl) ?_
  refine lv_iload_n hx hb dJ7_fill_53178_6 rfl (lv_at hl 1 rfl) ?_
  refine lv_icmp_ge (tgt := 20) hx hb dJ7_fill_53178_7 z162 (fun c1 => absurd c1 (z752)) (fun _ => ?_)
  refine lv_aload_n hx hb dJ7_fill_53178_10 rfl (lv_at hl 2 rfl) ?_
  refine lv_iload_n hx hb dJ7_fill_53178_11 rfl (lv_at hl 0 rfl) ?_
  refine lv_iload_n hx hb dJ7_fill_53178_12 rfl (lv_at hl 3 rfl) ?_
  refine my_iastS hx hb hK hP hD hS 0 1 rfl rfl z753 rfl dJ7_fill_53178_13 (fun H locs hP hD hS => ?_)
  refine lv_iinc (v := 35) (lv' := [(2, .int 35), (3, .int 192), (0, .ref (r 32)), (1, .int 0)]) hx hb dJ7_fill_53178_14 hl (k := 0) rfl z352 (nlt rfl) rfl (fun ls hl => ?_)
  refine lv_goto (tgt := 5) hx hb dJ7_fill_53178_17 z163 ?_
  refine lv_iload_n hx hb dJ7_fill_53178_5 rfl (lv_at hl 0 rfl) ?_
  refine lv_iload_n hx hb dJ7_fill_53178_6 rfl (lv_at hl 1 rfl) ?_
  refine lv_icmp_ge (tgt := 20) hx hb dJ7_fill_53178_7 z162 (fun c1 => absurd c1 (z754)) (fun _ => ?_)
  refine lv_aload_n hx hb dJ7_fill_53178_10 rfl (lv_at hl 2 rfl) ?_
  refine lv_iload_n hx hb dJ7_fill_53178_11 rfl (lv_at hl 0 rfl) ?_
  refine lv_iload_n hx hb dJ7_fill_53178_12 rfl (lv_at hl 3 rfl) ?_
  refine my_iastS hx hb hK hP hD hS 0 1 rfl rfl z755 rfl dJ7_fill_53178_13 (fun H locs hP hD hS => ?_)
  refine lv_iinc (v := 36) (lv' := [(2, .int 36), (3, .int 192), (0, .ref (r 32)), (1, .int 0)]) hx hb dJ7_fill_53178_14 hl (k := 0) rfl z355 (nlt rfl) rfl (fun ls hl => ?_)
  refine lv_goto (tgt := 5) hx hb dJ7_fill_53178_17 z163 ?_
  refine lv_iload_n hx hb dJ7_fill_53178_5 rfl (lv_at hl 0 rfl) ?_
  refine lv_iload_n hx hb dJ7_fill_53178_6 rfl (lv_at hl 1 rfl) ?_
  refine lv_icmp_ge (tgt := 20) hx hb dJ7_fill_53178_7 z162 (fun c1 => absurd c1 (z756)) (fun _ => ?_)
  refine lv_aload_n hx hb dJ7_fill_53178_10 rfl (lv_at hl 2 rfl) ?_
  refine lv_iload_n hx hb dJ7_fill_53178_11 rfl (lv_at hl 0 rfl) ?_
  refine lv_iload_n hx hb dJ7_fill_53178_12 rfl (lv_at hl 3 rfl) ?_
  refine my_iastS hx hb hK hP hD hS 0 1 rfl rfl z757 rfl dJ7_fill_53178_13 (fun H locs hP hD hS => ?_)
  refine lv_iinc (v := 37) (lv' := [(2, .int 37), (3, .int 192), (0, .ref (r 32)), (1, .int 0)]) hx hb dJ7_fill_53178_14 hl (k := 0) rfl z358 (nlt rfl) rfl (fun ls hl => ?_)
  refine lv_goto (tgt := 5) hx hb dJ7_fill_53178_17 z163 ?_
  refine lv_iload_n hx hb dJ7_fill_53178_5 rfl (lv_at hl 0 rfl) ?_
  refine lv_iload_n hx hb dJ7_fill_53178_6 rfl (lv_at hl 1 rfl) ?_
  refine lv_icmp_ge (tgt := 20) hx hb dJ7_fill_53178_7 z162 (fun c1 => absurd c1 (z758)) (fun _ => ?_)
  refine lv_aload_n hx hb dJ7_fill_53178_10 rfl (lv_at hl 2 rfl) ?_
  refine lv_iload_n hx hb dJ7_fill_53178_11 rfl (lv_at hl 0 rfl) ?_
  refine lv_iload_n hx hb dJ7_fill_53178_12 rfl (lv_at hl 3 rfl) ?_
  refine my_iastS hx hb hK hP hD hS 0 1 rfl rfl z759 rfl dJ7_fill_53178_13 (fun H locs hP hD hS => ?_)
  refine lv_iinc (v := 38) (lv' := [(2, .int 38), (3, .int 192), (0, .ref (r 32)), (1, .int 0)]) hx hb dJ7_fill_53178_14 hl (k := 0) rfl z361 (nlt rfl) rfl (fun ls hl => ?_)
  refine lv_goto (tgt := 5) hx hb dJ7_fill_53178_17 z163 ?_
  refine lv_iload_n hx hb dJ7_fill_53178_5 rfl (lv_at hl 0 rfl) ?_
  refine lv_iload_n hx hb dJ7_fill_53178_6 rfl (lv_at hl 1 rfl) ?_
  refine lv_icmp_ge (tgt := 20) hx hb dJ7_fill_53178_7 z162 (fun c1 => absurd c1 (z760)) (fun _ => ?_)
  refine lv_aload_n hx hb dJ7_fill_53178_10 rfl (lv_at hl 2 rfl) ?_
  refine lv_iload_n hx hb dJ7_fill_53178_11 rfl (lv_at hl 0 rfl) ?_
  refine lv_iload_n hx hb dJ7_fill_53178_12 rfl (lv_at hl 3 rfl) ?_
  refine my_iastS hx hb hK hP hD hS 0 1 rfl rfl z761 rfl dJ7_fill_53178_13 (fun H locs hP hD hS => ?_)
  refine lv_iinc (v := 39) (lv' := [(2, .int 39), (3, .int 192), (0, .ref (r 32)), (1, .int 0)]) hx hb dJ7_fill_53178_14 hl (k := 0) rfl z364 (nlt rfl) rfl (fun ls hl => ?_)
  refine lv_goto (tgt := 5) hx hb dJ7_fill_53178_17 z163 ?_
  refine lv_iload_n hx hb dJ7_fill_53178_5 rfl (lv_at hl 0 rfl) ?_
  refine lv_iload_n hx hb dJ7_fill_53178_6 rfl (lv_at hl 1 rfl) ?_
  refine lv_icmp_ge (tgt := 20) hx hb dJ7_fill_53178_7 z162 (fun c1 => absurd c1 (z762)) (fun _ => ?_)
  refine lv_aload_n hx hb dJ7_fill_53178_10 rfl (lv_at hl 2 rfl) ?_
  refine lv_iload_n hx hb dJ7_fill_53178_11 rfl (lv_at hl 0 rfl) ?_
  refine lv_iload_n hx hb dJ7_fill_53178_12 rfl (lv_at hl 3 rfl) ?_
  refine my_iastS hx hb hK hP hD hS 0 1 rfl rfl z763 rfl dJ7_fill_53178_13 (fun H locs hP hD hS => ?_)
  refine lv_iinc (v := 40) (lv' := [(2, .int 40), (3, .int 192), (0, .ref (r 32)), (1, .int 0)]) hx hb dJ7_fill_53178_14 hl (k := 0) rfl z367 (nlt rfl) rfl (fun ls hl => ?_)
  refine lv_goto (tgt := 5) hx hb dJ7_fill_53178_17 z163 ?_
  refine lv_iload_n hx hb dJ7_fill_53178_5 rfl (lv_at hl 0 rfl) ?_
  refine lv_iload_n hx hb dJ7_fill_53178_6 rfl (lv_at hl 1 rfl) ?_
  refine lv_icmp_ge (tgt := 20) hx hb dJ7_fill_53178_7 z162 (fun c1 => absurd c1 (z764)) (fun _ => ?_)
  refine lv_aload_n hx hb dJ7_fill_53178_10 rfl (lv_at hl 2 rfl) ?_
  refine lv_iload_n hx hb dJ7_fill_53178_11 rfl (lv_at hl 0 rfl) ?_
  refine lv_iload_n hx hb dJ7_fill_53178_12 rfl (lv_at hl 3 rfl) ?_
  refine my_iastS hx hb hK hP hD hS 0 1 rfl rfl z765 rfl dJ7_fill_53178_13 (fun H locs hP hD hS => ?_)
  refine lv_iinc (v := 41) (lv' := [(2, .int 41), (3, .int 192), (0, .ref (r 32)), (1, .int 0)]) hx hb dJ7_fill_53178_14 hl (k := 0) rfl z370 (nlt rfl) rfl (fun ls hl => ?_)
  refine lv_goto (tgt := 5) hx hb dJ7_fill_53178_17 z163 ?_
  refine lv_iload_n hx hb dJ7_fill_53178_5 rfl (lv_at hl 0 rfl) ?_
  refine lv_iload_n hx hb dJ7_fill_53178_6 rfl (lv_at hl 1 rfl) ?_
  refine lv_icmp_ge (tgt := 20) hx hb dJ7_fill_53178_7 z162 (fun c1 => absurd c1 (z766)) (fun _ => ?_)
  refine lv_aload_n hx hb dJ7_fill_53178_10 rfl (lv_at hl 2 rfl) ?_
  refine lv_iload_n hx hb dJ7_fill_53178_11 rfl (lv_at hl 0 rfl) ?_
  refine lv_iload_n hx hb dJ7_fill_53178_12 rfl (lv_at hl 3 rfl) ?_
  refine my_iastS hx hb hK hP hD hS 0 1 rfl rfl z767 rfl dJ7_fill_53178_13 (fun H locs hP hD hS => ?_)
  refine lv_iinc (v := 42) (lv' := [(2, .int 42), (3, .int 192), (0, .ref (r 32)), (1, .int 0)]) hx hb dJ7_fill_53178_14 hl (k := 0) rfl z373 (nlt rfl) rfl (fun ls hl => ?_)
  refine lv_goto (tgt := 5) hx hb dJ7_fill_53178_17 z163 ?_
  refine lv_iload_n hx hb dJ7_fill_53178_5 rfl (lv_at hl 0 rfl) ?_
  refine lv_iload_n hx hb dJ7_fill_53178_6 rfl (lv_at hl 1 rfl) ?_
  refine lv_icmp_ge (tgt := 20) hx hb dJ7_fill_53178_7 z162 (fun c1 => absurd c1 (z768)) (fun _ => ?_)
  refine lv_aload_n hx hb dJ7_fill_53178_10 rfl (lv_at hl 2 rfl) ?_
  refine lv_iload_n hx hb dJ7_fill_53178_11 rfl (lv_at hl 0 rfl) ?_
  refine lv_iload_n hx hb dJ7_fill_53178_12 rfl (lv_at hl 3 rfl) ?_
  refine my_iastS hx hb hK hP hD hS 0 1 rfl rfl z769 rfl dJ7_fill_53178_13 (fun H locs hP hD hS => ?_)
  refine lv_iinc (v := 43) (lv' := [(2, .int 43), (3, .int 192), (0, .ref (r 32)), (1, .int 0)]) hx hb dJ7_fill_53178_14 hl (k := 0) rfl z376 (nlt rfl) rfl (fun ls hl => ?_)
  refine lv_goto (tgt := 5) hx hb dJ7_fill_53178_17 z163 ?_
  refine lv_iload_n hx hb dJ7_fill_53178_5 rfl (lv_at hl 0 rfl) ?_
  refine lv_iload_n hx hb dJ7_fill_53178_6 rfl (lv_at hl 1 rfl) ?_
  refine lv_icmp_ge (tgt := 20) hx hb dJ7_fill_53178_7 z162 (fun c1 => absurd c1 (z770)) (fun _ => ?_)
  refine lv_aload_n hx hb dJ7_fill_53178_10 rfl (lv_at hl 2 rfl) ?_
  refine lv_iload_n hx hb dJ7_fill_53178_11 rfl (lv_at hl 0 rfl) ?_
  refine lv_iload_n hx hb dJ7_fill_53178_12 rfl (lv_at hl 3 rfl) ?_
  refine my_iastS hx hb hK hP hD hS 0 1 rfl rfl z771 rfl dJ7_fill_53178_13 (fun H locs hP hD hS => ?_)
  refine lv_iinc (v := 44) (lv' := [(2, .int 44), (3, .int 192), (0, .ref (r 32)), (1, .int 0)]) hx hb dJ7_fill_53178_14 hl (k := 0) rfl z379 (nlt rfl) rfl (fun ls hl => ?_)
  refine lv_goto (tgt := 5) hx hb dJ7_fill_53178_17 z163 ?_
  refine lv_iload_n hx hb dJ7_fill_53178_5 rfl (lv_at hl 0 rfl) ?_
  refine lv_iload_n hx hb dJ7_fill_53178_6 rfl (lv_at hl 1 rfl) ?_
  refine lv_icmp_ge (tgt := 20) hx hb dJ7_fill_53178_7 z162 (fun c1 => absurd c1 (z772)) (fun _ => ?_)
  refine lv_aload_n hx hb dJ7_fill_53178_10 rfl (lv_at hl 2 rfl) ?_
  refine lv_iload_n hx hb dJ7_fill_53178_11 rfl (lv_at hl 0 rfl) ?_
  refine lv_iload_n hx hb dJ7_fill_53178_12 rfl (lv_at hl 3 rfl) ?_
  refine my_iastS hx hb hK hP hD hS 0 1 rfl rfl z773 rfl dJ7_fill_53178_13 (fun H locs hP hD hS => ?_)
  refine lv_iinc (v := 45) (lv' := [(2, .int 45), (3, .int 192), (0, .ref (r 32)), (1, .int 0)]) hx hb dJ7_fill_53178_14 hl (k := 0) rfl z382 (nlt rfl) rfl (fun ls hl => ?_)
  refine lv_goto (tgt := 5) hx hb dJ7_fill_53178_17 z163 ?_
  refine lv_iload_n hx hb dJ7_fill_53178_5 rfl (lv_at hl 0 rfl) ?_
  refine lv_iload_n hx hb dJ7_fill_53178_6 rfl (lv_at hl 1 rfl) ?_
  refine lv_icmp_ge (tgt := 20) hx hb dJ7_fill_53178_7 z162 (fun c1 => absurd c1 (z774)) (fun _ => ?_)
  refine lv_aload_n hx hb dJ7_fill_53178_10 rfl (lv_at hl 2 rfl) ?_
  refine lv_iload_n hx hb dJ7_fill_53178_11 rfl (lv_at hl 0 rfl) ?_
  refine lv_iload_n hx hb dJ7_fill_53178_12 rfl (lv_at hl 3 rfl) ?_
  refine my_iastS hx hb hK hP hD hS 0 1 rfl rfl z775 rfl dJ7_fill_53178_13 (fun H locs hP hD hS => ?_)
  refine lv_iinc (v := 46) (lv' := [(2, .int 46), (3, .int 192), (0, .ref (r 32)), (1, .int 0)]) hx hb dJ7_fill_53178_14 hl (k := 0) rfl z385 (nlt rfl) rfl (fun ls hl => ?_)
  refine lv_goto (tgt := 5) hx hb dJ7_fill_53178_17 z163 ?_
  refine lv_iload_n hx hb dJ7_fill_53178_5 rfl (lv_at hl 0 rfl) ?_
  refine lv_iload_n hx hb dJ7_fill_53178_6 rfl (lv_at hl 1 rfl) ?_
  refine lv_icmp_ge (tgt := 20) hx hb dJ7_fill_53178_7 z162 (fun c1 => absurd c1 (z776)) (fun _ => ?_)
  refine lv_aload_n hx hb dJ7_fill_53178_10 rfl (lv_at hl 2 rfl) ?_
  refine lv_iload_n hx hb dJ7_fill_53178_11 rfl (lv_at hl 0 rfl) ?_
  refine lv_iload_n hx hb dJ7_fill_53178_12 rfl (lv_at hl 3 rfl) ?_
  refine my_iastS hx hb hK hP hD hS 0 1 rfl rfl z777 rfl dJ7_fill_53178_13 (fun H locs hP hD hS => ?_)
  refine lv_iinc (v := 47) (lv' := [(2, .int 47), (3, .int 192), (0, .ref (r 32)), (1, .int 0)]) hx hb dJ7_fill_53178_14 hl (k := 0) rfl z388 (nlt rfl) rfl (fun ls hl => ?_)
  refine lv_goto (tgt := 5) hx hb dJ7_fill_53178_17 z163 ?_
  refine lv_iload_n hx hb dJ7_fill_53178_5 rfl (lv_at hl 0 rfl) ?_
  refine lv_iload_n hx hb dJ7_fill_53178_6 rfl (lv_at hl 1 rfl) ?_
  refine lv_icmp_ge (tgt := 20) hx hb dJ7_fill_53178_7 z162 (fun c1 => absurd c1 (z778)) (fun _ => ?_)
  refine lv_aload_n hx hb dJ7_fill_53178_10 rfl (lv_at hl 2 rfl) ?_
  refine lv_iload_n hx hb dJ7_fill_53178_11 rfl (lv_at hl 0 rfl) ?_
  refine lv_iload_n hx hb dJ7_fill_53178_12 rfl (lv_at hl 3 rfl) ?_
  refine my_iastS hx hb hK hP hD hS 0 1 rfl rfl z779 rfl dJ7_fill_53178_13 (fun H locs hP hD hS => ?_)
  refine lv_iinc (v := 48) (lv' := [(2, .int 48), (3, .int 192), (0, .ref (r 32)), (1, .int 0)]) hx hb dJ7_fill_53178_14 hl (k := 0) rfl z391 (nlt rfl) rfl (fun ls hl => ?_)
  refine lv_goto (tgt := 5) hx hb dJ7_fill_53178_17 z163 ?_
  refine lv_iload_n hx hb dJ7_fill_53178_5 rfl (lv_at hl 0 rfl) ?_
  refine lv_iload_n hx hb dJ7_fill_53178_6 rfl (lv_at hl 1 rfl) ?_
  refine lv_icmp_ge (tgt := 20) hx hb dJ7_fill_53178_7 z162 (fun c1 => absurd c1 (z780)) (fun _ => ?_)
  refine lv_aload_n hx hb dJ7_fill_53178_10 rfl (lv_at hl 2 rfl) ?_
  refine lv_iload_n hx hb dJ7_fill_53178_11 rfl (lv_at hl 0 rfl) ?_
  refine lv_iload_n hx hb dJ7_fill_53178_12 rfl (lv_at hl 3 rfl) ?_
  refine my_iastS hx hb hK hP hD hS 0 1 rfl rfl z781 rfl dJ7_fill_53178_13 (fun H locs hP hD hS => ?_)
  refine lv_iinc (v := 49) (lv' := [(2, .int 49), (3, .int 192), (0, .ref (r 32)), (1, .int 0)]) hx hb dJ7_fill_53178_14 hl (k := 0) rfl z394 (nlt rfl) rfl (fun ls hl => ?_)
  refine lv_goto (tgt := 5) hx hb dJ7_fill_53178_17 z163 ?_
  refine lv_iload_n hx hb dJ7_fill_53178_5 rfl (lv_at hl 0 rfl) ?_
  refine lv_iload_n hx hb dJ7_fill_53178_6 rfl (lv_at hl 1 rfl) ?_
  refine lv_icmp_ge (tgt := 20) hx hb dJ7_fill_53178_7 z162 (fun c1 => absurd c1 (z782)) (fun _ => ?_)
  refine lv_aload_n hx hb dJ7_fill_53178_10 rfl (lv_at hl 2 rfl) ?_
  refine lv_iload_n hx hb dJ7_fill_53178_11 rfl (lv_at hl 0 rfl) ?_
  refine lv_iload_n hx hb dJ7_fill_53178_12 rfl (lv_at hl 3 rfl) ?_
  refine my_iastS hx hb hK hP hD hS 0 1 rfl rfl z783 rfl dJ7_fill_53178_13 (fun H locs hP hD hS => ?_)
  refine lv_iinc (v := 50) (lv' := [(2, .int 50), (3, .int 192), (0, .ref (r 32)), (1, .int 0)]) hx hb dJ7_fill_53178_14 hl (k := 0) rfl z397 (nlt rfl) rfl (fun ls hl => ?_)
  refine lv_goto (tgt := 5) hx hb dJ7_fill_53178_17 z163 ?_
  refine lv_iload_n hx hb dJ7_fill_53178_5 rfl (lv_at hl 0 rfl) ?_
  refine lv_iload_n hx hb dJ7_fill_53178_6 rfl (lv_at hl 1 rfl) ?_
  refine lv_icmp_ge (tgt := 20) hx hb dJ7_fill_53178_7 z162 (fun c1 => absurd c1 (z784)) (fun _ => ?_)
  refine lv_aload_n hx hb dJ7_fill_53178_10 rfl (lv_at hl 2 rfl) ?_
  refine lv_iload_n hx hb dJ7_fill_53178_11 rfl (lv_at hl 0 rfl) ?_
  refine lv_iload_n hx hb dJ7_fill_53178_12 rfl (lv_at hl 3 rfl) ?_
  refine my_iastS hx hb hK hP hD hS 0 1 rfl rfl z785 rfl dJ7_fill_53178_13 (fun H locs hP hD hS => ?_)
  refine lv_iinc (v := 51) (lv' := [(2, .int 51), (3, .int 192), (0, .ref (r 32)), (1, .int 0)]) hx hb dJ7_fill_53178_14 hl (k := 0) rfl z400 (nlt rfl) rfl (fun ls hl => ?_)
  refine lv_goto (tgt := 5) hx hb dJ7_fill_53178_17 z163 ?_
  refine lv_iload_n hx hb dJ7_fill_53178_5 rfl (lv_at hl 0 rfl) ?_
  refine lv_iload_n hx hb dJ7_fill_53178_6 rfl (lv_at hl 1 rfl) ?_
  refine lv_icmp_ge (tgt := 20) hx hb dJ7_fill_53178_7 z162 (fun c1 => absurd c1 (z786)) (fun _ => ?_)
  refine lv_aload_n hx hb dJ7_fill_53178_10 rfl (lv_at hl 2 rfl) ?_
  refine lv_iload_n hx hb dJ7_fill_53178_11 rfl (lv_at hl 0 rfl) ?_
  refine lv_iload_n hx hb dJ7_fill_53178_12 rfl (lv_at hl 3 rfl) ?_
  refine my_iastS hx hb hK hP hD hS 0 1 rfl rfl z787 rfl dJ7_fill_53178_13 (fun H locs hP hD hS => ?_)
  refine lv_iinc (v := 52) (lv' := [(2, .int 52), (3, .int 192), (0, .ref (r 32)), (1, .int 0)]) hx hb dJ7_fill_53178_14 hl (k := 0) rfl z403 (nlt rfl) rfl (fun ls hl => ?_)
  refine lv_goto (tgt := 5) hx hb dJ7_fill_53178_17 z163 ?_
  refine lv_iload_n hx hb dJ7_fill_53178_5 rfl (lv_at hl 0 rfl) ?_
  refine lv_iload_n hx hb dJ7_fill_53178_6 rfl (lv_at hl 1 rfl) ?_
  refine lv_icmp_ge (tgt := 20) hx hb dJ7_fill_53178_7 z162 (fun c1 => absurd c1 (z788)) (fun _ => ?_)
  refine lv_aload_n hx hb dJ7_fill_53178_10 rfl (lv_at hl 2 rfl) ?_
  refine lv_iload_n hx hb dJ7_fill_53178_11 rfl (lv_at hl 0 rfl) ?_
  refine lv_iload_n hx hb dJ7_fill_53178_12 rfl (lv_at hl 3 rfl) ?_
  refine my_iastS hx hb hK hP hD hS 0 1 rfl rfl z789 rfl dJ7_fill_53178_13 (fun H locs hP hD hS => ?_)
  refine lv_iinc (v := 53) (lv' := [(2, .int 53), (3, .int 192), (0, .ref (r 32)), (1, .int 0)]) hx hb dJ7_fill_53178_14 hl (k := 0) rfl z406 (nlt rfl) rfl (fun ls hl => ?_)
  refine lv_goto (tgt := 5) hx hb dJ7_fill_53178_17 z163 ?_
  refine lv_iload_n hx hb dJ7_fill_53178_5 rfl (lv_at hl 0 rfl) ?_
  refine lv_iload_n hx hb dJ7_fill_53178_6 rfl (lv_at hl 1 rfl) ?_
  refine lv_icmp_ge (tgt := 20) hx hb dJ7_fill_53178_7 z162 (fun c1 => absurd c1 (z790)) (fun _ => ?_)
  refine lv_aload_n hx hb dJ7_fill_53178_10 rfl (lv_at hl 2 rfl) ?_
  refine lv_iload_n hx hb dJ7_fill_53178_11 rfl (lv_at hl 0 rfl) ?_
  refine lv_iload_n hx hb dJ7_fill_53178_12 rfl (lv_at hl 3 rfl) ?_
  refine my_iastS hx hb hK hP hD hS 0 1 rfl rfl z791 rfl dJ7_fill_53178_13 (fun H locs hP hD hS => ?_)
  refine lv_iinc (v := 54) (lv' := [(2, .int 54), (3, .int 192), (0, .ref (r 32)), (1, .int 0)]) hx hb dJ7_fill_53178_14 hl (k := 0) rfl z409 (nlt rfl) rfl (fun ls hl => ?_)
  refine lv_goto (tgt := 5) hx hb dJ7_fill_53178_17 z163 ?_
  refine lv_iload_n hx hb dJ7_fill_53178_5 rfl (lv_at hl 0 rfl) ?_
  refine lv_iload_n hx hb dJ7_fill_53178_6 rfl (lv_at hl 1 rfl) ?_
  refine lv_icmp_ge (tgt := 20) hx hb dJ7_fill_53178_7 z162 (fun c1 => absurd c1 (z792)) (fun _ => ?_)
  refine lv_aload_n hx hb dJ7_fill_53178_10 rfl (lv_at hl 2 rfl) ?_
  refine lv_iload_n hx hb dJ7_fill_53178_11 rfl (lv_at hl 0 rfl) ?_
  refine lv_iload_n hx hb dJ7_fill_53178_12 rfl (lv_at hl 3 rfl) ?_
  refine my_iastS hx hb hK hP hD hS 0 1 rfl rfl z793 rfl dJ7_fill_53178_13 (fun H locs hP hD hS => ?_)
  refine lv_iinc (v := 55) (lv' := [(2, .int 55), (3, .int 192), (0, .ref (r 32)), (1, .int 0)]) hx hb dJ7_fill_53178_14 hl (k := 0) rfl z412 (nlt rfl) rfl (fun ls hl => ?_)
  refine lv_goto (tgt := 5) hx hb dJ7_fill_53178_17 z163 ?_
  refine lv_iload_n hx hb dJ7_fill_53178_5 rfl (lv_at hl 0 rfl) ?_
  refine lv_iload_n hx hb dJ7_fill_53178_6 rfl (lv_at hl 1 rfl) ?_
  refine lv_icmp_ge (tgt := 20) hx hb dJ7_fill_53178_7 z162 (fun c1 => absurd c1 (z794)) (fun _ => ?_)
  refine lv_aload_n hx hb dJ7_fill_53178_10 rfl (lv_at hl 2 rfl) ?_
  refine lv_iload_n hx hb dJ7_fill_53178_11 rfl (lv_at hl 0 rfl) ?_
  refine lv_iload_n hx hb dJ7_fill_53178_12 rfl (lv_at hl 3 rfl) ?_
  refine my_iastS hx hb hK hP hD hS 0 1 rfl rfl z795 rfl dJ7_fill_53178_13 (fun H locs hP hD hS => ?_)
  refine lv_iinc (v := 56) (lv' := [(2, .int 56), (3, .int 192), (0, .ref (r 32)), (1, .int 0)]) hx hb dJ7_fill_53178_14 hl (k := 0) rfl z415 (nlt rfl) rfl (fun ls hl => ?_)
  refine lv_goto (tgt := 5) hx hb dJ7_fill_53178_17 z163 ?_
  refine lv_iload_n hx hb dJ7_fill_53178_5 rfl (lv_at hl 0 rfl) ?_
  refine lv_iload_n hx hb dJ7_fill_53178_6 rfl (lv_at hl 1 rfl) ?_
  refine lv_icmp_ge (tgt := 20) hx hb dJ7_fill_53178_7 z162 (fun c1 => absurd c1 (z796)) (fun _ => ?_)
  refine lv_aload_n hx hb dJ7_fill_53178_10 rfl (lv_at hl 2 rfl) ?_
  refine lv_iload_n hx hb dJ7_fill_53178_11 rfl (lv_at hl 0 rfl) ?_
  refine lv_iload_n hx hb dJ7_fill_53178_12 rfl (lv_at hl 3 rfl) ?_
  refine my_iastS hx hb hK hP hD hS 0 1 rfl rfl z797 rfl dJ7_fill_53178_13 (fun H locs hP hD hS => ?_)
  refine lv_iinc (v := 57) (lv' := [(2, .int 57), (3, .int 192), (0, .ref (r 32)), (1, .int 0)]) hx hb dJ7_fill_53178_14 hl (k := 0) rfl z418 (nlt rfl) rfl (fun ls hl => ?_)
  refine lv_goto (tgt := 5) hx hb dJ7_fill_53178_17 z163 ?_
  refine lv_iload_n hx hb dJ7_fill_53178_5 rfl (lv_at hl 0 rfl) ?_
  refine lv_iload_n hx hb dJ7_fill_53178_6 rfl (lv_at hl 1 rfl) ?_
  refine lv_icmp_ge (tgt := 20) hx hb dJ7_fill_53178_7 z162 (fun c1 => absurd c1 (z798)) (fun _ => ?_)
  refine lv_aload_n hx hb dJ7_fill_53178_10 rfl (lv_at hl 2 rfl) ?_
  refine lv_iload_n hx hb dJ7_fill_53178_11 rfl (lv_at hl 0 rfl) ?_
  refine lv_iload_n hx hb dJ7_fill_53178_12 rfl (lv_at hl 3 rfl) ?_
  refine my_iastS hx hb hK hP hD hS 0 1 rfl rfl z799 rfl dJ7_fill_53178_13 (fun H locs hP hD hS => ?_)
  refine lv_iinc (v := 58) (lv' := [(2, .int 58), (3, .int 192), (0, .ref (r 32)), (1, .int 0)]) hx hb dJ7_fill_53178_14 hl (k := 0) rfl z421 (nlt rfl) rfl (fun ls hl => ?_)
  refine lv_goto (tgt := 5) hx hb dJ7_fill_53178_17 z163 ?_
  refine lv_iload_n hx hb dJ7_fill_53178_5 rfl (lv_at hl 0 rfl) ?_
  refine lv_iload_n hx hb dJ7_fill_53178_6 rfl (lv_at hl 1 rfl) ?_
  refine lv_icmp_ge (tgt := 20) hx hb dJ7_fill_53178_7 z162 (fun c1 => absurd c1 (z800)) (fun _ => ?_)
  refine lv_aload_n hx hb dJ7_fill_53178_10 rfl (lv_at hl 2 rfl) ?_
  refine lv_iload_n hx hb dJ7_fill_53178_11 rfl (lv_at hl 0 rfl) ?_
  refine lv_iload_n hx hb dJ7_fill_53178_12 rfl (lv_at hl 3 rfl) ?_
  refine my_iastS hx hb hK hP hD hS 0 1 rfl rfl z801 rfl dJ7_fill_53178_13 (fun H locs hP hD hS => ?_)
  refine lv_iinc (v := 59) (lv' := [(2, .int 59), (3, .int 192), (0, .ref (r 32)), (1, .int 0)]) hx hb dJ7_fill_53178_14 hl (k := 0) rfl z424 (nlt rfl) rfl (fun ls hl => ?_)
  refine lv_goto (tgt := 5) hx hb dJ7_fill_53178_17 z163 ?_
  refine lv_iload_n hx hb dJ7_fill_53178_5 rfl (lv_at hl 0 rfl) ?_
  refine lv_iload_n hx hb dJ7_fill_53178_6 rfl (lv_at hl 1 rfl) ?_
  refine lv_icmp_ge (tgt := 20) hx hb dJ7_fill_53178_7 z162 (fun c1 => absurd c1 (z802)) (fun _ => ?_)
  refine lv_aload_n hx hb dJ7_fill_53178_10 rfl (lv_at hl 2 rfl) ?_
  refine lv_iload_n hx hb dJ7_fill_53178_11 rfl (lv_at hl 0 rfl) ?_
  refine lv_iload_n hx hb dJ7_fill_53178_12 rfl (lv_at hl 3 rfl) ?_
  refine my_iastS hx hb hK hP hD hS 0 1 rfl rfl z803 rfl dJ7_fill_53178_13 (fun H locs hP hD hS => ?_)
  refine lv_iinc (v := 60) (lv' := [(2, .int 60), (3, .int 192), (0, .ref (r 32)), (1, .int 0)]) hx hb dJ7_fill_53178_14 hl (k := 0) rfl z427 (nlt rfl) rfl (fun ls hl => ?_)
  refine lv_goto (tgt := 5) hx hb dJ7_fill_53178_17 z163 ?_
  refine lv_iload_n hx hb dJ7_fill_53178_5 rfl (lv_at hl 0 rfl) ?_
  refine lv_iload_n hx hb dJ7_fill_53178_6 rfl (lv_at hl 1 rfl) ?_
  refine lv_icmp_ge (tgt := 20) hx hb dJ7_fill_53178_7 z162 (fun c1 => absurd c1 (z804)) (fun _ => ?_)
  refine lv_aload_n hx hb dJ7_fill_53178_10 rfl (lv_at hl 2 rfl) ?_
  refine lv_iload_n hx hb dJ7_fill_53178_11 rfl (lv_at hl 0 rfl) ?_
  refine lv_iload_n hx hb dJ7_fill_53178_12 rfl (lv_at hl 3 rfl) ?_
  refine my_iastS hx hb hK hP hD hS 0 1 rfl rfl z805 rfl dJ7_fill_53178_13 (fun H locs hP hD hS => ?_)
  refine lv_iinc (v := 61) (lv' := [(2, .int 61), (3, .int 192), (0, .ref (r 32)), (1, .int 0)]) hx hb dJ7_fill_53178_14 hl (k := 0) rfl z430 (nlt rfl) rfl (fun ls hl => ?_)
  refine lv_goto (tgt := 5) hx hb dJ7_fill_53178_17 z163 ?_
  refine lv_iload_n hx hb dJ7_fill_53178_5 rfl (lv_at hl 0 rfl) ?_
  refine lv_iload_n hx hb dJ7_fill_53178_6 rfl (lv_at hl 1 rfl) ?_
  refine lv_icmp_ge (tgt := 20) hx hb dJ7_fill_53178_7 z162 (fun c1 => absurd c1 (z806)) (fun _ => ?_)
  refine lv_aload_n hx hb dJ7_fill_53178_10 rfl (lv_at hl 2 rfl) ?_
  refine lv_iload_n hx hb dJ7_fill_53178_11 rfl (lv_at hl 0 rfl) ?_
  refine lv_iload_n hx hb dJ7_fill_53178_12 rfl (lv_at hl 3 rfl) ?_
  refine my_iastS hx hb hK hP hD hS 0 1 rfl rfl z807 rfl dJ7_fill_53178_13 (fun H locs hP hD hS => ?_)
  refine lv_iinc (v := 62) (lv' := [(2, .int 62), (3, .int 192), (0, .ref (r 32)), (1, .int 0)]) hx hb dJ7_fill_53178_14 hl (k := 0) rfl z433 (nlt rfl) rfl (fun ls hl => ?_)
  refine lv_goto (tgt := 5) hx hb dJ7_fill_53178_17 z163 ?_
  refine lv_iload_n hx hb dJ7_fill_53178_5 rfl (lv_at hl 0 rfl) ?_
  refine lv_iload_n hx hb dJ7_fill_53178_6 rfl (lv_at hl 1 rfl) ?_
  refine lv_icmp_ge (tgt := 20) hx hb dJ7_fill_53178_7 z162 (fun c1 => absurd c1 (z808)) (fun _ => ?_)
  refine lv_aload_n hx hb dJ7_fill_53178_10 rfl (lv_at hl 2 rfl) ?_
  refine lv_iload_n hx hb dJ7_fill_53178_11 rfl (lv_at hl 0 rfl) ?_
  refine lv_iload_n hx hb dJ7_fill_53178_12 rfl (lv_at hl 3 rfl) ?_
  refine my_iastS hx hb hK hP hD hS 0 1 rfl rfl z809 rfl dJ7_fill_53178_13 (fun H locs hP hD hS => ?_)
  refine lv_iinc (v := 63) (lv' := [(2, .int 63), (3, .int 192), (0, .ref (r 32)), (1, .int 0)]) hx hb dJ7_fill_53178_14 hl (k := 0) rfl z436 (nlt rfl) rfl (fun ls hl => ?_)
  refine lv_goto (tgt := 5) hx hb dJ7_fill_53178_17 z163 ?_
  refine lv_iload_n hx hb dJ7_fill_53178_5 rfl (lv_at hl 0 rfl) ?_
  refine lv_iload_n hx hb dJ7_fill_53178_6 rfl (lv_at hl 1 rfl) ?_
  refine lv_icmp_ge (tgt := 20) hx hb dJ7_fill_53178_7 z162 (fun c1 => absurd c1 (z810)) (fun _ => ?_)
  refine lv_aload_n hx hb dJ7_fill_53178_10 rfl (lv_at hl 2 rfl) ?_
  refine lv_iload_n hx hb dJ7_fill_53178_11 rfl (lv_at hl 0 rfl) ?_
  refine lv_iload_n hx hb dJ7_fill_53178_12 rfl (lv_at hl 3 rfl) ?_
  refine my_iastS hx hb hK hP hD hS 0 1 rfl rfl z811 rfl dJ7_fill_53178_13 (fun H locs hP hD hS => ?_)
  refine lv_iinc (v := 64) (lv' := [(2, .int 64), (3, .int 192), (0, .ref (r 32)), (1, .int 0)]) hx hb dJ7_fill_53178_14 hl (k := 0) rfl z439 (nlt rfl) rfl (fun ls hl => ?_)
  refine lv_goto (tgt := 5) hx hb dJ7_fill_53178_17 z163 ?_
  refine lv_iload_n hx hb dJ7_fill_53178_5 rfl (lv_at hl 0 rfl) ?_
  refine lv_iload_n hx hb dJ7_fill_53178_6 rfl (lv_at hl 1 rfl) ?_
  refine lv_icmp_ge (tgt := 20) hx hb dJ7_fill_53178_7 z162 (fun c1 => absurd c1 (z812)) (fun _ => ?_)
  refine lv_aload_n hx hb dJ7_fill_53178_10 rfl (lv_at hl 2 rfl) ?_
  refine lv_iload_n hx hb dJ7_fill_53178_11 rfl (lv_at hl 0 rfl) ?_
  refine lv_iload_n hx hb dJ7_fill_53178_12 rfl (lv_at hl 3 rfl) ?_
  refine my_iastS hx hb hK hP hD hS 0 1 rfl rfl z813 rfl dJ7_fill_53178_13 (fun H locs hP hD hS => ?_)
  refine lv_iinc (v := 65) (lv' := [(2, .int 65), (3, .int 192), (0, .ref (r 32)), (1, .int 0)]) hx hb dJ7_fill_53178_14 hl (k := 0) rfl z814 (nlt rfl) rfl (fun ls hl => ?_)
  refine lv_goto (tgt := 5) hx hb dJ7_fill_53178_17 z163 ?_
  refine lv_iload_n hx hb dJ7_fill_53178_5 rfl (lv_at hl 0 rfl) ?_
  refine lv_iload_n hx hb dJ7_fill_53178_6 rfl (lv_at hl 1 rfl) ?_
  refine lv_icmp_ge (tgt := 20) hx hb dJ7_fill_53178_7 z162 (fun c1 => absurd c1 (z815)) (fun _ => ?_)
  refine lv_aload_n hx hb dJ7_fill_53178_10 rfl (lv_at hl 2 rfl) ?_
  refine lv_iload_n hx hb dJ7_fill_53178_11 rfl (lv_at hl 0 rfl) ?_
  refine lv_iload_n hx hb dJ7_fill_53178_12 rfl (lv_at hl 3 rfl) ?_
  refine my_iastS hx hb hK hP hD hS 0 1 rfl rfl z816 rfl dJ7_fill_53178_13 (fun H locs hP hD hS => ?_)
  refine lv_iinc (v := 66) (lv' := [(2, .int 66), (3, .int 192), (0, .ref (r 32)), (1, .int 0)]) hx hb dJ7_fill_53178_14 hl (k := 0) rfl z817 (nlt rfl) rfl (fun ls hl => ?_)
  refine lv_goto (tgt := 5) hx hb dJ7_fill_53178_17 z163 ?_
  refine lv_iload_n hx hb dJ7_fill_53178_5 rfl (lv_at hl 0 rfl) ?_
  refine lv_iload_n hx hb dJ7_fill_53178_6 rfl (lv_at hl 1 rfl) ?_
  refine lv_icmp_ge (tgt := 20) hx hb dJ7_fill_53178_7 z162 (fun c1 => absurd c1 (z818)) (fun _ => ?_)
  refine lv_aload_n hx hb dJ7_fill_53178_10 rfl (lv_at hl 2 rfl) ?_
  refine lv_iload_n hx hb dJ7_fill_53178_11 rfl (lv_at hl 0 rfl) ?_
  refine lv_iload_n hx hb dJ7_fill_53178_12 rfl (lv_at hl 3 rfl) ?_
  refine my_iastS hx hb hK hP hD hS 0 1 rfl rfl z819 rfl dJ7_fill_53178_13 (fun H locs hP hD hS => ?_)
  refine lv_iinc (v := 67) (lv' := [(2, .int 67), (3, .int 192), (0, .ref (r 32)), (1, .int 0)]) hx hb dJ7_fill_53178_14 hl (k := 0) rfl z820 (nlt rfl) rfl (fun ls hl => ?_)
  refine lv_goto (tgt := 5) hx hb dJ7_fill_53178_17 z163 ?_
  refine lv_iload_n hx hb dJ7_fill_53178_5 rfl (lv_at hl 0 rfl) ?_
  refine lv_iload_n hx hb dJ7_fill_53178_6 rfl (lv_at hl 1 rfl) ?_
  refine lv_icmp_ge (tgt := 20) hx hb dJ7_fill_53178_7 z162 (fun c1 => absurd c1 (z821)) (fun _ => ?_)
  refine lv_aload_n hx hb dJ7_fill_53178_10 rfl (lv_at hl 2 rfl) ?_
  refine lv_iload_n hx hb dJ7_fill_53178_11 rfl (lv_at hl 0 rfl) ?_
  refine lv_iload_n hx hb dJ7_fill_53178_12 rfl (lv_at hl 3 rfl) ?_
  refine my_iastS hx hb hK hP hD hS 0 1 rfl rfl z822 rfl dJ7_fill_53178_13 (fun H locs hP hD hS => ?_)
  refine lv_iinc (v := 68) (lv' := [(2, .int 68), (3, .int 192), (0, .ref (r 32)), (1, .int 0)]) hx hb dJ7_fill_53178_14 hl (k := 0) rfl z823 (nlt rfl) rfl (fun ls hl => ?_)
  refine lv_goto (tgt := 5) hx hb dJ7_fill_53178_17 z163 ?_
  refine lv_iload_n hx hb dJ7_fill_53178_5 rfl (lv_at hl 0 rfl) ?_
  refine lv_iload_n hx hb dJ7_fill_53178_6 rfl (lv_at hl 1 rfl) ?_
  refine lv_icmp_ge (tgt := 20) hx hb dJ7_fill_53178_7 z162 (fun c1 => absurd c1 (z824)) (fun _ => ?_)
  refine lv_aload_n hx hb dJ7_fill_53178_10 rfl (lv_at hl 2 rfl) ?_
  refine lv_iload_n hx hb dJ7_fill_53178_11 rfl (lv_at hl 0 rfl) ?_
  refine lv_iload_n hx hb dJ7_fill_53178_12 rfl (lv_at hl 3 rfl) ?_
  refine my_iastS hx hb hK hP hD hS 0 1 rfl rfl z825 rfl dJ7_fill_53178_13 (fun H locs hP hD hS => ?_)
  refine lv_iinc (v := 69) (lv' := [(2, .int 69), (3, .int 192), (0, .ref (r 32)), (1, .int 0)]) hx hb dJ7_fill_53178_14 hl (k := 0) rfl z826 (nlt rfl) rfl (fun ls hl => ?_)
  refine lv_goto (tgt := 5) hx hb dJ7_fill_53178_17 z163 ?_
  refine lv_iload_n hx hb dJ7_fill_53178_5 rfl (lv_at hl 0 rfl) ?_
  refine lv_iload_n hx hb dJ7_fill_53178_6 rfl (lv_at hl 1 rfl) ?_
  refine lv_icmp_ge (tgt := 20) hx hb dJ7_fill_53178_7 z162 (fun c1 => absurd c1 (z827)) (fun _ => ?_)
  refine lv_aload_n hx hb dJ7_fill_53178_10 rfl (lv_at hl 2 rfl) ?_
  refine lv_iload_n hx hb dJ7_fill_53178_11 rfl (lv_at hl 0 rfl) ?_
  refine lv_iload_n hx hb dJ7_fill_53178_12 rfl (lv_at hl 3 rfl) ?_
  refine my_iastS hx hb hK hP hD hS 0 1 rfl rfl z828 rfl dJ7_fill_53178_13 (fun H locs hP hD hS => ?_)
  refine lv_iinc (v := 70) (lv' := [(2, .int 70), (3, .int 192), (0, .ref (r 32)), (1, .int 0)]) hx hb dJ7_fill_53178_14 hl (k := 0) rfl z829 (nlt rfl) rfl (fun ls hl => ?_)
  refine lv_goto (tgt := 5) hx hb dJ7_fill_53178_17 z163 ?_
  refine lv_iload_n hx hb dJ7_fill_53178_5 rfl (lv_at hl 0 rfl) ?_
  refine lv_iload_n hx hb dJ7_fill_53178_6 rfl (lv_at hl 1 rfl) ?_
  refine lv_icmp_ge (tgt := 20) hx hb dJ7_fill_53178_7 z162 (fun c1 => absurd c1 (z830)) (fun _ => ?_)
  refine lv_aload_n hx hb dJ7_fill_53178_10 rfl (lv_at hl 2 rfl) ?_
  refine lv_iload_n hx hb dJ7_fill_53178_11 rfl (lv_at hl 0 rfl) ?_
  refine lv_iload_n hx hb dJ7_fill_53178_12 rfl (lv_at hl 3 rfl) ?_
  refine my_iastS hx hb hK hP hD hS 0 1 rfl rfl z831 rfl dJ7_fill_53178_13 (fun H locs hP hD hS => ?_)
  refine lv_iinc (v := 71) (lv' := [(2, .int 71), (3, .int 192), (0, .ref (r 32)), (1, .int 0)]) hx hb dJ7_fill_53178_14 hl (k := 0) rfl z832 (nlt rfl) rfl (fun ls hl => ?_)
  refine lv_goto (tgt := 5) hx hb dJ7_fill_53178_17 z163 ?_
  refine lv_iload_n hx hb dJ7_fill_53178_5 rfl (lv_at hl 0 rfl) ?_
  refine lv_iload_n hx hb dJ7_fill_53178_6 rfl (lv_at hl 1 rfl) ?_
  refine lv_icmp_ge (tgt := 20) hx hb dJ7_fill_53178_7 z162 (fun c1 => absurd c1 (z833)) (fun _ => ?_)
  refine lv_aload_n hx hb dJ7_fill_53178_10 rfl (lv_at hl 2 rfl) ?_
  refine lv_iload_n hx hb dJ7_fill_53178_11 rfl (lv_at hl 0 rfl) ?_
  refine lv_iload_n hx hb dJ7_fill_53178_12 rfl (lv_at hl 3 rfl) ?_
  refine my_iastS hx hb hK hP hD hS 0 1 rfl rfl z834 rfl dJ7_fill_53178_13 (fun H locs hP hD hS => ?_)
  refine lv_iinc (v := 72) (lv' := [(2, .int 72), (3, .int 192), (0, .ref (r 32)), (1, .int 0)]) hx hb dJ7_fill_53178_14 hl (k := 0) rfl z835 (nlt rfl) rfl (fun ls hl => ?_)
  refine lv_goto (tgt := 5) hx hb dJ7_fill_53178_17 z163 ?_
  refine lv_iload_n hx hb dJ7_fill_53178_5 rfl (lv_at hl 0 rfl) ?_
  refine lv_iload_n hx hb dJ7_fill_53178_6 rfl (lv_at hl 1 rfl) ?_
  refine lv_icmp_ge (tgt := 20) hx hb dJ7_fill_53178_7 z162 (fun c1 => absurd c1 (z836)) (fun _ => ?_)
  refine lv_aload_n hx hb dJ7_fill_53178_10 rfl (lv_at hl 2 rfl) ?_
  refine lv_iload_n hx hb dJ7_fill_53178_11 rfl (lv_at hl 0 rfl) ?_
  refine lv_iload_n hx hb dJ7_fill_53178_12 rfl (lv_at hl 3 rfl) ?_
  refine my_iastS hx hb hK hP hD hS 0 1 rfl rfl z837 rfl dJ7_fill_53178_13 (fun H locs hP hD hS => ?_)
  refine lv_iinc (v := 73) (lv' := [(2, .int 73), (3, .int 192), (0, .ref (r 32)), (1, .int 0)]) hx hb dJ7_fill_53178_14 hl (k := 0) rfl z838 (nlt rfl) rfl (fun ls hl => ?_)
  refine lv_goto (tgt := 5) hx hb dJ7_fill_53178_17 z163 ?_
  refine lv_iload_n hx hb dJ7_fill_53178_5 rfl (lv_at hl 0 rfl) ?_
  refine lv_iload_n hx hb dJ7_fill_53178_6 rfl (lv_at hl 1 rfl) ?_
  refine lv_icmp_ge (tgt := 20) hx hb dJ7_fill_53178_7 z162 (fun c1 => absurd c1 (z839)) (fun _ => ?_)
  refine lv_aload_n hx hb dJ7_fill_53178_10 rfl (lv_at hl 2 rfl) ?_
  refine lv_iload_n hx hb dJ7_fill_53178_11 rfl (lv_at hl 0 rfl) ?_
  refine lv_iload_n hx hb dJ7_fill_53178_12 rfl (lv_at hl 3 rfl) ?_
  refine my_iastS hx hb hK hP hD hS 0 1 rfl rfl z840 rfl dJ7_fill_53178_13 (fun H locs hP hD hS => ?_)
  refine lv_iinc (v := 74) (lv' := [(2, .int 74), (3, .int 192), (0, .ref (r 32)), (1, .int 0)]) hx hb dJ7_fill_53178_14 hl (k := 0) rfl z841 (nlt rfl) rfl (fun ls hl => ?_)
  refine lv_goto (tgt := 5) hx hb dJ7_fill_53178_17 z163 ?_
  refine lv_iload_n hx hb dJ7_fill_53178_5 rfl (lv_at hl 0 rfl) ?_
  refine lv_iload_n hx hb dJ7_fill_53178_6 rfl (lv_at hl 1 rfl) ?_
  refine lv_icmp_ge (tgt := 20) hx hb dJ7_fill_53178_7 z162 (fun c1 => absurd c1 (z842)) (fun _ => ?_)
  refine lv_aload_n hx hb dJ7_fill_53178_10 rfl (lv_at hl 2 rfl) ?_
  refine lv_iload_n hx hb dJ7_fill_53178_11 rfl (lv_at hl 0 rfl) ?_
  refine lv_iload_n hx hb dJ7_fill_53178_12 rfl (lv_at hl 3 rfl) ?_
  refine my_iastS hx hb hK hP hD hS 0 1 rfl rfl z843 rfl dJ7_fill_53178_13 (fun H locs hP hD hS => ?_)
  refine lv_iinc (v := 75) (lv' := [(2, .int 75), (3, .int 192), (0, .ref (r 32)), (1, .int 0)]) hx hb dJ7_fill_53178_14 hl (k := 0) rfl z844 (nlt rfl) rfl (fun ls hl => ?_)
  refine lv_goto (tgt := 5) hx hb dJ7_fill_53178_17 z163 ?_
  refine lv_iload_n hx hb dJ7_fill_53178_5 rfl (lv_at hl 0 rfl) ?_
  refine lv_iload_n hx hb dJ7_fill_53178_6 rfl (lv_at hl 1 rfl) ?_
  refine lv_icmp_ge (tgt := 20) hx hb dJ7_fill_53178_7 z162 (fun c1 => absurd c1 (z845)) (fun _ => ?_)
  refine lv_aload_n hx hb dJ7_fill_53178_10 rfl (lv_at hl 2 rfl) ?_
  refine lv_iload_n hx hb dJ7_fill_53178_11 rfl (lv_at hl 0 rfl) ?_
  refine lv_iload_n hx hb dJ7_fill_53178_12 rfl (lv_at hl 3 rfl) ?_
  refine my_iastS hx hb hK hP hD hS 0 1 rfl rfl z846 rfl dJ7_fill_53178_13 (fun H locs hP hD hS => ?_)
  refine lv_iinc (v := 76) (lv' := [(2, .int 76), (3, .int 192), (0, .ref (r 32)), (1, .int 0)]) hx hb dJ7_fill_53178_14 hl (k := 0) rfl z847 (nlt rfl) rfl (fun ls hl => ?_)
  refine lv_goto (tgt := 5) hx hb dJ7_fill_53178_17 z163 ?_
  refine lv_iload_n hx hb dJ7_fill_53178_5 rfl (lv_at hl 0 rfl) ?_
  refine lv_iload_n hx hb dJ7_fill_53178_6 rfl (lv_at hl 1 rfl) ?_
  refine lv_icmp_ge (tgt := 20) hx hb dJ7_fill_53178_7 z162 (fun c1 => absurd c1 (z848)) (fun _ => ?_)
  refine lv_aload_n hx hb dJ7_fill_53178_10 rfl (lv_at hl 2 rfl) ?_
  refine lv_iload_n hx hb dJ7_fill_53178_11 rfl (lv_at hl 0 rfl) ?_
  refine lv_iload_n hx hb dJ7_fill_53178_12 rfl (lv_at hl 3 rfl) ?_
  refine my_iastS hx hb hK hP hD hS 0 1 rfl rfl z849 rfl dJ7_fill_53178_13 (fun H locs hP hD hS => ?_)
  refine lv_iinc (v := 77) (lv' := [(2, .int 77), (3, .int 192), (0, .ref (r 32)), (1, .int 0)]) hx hb dJ7_fill_53178_14 hl (k := 0) rfl z850 (nlt rfl) rfl (fun ls hl => ?_)
  refine lv_goto (tgt := 5) hx hb dJ7_fill_53178_17 z163 ?_
  refine lv_iload_n hx hb dJ7_fill_53178_5 rfl (lv_at hl 0 rfl) ?_
  refine lv_iload_n hx hb dJ7_fill_53178_6 rfl (lv_at hl 1 rfl) ?_
  refine lv_icmp_ge (tgt := 20) hx hb dJ7_fill_53178_7 z162 (fun c1 => absurd c1 (z851)) (fun _ => ?_)
  refine lv_aload_n hx hb dJ7_fill_53178_10 rfl (lv_at hl 2 rfl) ?_
  refine lv_iload_n hx hb dJ7_fill_53178_11 rfl (lv_at hl 0 rfl) ?_
  refine lv_iload_n hx hb dJ7_fill_53178_12 rfl (lv_at hl 3 rfl) ?_
  refine my_iastS hx hb hK hP hD hS 0 1 rfl rfl z852 rfl dJ7_fill_53178_13 (fun H locs hP hD hS => ?_)
  refine lv_iinc (v := 78) (lv' := [(2, .int 78), (3, .int 192), (0, .ref (r 32)), (1, .int 0)]) hx hb dJ7_fill_53178_14 hl (k := 0) rfl z853 (nlt rfl) rfl (fun ls hl => ?_)
  refine lv_goto (tgt := 5) hx hb dJ7_fill_53178_17 z163 ?_
  refine lv_iload_n hx hb dJ7_fill_53178_5 rfl (lv_at hl 0 rfl) ?_
  refine lv_iload_n hx hb dJ7_fill_53178_6 rfl (lv_at hl 1 rfl) ?_
  refine lv_icmp_ge (tgt := 20) hx hb dJ7_fill_53178_7 z162 (fun c1 => absurd c1 (z854)) (fun _ => ?_)
  refine lv_aload_n hx hb dJ7_fill_53178_10 rfl (lv_at hl 2 rfl) ?_
  refine lv_iload_n hx hb dJ7_fill_53178_11 rfl (lv_at hl 0 rfl) ?_
  refine lv_iload_n hx hb dJ7_fill_53178_12 rfl (lv_at hl 3 rfl) ?_
  refine my_iastS hx hb hK hP hD hS 0 1 rfl rfl z855 rfl dJ7_fill_53178_13 (fun H locs hP hD hS => ?_)
  refine lv_iinc (v := 79) (lv' := [(2, .int 79), (3, .int 192), (0, .ref (r 32)), (1, .int 0)]) hx hb dJ7_fill_53178_14 hl (k := 0) rfl z856 (nlt rfl) rfl (fun ls hl => ?_)
  refine lv_goto (tgt := 5) hx hb dJ7_fill_53178_17 z163 ?_
  refine lv_iload_n hx hb dJ7_fill_53178_5 rfl (lv_at hl 0 rfl) ?_
  refine lv_iload_n hx hb dJ7_fill_53178_6 rfl (lv_at hl 1 rfl) ?_
  refine lv_icmp_ge (tgt := 20) hx hb dJ7_fill_53178_7 z162 (fun c1 => absurd c1 (z857)) (fun _ => ?_)
  refine lv_aload_n hx hb dJ7_fill_53178_10 rfl (lv_at hl 2 rfl) ?_
  refine lv_iload_n hx hb dJ7_fill_53178_11 rfl (lv_at hl 0 rfl) ?_
  refine lv_iload_n hx hb dJ7_fill_53178_12 rfl (lv_at hl 3 rfl) ?_
  refine my_iastS hx hb hK hP hD hS 0 1 rfl rfl z858 rfl dJ7_fill_53178_13 (fun H locs hP hD hS => ?_)
  refine lv_iinc (v := 80) (lv' := [(2, .int 80), (3, .int 192), (0, .ref (r 32)), (1, .int 0)]) hx hb dJ7_fill_53178_14 hl (k := 0) rfl z859 (nlt rfl) rfl (fun ls hl => ?_)
  refine lv_goto (tgt := 5) hx hb dJ7_fill_53178_17 z163 ?_
  refine lv_iload_n hx hb dJ7_fill_53178_5 rfl (lv_at hl 0 rfl) ?_
  refine lv_iload_n hx hb dJ7_fill_53178_6 rfl (lv_at hl 1 rfl) ?_
  refine lv_icmp_ge (tgt := 20) hx hb dJ7_fill_53178_7 z162 (fun c1 => absurd c1 (z860)) (fun _ => ?_)
  refine lv_aload_n hx hb dJ7_fill_53178_10 rfl (lv_at hl 2 rfl) ?_
  refine lv_iload_n hx hb dJ7_fill_53178_11 rfl (lv_at hl 0 rfl) ?_
  refine lv_iload_n hx hb dJ7_fill_53178_12 rfl (lv_at hl 3 rfl) ?_
  refine my_iastS hx hb hK hP hD hS 0 1 rfl rfl z861 rfl dJ7_fill_53178_13 (fun H locs hP hD hS => ?_)
  refine lv_iinc (v := 81) (lv' := [(2, .int 81), (3, .int 192), (0, .ref (r 32)), (1, .int 0)]) hx hb dJ7_fill_53178_14 hl (k := 0) rfl z862 (nlt rfl) rfl (fun ls hl => ?_)
  refine lv_goto (tgt := 5) hx hb dJ7_fill_53178_17 z163 ?_
  refine lv_iload_n hx hb dJ7_fill_53178_5 rfl (lv_at hl 0 rfl) ?_
  refine lv_iload_n hx hb dJ7_fill_53178_6 rfl (lv_at hl 1 rfl) ?_
  refine lv_icmp_ge (tgt := 20) hx hb dJ7_fill_53178_7 z162 (fun c1 => absurd c1 (z863)) (fun _ => ?_)
  refine lv_aload_n hx hb dJ7_fill_53178_10 rfl (lv_at hl 2 rfl) ?_
  refine lv_iload_n hx hb dJ7_fill_53178_11 rfl (lv_at hl 0 rfl) ?_
  refine lv_iload_n hx hb dJ7_fill_53178_12 rfl (lv_at hl 3 rfl) ?_
  refine my_iastS hx hb hK hP hD hS 0 1 rfl rfl z864 rfl dJ7_fill_53178_13 (fun H locs hP hD hS => ?_)
  refine lv_iinc (v := 82) (lv' := [(2, .int 82), (3, .int 192), (0, .ref (r 32)), (1, .int 0)]) hx hb dJ7_fill_53178_14 hl (k := 0) rfl z865 (nlt rfl) rfl (fun ls hl => ?_)
  refine lv_goto (tgt := 5) hx hb dJ7_fill_53178_17 z163 ?_
  refine lv_iload_n hx hb dJ7_fill_53178_5 rfl (lv_at hl 0 rfl) ?_
  refine lv_iload_n hx hb dJ7_fill_53178_6 rfl (lv_at hl 1 rfl) ?_
  refine lv_icmp_ge (tgt := 20) hx hb dJ7_fill_53178_7 z162 (fun c1 => absurd c1 (z866)) (fun _ => ?_)
  refine lv_aload_n hx hb dJ7_fill_53178_10 rfl (lv_at hl 2 rfl) ?_
  refine lv_iload_n hx hb dJ7_fill_53178_11 rfl (lv_at hl 0 rfl) ?_
  refine lv_iload_n hx hb dJ7_fill_53178_12 rfl (lv_at hl 3 rfl) ?_
  refine my_iastS hx hb hK hP hD hS 0 1 rfl rfl z867 rfl dJ7_fill_53178_13 (fun H locs hP hD hS => ?_)
  refine lv_iinc (v := 83) (lv' := [(2, .int 83), (3, .int 192), (0, .ref (r 32)), (1, .int 0)]) hx hb dJ7_fill_53178_14 hl (k := 0) rfl z868 (nlt rfl) rfl (fun ls hl => ?_)
  refine lv_goto (tgt := 5) hx hb dJ7_fill_53178_17 z163 ?_
  refine lv_iload_n hx hb dJ7_fill_53178_5 rfl (lv_at hl 0 rfl) ?_
  refine lv_iload_n hx hb dJ7_fill_53178_6 rfl (lv_at hl 1 rfl) ?_
  refine lv_icmp_ge (tgt := 20) hx hb dJ7_fill_53178_7 z162 (fun c1 => absurd c1 (z869)) (fun _ => ?_)
  refine lv_aload_n hx hb dJ7_fill_53178_10 rfl (lv_at hl 2 rfl) ?_
  refine lv_iload_n hx hb dJ7_fill_53178_11 rfl (lv_at hl 0 rfl) ?_
  refine lv_iload_n hx hb dJ7_fill_53178_12 rfl (lv_at hl 3 rfl) ?_
  refine my_iastS hx hb hK hP hD hS 0 1 rfl rfl z870 rfl dJ7_fill_53178_13 (fun H locs hP hD hS => ?_)
  refine lv_iinc (v := 84) (lv' := [(2, .int 84), (3, .int 192), (0, .ref (r 32)), (1, .int 0)]) hx hb dJ7_fill_53178_14 hl (k := 0) rfl z871 (nlt rfl) rfl (fun ls hl => ?_)
  refine lv_goto (tgt := 5) hx hb dJ7_fill_53178_17 z163 ?_
  refine lv_iload_n hx hb dJ7_fill_53178_5 rfl (lv_at hl 0 rfl) ?_
  refine lv_iload_n hx hb dJ7_fill_53178_6 rfl (lv_at hl 1 rfl) ?_
  refine lv_icmp_ge (tgt := 20) hx hb dJ7_fill_53178_7 z162 (fun c1 => absurd c1 (z872)) (fun _ => ?_)
  refine lv_aload_n hx hb dJ7_fill_53178_10 rfl (lv_at hl 2 rfl) ?_
  refine lv_iload_n hx hb dJ7_fill_53178_11 rfl (lv_at hl 0 rfl) ?_
  refine lv_iload_n hx hb dJ7_fill_53178_12 rfl (lv_at hl 3 rfl) ?_
  refine my_iastS hx hb hK hP hD hS 0 1 rfl rfl z873 rfl dJ7_fill_53178_13 (fun H locs hP hD hS => ?_)
  refine lv_iinc (v := 85) (lv' := [(2, .int 85), (3, .int 192), (0, .ref (r 32)), (1, .int 0)]) hx hb dJ7_fill_53178_14 hl (k := 0) rfl z874 (nlt rfl) rfl (fun ls hl => ?_)
  refine lv_goto (tgt := 5) hx hb dJ7_fill_53178_17 z163 ?_
  refine lv_iload_n hx hb dJ7_fill_53178_5 rfl (lv_at hl 0 rfl) ?_
  refine lv_iload_n hx hb dJ7_fill_53178_6 rfl (lv_at hl 1 rfl) ?_
  refine lv_icmp_ge (tgt := 20) hx hb dJ7_fill_53178_7 z162 (fun c1 => absurd c1 (z875)) (fun _ => ?_)
  refine lv_aload_n hx hb dJ7_fill_53178_10 rfl (lv_at hl 2 rfl) ?_
  refine lv_iload_n hx hb dJ7_fill_53178_11 rfl (lv_at hl 0 rfl) ?_
  refine lv_iload_n hx hb dJ7_fill_53178_12 rfl (lv_at hl 3 rfl) ?_
  refine my_iastS hx hb hK hP hD hS 0 1 rfl rfl z876 rfl dJ7_fill_53178_13 (fun H locs hP hD hS => ?_)
  refine lv_iinc (v := 86) (lv' := [(2, .int 86), (3, .int 192), (0, .ref (r 32)), (1, .int 0)]) hx hb dJ7_fill_53178_14 hl (k := 0) rfl z877 (nlt rfl) rfl (fun ls hl => ?_)
  refine lv_goto (tgt := 5) hx hb dJ7_fill_53178_17 z163 ?_
  refine lv_iload_n hx hb dJ7_fill_53178_5 rfl (lv_at hl 0 rfl) ?_
  refine lv_iload_n hx hb dJ7_fill_53178_6 rfl (lv_at hl 1 rfl) ?_
  refine lv_icmp_ge (tgt := 20) hx hb dJ7_fill_53178_7 z162 (fun c1 => absurd c1 (z878)) (fun _ => ?_)
  refine lv_aload_n hx hb dJ7_fill_53178_10 rfl (lv_at hl 2 rfl) ?_
  refine lv_iload_n hx hb dJ7_fill_53178_11 rfl (lv_at hl 0 rfl) ?_
  refine lv_iload_n hx hb dJ7_fill_53178_12 rfl (lv_at hl 3 rfl) ?_
  refine my_iastS hx hb hK hP hD hS 0 1 rfl rfl z879 rfl dJ7_fill_53178_13 (fun H locs hP hD hS => ?_)
  refine lv_iinc (v := 87) (lv' := [(2, .int 87), (3, .int 192), (0, .ref (r 32)), (1, .int 0)]) hx hb dJ7_fill_53178_14 hl (k := 0) rfl z880 (nlt rfl) rfl (fun ls hl => ?_)
  refine lv_goto (tgt := 5) hx hb dJ7_fill_53178_17 z163 ?_
  refine lv_iload_n hx hb dJ7_fill_53178_5 rfl (lv_at hl 0 rfl) ?_
  refine lv_iload_n hx hb dJ7_fill_53178_6 rfl (lv_at hl 1 rfl) ?_
  refine lv_icmp_ge (tgt := 20) hx hb dJ7_fill_53178_7 z162 (fun c1 => absurd c1 (z881)) (fun _ => ?_)
  refine lv_aload_n hx hb dJ7_fill_53178_10 rfl (lv_at hl 2 rfl) ?_
  refine lv_iload_n hx hb dJ7_fill_53178_11 rfl (lv_at hl 0 rfl) ?_
  refine lv_iload_n hx hb dJ7_fill_53178_12 rfl (lv_at hl 3 rfl) ?_
  refine my_iastS hx hb hK hP hD hS 0 1 rfl rfl z882 rfl dJ7_fill_53178_13 (fun H locs hP hD hS => ?_)
  refine lv_iinc (v := 88) (lv' := [(2, .int 88), (3, .int 192), (0, .ref (r 32)), (1, .int 0)]) hx hb dJ7_fill_53178_14 hl (k := 0) rfl z883 (nlt rfl) rfl (fun ls hl => ?_)
  refine lv_goto (tgt := 5) hx hb dJ7_fill_53178_17 z163 ?_
  refine lv_iload_n hx hb dJ7_fill_53178_5 rfl (lv_at hl 0 rfl) ?_
  refine lv_iload_n hx hb dJ7_fill_53178_6 rfl (lv_at hl 1 rfl) ?_
  refine lv_icmp_ge (tgt := 20) hx hb dJ7_fill_53178_7 z162 (fun c1 => absurd c1 (z884)) (fun _ => ?_)
  refine lv_aload_n hx hb dJ7_fill_53178_10 rfl (lv_at hl 2 rfl) ?_
  refine lv_iload_n hx hb dJ7_fill_53178_11 rfl (lv_at hl 0 rfl) ?_
  refine lv_iload_n hx hb dJ7_fill_53178_12 rfl (lv_at hl 3 rfl) ?_
  refine my_iastS hx hb hK hP hD hS 0 1 rfl rfl z885 rfl dJ7_fill_53178_13 (fun H locs hP hD hS => ?_)
  refine lv_iinc (v := 89) (lv' := [(2, .int 89), (3, .int 192), (0, .ref (r 32)), (1, .int 0)]) hx hb dJ7_fill_53178_14 hl (k := 0) rfl z886 (nlt rfl) rfl (fun ls hl => ?_)
  refine lv_goto (tgt := 5) hx hb dJ7_fill_53178_17 z163 ?_
  refine lv_iload_n hx hb dJ7_fill_53178_5 rfl (lv_at hl 0 rfl) ?_
  refine lv_iload_n hx hb dJ7_fill_53178_6 rfl (lv_at hl 1 rfl) ?_
  refine lv_icmp_ge (tgt := 20) hx hb dJ7_fill_53178_7 z162 (fun c1 => absurd c1 (z887)) (fun _ => ?_)
  refine lv_aload_n hx hb dJ7_fill_53178_10 rfl (lv_at hl 2 rfl) ?_
  refine lv_iload_n hx hb dJ7_fill_53178_11 rfl (lv_at hl 0 rfl) ?_
  refine lv_iload_n hx hb dJ7_fill_53178_12 rfl (lv_at hl 3 rfl) ?_
  refine my_iastS hx hb hK hP hD hS 0 1 rfl rfl z888 rfl dJ7_fill_53178_13 (fun H locs hP hD hS => ?_)
  refine lv_iinc (v := 90) (lv' := [(2, .int 90), (3, .int 192), (0, .ref (r 32)), (1, .int 0)]) hx hb dJ7_fill_53178_14 hl (k := 0) rfl z889 (nlt rfl) rfl (fun ls hl => ?_)
  refine lv_goto (tgt := 5) hx hb dJ7_fill_53178_17 z163 ?_
  refine lv_iload_n hx hb dJ7_fill_53178_5 rfl (lv_at hl 0 rfl) ?_
  refine lv_iload_n hx hb dJ7_fill_53178_6 rfl (lv_at hl 1 rfl) ?_
  refine lv_icmp_ge (tgt := 20) hx hb dJ7_fill_53178_7 z162 (fun c1 => absurd c1 (z890)) (fun _ => ?_)
  refine lv_aload_n hx hb dJ7_fill_53178_10 rfl (lv_at hl 2 rfl) ?_
  refine lv_iload_n hx hb dJ7_fill_53178_11 rfl (lv_at hl 0 rfl) ?_
  refine lv_iload_n hx hb dJ7_fill_53178_12 rfl (lv_at hl 3 rfl) ?_
  refine my_iastS hx hb hK hP hD hS 0 1 rfl rfl z891 rfl dJ7_fill_53178_13 (fun H locs hP hD hS => ?_)
  refine lv_iinc (v := 91) (lv' := [(2, .int 91), (3, .int 192), (0, .ref (r 32)), (1, .int 0)]) hx hb dJ7_fill_53178_14 hl (k := 0) rfl z892 (nlt rfl) rfl (fun ls hl => ?_)
  refine lv_goto (tgt := 5) hx hb dJ7_fill_53178_17 z163 ?_
  refine lv_iload_n hx hb dJ7_fill_53178_5 rfl (lv_at hl 0 rfl) ?_
  refine lv_iload_n hx hb dJ7_fill_53178_6 rfl (lv_at hl 1 rfl) ?_
  refine lv_icmp_ge (tgt := 20) hx hb dJ7_fill_53178_7 z162 (fun c1 => absurd c1 (z893)) (fun _ => ?_)
  refine lv_aload_n hx hb dJ7_fill_53178_10 rfl (lv_at hl 2 rfl) ?_
  refine lv_iload_n hx hb dJ7_fill_53178_11 rfl (lv_at hl 0 rfl) ?_
  refine lv_iload_n hx hb dJ7_fill_53178_12 rfl (lv_at hl 3 rfl) ?_
  refine my_iastS hx hb hK hP hD hS 0 1 rfl rfl z894 rfl dJ7_fill_53178_13 (fun H locs hP hD hS => ?_)
  refine lv_iinc (v := 92) (lv' := [(2, .int 92), (3, .int 192), (0, .ref (r 32)), (1, .int 0)]) hx hb dJ7_fill_53178_14 hl (k := 0) rfl z895 (nlt rfl) rfl (fun ls hl => ?_)
  refine lv_goto (tgt := 5) hx hb dJ7_fill_53178_17 z163 ?_
  refine lv_iload_n hx hb dJ7_fill_53178_5 rfl (lv_at hl 0 rfl) ?_
  refine lv_iload_n hx hb dJ7_fill_53178_6 rfl (lv_at hl 1 rfl) ?_
  refine lv_icmp_ge (tgt := 20) hx hb dJ7_fill_53178_7 z162 (fun c1 => absurd c1 (z896)) (fun _ => ?_)
  refine lv_aload_n hx hb dJ7_fill_53178_10 rfl (lv_at hl 2 rfl) ?_
  refine lv_iload_n hx hb dJ7_fill_53178_11 rfl (lv_at hl 0 rfl) ?_
  refine lv_iload_n hx hb dJ7_fill_53178_12 rfl (lv_at hl 3 rfl) ?_
  refine my_iastS hx hb hK hP hD hS 0 1 rfl rfl z897 rfl dJ7_fill_53178_13 (fun H locs hP hD hS => ?_)
  refine lv_iinc (v := 93) (lv' := [(2, .int 93), (3, .int 192), (0, .ref (r 32)), (1, .int 0)]) hx hb dJ7_fill_53178_14 hl (k := 0) rfl z898 (nlt rfl) rfl (fun ls hl => ?_)
  refine lv_goto (tgt := 5) hx hb dJ7_fill_53178_17 z163 ?_
  refine lv_iload_n hx hb dJ7_fill_53178_5 rfl (lv_at hl 0 rfl) ?_
  refine lv_iload_n hx hb dJ7_fill_53178_6 rfl (lv_at hl 1 rfl) ?_
  refine lv_icmp_ge (tgt := 20) hx hb dJ7_fill_53178_7 z162 (fun c1 => absurd c1 (z899)) (fun _ => ?_)
  refine lv_aload_n hx hb dJ7_fill_53178_10 rfl (lv_at hl 2 rfl) ?_
  refine lv_iload_n hx hb dJ7_fill_53178_11 rfl (lv_at hl 0 rfl) ?_
  refine lv_iload_n hx hb dJ7_fill_53178_12 rfl (lv_at hl 3 rfl) ?_
  refine my_iastS hx hb hK hP hD hS 0 1 rfl rfl z900 rfl dJ7_fill_53178_13 (fun H locs hP hD hS => ?_)
  refine lv_iinc (v := 94) (lv' := [(2, .int 94), (3, .int 192), (0, .ref (r 32)), (1, .int 0)]) hx hb dJ7_fill_53178_14 hl (k := 0) rfl z901 (nlt rfl) rfl (fun ls hl => ?_)
  refine lv_goto (tgt := 5) hx hb dJ7_fill_53178_17 z163 ?_
  refine lv_iload_n hx hb dJ7_fill_53178_5 rfl (lv_at hl 0 rfl) ?_
  refine lv_iload_n hx hb dJ7_fill_53178_6 rfl (lv_at hl 1 rfl) ?_
  refine lv_icmp_ge (tgt := 20) hx hb dJ7_fill_53178_7 z162 (fun c1 => absurd c1 (z902)) (fun _ => ?_)
  refine lv_aload_n hx hb dJ7_fill_53178_10 rfl (lv_at hl 2 rfl) ?_
  refine lv_iload_n hx hb dJ7_fill_53178_11 rfl (lv_at hl 0 rfl) ?_
  refine lv_iload_n hx hb dJ7_fill_53178_12 rfl (lv_at hl 3 rfl) ?_
  refine my_iastS hx hb hK hP hD hS 0 1 rfl rfl z903 rfl dJ7_fill_53178_13 (fun H locs hP hD hS => ?_)
  refine lv_iinc (v := 95) (lv' := [(2, .int 95), (3, .int 192), (0, .ref (r 32)), (1, .int 0)]) hx hb dJ7_fill_53178_14 hl (k := 0) rfl z904 (nlt rfl) rfl (fun ls hl => ?_)
  refine lv_goto (tgt := 5) hx hb dJ7_fill_53178_17 z163 ?_
  refine lv_iload_n hx hb dJ7_fill_53178_5 rfl (lv_at hl 0 rfl) ?_
  refine lv_iload_n hx hb dJ7_fill_53178_6 rfl (lv_at hl 1 rfl) ?_
  refine lv_icmp_ge (tgt := 20) hx hb dJ7_fill_53178_7 z162 (fun c1 => absurd c1 (z905)) (fun _ => ?_)
  refine lv_aload_n hx hb dJ7_fill_53178_10 rfl (lv_at hl 2 rfl) ?_
  refine lv_iload_n hx hb dJ7_fill_53178_11 rfl (lv_at hl 0 rfl) ?_
  refine lv_iload_n hx hb dJ7_fill_53178_12 rfl (lv_at hl 3 rfl) ?_
  refine my_iastS hx hb hK hP hD hS 0 1 rfl rfl z906 rfl dJ7_fill_53178_13 (fun H locs hP hD hS => ?_)
  refine lv_iinc (v := 96) (lv' := [(2, .int 96), (3, .int 192), (0, .ref (r 32)), (1, .int 0)]) hx hb dJ7_fill_53178_14 hl (k := 0) rfl z907 (nlt rfl) rfl (fun ls hl => ?_)
  refine lv_goto (tgt := 5) hx hb dJ7_fill_53178_17 z163 ?_
  refine lv_iload_n hx hb dJ7_fill_53178_5 rfl (lv_at hl 0 rfl) ?_
  refine lv_iload_n hx hb dJ7_fill_53178_6 rfl (lv_at hl 1 rfl) ?_
  refine lv_icmp_ge (tgt := 20) hx hb dJ7_fill_53178_7 z162 (fun c1 => absurd c1 (z908)) (fun _ => ?_)
  refine lv_aload_n hx hb dJ7_fill_53178_10 rfl (lv_at hl 2 rfl) ?_
  refine lv_iload_n hx hb dJ7_fill_53178_11 rfl (lv_at hl 0 rfl) ?_
  refine lv_iload_n hx hb dJ7_fill_53178_12 rfl (lv_at hl 3 rfl) ?_
  refine my_iastS hx hb hK hP hD hS 0 1 rfl rfl z909 rfl dJ7_fill_53178_13 (fun H locs hP hD hS => ?_)
  refine lv_iinc (v := 97) (lv' := [(2, .int 97), (3, .int 192), (0, .ref (r 32)), (1, .int 0)]) hx hb dJ7_fill_53178_14 hl (k := 0) rfl z910 (nlt rfl) rfl (fun ls hl => ?_)
  refine lv_goto (tgt := 5) hx hb dJ7_fill_53178_17 z163 ?_
  refine lv_iload_n hx hb dJ7_fill_53178_5 rfl (lv_at hl 0 rfl) ?_
  refine lv_iload_n hx hb dJ7_fill_53178_6 rfl (lv_at hl 1 rfl) ?_
  refine lv_icmp_ge (tgt := 20) hx hb dJ7_fill_53178_7 z162 (fun c1 => absurd c1 (z911)) (fun _ => ?_)
  refine lv_aload_n hx hb dJ7_fill_53178_10 rfl (lv_at hl 2 rfl) ?_
  refine lv_iload_n hx hb dJ7_fill_53178_11 rfl (lv_at hl 0 rfl) ?_
  refine lv_iload_n hx hb dJ7_fill_53178_12 rfl (lv_at hl 3 rfl) ?_
  refine my_iastS hx hb hK hP hD hS 0 1 rfl rfl z912 rfl dJ7_fill_53178_13 (fun H locs hP hD hS => ?_)
  refine lv_iinc (v := 98) (lv' := [(2, .int 98), (3, .int 192), (0, .ref (r 32)), (1, .int 0)]) hx hb dJ7_fill_53178_14 hl (k := 0) rfl z913 (nlt rfl) rfl (fun ls hl => ?_)
  refine lv_goto (tgt := 5) hx hb dJ7_fill_53178_17 z163 ?_
  refine lv_iload_n hx hb dJ7_fill_53178_5 rfl (lv_at hl 0 rfl) ?_
  refine lv_iload_n hx hb dJ7_fill_53178_6 rfl (lv_at hl 1 rfl) ?_
  refine lv_icmp_ge (tgt := 20) hx hb dJ7_fill_53178_7 z162 (fun c1 => absurd c1 (z914)) (fun _ => ?_)
  refine lv_aload_n hx hb dJ7_fill_53178_10 rfl (lv_at hl 2 rfl) ?_
  refine lv_iload_n hx hb dJ7_fill_53178_11 rfl (lv_at hl 0 rfl) ?_
  refine lv_iload_n hx hb dJ7_fill_53178_12 rfl (lv_at hl 3 rfl) ?_
  refine my_iastS hx hb hK hP hD hS 0 1 rfl rfl z915 rfl dJ7_fill_53178_13 (fun H locs hP hD hS => ?_)
  refine lv_iinc (v := 99) (lv' := [(2, .int 99), (3, .int 192), (0, .ref (r 32)), (1, .int 0)]) hx hb dJ7_fill_53178_14 hl (k := 0) rfl z916 (nlt rfl) rfl (fun ls hl => ?_)
  refine lv_goto (tgt := 5) hx hb dJ7_fill_53178_17 z163 ?_
  refine lv_iload_n hx hb dJ7_fill_53178_5 rfl (lv_at hl 0 rfl) ?_
  refine lv_iload_n hx hb dJ7_fill_53178_6 rfl (lv_at hl 1 rfl) ?_
  refine lv_icmp_ge (tgt := 20) hx hb dJ7_fill_53178_7 z162 (fun c1 => absurd c1 (z917)) (fun _ => ?_)
  refine lv_aload_n hx hb dJ7_fill_53178_10 rfl (lv_at hl 2 rfl) ?_
  refine lv_iload_n hx hb dJ7_fill_53178_11 rfl (lv_at hl 0 rfl) ?_
  refine lv_iload_n hx hb dJ7_fill_53178_12 rfl (lv_at hl 3 rfl) ?_
  refine my_iastS hx hb hK hP hD hS 0 1 rfl rfl z918 rfl dJ7_fill_53178_13 (fun H locs hP hD hS => ?_)
  refine lv_iinc (v := 100) (lv' := [(2, .int 100), (3, .int 192), (0, .ref (r 32)), (1, .int 0)]) hx hb dJ7_fill_53178_14 hl (k := 0) rfl z919 (nlt rfl) rfl (fun ls hl => ?_)
  refine lv_goto (tgt := 5) hx hb dJ7_fill_53178_17 z163 ?_
  refine lv_iload_n hx hb dJ7_fill_53178_5 rfl (lv_at hl 0 rfl) ?_
  refine lv_iload_n hx hb dJ7_fill_53178_6 rfl (lv_at hl 1 rfl) ?_
  refine lv_icmp_ge (tgt := 20) hx hb dJ7_fill_53178_7 z162 (fun c1 => absurd c1 (z920)) (fun _ => ?_)
  refine lv_aload_n hx hb dJ7_fill_53178_10 rfl (lv_at hl 2 rfl) ?_
  refine lv_iload_n hx hb dJ7_fill_53178_11 rfl (lv_at hl 0 rfl) ?_
  refine lv_iload_n hx hb dJ7_fill_53178_12 rfl (lv_at hl 3 rfl) ?_
  refine my_iastS hx hb hK hP hD hS 0 1 rfl rfl z921 rfl dJ7_fill_53178_13 (fun H locs hP hD hS => ?_)
  refine lv_iinc (v := 101) (lv' := [(2, .int 101), (3, .int 192), (0, .ref (r 32)), (1, .int 0)]) hx hb dJ7_fill_53178_14 hl (k := 0) rfl z922 (nlt rfl) rfl (fun ls hl => ?_)
  refine lv_goto (tgt := 5) hx hb dJ7_fill_53178_17 z163 ?_
  refine lv_iload_n hx hb dJ7_fill_53178_5 rfl (lv_at hl 0 rfl) ?_
  refine lv_iload_n hx hb dJ7_fill_53178_6 rfl (lv_at hl 1 rfl) ?_
  refine lv_icmp_ge (tgt := 20) hx hb dJ7_fill_53178_7 z162 (fun c1 => absurd c1 (z923)) (fun _ => ?_)
  refine lv_aload_n hx hb dJ7_fill_53178_10 rfl (lv_at hl 2 rfl) ?_
  refine lv_iload_n hx hb dJ7_fill_53178_11 rfl (lv_at hl 0 rfl) ?_
  refine lv_iload_n hx hb dJ7_fill_53178_12 rfl (lv_at hl 3 rfl) ?_
  refine my_iastS hx hb hK hP hD hS 0 1 rfl rfl z924 rfl dJ7_fill_53178_13 (fun H locs hP hD hS => ?_)
  refine lv_iinc (v := 102) (lv' := [(2, .int 102), (3, .int 192), (0, .ref (r 32)), (1, .int 0)]) hx hb dJ7_fill_53178_14 hl (k := 0) rfl z925 (nlt rfl) rfl (fun ls hl => ?_)
  refine lv_goto (tgt := 5) hx hb dJ7_fill_53178_17 z163 ?_
  refine lv_iload_n hx hb dJ7_fill_53178_5 rfl (lv_at hl 0 rfl) ?_
  refine lv_iload_n hx hb dJ7_fill_53178_6 rfl (lv_at hl 1 rfl) ?_
  refine lv_icmp_ge (tgt := 20) hx hb dJ7_fill_53178_7 z162 (fun c1 => absurd c1 (z926)) (fun _ => ?_)
  refine lv_aload_n hx hb dJ7_fill_53178_10 rfl (lv_at hl 2 rfl) ?_
  refine lv_iload_n hx hb dJ7_fill_53178_11 rfl (lv_at hl 0 rfl) ?_
  refine lv_iload_n hx hb dJ7_fill_53178_12 rfl (lv_at hl 3 rfl) ?_
  refine my_iastS hx hb hK hP hD hS 0 1 rfl rfl z927 rfl dJ7_fill_53178_13 (fun H locs hP hD hS => ?_)
  refine lv_iinc (v := 103) (lv' := [(2, .int 103), (3, .int 192), (0, .ref (r 32)), (1, .int 0)]) hx hb dJ7_fill_53178_14 hl (k := 0) rfl z928 (nlt rfl) rfl (fun ls hl => ?_)
  refine lv_goto (tgt := 5) hx hb dJ7_fill_53178_17 z163 ?_
  refine lv_iload_n hx hb dJ7_fill_53178_5 rfl (lv_at hl 0 rfl) ?_
  refine lv_iload_n hx hb dJ7_fill_53178_6 rfl (lv_at hl 1 rfl) ?_
  refine lv_icmp_ge (tgt := 20) hx hb dJ7_fill_53178_7 z162 (fun c1 => absurd c1 (z929)) (fun _ => ?_)
  refine lv_aload_n hx hb dJ7_fill_53178_10 rfl (lv_at hl 2 rfl) ?_
  refine lv_iload_n hx hb dJ7_fill_53178_11 rfl (lv_at hl 0 rfl) ?_
  refine lv_iload_n hx hb dJ7_fill_53178_12 rfl (lv_at hl 3 rfl) ?_
  refine my_iastS hx hb hK hP hD hS 0 1 rfl rfl z930 rfl dJ7_fill_53178_13 (fun H locs hP hD hS => ?_)
  refine lv_iinc (v := 104) (lv' := [(2, .int 104), (3, .int 192), (0, .ref (r 32)), (1, .int 0)]) hx hb dJ7_fill_53178_14 hl (k := 0) rfl z931 (nlt rfl) rfl (fun ls hl => ?_)
  refine lv_goto (tgt := 5) hx hb dJ7_fill_53178_17 z163 ?_
  refine lv_iload_n hx hb dJ7_fill_53178_5 rfl (lv_at hl 0 rfl) ?_
  refine lv_iload_n hx hb dJ7_fill_53178_6 rfl (lv_at hl 1 rfl) ?_
  refine lv_icmp_ge (tgt := 20) hx hb dJ7_fill_53178_7 z162 (fun c1 => absurd c1 (z932)) (fun _ => ?_)
  refine lv_aload_n hx hb dJ7_fill_53178_10 rfl (lv_at hl 2 rfl) ?_
  refine lv_iload_n hx hb dJ7_fill_53178_11 rfl (lv_at hl 0 rfl) ?_
  refine lv_iload_n hx hb dJ7_fill_53178_12 rfl (lv_at hl 3 rfl) ?_
  refine my_iastS hx hb hK hP hD hS 0 1 rfl rfl z933 rfl dJ7_fill_53178_13 (fun H locs hP hD hS => ?_)
  refine lv_iinc (v := 105) (lv' := [(2, .int 105), (3, .int 192), (0, .ref (r 32)), (1, .int 0)]) hx hb dJ7_fill_53178_14 hl (k := 0) rfl z934 (nlt rfl) rfl (fun ls hl => ?_)
  refine lv_goto (tgt := 5) hx hb dJ7_fill_53178_17 z163 ?_
  refine lv_iload_n hx hb dJ7_fill_53178_5 rfl (lv_at hl 0 rfl) ?_
  refine lv_iload_n hx hb dJ7_fill_53178_6 rfl (lv_at hl 1 rfl) ?_
  refine lv_icmp_ge (tgt := 20) hx hb dJ7_fill_53178_7 z162 (fun c1 => absurd c1 (z935)) (fun _ => ?_)
  refine lv_aload_n hx hb dJ7_fill_53178_10 rfl (lv_at hl 2 rfl) ?_
  refine lv_iload_n hx hb dJ7_fill_53178_11 rfl (lv_at hl 0 rfl) ?_
  refine lv_iload_n hx hb dJ7_fill_53178_12 rfl (lv_at hl 3 rfl) ?_
  refine my_iastS hx hb hK hP hD hS 0 1 rfl rfl z936 rfl dJ7_fill_53178_13 (fun H locs hP hD hS => ?_)
  refine lv_iinc (v := 106) (lv' := [(2, .int 106), (3, .int 192), (0, .ref (r 32)), (1, .int 0)]) hx hb dJ7_fill_53178_14 hl (k := 0) rfl z937 (nlt rfl) rfl (fun ls hl => ?_)
  refine lv_goto (tgt := 5) hx hb dJ7_fill_53178_17 z163 ?_
  refine lv_iload_n hx hb dJ7_fill_53178_5 rfl (lv_at hl 0 rfl) ?_
  refine lv_iload_n hx hb dJ7_fill_53178_6 rfl (lv_at hl 1 rfl) ?_
  refine lv_icmp_ge (tgt := 20) hx hb dJ7_fill_53178_7 z162 (fun c1 => absurd c1 (z938)) (fun _ => ?_)
  refine lv_aload_n hx hb dJ7_fill_53178_10 rfl (lv_at hl 2 rfl) ?_
  refine lv_iload_n hx hb dJ7_fill_53178_11 rfl (lv_at hl 0 rfl) ?_
  refine lv_iload_n hx hb dJ7_fill_53178_12 rfl (lv_at hl 3 rfl) ?_
  refine my_iastS hx hb hK hP hD hS 0 1 rfl rfl z939 rfl dJ7_fill_53178_13 (fun H locs hP hD hS => ?_)
  refine lv_iinc (v := 107) (lv' := [(2, .int 107), (3, .int 192), (0, .ref (r 32)), (1, .int 0)]) hx hb dJ7_fill_53178_14 hl (k := 0) rfl z940 (nlt rfl) rfl (fun ls hl => ?_)
  refine lv_goto (tgt := 5) hx hb dJ7_fill_53178_17 z163 ?_
  refine lv_iload_n hx hb dJ7_fill_53178_5 rfl (lv_at hl 0 rfl) ?_
  refine lv_iload_n hx hb dJ7_fill_53178_6 rfl (lv_at hl 1 rfl) ?_
  refine lv_icmp_ge (tgt := 20) hx hb dJ7_fill_53178_7 z162 (fun c1 => absurd c1 (z941)) (fun _ => ?_)
  refine lv_aload_n hx hb dJ7_fill_53178_10 rfl (lv_at hl 2 rfl) ?_
  refine lv_iload_n hx hb dJ7_fill_53178_11 rfl (lv_at hl 0 rfl) ?_
  refine lv_iload_n hx hb dJ7_fill_53178_12 rfl (lv_at hl 3 rfl) ?_
  refine my_iastS hx hb hK hP hD hS 0 1 rfl rfl z942 rfl dJ7_fill_53178_13 (fun H locs hP hD hS => ?_)
  refine lv_iinc (v := 108) (lv' := [(2, .int 108), (3, .int 192), (0, .ref (r 32)), (1, .int 0)]) hx hb dJ7_fill_53178_14 hl (k := 0) rfl z943 (nlt rfl) rfl (fun ls hl => ?_)
  refine lv_goto (tgt := 5) hx hb dJ7_fill_53178_17 z163 ?_
  refine lv_iload_n hx hb dJ7_fill_53178_5 rfl (lv_at hl 0 rfl) ?_
  refine lv_iload_n hx hb dJ7_fill_53178_6 rfl (lv_at hl 1 rfl) ?_
  refine lv_icmp_ge (tgt := 20) hx hb dJ7_fill_53178_7 z162 (fun c1 => absurd c1 (z944)) (fun _ => ?_)
  refine lv_aload_n hx hb dJ7_fill_53178_10 rfl (lv_at hl 2 rfl) ?_
  refine lv_iload_n hx hb dJ7_fill_53178_11 rfl (lv_at hl 0 rfl) ?_
  refine lv_iload_n hx hb dJ7_fill_53178_12 rfl (lv_at hl 3 rfl) ?_
  refine my_iastS hx hb hK hP hD hS 0 1 rfl rfl z945 rfl dJ7_fill_53178_13 (fun H locs hP hD hS => ?_)
  refine lv_iinc (v := 109) (lv' := [(2, .int 109), (3, .int 192), (0, .ref (r 32)), (1, .int 0)]) hx hb dJ7_fill_53178_14 hl (k := 0) rfl z946 (nlt rfl) rfl (fun ls hl => ?_)
  refine lv_goto (tgt := 5) hx hb dJ7_fill_53178_17 z163 ?_
  refine lv_iload_n hx hb dJ7_fill_53178_5 rfl (lv_at hl 0 rfl) ?_
  refine lv_iload_n hx hb dJ7_fill_53178_6 rfl (lv_at hl 1 rfl) ?_
  refine lv_icmp_ge (tgt := 20) hx hb dJ7_fill_53178_7 z162 (fun c1 => absurd c1 (z947)) (fun _ => ?_)
  refine lv_aload_n hx hb dJ7_fill_53178_10 rfl (lv_at hl 2 rfl) ?_
  refine lv_iload_n hx hb dJ7_fill_53178_11 rfl (lv_at hl 0 rfl) ?_
  refine lv_iload_n hx hb dJ7_fill_53178_12 rfl (lv_at hl 3 rfl) ?_
  refine my_iastS hx hb hK hP hD hS 0 1 rfl rfl z948 rfl dJ7_fill_53178_13 (fun H locs hP hD hS => ?_)
  refine lv_iinc (v := 110) (lv' := [(2, .int 110), (3, .int 192), (0, .ref (r 32)), (1, .int 0)]) hx hb dJ7_fill_53178_14 hl (k := 0) rfl z949 (nlt rfl) rfl (fun ls hl => ?_)
  refine lv_goto (tgt := 5) hx hb dJ7_fill_53178_17 z163 ?_
  refine lv_iload_n hx hb dJ7_fill_53178_5 rfl (lv_at hl 0 rfl) ?_
  refine lv_iload_n hx hb dJ7_fill_53178_6 rfl (lv_at hl 1 rfl) ?_
  refine lv_icmp_ge (tgt := 20) hx hb dJ7_fill_53178_7 z162 (fun c1 => absurd c1 (z950)) (fun _ => ?_)
  refine lv_aload_n hx hb dJ7_fill_53178_10 rfl (lv_at hl 2 rfl) ?_
  refine lv_iload_n hx hb dJ7_fill_53178_11 rfl (lv_at hl 0 rfl) ?_
  refine lv_iload_n hx hb dJ7_fill_53178_12 rfl (lv_at hl 3 rfl) ?_
  refine my_iastS hx hb hK hP hD hS 0 1 rfl rfl z951 rfl dJ7_fill_53178_13 (fun H locs hP hD hS => ?_)
  refine lv_iinc (v := 111) (lv' := [(2, .int 111), (3, .int 192), (0, .ref (r 32)), (1, .int 0)]) hx hb dJ7_fill_53178_14 hl (k := 0) rfl z952 (nlt rfl) rfl (fun ls hl => ?_)
  refine lv_goto (tgt := 5) hx hb dJ7_fill_53178_17 z163 ?_
  refine lv_iload_n hx hb dJ7_fill_53178_5 rfl (lv_at hl 0 rfl) ?_
  refine lv_iload_n hx hb dJ7_fill_53178_6 rfl (lv_at hl 1 rfl) ?_
  refine lv_icmp_ge (tgt := 20) hx hb dJ7_fill_53178_7 z162 (fun c1 => absurd c1 (z953)) (fun _ => ?_)
  refine lv_aload_n hx hb dJ7_fill_53178_10 rfl (lv_at hl 2 rfl) ?_
  refine lv_iload_n hx hb dJ7_fill_53178_11 rfl (lv_at hl 0 rfl) ?_
  refine lv_iload_n hx hb dJ7_fill_53178_12 rfl (lv_at hl 3 rfl) ?_
  refine my_iastS hx hb hK hP hD hS 0 1 rfl rfl z954 rfl dJ7_fill_53178_13 (fun H locs hP hD hS => ?_)
  refine lv_iinc (v := 112) (lv' := [(2, .int 112), (3, .int 192), (0, .ref (r 32)), (1, .int 0)]) hx hb dJ7_fill_53178_14 hl (k := 0) rfl z955 (nlt rfl) rfl (fun ls hl => ?_)
  refine lv_goto (tgt := 5) hx hb dJ7_fill_53178_17 z163 ?_
  refine lv_iload_n hx hb dJ7_fill_53178_5 rfl (lv_at hl 0 rfl) ?_
  refine lv_iload_n hx hb dJ7_fill_53178_6 rfl (lv_at hl 1 rfl) ?_
  refine lv_icmp_ge (tgt := 20) hx hb dJ7_fill_53178_7 z162 (fun c1 => absurd c1 (z956)) (fun _ => ?_)
  refine lv_aload_n hx hb dJ7_fill_53178_10 rfl (lv_at hl 2 rfl) ?_
  refine lv_iload_n hx hb dJ7_fill_53178_11 rfl (lv_at hl 0 rfl) ?_
  refine lv_iload_n hx hb dJ7_fill_53178_12 rfl (lv_at hl 3 rfl) ?_
  refine my_iastS hx hb hK hP hD hS 0 1 rfl rfl z957 rfl dJ7_fill_53178_13 (fun H locs hP hD hS => ?_)
  refine lv_iinc (v := 113) (lv' := [(2, .int 113), (3, .int 192), (0, .ref (r 32)), (1, .int 0)]) hx hb dJ7_fill_53178_14 hl (k := 0) rfl z958 (nlt rfl) rfl (fun ls hl => ?_)
  refine lv_goto (tgt := 5) hx hb dJ7_fill_53178_17 z163 ?_
  refine lv_iload_n hx hb dJ7_fill_53178_5 rfl (lv_at hl 0 rfl) ?_
  refine lv_iload_n hx hb dJ7_fill_53178_6 rfl (lv_at hl 1 rfl) ?_
  refine lv_icmp_ge (tgt := 20) hx hb dJ7_fill_53178_7 z162 (fun c1 => absurd c1 (z959)) (fun _ => ?_)
  refine lv_aload_n hx hb dJ7_fill_53178_10 rfl (lv_at hl 2 rfl) ?_
  refine lv_iload_n hx hb dJ7_fill_53178_11 rfl (lv_at hl 0 rfl) ?_
  refine lv_iload_n hx hb dJ7_fill_53178_12 rfl (lv_at hl 3 rfl) ?_
  refine my_iastS hx hb hK hP hD hS 0 1 rfl rfl z960 rfl dJ7_fill_53178_13 (fun H locs hP hD hS => ?_)
  refine lv_iinc (v := 114) (lv' := [(2, .int 114), (3, .int 192), (0, .ref (r 32)), (1, .int 0)]) hx hb dJ7_fill_53178_14 hl (k := 0) rfl z961 (nlt rfl) rfl (fun ls hl => ?_)
  refine lv_goto (tgt := 5) hx hb dJ7_fill_53178_17 z163 ?_
  refine lv_iload_n hx hb dJ7_fill_53178_5 rfl (lv_at hl 0 rfl) ?_
  refine lv_iload_n hx hb dJ7_fill_53178_6 rfl (lv_at hl 1 rfl) ?_
  refine lv_icmp_ge (tgt := 20) hx hb dJ7_fill_53178_7 z162 (fun c1 => absurd c1 (z962)) (fun _ => ?_)
  refine lv_aload_n hx hb dJ7_fill_53178_10 rfl (lv_at hl 2 rfl) ?_
  refine lv_iload_n hx hb dJ7_fill_53178_11 rfl (lv_at hl 0 rfl) ?_
  refine lv_iload_n hx hb dJ7_fill_53178_12 rfl (lv_at hl 3 rfl) ?_
  refine my_iastS hx hb hK hP hD hS 0 1 rfl rfl z963 rfl dJ7_fill_53178_13 (fun H locs hP hD hS => ?_)
  refine lv_iinc (v := 115) (lv' := [(2, .int 115), (3, .int 192), (0, .ref (r 32)), (1, .int 0)]) hx hb dJ7_fill_53178_14 hl (k := 0) rfl z964 (nlt rfl) rfl (fun ls hl => ?_)
  refine lv_goto (tgt := 5) hx hb dJ7_fill_53178_17 z163 ?_
  refine lv_iload_n hx hb dJ7_fill_53178_5 rfl (lv_at hl 0 rfl) ?_
  refine lv_iload_n hx hb dJ7_fill_53178_6 rfl (lv_at hl 1 rfl) ?_
  refine lv_icmp_ge (tgt := 20) hx hb dJ7_fill_53178_7 z162 (fun c1 => absurd c1 (z965)) (fun _ => ?_)
  refine lv_aload_n hx hb dJ7_fill_53178_10 rfl (lv_at hl 2 rfl) ?_
  refine lv_iload_n hx hb dJ7_fill_53178_11 rfl (lv_at hl 0 rfl) ?_
  refine lv_iload_n hx hb dJ7_fill_53178_12 rfl (lv_at hl 3 rfl) ?_
  refine my_iastS hx hb hK hP hD hS 0 1 rfl rfl z966 rfl dJ7_fill_53178_13 (fun H locs hP hD hS => ?_)
  refine lv_iinc (v := 116) (lv' := [(2, .int 116), (3, .int 192), (0, .ref (r 32)), (1, .int 0)]) hx hb dJ7_fill_53178_14 hl (k := 0) rfl z967 (nlt rfl) rfl (fun ls hl => ?_)
  refine lv_goto (tgt := 5) hx hb dJ7_fill_53178_17 z163 ?_
  refine lv_iload_n hx hb dJ7_fill_53178_5 rfl (lv_at hl 0 rfl) ?_
  refine lv_iload_n hx hb dJ7_fill_53178_6 rfl (lv_at hl 1 rfl) ?_
  refine lv_icmp_ge (tgt := 20) hx hb dJ7_fill_53178_7 z162 (fun c1 => absurd c1 (z968)) (fun _ => ?_)
  refine lv_aload_n hx hb dJ7_fill_53178_10 rfl (lv_at hl 2 rfl) ?_
  refine lv_iload_n hx hb dJ7_fill_53178_11 rfl (lv_at hl 0 rfl) ?_
  refine lv_iload_n hx hb dJ7_fill_53178_12 rfl (lv_at hl 3 rfl) ?_
  refine my_iastS hx hb hK hP hD hS 0 1 rfl rfl z969 rfl dJ7_fill_53178_13 (fun H locs hP hD hS => ?_)
  refine lv_iinc (v := 117) (lv' := [(2, .int 117), (3, .int 192), (0, .ref (r 32)), (1, .int 0)]) hx hb dJ7_fill_53178_14 hl (k := 0) rfl z970 (nlt rfl) rfl (fun ls hl => ?_)
  refine lv_goto (tgt := 5) hx hb dJ7_fill_53178_17 z163 ?_
  refine lv_iload_n hx hb dJ7_fill_53178_5 rfl (lv_at hl 0 rfl) ?_
  refine lv_iload_n hx hb dJ7_fill_53178_6 rfl (lv_at hl 1 rfl) ?_
  refine lv_icmp_ge (tgt := 20) hx hb dJ7_fill_53178_7 z162 (fun c1 => absurd c1 (z971)) (fun _ => ?_)
  refine lv_aload_n hx hb dJ7_fill_53178_10 rfl (lv_at hl 2 rfl) ?_
  refine lv_iload_n hx hb dJ7_fill_53178_11 rfl (lv_at hl 0 rfl) ?_
  refine lv_iload_n hx hb dJ7_fill_53178_12 rfl (lv_at hl 3 rfl) ?_
  refine my_iastS hx hb hK hP hD hS 0 1 rfl rfl z972 rfl dJ7_fill_53178_13 (fun H locs hP hD hS => ?_)
  refine lv_iinc (v := 118) (lv' := [(2, .int 118), (3, .int 192), (0, .ref (r 32)), (1, .int 0)]) hx hb dJ7_fill_53178_14 hl (k := 0) rfl z973 (nlt rfl) rfl (fun ls hl => ?_)
  refine lv_goto (tgt := 5) hx hb dJ7_fill_53178_17 z163 ?_
  refine lv_iload_n hx hb dJ7_fill_53178_5 rfl (lv_at hl 0 rfl) ?_
  refine lv_iload_n hx hb dJ7_fill_53178_6 rfl (lv_at hl 1 rfl) ?_
  refine lv_icmp_ge (tgt := 20) hx hb dJ7_fill_53178_7 z162 (fun c1 => absurd c1 (z974)) (fun _ => ?_)
  refine lv_aload_n hx hb dJ7_fill_53178_10 rfl (lv_at hl 2 rfl) ?_
  refine lv_iload_n hx hb dJ7_fill_53178_11 rfl (lv_at hl 0 rfl) ?_
  refine lv_iload_n hx hb dJ7_fill_53178_12 rfl (lv_at hl 3 rfl) ?_
  refine my_iastS hx hb hK hP hD hS 0 1 rfl rfl z975 rfl dJ7_fill_53178_13 (fun H locs hP hD hS => ?_)
  refine lv_iinc (v := 119) (lv' := [(2, .int 119), (3, .int 192), (0, .ref (r 32)), (1, .int 0)]) hx hb dJ7_fill_53178_14 hl (k := 0) rfl z976 (nlt rfl) rfl (fun ls hl => ?_)
  refine lv_goto (tgt := 5) hx hb dJ7_fill_53178_17 z163 ?_
  refine lv_iload_n hx hb dJ7_fill_53178_5 rfl (lv_at hl 0 rfl) ?_
  refine lv_iload_n hx hb dJ7_fill_53178_6 rfl (lv_at hl 1 rfl) ?_
  refine lv_icmp_ge (tgt := 20) hx hb dJ7_fill_53178_7 z162 (fun c1 => absurd c1 (z977)) (fun _ => ?_)
  refine lv_aload_n hx hb dJ7_fill_53178_10 rfl (lv_at hl 2 rfl) ?_
  refine lv_iload_n hx hb dJ7_fill_53178_11 rfl (lv_at hl 0 rfl) ?_
  refine lv_iload_n hx hb dJ7_fill_53178_12 rfl (lv_at hl 3 rfl) ?_
  refine my_iastS hx hb hK hP hD hS 0 1 rfl rfl z978 rfl dJ7_fill_53178_13 (fun H locs hP hD hS => ?_)
  refine lv_iinc (v := 120) (lv' := [(2, .int 120), (3, .int 192), (0, .ref (r 32)), (1, .int 0)]) hx hb dJ7_fill_53178_14 hl (k := 0) rfl z979 (nlt rfl) rfl (fun ls hl => ?_)
  refine lv_goto (tgt := 5) hx hb dJ7_fill_53178_17 z163 ?_
  refine lv_iload_n hx hb dJ7_fill_53178_5 rfl (lv_at hl 0 rfl) ?_
  refine lv_iload_n hx hb dJ7_fill_53178_6 rfl (lv_at hl 1 rfl) ?_
  refine lv_icmp_ge (tgt := 20) hx hb dJ7_fill_53178_7 z162 (fun c1 => absurd c1 (z980)) (fun _ => ?_)
  refine lv_aload_n hx hb dJ7_fill_53178_10 rfl (lv_at hl 2 rfl) ?_
  refine lv_iload_n hx hb dJ7_fill_53178_11 rfl (lv_at hl 0 rfl) ?_
  refine lv_iload_n hx hb dJ7_fill_53178_12 rfl (lv_at hl 3 rfl) ?_
  refine my_iastS hx hb hK hP hD hS 0 1 rfl rfl z981 rfl dJ7_fill_53178_13 (fun H locs hP hD hS => ?_)
  refine lv_iinc (v := 121) (lv' := [(2, .int 121), (3, .int 192), (0, .ref (r 32)), (1, .int 0)]) hx hb dJ7_fill_53178_14 hl (k := 0) rfl z982 (nlt rfl) rfl (fun ls hl => ?_)
  refine lv_goto (tgt := 5) hx hb dJ7_fill_53178_17 z163 ?_
  refine lv_iload_n hx hb dJ7_fill_53178_5 rfl (lv_at hl 0 rfl) ?_
  refine lv_iload_n hx hb dJ7_fill_53178_6 rfl (lv_at hl 1 rfl) ?_
  refine lv_icmp_ge (tgt := 20) hx hb dJ7_fill_53178_7 z162 (fun c1 => absurd c1 (z983)) (fun _ => ?_)
  refine lv_aload_n hx hb dJ7_fill_53178_10 rfl (lv_at hl 2 rfl) ?_
  refine lv_iload_n hx hb dJ7_fill_53178_11 rfl (lv_at hl 0 rfl) ?_
  refine lv_iload_n hx hb dJ7_fill_53178_12 rfl (lv_at hl 3 rfl) ?_
  refine my_iastS hx hb hK hP hD hS 0 1 rfl rfl z984 rfl dJ7_fill_53178_13 (fun H locs hP hD hS => ?_)
  refine lv_iinc (v := 122) (lv' := [(2, .int 122), (3, .int 192), (0, .ref (r 32)), (1, .int 0)]) hx hb dJ7_fill_53178_14 hl (k := 0) rfl z985 (nlt rfl) rfl (fun ls hl => ?_)
  refine lv_goto (tgt := 5) hx hb dJ7_fill_53178_17 z163 ?_
  refine lv_iload_n hx hb dJ7_fill_53178_5 rfl (lv_at hl 0 rfl) ?_
  refine lv_iload_n hx hb dJ7_fill_53178_6 rfl (lv_at hl 1 rfl) ?_
  refine lv_icmp_ge (tgt := 20) hx hb dJ7_fill_53178_7 z162 (fun c1 => absurd c1 (z986)) (fun _ => ?_)
  refine lv_aload_n hx hb dJ7_fill_53178_10 rfl (lv_at hl 2 rfl) ?_
  refine lv_iload_n hx hb dJ7_fill_53178_11 rfl (lv_at hl 0 rfl) ?_
  refine lv_iload_n hx hb dJ7_fill_53178_12 rfl (lv_at hl 3 rfl) ?_
  refine my_iastS hx hb hK hP hD hS 0 1 rfl rfl z987 rfl dJ7_fill_53178_13 (fun H locs hP hD hS => ?_)
  refine lv_iinc (v := 123) (lv' := [(2, .int 123), (3, .int 192), (0, .ref (r 32)), (1, .int 0)]) hx hb dJ7_fill_53178_14 hl (k := 0) rfl z988 (nlt rfl) rfl (fun ls hl => ?_)
  refine lv_goto (tgt := 5) hx hb dJ7_fill_53178_17 z163 ?_
  refine lv_iload_n hx hb dJ7_fill_53178_5 rfl (lv_at hl 0 rfl) ?_
  refine lv_iload_n hx hb dJ7_fill_53178_6 rfl (lv_at hl 1 rfl) ?_
  refine lv_icmp_ge (tgt := 20) hx hb dJ7_fill_53178_7 z162 (fun c1 => absurd c1 (z989)) (fun _ => ?_)
  refine lv_aload_n hx hb dJ7_fill_53178_10 rfl (lv_at hl 2 rfl) ?_
  refine lv_iload_n hx hb dJ7_fill_53178_11 rfl (lv_at hl 0 rfl) ?_
  refine lv_iload_n hx hb dJ7_fill_53178_12 rfl (lv_at hl 3 rfl) ?_
  refine my_iastS hx hb hK hP hD hS 0 1 rfl rfl z990 rfl dJ7_fill_53178_13 (fun H locs hP hD hS => ?_)
  refine lv_iinc (v := 124) (lv' := [(2, .int 124), (3, .int 192), (0, .ref (r 32)), (1, .int 0)]) hx hb dJ7_fill_53178_14 hl (k := 0) rfl z991 (nlt rfl) rfl (fun ls hl => ?_)
  refine lv_goto (tgt := 5) hx hb dJ7_fill_53178_17 z163 ?_
  refine lv_iload_n hx hb dJ7_fill_53178_5 rfl (lv_at hl 0 rfl) ?_
  refine lv_iload_n hx hb dJ7_fill_53178_6 rfl (lv_at hl 1 rfl) ?_
  refine lv_icmp_ge (tgt := 20) hx hb dJ7_fill_53178_7 z162 (fun c1 => absurd c1 (z992)) (fun _ => ?_)
  refine lv_aload_n hx hb dJ7_fill_53178_10 rfl (lv_at hl 2 rfl) ?_
  refine lv_iload_n hx hb dJ7_fill_53178_11 rfl (lv_at hl 0 rfl) ?_
  refine lv_iload_n hx hb dJ7_fill_53178_12 rfl (lv_at hl 3 rfl) ?_
  refine my_iastS hx hb hK hP hD hS 0 1 rfl rfl z993 rfl dJ7_fill_53178_13 (fun H locs hP hD hS => ?_)
  refine lv_iinc (v := 125) (lv' := [(2, .int 125), (3, .int 192), (0, .ref (r 32)), (1, .int 0)]) hx hb dJ7_fill_53178_14 hl (k := 0) rfl z994 (nlt rfl) rfl (fun ls hl => ?_)
  refine lv_goto (tgt := 5) hx hb dJ7_fill_53178_17 z163 ?_
  refine lv_iload_n hx hb dJ7_fill_53178_5 rfl (lv_at hl 0 rfl) ?_
  refine lv_iload_n hx hb dJ7_fill_53178_6 rfl (lv_at hl 1 rfl) ?_
  refine lv_icmp_ge (tgt := 20) hx hb dJ7_fill_53178_7 z162 (fun c1 => absurd c1 (z995)) (fun _ => ?_)
  refine lv_aload_n hx hb dJ7_fill_53178_10 rfl (lv_at hl 2 rfl) ?_
  refine lv_iload_n hx hb dJ7_fill_53178_11 rfl (lv_at hl 0 rfl) ?_
  refine lv_iload_n hx hb dJ7_fill_53178_12 rfl (lv_at hl 3 rfl) ?_
  refine my_iastS hx hb hK hP hD hS 0 1 rfl rfl z996 rfl dJ7_fill_53178_13 (fun H locs hP hD hS => ?_)
  refine lv_iinc (v := 126) (lv' := [(2, .int 126), (3, .int 192), (0, .ref (r 32)), (1, .int 0)]) hx hb dJ7_fill_53178_14 hl (k := 0) rfl z997 (nlt rfl) rfl (fun ls hl => ?_)
  refine lv_goto (tgt := 5) hx hb dJ7_fill_53178_17 z163 ?_
  refine lv_iload_n hx hb dJ7_fill_53178_5 rfl (lv_at hl 0 rfl) ?_
  refine lv_iload_n hx hb dJ7_fill_53178_6 rfl (lv_at hl 1 rfl) ?_
  refine lv_icmp_ge (tgt := 20) hx hb dJ7_fill_53178_7 z162 (fun c1 => absurd c1 (z998)) (fun _ => ?_)
  refine lv_aload_n hx hb dJ7_fill_53178_10 rfl (lv_at hl 2 rfl) ?_
  refine lv_iload_n hx hb dJ7_fill_53178_11 rfl (lv_at hl 0 rfl) ?_
  refine lv_iload_n hx hb dJ7_fill_53178_12 rfl (lv_at hl 3 rfl) ?_
  refine my_iastS hx hb hK hP hD hS 0 1 rfl rfl z999 rfl dJ7_fill_53178_13 (fun H locs hP hD hS => ?_)
  refine lv_iinc (v := 127) (lv' := [(2, .int 127), (3, .int 192), (0, .ref (r 32)), (1, .int 0)]) hx hb dJ7_fill_53178_14 hl (k := 0) rfl z1000 (nlt rfl) rfl (fun ls hl => ?_)
  refine lv_goto (tgt := 5) hx hb dJ7_fill_53178_17 z163 ?_
  refine lv_iload_n hx hb dJ7_fill_53178_5 rfl (lv_at hl 0 rfl) ?_
  refine lv_iload_n hx hb dJ7_fill_53178_6 rfl (lv_at hl 1 rfl) ?_
  refine lv_icmp_ge (tgt := 20) hx hb dJ7_fill_53178_7 z162 (fun c1 => absurd c1 (z1001)) (fun _ => ?_)
  refine lv_aload_n hx hb dJ7_fill_53178_10 rfl (lv_at hl 2 rfl) ?_
  refine lv_iload_n hx hb dJ7_fill_53178_11 rfl (lv_at hl 0 rfl) ?_
  refine lv_iload_n hx hb dJ7_fill_53178_12 rfl (lv_at hl 3 rfl) ?_
  refine my_iastS hx hb hK hP hD hS 0 1 rfl rfl z1002 rfl dJ7_fill_53178_13 (fun H locs hP hD hS => ?_)
  refine lv_iinc (v := 128) (lv' := [(2, .int 128), (3, .int 192), (0, .ref (r 32)), (1, .int 0)]) hx hb dJ7_fill_53178_14 hl (k := 0) rfl z1003 (nlt rfl) rfl (fun ls hl => ?_)
  refine lv_goto (tgt := 5) hx hb dJ7_fill_53178_17 z163 ?_
  refine lv_iload_n hx hb dJ7_fill_53178_5 rfl (lv_at hl 0 rfl) ?_
  refine lv_iload_n hx hb dJ7_fill_53178_6 rfl (lv_at hl 1 rfl) ?_
  refine lv_icmp_ge (tgt := 20) hx hb dJ7_fill_53178_7 z162 (fun c1 => absurd c1 (z1004)) (fun _ => ?_)
  refine lv_aload_n hx hb dJ7_fill_53178_10 rfl (lv_at hl 2 rfl) ?_
  refine lv_iload_n hx hb dJ7_fill_53178_11 rfl (lv_at hl 0 rfl) ?_
  refine lv_iload_n hx hb dJ7_fill_53178_12 rfl (lv_at hl 3 rfl) ?_
  refine my_iastS hx hb hK hP hD hS 0 1 rfl rfl z1005 rfl dJ7_fill_53178_13 (fun H locs hP hD hS => ?_)
  refine lv_iinc (v := 129) (lv' := [(2, .int 129), (3, .int 192), (0, .ref (r 32)), (1, .int 0)]) hx hb dJ7_fill_53178_14 hl (k := 0) rfl z1006 (nlt rfl) rfl (fun ls hl => ?_)
  refine lv_goto (tgt := 5) hx hb dJ7_fill_53178_17 z163 ?_
  refine lv_iload_n hx hb dJ7_fill_53178_5 rfl (lv_at hl 0 rfl) ?_
  refine lv_iload_n hx hb dJ7_fill_53178_6 rfl (lv_at hl 1 rfl) ?_
  refine lv_icmp_ge (tgt := 20) hx hb dJ7_fill_53178_7 z162 (fun c1 => absurd c1 (z1007)) (fun _ => ?_)
  refine lv_aload_n hx hb dJ7_fill_53178_10 rfl (lv_at hl 2 rfl) ?_
  refine lv_iload_n hx hb dJ7_fill_53178_11 rfl (lv_at hl 0 rfl) ?_
  refine lv_iload_n hx hb dJ7_fill_53178_12 rfl (lv_at hl 3 rfl) ?_
  refine my_iastS hx hb hK hP hD hS 0 1 rfl rfl z1008 rfl dJ7_fill_53178_13 (fun H locs hP hD hS => ?_)
  refine lv_iinc (v := 130) (lv' := [(2, .int 130), (3, .int 192), (0, .ref (r 32)), (1, .int 0)]) hx hb dJ7_fill_53178_14 hl (k := 0) rfl z1009 (nlt rfl) rfl (fun ls hl => ?_)
  refine lv_goto (tgt := 5) hx hb dJ7_fill_53178_17 z163 ?_
  refine lv_iload_n hx hb dJ7_fill_53178_5 rfl (lv_at hl 0 rfl) ?_
  refine lv_iload_n hx hb dJ7_fill_53178_6 rfl (lv_at hl 1 rfl) ?_
  refine lv_icmp_ge (tgt := 20) hx hb dJ7_fill_53178_7 z162 (fun c1 => absurd c1 (z1010)) (fun _ => ?_)
  refine lv_aload_n hx hb dJ7_fill_53178_10 rfl (lv_at hl 2 rfl) ?_
  refine lv_iload_n hx hb dJ7_fill_53178_11 rfl (lv_at hl 0 rfl) ?_
  refine lv_iload_n hx hb dJ7_fill_53178_12 rfl (lv_at hl 3 rfl) ?_
  refine my_iastS hx hb hK hP hD hS 0 1 rfl rfl z1011 rfl dJ7_fill_53178_13 (fun H locs hP hD hS => ?_)
  refine lv_iinc (v := 131) (lv' := [(2, .int 131), (3, .int 192), (0, .ref (r 32)), (1, .int 0)]) hx hb dJ7_fill_53178_14 hl (k := 0) rfl z1012 (nlt rfl) rfl (fun ls hl => ?_)
  refine lv_goto (tgt := 5) hx hb dJ7_fill_53178_17 z163 ?_
  refine lv_iload_n hx hb dJ7_fill_53178_5 rfl (lv_at hl 0 rfl) ?_
  refine lv_iload_n hx hb dJ7_fill_53178_6 rfl (lv_at hl 1 rfl) ?_
  refine lv_icmp_ge (tgt := 20) hx hb dJ7_fill_53178_7 z162 (fun c1 => absurd c1 (z1013)) (fun _ => ?_)
  refine lv_aload_n hx hb dJ7_fill_53178_10 rfl (lv_at hl 2 rfl) ?_
  refine lv_iload_n hx hb dJ7_fill_53178_11 rfl (lv_at hl 0 rfl) ?_
  refine lv_iload_n hx hb dJ7_fill_53178_12 rfl (lv_at hl 3 rfl) ?_
  refine my_iastS hx hb hK hP hD hS 0 1 rfl rfl z1014 rfl dJ7_fill_53178_13 (fun H locs hP hD hS => ?_)
  refine lv_iinc (v := 132) (lv' := [(2, .int 132), (3, .int 192), (0, .ref (r 32)), (1, .int 0)]) hx hb dJ7_fill_53178_14 hl (k := 0) rfl z1015 (nlt rfl) rfl (fun ls hl => ?_)
  refine lv_goto (tgt := 5) hx hb dJ7_fill_53178_17 z163 ?_
  refine lv_iload_n hx hb dJ7_fill_53178_5 rfl (lv_at hl 0 rfl) ?_
  refine lv_iload_n hx hb dJ7_fill_53178_6 rfl (lv_at hl 1 rfl) ?_
  refine lv_icmp_ge (tgt := 20) hx hb dJ7_fill_53178_7 z162 (fun c1 => absurd c1 (z1016)) (fun _ => ?_)
  refine lv_aload_n hx hb dJ7_fill_53178_10 rfl (lv_at hl 2 rfl) ?_
  refine lv_iload_n hx hb dJ7_fill_53178_11 rfl (lv_at hl 0 rfl) ?_
  refine lv_iload_n hx hb dJ7_fill_53178_12 rfl (lv_at hl 3 rfl) ?_
  refine my_iastS hx hb hK hP hD hS 0 1 rfl rfl z1017 rfl dJ7_fill_53178_13 (fun H locs hP hD hS => ?_)
  refine lv_iinc (v := 133) (lv' := [(2, .int 133), (3, .int 192), (0, .ref (r 32)), (1, .int 0)]) hx hb dJ7_fill_53178_14 hl (k := 0) rfl z1018 (nlt rfl) rfl (fun ls hl => ?_)
  refine lv_goto (tgt := 5) hx hb dJ7_fill_53178_17 z163 ?_
  refine lv_iload_n hx hb dJ7_fill_53178_5 rfl (lv_at hl 0 rfl) ?_
  refine lv_iload_n hx hb dJ7_fill_53178_6 rfl (lv_at hl 1 rfl) ?_
  refine lv_icmp_ge (tgt := 20) hx hb dJ7_fill_53178_7 z162 (fun c1 => absurd c1 (z1019)) (fun _ => ?_)
  refine lv_aload_n hx hb dJ7_fill_53178_10 rfl (lv_at hl 2 rfl) ?_
  refine lv_iload_n hx hb dJ7_fill_53178_11 rfl (lv_at hl 0 rfl) ?_
  refine lv_iload_n hx hb dJ7_fill_53178_12 rfl (lv_at hl 3 rfl) ?_
  refine my_iastS hx hb hK hP hD hS 0 1 rfl rfl z1020 rfl dJ7_fill_53178_13 (fun H locs hP hD hS => ?_)
  refine lv_iinc (v := 134) (lv' := [(2, .int 134), (3, .int 192), (0, .ref (r 32)), (1, .int 0)]) hx hb dJ7_fill_53178_14 hl (k := 0) rfl z1021 (nlt rfl) rfl (fun ls hl => ?_)
  refine lv_goto (tgt := 5) hx hb dJ7_fill_53178_17 z163 ?_
  refine lv_iload_n hx hb dJ7_fill_53178_5 rfl (lv_at hl 0 rfl) ?_
  refine lv_iload_n hx hb dJ7_fill_53178_6 rfl (lv_at hl 1 rfl) ?_
  refine lv_icmp_ge (tgt := 20) hx hb dJ7_fill_53178_7 z162 (fun c1 => absurd c1 (z1022)) (fun _ => ?_)
  refine lv_aload_n hx hb dJ7_fill_53178_10 rfl (lv_at hl 2 rfl) ?_
  refine lv_iload_n hx hb dJ7_fill_53178_11 rfl (lv_at hl 0 rfl) ?_
  refine lv_iload_n hx hb dJ7_fill_53178_12 rfl (lv_at hl 3 rfl) ?_
  refine my_iastS hx hb hK hP hD hS 0 1 rfl rfl z1023 rfl dJ7_fill_53178_13 (fun H locs hP hD hS => ?_)
  refine lv_iinc (v := 135) (lv' := [(2, .int 135), (3, .int 192), (0, .ref (r 32)), (1, .int 0)]) hx hb dJ7_fill_53178_14 hl (k := 0) rfl z1024 (nlt rfl) rfl (fun ls hl => ?_)
  refine lv_goto (tgt := 5) hx hb dJ7_fill_53178_17 z163 ?_
  refine lv_iload_n hx hb dJ7_fill_53178_5 rfl (lv_at hl 0 rfl) ?_
  refine lv_iload_n hx hb dJ7_fill_53178_6 rfl (lv_at hl 1 rfl) ?_
  refine lv_icmp_ge (tgt := 20) hx hb dJ7_fill_53178_7 z162 (fun c1 => absurd c1 (z1025)) (fun _ => ?_)
  refine lv_aload_n hx hb dJ7_fill_53178_10 rfl (lv_at hl 2 rfl) ?_
  refine lv_iload_n hx hb dJ7_fill_53178_11 rfl (lv_at hl 0 rfl) ?_
  refine lv_iload_n hx hb dJ7_fill_53178_12 rfl (lv_at hl 3 rfl) ?_
  refine my_iastS hx hb hK hP hD hS 0 1 rfl rfl z1026 rfl dJ7_fill_53178_13 (fun H locs hP hD hS => ?_)
  refine lv_iinc (v := 136) (lv' := [(2, .int 136), (3, .int 192), (0, .ref (r 32)), (1, .int 0)]) hx hb dJ7_fill_53178_14 hl (k := 0) rfl z1027 (nlt rfl) rfl (fun ls hl => ?_)
  refine lv_goto (tgt := 5) hx hb dJ7_fill_53178_17 z163 ?_
  refine lv_iload_n hx hb dJ7_fill_53178_5 rfl (lv_at hl 0 rfl) ?_
  refine lv_iload_n hx hb dJ7_fill_53178_6 rfl (lv_at hl 1 rfl) ?_
  refine lv_icmp_ge (tgt := 20) hx hb dJ7_fill_53178_7 z162 (fun c1 => absurd c1 (z1028)) (fun _ => ?_)
  refine lv_aload_n hx hb dJ7_fill_53178_10 rfl (lv_at hl 2 rfl) ?_
  refine lv_iload_n hx hb dJ7_fill_53178_11 rfl (lv_at hl 0 rfl) ?_
  refine lv_iload_n hx hb dJ7_fill_53178_12 rfl (lv_at hl 3 rfl) ?_
  refine my_iastS hx hb hK hP hD hS 0 1 rfl rfl z1029 rfl dJ7_fill_53178_13 (fun H locs hP hD hS => ?_)
  refine lv_iinc (v := 137) (lv' := [(2, .int 137), (3, .int 192), (0, .ref (r 32)), (1, .int 0)]) hx hb dJ7_fill_53178_14 hl (k := 0) rfl z1030 (nlt rfl) rfl (fun ls hl => ?_)
  refine lv_goto (tgt := 5) hx hb dJ7_fill_53178_17 z163 ?_
  refine lv_iload_n hx hb dJ7_fill_53178_5 rfl (lv_at hl 0 rfl) ?_
  refine lv_iload_n hx hb dJ7_fill_53178_6 rfl (lv_at hl 1 rfl) ?_
  refine lv_icmp_ge (tgt := 20) hx hb dJ7_fill_53178_7 z162 (fun c1 => absurd c1 (z1031)) (fun _ => ?_)
  refine lv_aload_n hx hb dJ7_fill_53178_10 rfl (lv_at hl 2 rfl) ?_
  refine lv_iload_n hx hb dJ7_fill_53178_11 rfl (lv_at hl 0 rfl) ?_
  refine lv_iload_n hx hb dJ7_fill_53178_12 rfl (lv_at hl 3 rfl) ?_
  refine my_iastS hx hb hK hP hD hS 0 1 rfl rfl z1032 rfl dJ7_fill_53178_13 (fun H locs hP hD hS => ?_)
  refine lv_iinc (v := 138) (lv' := [(2, .int 138), (3, .int 192), (0, .ref (r 32)), (1, .int 0)]) hx hb dJ7_fill_53178_14 hl (k := 0) rfl z1033 (nlt rfl) rfl (fun ls hl => ?_)
  refine lv_goto (tgt := 5) hx hb dJ7_fill_53178_17 z163 ?_
  refine lv_iload_n hx hb dJ7_fill_53178_5 rfl (lv_at hl 0 rfl) ?_
  refine lv_iload_n hx hb dJ7_fill_53178_6 rfl (lv_at hl 1 rfl) ?_
  refine lv_icmp_ge (tgt := 20) hx hb dJ7_fill_53178_7 z162 (fun c1 => absurd c1 (z1034)) (fun _ => ?_)
  refine lv_aload_n hx hb dJ7_fill_53178_10 rfl (lv_at hl 2 rfl) ?_
  refine lv_iload_n hx hb dJ7_fill_53178_11 rfl (lv_at hl 0 rfl) ?_
  refine lv_iload_n hx hb dJ7_fill_53178_12 rfl (lv_at hl 3 rfl) ?_
  refine my_iastS hx hb hK hP hD hS 0 1 rfl rfl z1035 rfl dJ7_fill_53178_13 (fun H locs hP hD hS => ?_)
  refine lv_iinc (v := 139) (lv' := [(2, .int 139), (3, .int 192), (0, .ref (r 32)), (1, .int 0)]) hx hb dJ7_fill_53178_14 hl (k := 0) rfl z1036 (nlt rfl) rfl (fun ls hl => ?_)
  refine lv_goto (tgt := 5) hx hb dJ7_fill_53178_17 z163 ?_
  refine lv_iload_n hx hb dJ7_fill_53178_5 rfl (lv_at hl 0 rfl) ?_
  refine lv_iload_n hx hb dJ7_fill_53178_6 rfl (lv_at hl 1 rfl) ?_
  refine lv_icmp_ge (tgt := 20) hx hb dJ7_fill_53178_7 z162 (fun c1 => absurd c1 (z1037)) (fun _ => ?_)
  refine lv_aload_n hx hb dJ7_fill_53178_10 rfl (lv_at hl 2 rfl) ?_
  refine lv_iload_n hx hb dJ7_fill_53178_11 rfl (lv_at hl 0 rfl) ?_
  refine lv_iload_n hx hb dJ7_fill_53178_12 rfl (lv_at hl 3 rfl) ?_
  refine my_iastS hx hb hK hP hD hS 0 1 rfl rfl z1038 rfl dJ7_fill_53178_13 (fun H locs hP hD hS => ?_)
  refine lv_iinc (v := 140) (lv' := [(2, .int 140), (3, .int 192), (0, .ref (r 32)), (1, .int 0)]) hx hb dJ7_fill_53178_14 hl (k := 0) rfl z1039 (nlt rfl) rfl (fun ls hl => ?_)
  refine lv_goto (tgt := 5) hx hb dJ7_fill_53178_17 z163 ?_
  refine lv_iload_n hx hb dJ7_fill_53178_5 rfl (lv_at hl 0 rfl) ?_
  refine lv_iload_n hx hb dJ7_fill_53178_6 rfl (lv_at hl 1 rfl) ?_
  refine lv_icmp_ge (tgt := 20) hx hb dJ7_fill_53178_7 z162 (fun c1 => absurd c1 (z1040)) (fun _ => ?_)
  refine lv_aload_n hx hb dJ7_fill_53178_10 rfl (lv_at hl 2 rfl) ?_
  refine lv_iload_n hx hb dJ7_fill_53178_11 rfl (lv_at hl 0 rfl) ?_
  refine lv_iload_n hx hb dJ7_fill_53178_12 rfl (lv_at hl 3 rfl) ?_
  refine my_iastS hx hb hK hP hD hS 0 1 rfl rfl z1041 rfl dJ7_fill_53178_13 (fun H locs hP hD hS => ?_)
  refine lv_iinc (v := 141) (lv' := [(2, .int 141), (3, .int 192), (0, .ref (r 32)), (1, .int 0)]) hx hb dJ7_fill_53178_14 hl (k := 0) rfl z1042 (nlt rfl) rfl (fun ls hl => ?_)
  refine lv_goto (tgt := 5) hx hb dJ7_fill_53178_17 z163 ?_
  refine lv_iload_n hx hb dJ7_fill_53178_5 rfl (lv_at hl 0 rfl) ?_
  refine lv_iload_n hx hb dJ7_fill_53178_6 rfl (lv_at hl 1 rfl) ?_
  refine lv_icmp_ge (tgt := 20) hx hb dJ7_fill_53178_7 z162 (fun c1 => absurd c1 (z1043)) (fun _ => ?_)
  refine lv_aload_n hx hb dJ7_fill_53178_10 rfl (lv_at hl 2 rfl) ?_
  refine lv_iload_n hx hb dJ7_fill_53178_11 rfl (lv_at hl 0 rfl) ?_
  refine lv_iload_n hx hb dJ7_fill_53178_12 rfl (lv_at hl 3 rfl) ?_
  refine my_iastS hx hb hK hP hD hS 0 1 rfl rfl z1044 rfl dJ7_fill_53178_13 (fun H locs hP hD hS => ?_)
  refine lv_iinc (v := 142) (lv' := [(2, .int 142), (3, .int 192), (0, .ref (r 32)), (1, .int 0)]) hx hb dJ7_fill_53178_14 hl (k := 0) rfl z1045 (nlt rfl) rfl (fun ls hl => ?_)
  refine lv_goto (tgt := 5) hx hb dJ7_fill_53178_17 z163 ?_
  refine lv_iload_n hx hb dJ7_fill_53178_5 rfl (lv_at hl 0 rfl) ?_
  refine lv_iload_n hx hb dJ7_fill_53178_6 rfl (lv_at hl 1 rfl) ?_
  refine lv_icmp_ge (tgt := 20) hx hb dJ7_fill_53178_7 z162 (fun c1 => absurd c1 (z1046)) (fun _ => ?_)
  refine lv_aload_n hx hb dJ7_fill_53178_10 rfl (lv_at hl 2 rfl) ?_
  refine lv_iload_n hx hb dJ7_fill_53178_11 rfl (lv_at hl 0 rfl) ?_
  refine lv_iload_n hx hb dJ7_fill_53178_12 rfl (lv_at hl 3 rfl) ?_
  refine my_iastS hx hb hK hP hD hS 0 1 rfl rfl z1047 rfl dJ7_fill_53178_13 (fun H locs hP hD hS => ?_)
  refine lv_iinc (v := 143) (lv' := [(2, .int 143), (3, .int 192), (0, .ref (r 32)), (1, .int 0)]) hx hb dJ7_fill_53178_14 hl (k := 0) rfl z1048 (nlt rfl) rfl (fun ls hl => ?_)
  refine lv_goto (tgt := 5) hx hb dJ7_fill_53178_17 z163 ?_
  refine lv_iload_n hx hb dJ7_fill_53178_5 rfl (lv_at hl 0 rfl) ?_
  refine lv_iload_n hx hb dJ7_fill_53178_6 rfl (lv_at hl 1 rfl) ?_
  refine lv_icmp_ge (tgt := 20) hx hb dJ7_fill_53178_7 z162 (fun c1 => absurd c1 (z1049)) (fun _ => ?_)
  refine lv_aload_n hx hb dJ7_fill_53178_10 rfl (lv_at hl 2 rfl) ?_
  refine lv_iload_n hx hb dJ7_fill_53178_11 rfl (lv_at hl 0 rfl) ?_
  refine lv_iload_n hx hb dJ7_fill_53178_12 rfl (lv_at hl 3 rfl) ?_
  refine my_iastS hx hb hK hP hD hS 0 1 rfl rfl z1050 rfl dJ7_fill_53178_13 (fun H locs hP hD hS => ?_)
  refine lv_iinc (v := 144) (lv' := [(2, .int 144), (3, .int 192), (0, .ref (r 32)), (1, .int 0)]) hx hb dJ7_fill_53178_14 hl (k := 0) rfl z1051 (nlt rfl) rfl (fun ls hl => ?_)
  refine lv_goto (tgt := 5) hx hb dJ7_fill_53178_17 z163 ?_
  refine lv_iload_n hx hb dJ7_fill_53178_5 rfl (lv_at hl 0 rfl) ?_
  refine lv_iload_n hx hb dJ7_fill_53178_6 rfl (lv_at hl 1 rfl) ?_
  refine lv_icmp_ge (tgt := 20) hx hb dJ7_fill_53178_7 z162 (fun c1 => absurd c1 (z1052)) (fun _ => ?_)
  refine lv_aload_n hx hb dJ7_fill_53178_10 rfl (lv_at hl 2 rfl) ?_
  refine lv_iload_n hx hb dJ7_fill_53178_11 rfl (lv_at hl 0 rfl) ?_
  refine lv_iload_n hx hb dJ7_fill_53178_12 rfl (lv_at hl 3 rfl) ?_
  refine my_iastS hx hb hK hP hD hS 0 1 rfl rfl z1053 rfl dJ7_fill_53178_13 (fun H locs hP hD hS => ?_)
  refine lv_iinc (v := 145) (lv' := [(2, .int 145), (3, .int 192), (0, .ref (r 32)), (1, .int 0)]) hx hb dJ7_fill_53178_14 hl (k := 0) rfl z1054 (nlt rfl) rfl (fun ls hl => ?_)
  refine lv_goto (tgt := 5) hx hb dJ7_fill_53178_17 z163 ?_
  refine lv_iload_n hx hb dJ7_fill_53178_5 rfl (lv_at hl 0 rfl) ?_
  refine lv_iload_n hx hb dJ7_fill_53178_6 rfl (lv_at hl 1 rfl) ?_
  refine lv_icmp_ge (tgt := 20) hx hb dJ7_fill_53178_7 z162 (fun c1 => absurd c1 (z1055)) (fun _ => ?_)
  refine lv_aload_n hx hb dJ7_fill_53178_10 rfl (lv_at hl 2 rfl) ?_
  refine lv_iload_n hx hb dJ7_fill_53178_11 rfl (lv_at hl 0 rfl) ?_
  refine lv_iload_n hx hb dJ7_fill_53178_12 rfl (lv_at hl 3 rfl) ?_
  refine my_iastS hx hb hK hP hD hS 0 1 rfl rfl z1056 rfl dJ7_fill_53178_13 (fun H locs hP hD hS => ?_)
  refine lv_iinc (v := 146) (lv' := [(2, .int 146), (3, .int 192), (0, .ref (r 32)), (1, .int 0)]) hx hb dJ7_fill_53178_14 hl (k := 0) rfl z1057 (nlt rfl) rfl (fun ls hl => ?_)
  refine lv_goto (tgt := 5) hx hb dJ7_fill_53178_17 z163 ?_
  refine lv_iload_n hx hb dJ7_fill_53178_5 rfl (lv_at hl 0 rfl) ?_
  refine lv_iload_n hx hb dJ7_fill_53178_6 rfl (lv_at hl 1 rfl) ?_
  refine lv_icmp_ge (tgt := 20) hx hb dJ7_fill_53178_7 z162 (fun c1 => absurd c1 (z1058)) (fun _ => ?_)
  refine lv_aload_n hx hb dJ7_fill_53178_10 rfl (lv_at hl 2 rfl) ?_
  refine lv_iload_n hx hb dJ7_fill_53178_11 rfl (lv_at hl 0 rfl) ?_
  refine lv_iload_n hx hb dJ7_fill_53178_12 rfl (lv_at hl 3 rfl) ?_
  refine my_iastS hx hb hK hP hD hS 0 1 rfl rfl z1059 rfl dJ7_fill_53178_13 (fun H locs hP hD hS => ?_)
  refine lv_iinc (v := 147) (lv' := [(2, .int 147), (3, .int 192), (0, .ref (r 32)), (1, .int 0)]) hx hb dJ7_fill_53178_14 hl (k := 0) rfl z1060 (nlt rfl) rfl (fun ls hl => ?_)
  refine lv_goto (tgt := 5) hx hb dJ7_fill_53178_17 z163 ?_
  refine lv_iload_n hx hb dJ7_fill_53178_5 rfl (lv_at hl 0 rfl) ?_
  refine lv_iload_n hx hb dJ7_fill_53178_6 rfl (lv_at hl 1 rfl) ?_
  refine lv_icmp_ge (tgt := 20) hx hb dJ7_fill_53178_7 z162 (fun c1 => absurd c1 (z1061)) (fun _ => ?_)
  refine lv_aload_n hx hb dJ7_fill_53178_10 rfl (lv_at hl 2 rfl) ?_
  refine lv_iload_n hx hb dJ7_fill_53178_11 rfl (lv_at hl 0 rfl) ?_
  refine lv_iload_n hx hb dJ7_fill_53178_12 rfl (lv_at hl 3 rfl) ?_
  refine my_iastS hx hb hK hP hD hS 0 1 rfl rfl z1062 rfl dJ7_fill_53178_13 (fun H locs hP hD hS => ?_)
  refine lv_iinc (v := 148) (lv' := [(2, .int 148), (3, .int 192), (0, .ref (r 32)), (1, .int 0)]) hx hb dJ7_fill_53178_14 hl (k := 0) rfl z1063 (nlt rfl) rfl (fun ls hl => ?_)
  refine lv_goto (tgt := 5) hx hb dJ7_fill_53178_17 z163 ?_
  refine lv_iload_n hx hb dJ7_fill_53178_5 rfl (lv_at hl 0 rfl) ?_
  refine lv_iload_n hx hb dJ7_fill_53178_6 rfl (lv_at hl 1 rfl) ?_
  refine lv_icmp_ge (tgt := 20) hx hb dJ7_fill_53178_7 z162 (fun c1 => absurd c1 (z1064)) (fun _ => ?_)
  refine lv_aload_n hx hb dJ7_fill_53178_10 rfl (lv_at hl 2 rfl) ?_
  refine lv_iload_n hx hb dJ7_fill_53178_11 rfl (lv_at hl 0 rfl) ?_
  refine lv_iload_n hx hb dJ7_fill_53178_12 rfl (lv_at hl 3 rfl) ?_
  refine my_iastS hx hb hK hP hD hS 0 1 rfl rfl z1065 rfl dJ7_fill_53178_13 (fun H locs hP hD hS => ?_)
  refine lv_iinc (v := 149) (lv' := [(2, .int 149), (3, .int 192), (0, .ref (r 32)), (1, .int 0)]) hx hb dJ7_fill_53178_14 hl (k := 0) rfl z1066 (nlt rfl) rfl (fun ls hl => ?_)
  refine lv_goto (tgt := 5) hx hb dJ7_fill_53178_17 z163 ?_
  refine lv_iload_n hx hb dJ7_fill_53178_5 rfl (lv_at hl 0 rfl) ?_
  refine lv_iload_n hx hb dJ7_fill_53178_6 rfl (lv_at hl 1 rfl) ?_
  refine lv_icmp_ge (tgt := 20) hx hb dJ7_fill_53178_7 z162 (fun c1 => absurd c1 (z1067)) (fun _ => ?_)
  refine lv_aload_n hx hb dJ7_fill_53178_10 rfl (lv_at hl 2 rfl) ?_
  refine lv_iload_n hx hb dJ7_fill_53178_11 rfl (lv_at hl 0 rfl) ?_
  refine lv_iload_n hx hb dJ7_fill_53178_12 rfl (lv_at hl 3 rfl) ?_
  refine my_iastS hx hb hK hP hD hS 0 1 rfl rfl z1068 rfl dJ7_fill_53178_13 (fun H locs hP hD hS => ?_)
  refine lv_iinc (v := 150) (lv' := [(2, .int 150), (3, .int 192), (0, .ref (r 32)), (1, .int 0)]) hx hb dJ7_fill_53178_14 hl (k := 0) rfl z1069 (nlt rfl) rfl (fun ls hl => ?_)
  refine lv_goto (tgt := 5) hx hb dJ7_fill_53178_17 z163 ?_
  refine lv_iload_n hx hb dJ7_fill_53178_5 rfl (lv_at hl 0 rfl) ?_
  refine lv_iload_n hx hb dJ7_fill_53178_6 rfl (lv_at hl 1 rfl) ?_
  refine lv_icmp_ge (tgt := 20) hx hb dJ7_fill_53178_7 z162 (fun c1 => absurd c1 (z1070)) (fun _ => ?_)
  refine lv_aload_n hx hb dJ7_fill_53178_10 rfl (lv_at hl 2 rfl) ?_
  refine lv_iload_n hx hb dJ7_fill_53178_11 rfl (lv_at hl 0 rfl) ?_
  refine lv_iload_n hx hb dJ7_fill_53178_12 rfl (lv_at hl 3 rfl) ?_
  refine my_iastS hx hb hK hP hD hS 0 1 rfl rfl z1071 rfl dJ7_fill_53178_13 (fun H locs hP hD hS => ?_)
  refine lv_iinc (v := 151) (lv' := [(2, .int 151), (3, .int 192), (0, .ref (r 32)), (1, .int 0)]) hx hb dJ7_fill_53178_14 hl (k := 0) rfl z1072 (nlt rfl) rfl (fun ls hl => ?_)
  refine lv_goto (tgt := 5) hx hb dJ7_fill_53178_17 z163 ?_
  refine lv_iload_n hx hb dJ7_fill_53178_5 rfl (lv_at hl 0 rfl) ?_
  refine lv_iload_n hx hb dJ7_fill_53178_6 rfl (lv_at hl 1 rfl) ?_
  refine lv_icmp_ge (tgt := 20) hx hb dJ7_fill_53178_7 z162 (fun c1 => absurd c1 (z1073)) (fun _ => ?_)
  refine lv_aload_n hx hb dJ7_fill_53178_10 rfl (lv_at hl 2 rfl) ?_
  refine lv_iload_n hx hb dJ7_fill_53178_11 rfl (lv_at hl 0 rfl) ?_
  refine lv_iload_n hx hb dJ7_fill_53178_12 rfl (lv_at hl 3 rfl) ?_
  refine my_iastS hx hb hK hP hD hS 0 1 rfl rfl z1074 rfl dJ7_fill_53178_13 (fun H locs hP hD hS => ?_)
  refine lv_iinc (v := 152) (lv' := [(2, .int 152), (3, .int 192), (0, .ref (r 32)), (1, .int 0)]) hx hb dJ7_fill_53178_14 hl (k := 0) rfl z1075 (nlt rfl) rfl (fun ls hl => ?_)
  refine lv_goto (tgt := 5) hx hb dJ7_fill_53178_17 z163 ?_
  refine lv_iload_n hx hb dJ7_fill_53178_5 rfl (lv_at hl 0 rfl) ?_
  refine lv_iload_n hx hb dJ7_fill_53178_6 rfl (lv_at hl 1 rfl) ?_
  refine lv_icmp_ge (tgt := 20) hx hb dJ7_fill_53178_7 z162 (fun c1 => absurd c1 (z1076)) (fun _ => ?_)
  refine lv_aload_n hx hb dJ7_fill_53178_10 rfl (lv_at hl 2 rfl) ?_
  refine lv_iload_n hx hb dJ7_fill_53178_11 rfl (lv_at hl 0 rfl) ?_
  refine lv_iload_n hx hb dJ7_fill_53178_12 rfl (lv_at hl 3 rfl) ?_
  refine my_iastS hx hb hK hP hD hS 0 1 rfl rfl z1077 rfl dJ7_fill_53178_13 (fun H locs hP hD hS => ?_)
  refine lv_iinc (v := 153) (lv' := [(2, .int 153), (3, .int 192), (0, .ref (r 32)), (1, .int 0)]) hx hb dJ7_fill_53178_14 hl (k := 0) rfl z1078 (nlt rfl) rfl (fun ls hl => ?_)
  refine lv_goto (tgt := 5) hx hb dJ7_fill_53178_17 z163 ?_
  refine lv_iload_n hx hb dJ7_fill_53178_5 rfl (lv_at hl 0 rfl) ?_
  refine lv_iload_n hx hb dJ7_fill_53178_6 rfl (lv_at hl 1 rfl) ?_
  refine lv_icmp_ge (tgt := 20) hx hb dJ7_fill_53178_7 z162 (fun c1 => absurd c1 (z1079)) (fun _ => ?_)
  refine lv_aload_n hx hb dJ7_fill_53178_10 rfl (lv_at hl 2 rfl) ?_
  refine lv_iload_n hx hb dJ7_fill_53178_11 rfl (lv_at hl 0 rfl) ?_
  refine lv_iload_n hx hb dJ7_fill_53178_12 rfl (lv_at hl 3 rfl) ?_
  refine my_iastS hx hb hK hP hD hS 0 1 rfl rfl z1080 rfl dJ7_fill_53178_13 (fun H locs hP hD hS => ?_)
  refine lv_iinc (v := 154) (lv' := [(2, .int 154), (3, .int 192), (0, .ref (r 32)), (1, .int 0)]) hx hb dJ7_fill_53178_14 hl (k := 0) rfl z1081 (nlt rfl) rfl (fun ls hl => ?_)
  refine lv_goto (tgt := 5) hx hb dJ7_fill_53178_17 z163 ?_
  refine lv_iload_n hx hb dJ7_fill_53178_5 rfl (lv_at hl 0 rfl) ?_
  refine lv_iload_n hx hb dJ7_fill_53178_6 rfl (lv_at hl 1 rfl) ?_
  refine lv_icmp_ge (tgt := 20) hx hb dJ7_fill_53178_7 z162 (fun c1 => absurd c1 (z1082)) (fun _ => ?_)
  refine lv_aload_n hx hb dJ7_fill_53178_10 rfl (lv_at hl 2 rfl) ?_
  refine lv_iload_n hx hb dJ7_fill_53178_11 rfl (lv_at hl 0 rfl) ?_
  refine lv_iload_n hx hb dJ7_fill_53178_12 rfl (lv_at hl 3 rfl) ?_
  refine my_iastS hx hb hK hP hD hS 0 1 rfl rfl z1083 rfl dJ7_fill_53178_13 (fun H locs hP hD hS => ?_)
  refine lv_iinc (v := 155) (lv' := [(2, .int 155), (3, .int 192), (0, .ref (r 32)), (1, .int 0)]) hx hb dJ7_fill_53178_14 hl (k := 0) rfl z1084 (nlt rfl) rfl (fun ls hl => ?_)
  refine lv_goto (tgt := 5) hx hb dJ7_fill_53178_17 z163 ?_
  refine lv_iload_n hx hb dJ7_fill_53178_5 rfl (lv_at hl 0 rfl) ?_
  refine lv_iload_n hx hb dJ7_fill_53178_6 rfl (lv_at hl 1 rfl) ?_
  refine lv_icmp_ge (tgt := 20) hx hb dJ7_fill_53178_7 z162 (fun c1 => absurd c1 (z1085)) (fun _ => ?_)
  refine lv_aload_n hx hb dJ7_fill_53178_10 rfl (lv_at hl 2 rfl) ?_
  refine lv_iload_n hx hb dJ7_fill_53178_11 rfl (lv_at hl 0 rfl) ?_
  refine lv_iload_n hx hb dJ7_fill_53178_12 rfl (lv_at hl 3 rfl) ?_
  refine my_iastS hx hb hK hP hD hS 0 1 rfl rfl z1086 rfl dJ7_fill_53178_13 (fun H locs hP hD hS => ?_)
  refine lv_iinc (v := 156) (lv' := [(2, .int 156), (3, .int 192), (0, .ref (r 32)), (1, .int 0)]) hx hb dJ7_fill_53178_14 hl (k := 0) rfl z1087 (nlt rfl) rfl (fun ls hl => ?_)
  refine lv_goto (tgt := 5) hx hb dJ7_fill_53178_17 z163 ?_
  refine lv_iload_n hx hb dJ7_fill_53178_5 rfl (lv_at hl 0 rfl) ?_
  refine lv_iload_n hx hb dJ7_fill_53178_6 rfl (lv_at hl 1 rfl) ?_
  refine lv_icmp_ge (tgt := 20) hx hb dJ7_fill_53178_7 z162 (fun c1 => absurd c1 (z1088)) (fun _ => ?_)
  refine lv_aload_n hx hb dJ7_fill_53178_10 rfl (lv_at hl 2 rfl) ?_
  refine lv_iload_n hx hb dJ7_fill_53178_11 rfl (lv_at hl 0 rfl) ?_
  refine lv_iload_n hx hb dJ7_fill_53178_12 rfl (lv_at hl 3 rfl) ?_
  refine my_iastS hx hb hK hP hD hS 0 1 rfl rfl z1089 rfl dJ7_fill_53178_13 (fun H locs hP hD hS => ?_)
  refine lv_iinc (v := 157) (lv' := [(2, .int 157), (3, .int 192), (0, .ref (r 32)), (1, .int 0)]) hx hb dJ7_fill_53178_14 hl (k := 0) rfl z1090 (nlt rfl) rfl (fun ls hl => ?_)
  refine lv_goto (tgt := 5) hx hb dJ7_fill_53178_17 z163 ?_
  refine lv_iload_n hx hb dJ7_fill_53178_5 rfl (lv_at hl 0 rfl) ?_
  refine lv_iload_n hx hb dJ7_fill_53178_6 rfl (lv_at hl 1 rfl) ?_
  refine lv_icmp_ge (tgt := 20) hx hb dJ7_fill_53178_7 z162 (fun c1 => absurd c1 (z1091)) (fun _ => ?_)
  refine lv_aload_n hx hb dJ7_fill_53178_10 rfl (lv_at hl 2 rfl) ?_
  refine lv_iload_n hx hb dJ7_fill_53178_11 rfl (lv_at hl 0 rfl) ?_
  refine lv_iload_n hx hb dJ7_fill_53178_12 rfl (lv_at hl 3 rfl) ?_
  refine my_iastS hx hb hK hP hD hS 0 1 rfl rfl z1092 rfl dJ7_fill_53178_13 (fun H locs hP hD hS => ?_)
  refine lv_iinc (v := 158) (lv' := [(2, .int 158), (3, .int 192), (0, .ref (r 32)), (1, .int 0)]) hx hb dJ7_fill_53178_14 hl (k := 0) rfl z1093 (nlt rfl) rfl (fun ls hl => ?_)
  refine lv_goto (tgt := 5) hx hb dJ7_fill_53178_17 z163 ?_
  refine lv_iload_n hx hb dJ7_fill_53178_5 rfl (lv_at hl 0 rfl) ?_
  refine lv_iload_n hx hb dJ7_fill_53178_6 rfl (lv_at hl 1 rfl) ?_
  refine lv_icmp_ge (tgt := 20) hx hb dJ7_fill_53178_7 z162 (fun c1 => absurd c1 (z1094)) (fun _ => ?_)
  refine lv_aload_n hx hb dJ7_fill_53178_10 rfl (lv_at hl 2 rfl) ?_
  refine lv_iload_n hx hb dJ7_fill_53178_11 rfl (lv_at hl 0 rfl) ?_
  refine lv_iload_n hx hb dJ7_fill_53178_12 rfl (lv_at hl 3 rfl) ?_
  refine my_iastS hx hb hK hP hD hS 0 1 rfl rfl z1095 rfl dJ7_fill_53178_13 (fun H locs hP hD hS => ?_)
  refine lv_iinc (v := 159) (lv' := [(2, .int 159), (3, .int 192), (0, .ref (r 32)), (1, .int 0)]) hx hb dJ7_fill_53178_14 hl (k := 0) rfl z1096 (nlt rfl) rfl (fun ls hl => ?_)
  refine lv_goto (tgt := 5) hx hb dJ7_fill_53178_17 z163 ?_
  refine lv_iload_n hx hb dJ7_fill_53178_5 rfl (lv_at hl 0 rfl) ?_
  refine lv_iload_n hx hb dJ7_fill_53178_6 rfl (lv_at hl 1 rfl) ?_
  refine lv_icmp_ge (tgt := 20) hx hb dJ7_fill_53178_7 z162 (fun c1 => absurd c1 (z1097)) (fun _ => ?_)
  refine lv_aload_n hx hb dJ7_fill_53178_10 rfl (lv_at hl 2 rfl) ?_
  refine lv_iload_n hx hb dJ7_fill_53178_11 rfl (lv_at hl 0 rfl) ?_
  refine lv_iload_n hx hb dJ7_fill_53178_12 rfl (lv_at hl 3 rfl) ?_
  refine my_iastS hx hb hK hP hD hS 0 1 rfl rfl z1098 rfl dJ7_fill_53178_13 (fun H locs hP hD hS => ?_)
  refine lv_iinc (v := 160) (lv' := [(2, .int 160), (3, .int 192), (0, .ref (r 32)), (1, .int 0)]) hx hb dJ7_fill_53178_14 hl (k := 0) rfl z1099 (nlt rfl) rfl (fun ls hl => ?_)
  refine lv_goto (tgt := 5) hx hb dJ7_fill_53178_17 z163 ?_
  refine lv_iload_n hx hb dJ7_fill_53178_5 rfl (lv_at hl 0 rfl) ?_
  refine lv_iload_n hx hb dJ7_fill_53178_6 rfl (lv_at hl 1 rfl) ?_
  refine lv_icmp_ge (tgt := 20) hx hb dJ7_fill_53178_7 z162 (fun c1 => absurd c1 (z1100)) (fun _ => ?_)
  refine lv_aload_n hx hb dJ7_fill_53178_10 rfl (lv_at hl 2 rfl) ?_
  refine lv_iload_n hx hb dJ7_fill_53178_11 rfl (lv_at hl 0 rfl) ?_
  refine lv_iload_n hx hb dJ7_fill_53178_12 rfl (lv_at hl 3 rfl) ?_
  refine my_iastS hx hb hK hP hD hS 0 1 rfl rfl z1101 rfl dJ7_fill_53178_13 (fun H locs hP hD hS => ?_)
  refine lv_iinc (v := 161) (lv' := [(2, .int 161), (3, .int 192), (0, .ref (r 32)), (1, .int 0)]) hx hb dJ7_fill_53178_14 hl (k := 0) rfl z1102 (nlt rfl) rfl (fun ls hl => ?_)
  refine lv_goto (tgt := 5) hx hb dJ7_fill_53178_17 z163 ?_
  refine lv_iload_n hx hb dJ7_fill_53178_5 rfl (lv_at hl 0 rfl) ?_
  refine lv_iload_n hx hb dJ7_fill_53178_6 rfl (lv_at hl 1 rfl) ?_
  refine lv_icmp_ge (tgt := 20) hx hb dJ7_fill_53178_7 z162 (fun c1 => absurd c1 (z1103)) (fun _ => ?_)
  refine lv_aload_n hx hb dJ7_fill_53178_10 rfl (lv_at hl 2 rfl) ?_
  refine lv_iload_n hx hb dJ7_fill_53178_11 rfl (lv_at hl 0 rfl) ?_
  refine lv_iload_n hx hb dJ7_fill_53178_12 rfl (lv_at hl 3 rfl) ?_
  refine my_iastS hx hb hK hP hD hS 0 1 rfl rfl z1104 rfl dJ7_fill_53178_13 (fun H locs hP hD hS => ?_)
  refine lv_iinc (v := 162) (lv' := [(2, .int 162), (3, .int 192), (0, .ref (r 32)), (1, .int 0)]) hx hb dJ7_fill_53178_14 hl (k := 0) rfl z1105 (nlt rfl) rfl (fun ls hl => ?_)
  refine lv_goto (tgt := 5) hx hb dJ7_fill_53178_17 z163 ?_
  refine lv_iload_n hx hb dJ7_fill_53178_5 rfl (lv_at hl 0 rfl) ?_
  refine lv_iload_n hx hb dJ7_fill_53178_6 rfl (lv_at hl 1 rfl) ?_
  refine lv_icmp_ge (tgt := 20) hx hb dJ7_fill_53178_7 z162 (fun c1 => absurd c1 (z1106)) (fun _ => ?_)
  refine lv_aload_n hx hb dJ7_fill_53178_10 rfl (lv_at hl 2 rfl) ?_
  refine lv_iload_n hx hb dJ7_fill_53178_11 rfl (lv_at hl 0 rfl) ?_
  refine lv_iload_n hx hb dJ7_fill_53178_12 rfl (lv_at hl 3 rfl) ?_
  refine my_iastS hx hb hK hP hD hS 0 1 rfl rfl z1107 rfl dJ7_fill_53178_13 (fun H locs hP hD hS => ?_)
  refine lv_iinc (v := 163) (lv' := [(2, .int 163), (3, .int 192), (0, .ref (r 32)), (1, .int 0)]) hx hb dJ7_fill_53178_14 hl (k := 0) rfl z1108 (nlt rfl) rfl (fun ls hl => ?_)
  refine lv_goto (tgt := 5) hx hb dJ7_fill_53178_17 z163 ?_
  refine lv_iload_n hx hb dJ7_fill_53178_5 rfl (lv_at hl 0 rfl) ?_
  refine lv_iload_n hx hb dJ7_fill_53178_6 rfl (lv_at hl 1 rfl) ?_
  refine lv_icmp_ge (tgt := 20) hx hb dJ7_fill_53178_7 z162 (fun c1 => absurd c1 (z1109)) (fun _ => ?_)
  refine lv_aload_n hx hb dJ7_fill_53178_10 rfl (lv_at hl 2 rfl) ?_
  refine lv_iload_n hx hb dJ7_fill_53178_11 rfl (lv_at hl 0 rfl) ?_
  refine lv_iload_n hx hb dJ7_fill_53178_12 rfl (lv_at hl 3 rfl) ?_
  refine my_iastS hx hb hK hP hD hS 0 1 rfl rfl z1110 rfl dJ7_fill_53178_13 (fun H locs hP hD hS => ?_)
  refine lv_iinc (v := 164) (lv' := [(2, .int 164), (3, .int 192), (0, .ref (r 32)), (1, .int 0)]) hx hb dJ7_fill_53178_14 hl (k := 0) rfl z1111 (nlt rfl) rfl (fun ls hl => ?_)
  refine lv_goto (tgt := 5) hx hb dJ7_fill_53178_17 z163 ?_
  refine lv_iload_n hx hb dJ7_fill_53178_5 rfl (lv_at hl 0 rfl) ?_
  refine lv_iload_n hx hb dJ7_fill_53178_6 rfl (lv_at hl 1 rfl) ?_
  refine lv_icmp_ge (tgt := 20) hx hb dJ7_fill_53178_7 z162 (fun c1 => absurd c1 (z1112)) (fun _ => ?_)
  refine lv_aload_n hx hb dJ7_fill_53178_10 rfl (lv_at hl 2 rfl) ?_
  refine lv_iload_n hx hb dJ7_fill_53178_11 rfl (lv_at hl 0 rfl) ?_
  refine lv_iload_n hx hb dJ7_fill_53178_12 rfl (lv_at hl 3 rfl) ?_
  refine my_iastS hx hb hK hP hD hS 0 1 rfl rfl z1113 rfl dJ7_fill_53178_13 (fun H locs hP hD hS => ?_)
  refine lv_iinc (v := 165) (lv' := [(2, .int 165), (3, .int 192), (0, .ref (r 32)), (1, .int 0)]) hx hb dJ7_fill_53178_14 hl (k := 0) rfl z1114 (nlt rfl) rfl (fun ls hl => ?_)
  refine lv_goto (tgt := 5) hx hb dJ7_fill_53178_17 z163 ?_
  refine lv_iload_n hx hb dJ7_fill_53178_5 rfl (lv_at hl 0 rfl) ?_
  refine lv_iload_n hx hb dJ7_fill_53178_6 rfl (lv_at hl 1 rfl) ?_
  refine lv_icmp_ge (tgt := 20) hx hb dJ7_fill_53178_7 z162 (fun c1 => absurd c1 (z1115)) (fun _ => ?_)
  refine lv_aload_n hx hb dJ7_fill_53178_10 rfl (lv_at hl 2 rfl) ?_
  refine lv_iload_n hx hb dJ7_fill_53178_11 rfl (lv_at hl 0 rfl) ?_
  refine lv_iload_n hx hb dJ7_fill_53178_12 rfl (lv_at hl 3 rfl) ?_
  refine my_iastS hx hb hK hP hD hS 0 1 rfl rfl z1116 rfl dJ7_fill_53178_13 (fun H locs hP hD hS => ?_)
  refine lv_iinc (v := 166) (lv' := [(2, .int 166), (3, .int 192), (0, .ref (r 32)), (1, .int 0)]) hx hb dJ7_fill_53178_14 hl (k := 0) rfl z1117 (nlt rfl) rfl (fun ls hl => ?_)
  refine lv_goto (tgt := 5) hx hb dJ7_fill_53178_17 z163 ?_
  refine lv_iload_n hx hb dJ7_fill_53178_5 rfl (lv_at hl 0 rfl) ?_
  refine lv_iload_n hx hb dJ7_fill_53178_6 rfl (lv_at hl 1 rfl) ?_
  refine lv_icmp_ge (tgt := 20) hx hb dJ7_fill_53178_7 z162 (fun c1 => absurd c1 (z1118)) (fun _ => ?_)
  refine lv_aload_n hx hb dJ7_fill_53178_10 rfl (lv_at hl 2 rfl) ?_
  refine lv_iload_n hx hb dJ7_fill_53178_11 rfl (lv_at hl 0 rfl) ?_
  refine lv_iload_n hx hb dJ7_fill_53178_12 rfl (lv_at hl 3 rfl) ?_
  refine my_iastS hx hb hK hP hD hS 0 1 rfl rfl z1119 rfl dJ7_fill_53178_13 (fun H locs hP hD hS => ?_)
  refine lv_iinc (v := 167) (lv' := [(2, .int 167), (3, .int 192), (0, .ref (r 32)), (1, .int 0)]) hx hb dJ7_fill_53178_14 hl (k := 0) rfl z1120 (nlt rfl) rfl (fun ls hl => ?_)
  refine lv_goto (tgt := 5) hx hb dJ7_fill_53178_17 z163 ?_
  refine lv_iload_n hx hb dJ7_fill_53178_5 rfl (lv_at hl 0 rfl) ?_
  refine lv_iload_n hx hb dJ7_fill_53178_6 rfl (lv_at hl 1 rfl) ?_
  refine lv_icmp_ge (tgt := 20) hx hb dJ7_fill_53178_7 z162 (fun c1 => absurd c1 (z1121)) (fun _ => ?_)
  refine lv_aload_n hx hb dJ7_fill_53178_10 rfl (lv_at hl 2 rfl) ?_
  refine lv_iload_n hx hb dJ7_fill_53178_11 rfl (lv_at hl 0 rfl) ?_
  refine lv_iload_n hx hb dJ7_fill_53178_12 rfl (lv_at hl 3 rfl) ?_
  refine my_iastS hx hb hK hP hD hS 0 1 rfl rfl z1122 rfl dJ7_fill_53178_13 (fun H locs hP hD hS => ?_)
  refine lv_iinc (v := 168) (lv' := [(2, .int 168), (3, .int 192), (0, .ref (r 32)), (1, .int 0)]) hx hb dJ7_fill_53178_14 hl (k := 0) rfl z1123 (nlt rfl) rfl (fun ls hl => ?_)
  refine lv_goto (tgt := 5) hx hb dJ7_fill_53178_17 z163 ?_
  refine lv_iload_n hx hb dJ7_fill_53178_5 rfl (lv_at hl 0 rfl) ?_
  refine lv_iload_n hx hb dJ7_fill_53178_6 rfl (lv_at hl 1 rfl) ?_
  refine lv_icmp_ge (tgt := 20) hx hb dJ7_fill_53178_7 z162 (fun c1 => absurd c1 (z1124)) (fun _ => ?_)
  refine lv_aload_n hx hb dJ7_fill_53178_10 rfl (lv_at hl 2 rfl) ?_
  refine lv_iload_n hx hb dJ7_fill_53178_11 rfl (lv_at hl 0 rfl) ?_
  refine lv_iload_n hx hb dJ7_fill_53178_12 rfl (lv_at hl 3 rfl) ?_
  refine my_iastS hx hb hK hP hD hS 0 1 rfl rfl z1125 rfl dJ7_fill_53178_13 (fun H locs hP hD hS => ?_)
  refine lv_iinc (v := 169) (lv' := [(2, .int 169), (3, .int 192), (0, .ref (r 32)), (1, .int 0)]) hx hb dJ7_fill_53178_14 hl (k := 0) rfl z1126 (nlt rfl) rfl (fun ls hl => ?_)
  refine lv_goto (tgt := 5) hx hb dJ7_fill_53178_17 z163 ?_
  refine lv_iload_n hx hb dJ7_fill_53178_5 rfl (lv_at hl 0 rfl) ?_
  refine lv_iload_n hx hb dJ7_fill_53178_6 rfl (lv_at hl 1 rfl) ?_
  refine lv_icmp_ge (tgt := 20) hx hb dJ7_fill_53178_7 z162 (fun c1 => absurd c1 (z1127)) (fun _ => ?_)
  refine lv_aload_n hx hb dJ7_fill_53178_10 rfl (lv_at hl 2 rfl) ?_
  refine lv_iload_n hx hb dJ7_fill_53178_11 rfl (lv_at hl 0 rfl) ?_
  refine lv_iload_n hx hb dJ7_fill_53178_12 rfl (lv_at hl 3 rfl) ?_
  refine my_iastS hx hb hK hP hD hS 0 1 rfl rfl z1128 rfl dJ7_fill_53178_13 (fun H locs hP hD hS => ?_)
  refine lv_iinc (v := 170) (lv' := [(2, .int 170), (3, .int 192), (0, .ref (r 32)), (1, .int 0)]) hx hb dJ7_fill_53178_14 hl (k := 0) rfl z1129 (nlt rfl) rfl (fun ls hl => ?_)
  refine lv_goto (tgt := 5) hx hb dJ7_fill_53178_17 z163 ?_
  refine lv_iload_n hx hb dJ7_fill_53178_5 rfl (lv_at hl 0 rfl) ?_
  refine lv_iload_n hx hb dJ7_fill_53178_6 rfl (lv_at hl 1 rfl) ?_
  refine lv_icmp_ge (tgt := 20) hx hb dJ7_fill_53178_7 z162 (fun c1 => absurd c1 (z1130)) (fun _ => ?_)
  refine lv_aload_n hx hb dJ7_fill_53178_10 rfl (lv_at hl 2 rfl) ?_
  refine lv_iload_n hx hb dJ7_fill_53178_11 rfl (lv_at hl 0 rfl) ?_
  refine lv_iload_n hx hb dJ7_fill_53178_12 rfl (lv_at hl 3 rfl) ?_
  refine my_iastS hx hb hK hP hD hS 0 1 rfl rfl z1131 rfl dJ7_fill_53178_13 (fun H locs hP hD hS => ?_)
  refine lv_iinc (v := 171) (lv' := [(2, .int 171), (3, .int 192), (0, .ref (r 32)), (1, .int 0)]) hx hb dJ7_fill_53178_14 hl (k := 0) rfl z1132 (nlt rfl) rfl (fun ls hl => ?_)
  refine lv_goto (tgt := 5) hx hb dJ7_fill_53178_17 z163 ?_
  refine lv_iload_n hx hb dJ7_fill_53178_5 rfl (lv_at hl 0 rfl) ?_
  refine lv_iload_n hx hb dJ7_fill_53178_6 rfl (lv_at hl 1 rfl) ?_
  refine lv_icmp_ge (tgt := 20) hx hb dJ7_fill_53178_7 z162 (fun c1 => absurd c1 (z1133)) (fun _ => ?_)
  refine lv_aload_n hx hb dJ7_fill_53178_10 rfl (lv_at hl 2 rfl) ?_
  refine lv_iload_n hx hb dJ7_fill_53178_11 rfl (lv_at hl 0 rfl) ?_
  refine lv_iload_n hx hb dJ7_fill_53178_12 rfl (lv_at hl 3 rfl) ?_
  refine my_iastS hx hb hK hP hD hS 0 1 rfl rfl z1134 rfl dJ7_fill_53178_13 (fun H locs hP hD hS => ?_)
  refine lv_iinc (v := 172) (lv' := [(2, .int 172), (3, .int 192), (0, .ref (r 32)), (1, .int 0)]) hx hb dJ7_fill_53178_14 hl (k := 0) rfl z1135 (nlt rfl) rfl (fun ls hl => ?_)
  refine lv_goto (tgt := 5) hx hb dJ7_fill_53178_17 z163 ?_
  refine lv_iload_n hx hb dJ7_fill_53178_5 rfl (lv_at hl 0 rfl) ?_
  refine lv_iload_n hx hb dJ7_fill_53178_6 rfl (lv_at hl 1 rfl) ?_
  refine lv_icmp_ge (tgt := 20) hx hb dJ7_fill_53178_7 z162 (fun c1 => absurd c1 (z1136)) (fun _ => ?_)
  refine lv_aload_n hx hb dJ7_fill_53178_10 rfl (lv_at hl 2 rfl) ?_
  refine lv_iload_n hx hb dJ7_fill_53178_11 rfl (lv_at hl 0 rfl) ?_
  refine lv_iload_n hx hb dJ7_fill_53178_12 rfl (lv_at hl 3 rfl) ?_
  refine my_iastS hx hb hK hP hD hS 0 1 rfl rfl z1137 rfl dJ7_fill_53178_13 (fun H locs hP hD hS => ?_)
  refine lv_iinc (v := 173) (lv' := [(2, .int 173), (3, .int 192), (0, .ref (r 32)), (1, .int 0)]) hx hb dJ7_fill_53178_14 hl (k := 0) rfl z1138 (nlt rfl) rfl (fun ls hl => ?_)
  refine lv_goto (tgt := 5) hx hb dJ7_fill_53178_17 z163 ?_
  refine lv_iload_n hx hb dJ7_fill_53178_5 rfl (lv_at hl 0 rfl) ?_
  refine lv_iload_n hx hb dJ7_fill_53178_6 rfl (lv_at hl 1 rfl) ?_
  refine lv_icmp_ge (tgt := 20) hx hb dJ7_fill_53178_7 z162 (fun c1 => absurd c1 (z1139)) (fun _ => ?_)
  refine lv_aload_n hx hb dJ7_fill_53178_10 rfl (lv_at hl 2 rfl) ?_
  refine lv_iload_n hx hb dJ7_fill_53178_11 rfl (lv_at hl 0 rfl) ?_
  refine lv_iload_n hx hb dJ7_fill_53178_12 rfl (lv_at hl 3 rfl) ?_
  refine my_iastS hx hb hK hP hD hS 0 1 rfl rfl z1140 rfl dJ7_fill_53178_13 (fun H locs hP hD hS => ?_)
  refine lv_iinc (v := 174) (lv' := [(2, .int 174), (3, .int 192), (0, .ref (r 32)), (1, .int 0)]) hx hb dJ7_fill_53178_14 hl (k := 0) rfl z1141 (nlt rfl) rfl (fun ls hl => ?_)
  refine lv_goto (tgt := 5) hx hb dJ7_fill_53178_17 z163 ?_
  refine lv_iload_n hx hb dJ7_fill_53178_5 rfl (lv_at hl 0 rfl) ?_
  refine lv_iload_n hx hb dJ7_fill_53178_6 rfl (lv_at hl 1 rfl) ?_
  refine lv_icmp_ge (tgt := 20) hx hb dJ7_fill_53178_7 z162 (fun c1 => absurd c1 (z1142)) (fun _ => ?_)
  refine lv_aload_n hx hb dJ7_fill_53178_10 rfl (lv_at hl 2 rfl) ?_
  refine lv_iload_n hx hb dJ7_fill_53178_11 rfl (lv_at hl 0 rfl) ?_
  refine lv_iload_n hx hb dJ7_fill_53178_12 rfl (lv_at hl 3 rfl) ?_
  refine my_iastS hx hb hK hP hD hS 0 1 rfl rfl z1143 rfl dJ7_fill_53178_13 (fun H locs hP hD hS => ?_)
  refine lv_iinc (v := 175) (lv' := [(2, .int 175), (3, .int 192), (0, .ref (r 32)), (1, .int 0)]) hx hb dJ7_fill_53178_14 hl (k := 0) rfl z1144 (nlt rfl) rfl (fun ls hl => ?_)
  refine lv_goto (tgt := 5) hx hb dJ7_fill_53178_17 z163 ?_
  refine lv_iload_n hx hb dJ7_fill_53178_5 rfl (lv_at hl 0 rfl) ?_
  refine lv_iload_n hx hb dJ7_fill_53178_6 rfl (lv_at hl 1 rfl) ?_
  refine lv_icmp_ge (tgt := 20) hx hb dJ7_fill_53178_7 z162 (fun c1 => absurd c1 (z1145)) (fun _ => ?_)
  refine lv_aload_n hx hb dJ7_fill_53178_10 rfl (lv_at hl 2 rfl) ?_
  refine lv_iload_n hx hb dJ7_fill_53178_11 rfl (lv_at hl 0 rfl) ?_
  refine lv_iload_n hx hb dJ7_fill_53178_12 rfl (lv_at hl 3 rfl) ?_
  refine my_iastS hx hb hK hP hD hS 0 1 rfl rfl z1146 rfl dJ7_fill_53178_13 (fun H locs hP hD hS => ?_)
  refine lv_iinc (v := 176) (lv' := [(2, .int 176), (3, .int 192), (0, .ref (r 32)), (1, .int 0)]) hx hb dJ7_fill_53178_14 hl (k := 0) rfl z1147 (nlt rfl) rfl (fun ls hl => ?_)
  refine lv_goto (tgt := 5) hx hb dJ7_fill_53178_17 z163 ?_
  refine lv_iload_n hx hb dJ7_fill_53178_5 rfl (lv_at hl 0 rfl) ?_
  refine lv_iload_n hx hb dJ7_fill_53178_6 rfl (lv_at hl 1 rfl) ?_
  refine lv_icmp_ge (tgt := 20) hx hb dJ7_fill_53178_7 z162 (fun c1 => absurd c1 (z1148)) (fun _ => ?_)
  refine lv_aload_n hx hb dJ7_fill_53178_10 rfl (lv_at hl 2 rfl) ?_
  refine lv_iload_n hx hb dJ7_fill_53178_11 rfl (lv_at hl 0 rfl) ?_
  refine lv_iload_n hx hb dJ7_fill_53178_12 rfl (lv_at hl 3 rfl) ?_
  refine my_iastS hx hb hK hP hD hS 0 1 rfl rfl z1149 rfl dJ7_fill_53178_13 (fun H locs hP hD hS => ?_)
  refine lv_iinc (v := 177) (lv' := [(2, .int 177), (3, .int 192), (0, .ref (r 32)), (1, .int 0)]) hx hb dJ7_fill_53178_14 hl (k := 0) rfl z1150 (nlt rfl) rfl (fun ls hl => ?_)
  refine lv_goto (tgt := 5) hx hb dJ7_fill_53178_17 z163 ?_
  refine lv_iload_n hx hb dJ7_fill_53178_5 rfl (lv_at hl 0 rfl) ?_
  refine lv_iload_n hx hb dJ7_fill_53178_6 rfl (lv_at hl 1 rfl) ?_
  refine lv_icmp_ge (tgt := 20) hx hb dJ7_fill_53178_7 z162 (fun c1 => absurd c1 (z1151)) (fun _ => ?_)
  refine lv_aload_n hx hb dJ7_fill_53178_10 rfl (lv_at hl 2 rfl) ?_
  refine lv_iload_n hx hb dJ7_fill_53178_11 rfl (lv_at hl 0 rfl) ?_
  refine lv_iload_n hx hb dJ7_fill_53178_12 rfl (lv_at hl 3 rfl) ?_
  refine my_iastS hx hb hK hP hD hS 0 1 rfl rfl z1152 rfl dJ7_fill_53178_13 (fun H locs hP hD hS => ?_)
  refine lv_iinc (v := 178) (lv' := [(2, .int 178), (3, .int 192), (0, .ref (r 32)), (1, .int 0)]) hx hb dJ7_fill_53178_14 hl (k := 0) rfl z1153 (nlt rfl) rfl (fun ls hl => ?_)
  refine lv_goto (tgt := 5) hx hb dJ7_fill_53178_17 z163 ?_
  refine lv_iload_n hx hb dJ7_fill_53178_5 rfl (lv_at hl 0 rfl) ?_
  refine lv_iload_n hx hb dJ7_fill_53178_6 rfl (lv_at hl 1 rfl) ?_
  refine lv_icmp_ge (tgt := 20) hx hb dJ7_fill_53178_7 z162 (fun c1 => absurd c1 (z1154)) (fun _ => ?_)
  refine lv_aload_n hx hb dJ7_fill_53178_10 rfl (lv_at hl 2 rfl) ?_
  refine lv_iload_n hx hb dJ7_fill_53178_11 rfl (lv_at hl 0 rfl) ?_
  refine lv_iload_n hx hb dJ7_fill_53178_12 rfl (lv_at hl 3 rfl) ?_
  refine my_iastS hx hb hK hP hD hS 0 1 rfl rfl z1155 rfl dJ7_fill_53178_13 (fun H locs hP hD hS => ?_)
  refine lv_iinc (v := 179) (lv' := [(2, .int 179), (3, .int 192), (0, .ref (r 32)), (1, .int 0)]) hx hb dJ7_fill_53178_14 hl (k := 0) rfl z1156 (nlt rfl) rfl (fun ls hl => ?_)
  refine lv_goto (tgt := 5) hx hb dJ7_fill_53178_17 z163 ?_
  refine lv_iload_n hx hb dJ7_fill_53178_5 rfl (lv_at hl 0 rfl) ?_
  refine lv_iload_n hx hb dJ7_fill_53178_6 rfl (lv_at hl 1 rfl) ?_
  refine lv_icmp_ge (tgt := 20) hx hb dJ7_fill_53178_7 z162 (fun c1 => absurd c1 (z1157)) (fun _ => ?_)
  refine lv_aload_n hx hb dJ7_fill_53178_10 rfl (lv_at hl 2 rfl) ?_
  refine lv_iload_n hx hb dJ7_fill_53178_11 rfl (lv_at hl 0 rfl) ?_
  refine lv_iload_n hx hb dJ7_fill_53178_12 rfl (lv_at hl 3 rfl) ?_
  refine my_iastS hx hb hK hP hD hS 0 1 rfl rfl z1158 rfl dJ7_fill_53178_13 (fun H locs hP hD hS => ?_)
  refine lv_iinc (v := 180) (lv' := [(2, .int 180), (3, .int 192), (0, .ref (r 32)), (1, .int 0)]) hx hb dJ7_fill_53178_14 hl (k := 0) rfl z1159 (nlt rfl) rfl (fun ls hl => ?_)
  refine lv_goto (tgt := 5) hx hb dJ7_fill_53178_17 z163 ?_
  refine lv_iload_n hx hb dJ7_fill_53178_5 rfl (lv_at hl 0 rfl) ?_
  refine lv_iload_n hx hb dJ7_fill_53178_6 rfl (lv_at hl 1 rfl) ?_
  refine lv_icmp_ge (tgt := 20) hx hb dJ7_fill_53178_7 z162 (fun c1 => absurd c1 (z1160)) (fun _ => ?_)
  refine lv_aload_n hx hb dJ7_fill_53178_10 rfl (lv_at hl 2 rfl) ?_
  refine lv_iload_n hx hb dJ7_fill_53178_11 rfl (lv_at hl 0 rfl) ?_
  refine lv_iload_n hx hb dJ7_fill_53178_12 rfl (lv_at hl 3 rfl) ?_
  refine my_iastS hx hb hK hP hD hS 0 1 rfl rfl z1161 rfl dJ7_fill_53178_13 (fun H locs hP hD hS => ?_)
  refine lv_iinc (v := 181) (lv' := [(2, .int 181), (3, .int 192), (0, .ref (r 32)), (1, .int 0)]) hx hb dJ7_fill_53178_14 hl (k := 0) rfl z1162 (nlt rfl) rfl (fun ls hl => ?_)
  refine lv_goto (tgt := 5) hx hb dJ7_fill_53178_17 z163 ?_
  refine lv_iload_n hx hb dJ7_fill_53178_5 rfl (lv_at hl 0 rfl) ?_
  refine lv_iload_n hx hb dJ7_fill_53178_6 rfl (lv_at hl 1 rfl) ?_
  refine lv_icmp_ge (tgt := 20) hx hb dJ7_fill_53178_7 z162 (fun c1 => absurd c1 (z1163)) (fun _ => ?_)
  refine lv_aload_n hx hb dJ7_fill_53178_10 rfl (lv_at hl 2 rfl) ?_
  refine lv_iload_n hx hb dJ7_fill_53178_11 rfl (lv_at hl 0 rfl) ?_
  refine lv_iload_n hx hb dJ7_fill_53178_12 rfl (lv_at hl 3 rfl) ?_
  refine my_iastS hx hb hK hP hD hS 0 1 rfl rfl z1164 rfl dJ7_fill_53178_13 (fun H locs hP hD hS => ?_)
  refine lv_iinc (v := 182) (lv' := [(2, .int 182), (3, .int 192), (0, .ref (r 32)), (1, .int 0)]) hx hb dJ7_fill_53178_14 hl (k := 0) rfl z1165 (nlt rfl) rfl (fun ls hl => ?_)
  refine lv_goto (tgt := 5) hx hb dJ7_fill_53178_17 z163 ?_
  refine lv_iload_n hx hb dJ7_fill_53178_5 rfl (lv_at hl 0 rfl) ?_
  refine lv_iload_n hx hb dJ7_fill_53178_6 rfl (lv_at hl 1 rfl) ?_
  refine lv_icmp_ge (tgt := 20) hx hb dJ7_fill_53178_7 z162 (fun c1 => absurd c1 (z1166)) (fun _ => ?_)
  refine lv_aload_n hx hb dJ7_fill_53178_10 rfl (lv_at hl 2 rfl) ?_
  refine lv_iload_n hx hb dJ7_fill_53178_11 rfl (lv_at hl 0 rfl) ?_
  refine lv_iload_n hx hb dJ7_fill_53178_12 rfl (lv_at hl 3 rfl) ?_
  refine my_iastS hx hb hK hP hD hS 0 1 rfl rfl z1167 rfl dJ7_fill_53178_13 (fun H locs hP hD hS => ?_)
  refine lv_iinc (v := 183) (lv' := [(2, .int 183), (3, .int 192), (0, .ref (r 32)), (1, .int 0)]) hx hb dJ7_fill_53178_14 hl (k := 0) rfl z1168 (nlt rfl) rfl (fun ls hl => ?_)
  refine lv_goto (tgt := 5) hx hb dJ7_fill_53178_17 z163 ?_
  refine lv_iload_n hx hb dJ7_fill_53178_5 rfl (lv_at hl 0 rfl) ?_
  refine lv_iload_n hx hb dJ7_fill_53178_6 rfl (lv_at hl 1 rfl) ?_
  refine lv_icmp_ge (tgt := 20) hx hb dJ7_fill_53178_7 z162 (fun c1 => absurd c1 (z1169)) (fun _ => ?_)
  refine lv_aload_n hx hb dJ7_fill_53178_10 rfl (lv_at hl 2 rfl) ?_
  refine lv_iload_n hx hb dJ7_fill_53178_11 rfl (lv_at hl 0 rfl) ?_
  refine lv_iload_n hx hb dJ7_fill_53178_12 rfl (lv_at hl 3 rfl) ?_
  refine my_iastS hx hb hK hP hD hS 0 1 rfl rfl z1170 rfl dJ7_fill_53178_13 (fun H locs hP hD hS => ?_)
  refine lv_iinc (v := 184) (lv' := [(2, .int 184), (3, .int 192), (0, .ref (r 32)), (1, .int 0)]) hx hb dJ7_fill_53178_14 hl (k := 0) rfl z1171 (nlt rfl) rfl (fun ls hl => ?_)
  refine lv_goto (tgt := 5) hx hb dJ7_fill_53178_17 z163 ?_
  refine lv_iload_n hx hb dJ7_fill_53178_5 rfl (lv_at hl 0 rfl) ?_
  refine lv_iload_n hx hb dJ7_fill_53178_6 rfl (lv_at hl 1 rfl) ?_
  refine lv_icmp_ge (tgt := 20) hx hb dJ7_fill_53178_7 z162 (fun c1 => absurd c1 (z1172)) (fun _ => ?_)
  refine lv_aload_n hx hb dJ7_fill_53178_10 rfl (lv_at hl 2 rfl) ?_
  refine lv_iload_n hx hb dJ7_fill_53178_11 rfl (lv_at hl 0 rfl) ?_
  refine lv_iload_n hx hb dJ7_fill_53178_12 rfl (lv_at hl 3 rfl) ?_
  refine my_iastS hx hb hK hP hD hS 0 1 rfl rfl z1173 rfl dJ7_fill_53178_13 (fun H locs hP hD hS => ?_)
  refine lv_iinc (v := 185) (lv' := [(2, .int 185), (3, .int 192), (0, .ref (r 32)), (1, .int 0)]) hx hb dJ7_fill_53178_14 hl (k := 0) rfl z1174 (nlt rfl) rfl (fun ls hl => ?_)
  refine lv_goto (tgt := 5) hx hb dJ7_fill_53178_17 z163 ?_
  refine lv_iload_n hx hb dJ7_fill_53178_5 rfl (lv_at hl 0 rfl) ?_
  refine lv_iload_n hx hb dJ7_fill_53178_6 rfl (lv_at hl 1 rfl) ?_
  refine lv_icmp_ge (tgt := 20) hx hb dJ7_fill_53178_7 z162 (fun c1 => absurd c1 (z1175)) (fun _ => ?_)
  refine lv_aload_n hx hb dJ7_fill_53178_10 rfl (lv_at hl 2 rfl) ?_
  refine lv_iload_n hx hb dJ7_fill_53178_11 rfl (lv_at hl 0 rfl) ?_
  refine lv_iload_n hx hb dJ7_fill_53178_12 rfl (lv_at hl 3 rfl) ?_
  refine my_iastS hx hb hK hP hD hS 0 1 rfl rfl z1176 rfl dJ7_fill_53178_13 (fun H locs hP hD hS => ?_)
  refine lv_iinc (v := 186) (lv' := [(2, .int 186), (3, .int 192), (0, .ref (r 32)), (1, .int 0)]) hx hb dJ7_fill_53178_14 hl (k := 0) rfl z1177 (nlt rfl) rfl (fun ls hl => ?_)
  refine lv_goto (tgt := 5) hx hb dJ7_fill_53178_17 z163 ?_
  refine lv_iload_n hx hb dJ7_fill_53178_5 rfl (lv_at hl 0 rfl) ?_
  refine lv_iload_n hx hb dJ7_fill_53178_6 rfl (lv_at hl 1 rfl) ?_
  refine lv_icmp_ge (tgt := 20) hx hb dJ7_fill_53178_7 z162 (fun c1 => absurd c1 (z1178)) (fun _ => ?_)
  refine lv_aload_n hx hb dJ7_fill_53178_10 rfl (lv_at hl 2 rfl) ?_
  refine lv_iload_n hx hb dJ7_fill_53178_11 rfl (lv_at hl 0 rfl) ?_
  refine lv_iload_n hx hb dJ7_fill_53178_12 rfl (lv_at hl 3 rfl) ?_
  refine my_iastS hx hb hK hP hD hS 0 1 rfl rfl z1179 rfl dJ7_fill_53178_13 (fun H locs hP hD hS => ?_)
  refine lv_iinc (v := 187) (lv' := [(2, .int 187), (3, .int 192), (0, .ref (r 32)), (1, .int 0)]) hx hb dJ7_fill_53178_14 hl (k := 0) rfl z1180 (nlt rfl) rfl (fun ls hl => ?_)
  refine lv_goto (tgt := 5) hx hb dJ7_fill_53178_17 z163 ?_
  refine lv_iload_n hx hb dJ7_fill_53178_5 rfl (lv_at hl 0 rfl) ?_
  refine lv_iload_n hx hb dJ7_fill_53178_6 rfl (lv_at hl 1 rfl) ?_
  refine lv_icmp_ge (tgt := 20) hx hb dJ7_fill_53178_7 z162 (fun c1 => absurd c1 (z1181)) (fun _ => ?_)
  refine lv_aload_n hx hb dJ7_fill_53178_10 rfl (lv_at hl 2 rfl) ?_
  refine lv_iload_n hx hb dJ7_fill_53178_11 rfl (lv_at hl 0 rfl) ?_
  refine lv_iload_n hx hb dJ7_fill_53178_12 rfl (lv_at hl 3 rfl) ?_
  refine my_iastS hx hb hK hP hD hS 0 1 rfl rfl z1182 rfl dJ7_fill_53178_13 (fun H locs hP hD hS => ?_)
  refine lv_iinc (v := 188) (lv' := [(2, .int 188), (3, .int 192), (0, .ref (r 32)), (1, .int 0)]) hx hb dJ7_fill_53178_14 hl (k := 0) rfl z1183 (nlt rfl) rfl (fun ls hl => ?_)
  refine lv_goto (tgt := 5) hx hb dJ7_fill_53178_17 z163 ?_
  refine lv_iload_n hx hb dJ7_fill_53178_5 rfl (lv_at hl 0 rfl) ?_
  refine lv_iload_n hx hb dJ7_fill_53178_6 rfl (lv_at hl 1 rfl) ?_
  refine lv_icmp_ge (tgt := 20) hx hb dJ7_fill_53178_7 z162 (fun c1 => absurd c1 (z1184)) (fun _ => ?_)
  refine lv_aload_n hx hb dJ7_fill_53178_10 rfl (lv_at hl 2 rfl) ?_
  refine lv_iload_n hx hb dJ7_fill_53178_11 rfl (lv_at hl 0 rfl) ?_
  refine lv_iload_n hx hb dJ7_fill_53178_12 rfl (lv_at hl 3 rfl) ?_
  refine my_iastS hx hb hK hP hD hS 0 1 rfl rfl z1185 rfl dJ7_fill_53178_13 (fun H locs hP hD hS => ?_)
  refine lv_iinc (v := 189) (lv' := [(2, .int 189), (3, .int 192), (0, .ref (r 32)), (1, .int 0)]) hx hb dJ7_fill_53178_14 hl (k := 0) rfl z1186 (nlt rfl) rfl (fun ls hl => ?_)
  refine lv_goto (tgt := 5) hx hb dJ7_fill_53178_17 z163 ?_
  refine lv_iload_n hx hb dJ7_fill_53178_5 rfl (lv_at hl 0 rfl) ?_
  refine lv_iload_n hx hb dJ7_fill_53178_6 rfl (lv_at hl 1 rfl) ?_
  refine lv_icmp_ge (tgt := 20) hx hb dJ7_fill_53178_7 z162 (fun c1 => absurd c1 (z1187)) (fun _ => ?_)
  refine lv_aload_n hx hb dJ7_fill_53178_10 rfl (lv_at hl 2 rfl) ?_
  refine lv_iload_n hx hb dJ7_fill_53178_11 rfl (lv_at hl 0 rfl) ?_
  refine lv_iload_n hx hb dJ7_fill_53178_12 rfl (lv_at hl 3 rfl) ?_
  refine my_iastS hx hb hK hP hD hS 0 1 rfl rfl z1188 rfl dJ7_fill_53178_13 (fun H locs hP hD hS => ?_)
  refine lv_iinc (v := 190) (lv' := [(2, .int 190), (3, .int 192), (0, .ref (r 32)), (1, .int 0)]) hx hb dJ7_fill_53178_14 hl (k := 0) rfl z1189 (nlt rfl) rfl (fun ls hl => ?_)
  refine lv_goto (tgt := 5) hx hb dJ7_fill_53178_17 z163 ?_
  refine lv_iload_n hx hb dJ7_fill_53178_5 rfl (lv_at hl 0 rfl) ?_
  refine lv_iload_n hx hb dJ7_fill_53178_6 rfl (lv_at hl 1 rfl) ?_
  refine lv_icmp_ge (tgt := 20) hx hb dJ7_fill_53178_7 z162 (fun c1 => absurd c1 (z1190)) (fun _ => ?_)
  refine lv_aload_n hx hb dJ7_fill_53178_10 rfl (lv_at hl 2 rfl) ?_
  refine lv_iload_n hx hb dJ7_fill_53178_11 rfl (lv_at hl 0 rfl) ?_
  refine lv_iload_n hx hb dJ7_fill_53178_12 rfl (lv_at hl 3 rfl) ?_
  refine my_iastS hx hb hK hP hD hS 0 1 rfl rfl z1191 rfl dJ7_fill_53178_13 (fun H locs hP hD hS => ?_)
  refine lv_iinc (v := 191) (lv' := [(2, .int 191), (3, .int 192), (0, .ref (r 32)), (1, .int 0)]) hx hb dJ7_fill_53178_14 hl (k := 0) rfl z1192 (nlt rfl) rfl (fun ls hl => ?_)
  refine lv_goto (tgt := 5) hx hb dJ7_fill_53178_17 z163 ?_
  refine lv_iload_n hx hb dJ7_fill_53178_5 rfl (lv_at hl 0 rfl) ?_
  refine lv_iload_n hx hb dJ7_fill_53178_6 rfl (lv_at hl 1 rfl) ?_
  refine lv_icmp_ge (tgt := 20) hx hb dJ7_fill_53178_7 z162 (fun c1 => absurd c1 (z1193)) (fun _ => ?_)
  refine lv_aload_n hx hb dJ7_fill_53178_10 rfl (lv_at hl 2 rfl) ?_
  refine lv_iload_n hx hb dJ7_fill_53178_11 rfl (lv_at hl 0 rfl) ?_
  refine lv_iload_n hx hb dJ7_fill_53178_12 rfl (lv_at hl 3 rfl) ?_
  refine my_iastS hx hb hK hP hD hS 0 1 rfl rfl z1194 rfl dJ7_fill_53178_13 (fun H locs hP hD hS => ?_)
  refine lv_iinc (v := 192) (lv' := [(2, .int 192), (3, .int 192), (0, .ref (r 32)), (1, .int 0)]) hx hb dJ7_fill_53178_14 hl (k := 0) rfl z1195 (nlt rfl) rfl (fun ls hl => ?_)
  refine lv_goto (tgt := 5) hx hb dJ7_fill_53178_17 z163 ?_
  refine lv_iload_n hx hb dJ7_fill_53178_5 rfl (lv_at hl 0 rfl) ?_
  refine lv_iload_n hx hb dJ7_fill_53178_6 rfl (lv_at hl 1 rfl) ?_
  refine lv_icmp_ge (tgt := 20) hx hb dJ7_fill_53178_7 z162 (fun _ => ?_) (fun c1 => absurd (z1196) c1)
  refine W.widen (k := 0) (n := 0) (by decide +kernel) (by decide +kernel) ?_
  exact ret_v hx hb hr hlocks hS (u := (fun _ => 0)) (hP.sub [0] rfl) (hD.sub [0] (by decide +kernel) rfl) dJ7_fill_53178_20
