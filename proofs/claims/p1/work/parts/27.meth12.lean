set_option maxHeartbeats 4000000 in
set_option maxRecDepth 100000 in
theorem k280_X4_rulesOfUse (l : Launch) (dC : Nat → ClassId) (dI : Nat → Nat → Nat) (cB cI cJ cZ cO : ClassId) (r : Nat → Nat) : CI l yX4_rulesOfUse wsX4_rulesOfUse ({ frames := 0, cells := 0, slots := 0, locals := 0 }) (dC, dI) (tyL cB cI cJ cZ cO) [.ref (r 18), .ref (r 87)] [((r 18), .inr (4, [.int 0, .ref (r 19), .ref (r 20), .int 0, .ref (r 21), .ref (r 22), .int 0, .ref (r 23), .ref (r 24), .int 0, .ref (r 25), .ref (r 26), .int 3, .int 0, .int 0, .ref (r 27)]))] (fun u => [((r 18), .inr (4, [.int 0, .ref (r 19), .ref (r 20), .int 0, .ref (r 21), .ref (r 22), .int 0, .ref (r 23), .ref (r 24), .int 0, .ref (r 25), .ref (r 26), .int 3, .int 0, .int 0, .ref (r 27)]))]) 0 := by
  intro sz
  refine ct_open (cc := cX4_rulesOfUse) (maxL := 5) (ret := (some .int)) (by decide) rfl (Nat.le_of_ble_eq_true rfl) ?_
  intro p e s m below meth c ls A hx hb hr hml hts hown hlocks hin hP hK hD hA hS hl
  have hl : lv_has ls 5 [(0, .ref (r 18)), (1, .ref (r 87))] := hl
  have hown : s.vm.findClass RX4 = some m.cls := hown
  have i4 : ∀ w ∈ u_ws RX4 TX4 16, w ∈ wsX4_rulesOfUse := fun _ h => List.mem_cons_of_mem _ (List.mem_append_right _ h)
  have w1 := hts (.fieldLink RX4 57 "GuildCharter$Port" "rules" "I") (List.mem_cons_of_mem _ (List.mem_append_left _ (List.mem_of_getElem? (i := 0) rfl)))
  refine lv_aload_n hx hb dX4_rulesOfUse_0 rfl (lv_at hl 0 rfl) ?_
  refine va_get (D := (dC, dI)) (ci := 4) (v := .int 0) (C := RX4) (T := TX4) (N := 16) hx hb hts i4 hown hK hP 0 rfl rfl 6 (nlt rfl) w1 (fun _ h9 => h9) rfl dX4_rulesOfUse_1 ?_
  refine lv_if_le (tgt := 18) hx hb dX4_rulesOfUse_4 z1561 (fun _ => ?_) (fun c1 => absurd (z682) c1)
  refine lv_iconst (v := 0) hx hb dX4_rulesOfUse_18 z8 ?_
  refine lv_istore_n (lv' := [(2, .int 0), (0, .ref (r 18)), (1, .ref (r 87))]) hx hb dX4_rulesOfUse_19 rfl hl (nlt rfl) rfl (fun ls hl => ?_)
  refine lv_iconst (v := 0) hx hb dX4_rulesOfUse_20 z8 ?_
  refine lv_istore_n (lv' := [(3, .int 0), (2, .int 0), (0, .ref (r 18)), (1, .ref (r 87))]) hx hb dX4_rulesOfUse_21 rfl hl (nlt rfl) rfl (fun ls hl => ?_)
  refine lv_iload_n hx hb dX4_rulesOfUse_22 rfl (lv_at hl 0 rfl) ?_
  refine lv_aload_n hx hb dX4_rulesOfUse_23 rfl (lv_at hl 2 rfl) ?_
  refine va_get (D := (dC, dI)) (ci := 4) (v := .int 0) (C := RX4) (T := TX4) (N := 16) hx hb hts i4 hown hK hP 0 rfl rfl 6 (nlt rfl) w1 (fun _ h9 => h9) rfl dX4_rulesOfUse_24 ?_
  refine lv_icmp_ge (tgt := 73) hx hb dX4_rulesOfUse_27 z1679 (fun _ => ?_) (fun c1 => absurd (z682) c1)
  refine lv_iload_n hx hb dX4_rulesOfUse_73 rfl (lv_at hl 1 rfl) ?_
  refine W.widen (k := 0) (n := 0) (by decide +kernel) (by decide +kernel) ?_
  exact ret_i hx hb hr hlocks hS (u := (fun _ => 0)) (hP.sub [0] rfl) (hD.sub [0] (by decide +kernel) rfl) dX4_rulesOfUse_74

set_option maxHeartbeats 4000000 in
set_option maxRecDepth 100000 in
theorem k281_X10_used (l : Launch) (dC : Nat → ClassId) (dI : Nat → Nat → Nat) (cB cI cJ cZ cO : ClassId) (r : Nat → Nat) : CI l yX10_used wsX10_used ({ frames := 1, cells := 0, slots := 0, locals := 26 }) (dC, dI) (tyL cB cI cJ cZ cO) [.ref (r 0)] [((r 0), .inr (10, fX r)), ((r 18), .inr (4, [.int 0, .ref (r 19), .ref (r 20), .int 0, .ref (r 21), .ref (r 22), .int 0, .ref (r 23), .ref (r 24), .int 0, .ref (r 25), .ref (r 26), .int 3, .int 0, .int 0, .ref (r 27)])), ((r 87), .inl (cI, 16, .inl (fun _ => 0)))] (fun _ => []) 0 := by
  intro sz
  refine ct_open (cc := cX10_used) (maxL := 1) (ret := (some .int)) (by decide) rfl (Nat.le_of_ble_eq_true rfl) ?_
  intro p e s m below meth c ls A hx hb hr hml hts hown hlocks hin hP hK hD hA hS hl
  have hl : lv_has ls 1 [(0, .ref (r 0))] := hl
  have hown : s.vm.findClass RX10 = some m.cls := hown
  have i10 : ∀ w ∈ u_ws RX10 TX10 18, w ∈ wsX10_used := fun _ h => List.mem_cons_of_mem _ (List.mem_append_left _ (List.mem_append_right _ h))
  have w1 := hts (.fieldLink RX10 23 "GuildCharter" "told" "LGuildCharter$Port;") (List.mem_cons_of_mem _ (List.mem_append_left _ (List.mem_append_left _ (List.mem_of_getElem? (i := 0) rfl))))
  have w2 := hts (.fieldLink RX10 89 "GuildCharter" "scratch" "[I") (List.mem_cons_of_mem _ (List.mem_append_left _ (List.mem_append_left _ (List.mem_of_getElem? (i := 1) rfl))))
  refine lv_aload_n hx hb dX10_used_0 rfl (lv_at hl 0 rfl) ?_
  refine va_get (D := (dC, dI)) (ci := 10) (v := .ref (r 18)) (C := RX10) (T := TX10) (N := 18) hx hb hts i10 hown hK hP 0 rfl rfl 3 (nlt rfl) w1 (fun _ h9 => h9) rfl dX10_used_1 ?_
  refine lv_aload_n hx hb dX10_used_4 rfl (lv_at hl 0 rfl) ?_
  refine va_get (D := (dC, dI)) (ci := 10) (v := .ref (r 87)) (C := RX10) (T := TX10) (N := 18) hx hb hts i10 hown hK hP 0 rfl rfl 17 (nlt rfl) w2 (fun _ h9 => h9) rfl dX10_used_5 ?_
  refine call_vV (ci := 4) (As := [.ref (r 87)]) (rest := []) (wr := [((r 0), .inr (10, fX r))]) ⟨hx, hb, hml, hown, hts⟩ (k279_X4_findShortest l dC dI cB cI cJ cZ cO r) (cwV 1 hts gX10_used_X4_findShortest rfl rfl rfl ⟨rfl, z1680⟩ ⟨Nat.le_of_ble_eq_true rfl, Nat.le_of_ble_eq_true rfl⟩) hK hP hD hS hA [1, 2] [0] rfl rfl (by decide +kernel) (by decide +kernel) (by decide +kernel) rfl rfl rfl hl.1 (Nat.le_of_ble_eq_true rfl) rfl rfl dX10_used_8 ⟨by decide +kernel, by decide +kernel⟩ (fun u0 H locs hP hD hS => ?_)
  refine lv_aload_n hx hb dX10_used_11 rfl (lv_at hl 0 rfl) ?_
  refine va_get (D := (dC, dI)) (ci := 10) (v := .ref (r 18)) (C := RX10) (T := TX10) (N := 18) hx hb hts i10 hown hK hP 0 rfl rfl 3 (nlt rfl) w1 (fun _ h9 => h9) rfl dX10_used_12 ?_
  refine lv_aload_n hx hb dX10_used_15 rfl (lv_at hl 0 rfl) ?_
  refine va_get (D := (dC, dI)) (ci := 10) (v := .ref (r 87)) (C := RX10) (T := TX10) (N := 18) hx hb hts i10 hown hK hP 0 rfl rfl 17 (nlt rfl) w2 (fun _ h9 => h9) rfl dX10_used_16 ?_
  refine call_iV (ci := 4) (As := [.ref (r 87)]) (rest := []) (wr := [((r 0), .inr (10, fX r)), ((r 87), .inl (cI, 16, .inl (fun _ => 0)))]) ⟨hx, hb, hml, hown, hts⟩ (k280_X4_rulesOfUse l dC dI cB cI cJ cZ cO r) (cwV 1 hts gX10_used_X4_rulesOfUse rfl rfl rfl ⟨rfl, z1681⟩ ⟨Nat.le_of_ble_eq_true rfl, Nat.le_of_ble_eq_true rfl⟩) hK hP hD hS hA [1] [0, 2] rfl rfl (by decide +kernel) (by decide +kernel) (by decide +kernel) rfl rfl rfl hl.1 (Nat.le_of_ble_eq_true rfl) rfl rfl dX10_used_19 ⟨by decide +kernel, by decide +kernel⟩ (fun u1 H locs hP hD hS => ?_)
  refine W.widen (k := 0) (n := 0) (by decide +kernel) (by decide +kernel) ?_
  exact ret_i hx hb hr hlocks hS (u := (fun _ => 0)) (hP.sub [] rfl) (hD.sub [] (by decide +kernel) rfl) dX10_used_22

set_option maxHeartbeats 4000000 in
set_option maxRecDepth 100000 in
theorem k282_X11_layShortest (l : Launch) (dC : Nat → ClassId) (dI : Nat → Nat → Nat) (cB cI cJ cZ cO : ClassId) (n : Nat → Nat) : CV l yX11_layShortest wsX11_layShortest ({ frames := 0, cells := 0, slots := 0, locals := 0 }) (dC, dI) (tyL cB cI cJ cZ cO) [.ref (n 0)] [((n 0), .inr (11, fM n)), ((n 38), .inl (cI, 8, .inl (fun _ => 0))), ((n 6), .inl (cI, 2, .inl (fun _ => 0)))] (fun u => [((n 0), .inr (11, fM n)), ((n 38), .inl (cI, 8, .inl (fun _ => 0))), ((n 6), .inl (cI, 2, .inl (fun _ => 0)))]) := by
  intro sz
  refine ct_open (cc := cX11_layShortest) (maxL := 5) (ret := none) (by decide) rfl (Nat.le_of_ble_eq_true rfl) ?_
  intro p e s m below meth c ls A hx hb hr hml hts hown hlocks hin hP hK hD hA hS hl
  have hl : lv_has ls 5 [(0, .ref (n 0))] := hl
  have hown : s.vm.findClass RX11 = some m.cls := hown
  have i11 : ∀ w ∈ u_ws RX11 TX11 71, w ∈ wsX11_layShortest := fun _ h => List.mem_cons_of_mem _ (List.mem_append_right _ h)
  have w1 := hts (.fieldLink RX11 131 "GuildCharterModel" "shortestOf" "[I") (List.mem_cons_of_mem _ (List.mem_append_left _ (List.mem_of_getElem? (i := 0) rfl)))
  have w2 := hts (.fieldLink RX11 233 "GuildCharterModel" "bank" "I") (List.mem_cons_of_mem _ (List.mem_append_left _ (List.mem_of_getElem? (i := 1) rfl)))
  have w3 := hts (.fieldLink RX11 30 "GuildCharterModel" "alts" "[I") (List.mem_cons_of_mem _ (List.mem_append_left _ (List.mem_of_getElem? (i := 2) rfl)))
  refine lv_iconst (v := 0) hx hb dX11_layShortest_0 z8 ?_
  refine lv_istore_n (lv' := [(1, .int 0), (0, .ref (n 0))]) hx hb dX11_layShortest_1 rfl hl (nlt rfl) rfl (fun ls hl => ?_)
  refine lv_iload_n hx hb dX11_layShortest_2 rfl (lv_at hl 0 rfl) ?_
  refine lv_bipush (v := 8) hx hb dX11_layShortest_3 z130 ?_
  refine lv_icmp_ge (tgt := 21) hx hb dX11_layShortest_5 z1428 (fun c1 => absurd c1 (z1682)) (fun _ => ?_)
  refine lv_aload_n hx hb dX11_layShortest_8 rfl (lv_at hl 1 rfl) ?_
  refine va_get (D := (dC, dI)) (ci := 11) (v := .ref (n 38)) (C := RX11) (T := TX11) (N := 71) hx hb hts i11 hown hK hP 0 rfl rfl 60 (nlt rfl) w1 (fun _ h9 => h9) rfl dX11_layShortest_9 ?_
  refine lv_iload_n hx hb dX11_layShortest_12 rfl (lv_at hl 0 rfl) ?_
  refine lv_iconst (v := 0) hx hb dX11_layShortest_13 z8 ?_
  refine my_iastS hx hb hK hP hD hS 1 1 rfl rfl z1683 rfl dX11_layShortest_14 (fun H locs hP hD hS => ?_)
  refine lv_iinc (v := 1) (lv' := [(1, .int 1), (0, .ref (n 0))]) hx hb dX11_layShortest_15 hl (k := 0) rfl z17 (nlt rfl) rfl (fun ls hl => ?_)
  refine lv_goto (tgt := 2) hx hb dX11_layShortest_18 z1684 ?_
  refine lv_iload_n hx hb dX11_layShortest_2 rfl (lv_at hl 0 rfl) ?_
  refine lv_bipush (v := 8) hx hb dX11_layShortest_3 z130 ?_
  refine lv_icmp_ge (tgt := 21) hx hb dX11_layShortest_5 z1428 (fun c1 => absurd c1 (z1685)) (fun _ => ?_)
  refine lv_aload_n hx hb dX11_layShortest_8 rfl (lv_at hl 1 rfl) ?_
  refine va_get (D := (dC, dI)) (ci := 11) (v := .ref (n 38)) (C := RX11) (T := TX11) (N := 71) hx hb hts i11 hown hK hP 0 rfl rfl 60 (nlt rfl) w1 (fun _ h9 => h9) rfl dX11_layShortest_9 ?_
  refine lv_iload_n hx hb dX11_layShortest_12 rfl (lv_at hl 0 rfl) ?_
  refine lv_iconst (v := 0) hx hb dX11_layShortest_13 z8 ?_
  refine my_iastS hx hb hK hP hD hS 1 1 rfl rfl z1686 rfl dX11_layShortest_14 (fun H locs hP hD hS => ?_)
  refine lv_iinc (v := 2) (lv' := [(1, .int 2), (0, .ref (n 0))]) hx hb dX11_layShortest_15 hl (k := 0) rfl z24 (nlt rfl) rfl (fun ls hl => ?_)
  refine lv_goto (tgt := 2) hx hb dX11_layShortest_18 z1684 ?_
  refine lv_iload_n hx hb dX11_layShortest_2 rfl (lv_at hl 0 rfl) ?_
  refine lv_bipush (v := 8) hx hb dX11_layShortest_3 z130 ?_
  refine lv_icmp_ge (tgt := 21) hx hb dX11_layShortest_5 z1428 (fun c1 => absurd c1 (z1687)) (fun _ => ?_)
  refine lv_aload_n hx hb dX11_layShortest_8 rfl (lv_at hl 1 rfl) ?_
  refine va_get (D := (dC, dI)) (ci := 11) (v := .ref (n 38)) (C := RX11) (T := TX11) (N := 71) hx hb hts i11 hown hK hP 0 rfl rfl 60 (nlt rfl) w1 (fun _ h9 => h9) rfl dX11_layShortest_9 ?_
  refine lv_iload_n hx hb dX11_layShortest_12 rfl (lv_at hl 0 rfl) ?_
  refine lv_iconst (v := 0) hx hb dX11_layShortest_13 z8 ?_
  refine my_iastS hx hb hK hP hD hS 1 1 rfl rfl z1688 rfl dX11_layShortest_14 (fun H locs hP hD hS => ?_)
  refine lv_iinc (v := 3) (lv' := [(1, .int 3), (0, .ref (n 0))]) hx hb dX11_layShortest_15 hl (k := 0) rfl z30 (nlt rfl) rfl (fun ls hl => ?_)
  refine lv_goto (tgt := 2) hx hb dX11_layShortest_18 z1684 ?_
  refine lv_iload_n hx hb dX11_layShortest_2 rfl (lv_at hl 0 rfl) ?_
  refine lv_bipush (v := 8) hx hb dX11_layShortest_3 z130 ?_
  refine lv_icmp_ge (tgt := 21) hx hb dX11_layShortest_5 z1428 (fun c1 => absurd c1 (z1689)) (fun _ => ?_)
  refine lv_aload_n hx hb dX11_layShortest_8 rfl (lv_at hl 1 rfl) ?_
  refine va_get (D := (dC, dI)) (ci := 11) (v := .ref (n 38)) (C := RX11) (T := TX11) (N := 71) hx hb hts i11 hown hK hP 0 rfl rfl 60 (nlt rfl) w1 (fun _ h9 => h9) rfl dX11_layShortest_9 ?_
  refine lv_iload_n hx hb dX11_layShortest_12 rfl (lv_at hl 0 rfl) ?_
  refine lv_iconst (v := 0) hx hb dX11_layShortest_13 z8 ?_
  refine my_iastS hx hb hK hP hD hS 1 1 rfl rfl z1690 rfl dX11_layShortest_14 (fun H locs hP hD hS => ?_)
  refine lv_iinc (v := 4) (lv' := [(1, .int 4), (0, .ref (n 0))]) hx hb dX11_layShortest_15 hl (k := 0) rfl z36 (nlt rfl) rfl (fun ls hl => ?_)
  refine lv_goto (tgt := 2) hx hb dX11_layShortest_18 z1684 ?_
  refine lv_iload_n hx hb dX11_layShortest_2 rfl (lv_at hl 0 rfl) ?_
  refine lv_bipush (v := 8) hx hb dX11_layShortest_3 z130 ?_
  refine lv_icmp_ge (tgt := 21) hx hb dX11_layShortest_5 z1428 (fun c1 => absurd c1 (z560)) (fun _ => ?_)
  refine lv_aload_n hx hb dX11_layShortest_8 rfl (lv_at hl 1 rfl) ?_
  refine va_get (D := (dC, dI)) (ci := 11) (v := .ref (n 38)) (C := RX11) (T := TX11) (N := 71) hx hb hts i11 hown hK hP 0 rfl rfl 60 (nlt rfl) w1 (fun _ h9 => h9) rfl dX11_layShortest_9 ?_
  refine lv_iload_n hx hb dX11_layShortest_12 rfl (lv_at hl 0 rfl) ?_
  refine lv_iconst (v := 0) hx hb dX11_layShortest_13 z8 ?_
  refine my_iastS hx hb hK hP hD hS 1 1 rfl rfl z1691 rfl dX11_layShortest_14 (fun H locs hP hD hS => ?_)
  refine lv_iinc (v := 5) (lv' := [(1, .int 5), (0, .ref (n 0))]) hx hb dX11_layShortest_15 hl (k := 0) rfl z98 (nlt rfl) rfl (fun ls hl => ?_)
  refine lv_goto (tgt := 2) hx hb dX11_layShortest_18 z1684 ?_
  refine lv_iload_n hx hb dX11_layShortest_2 rfl (lv_at hl 0 rfl) ?_
  refine lv_bipush (v := 8) hx hb dX11_layShortest_3 z130 ?_
  refine lv_icmp_ge (tgt := 21) hx hb dX11_layShortest_5 z1428 (fun c1 => absurd c1 (z568)) (fun _ => ?_)
  refine lv_aload_n hx hb dX11_layShortest_8 rfl (lv_at hl 1 rfl) ?_
  refine va_get (D := (dC, dI)) (ci := 11) (v := .ref (n 38)) (C := RX11) (T := TX11) (N := 71) hx hb hts i11 hown hK hP 0 rfl rfl 60 (nlt rfl) w1 (fun _ h9 => h9) rfl dX11_layShortest_9 ?_
  refine lv_iload_n hx hb dX11_layShortest_12 rfl (lv_at hl 0 rfl) ?_
  refine lv_iconst (v := 0) hx hb dX11_layShortest_13 z8 ?_
  refine my_iastS hx hb hK hP hD hS 1 1 rfl rfl z1692 rfl dX11_layShortest_14 (fun H locs hP hD hS => ?_)
  refine lv_iinc (v := 6) (lv' := [(1, .int 6), (0, .ref (n 0))]) hx hb dX11_layShortest_15 hl (k := 0) rfl z104 (nlt rfl) rfl (fun ls hl => ?_)
  refine lv_goto (tgt := 2) hx hb dX11_layShortest_18 z1684 ?_
  refine lv_iload_n hx hb dX11_layShortest_2 rfl (lv_at hl 0 rfl) ?_
  refine lv_bipush (v := 8) hx hb dX11_layShortest_3 z130 ?_
  refine lv_icmp_ge (tgt := 21) hx hb dX11_layShortest_5 z1428 (fun c1 => absurd c1 (z574)) (fun _ => ?_)
  refine lv_aload_n hx hb dX11_layShortest_8 rfl (lv_at hl 1 rfl) ?_
  refine va_get (D := (dC, dI)) (ci := 11) (v := .ref (n 38)) (C := RX11) (T := TX11) (N := 71) hx hb hts i11 hown hK hP 0 rfl rfl 60 (nlt rfl) w1 (fun _ h9 => h9) rfl dX11_layShortest_9 ?_
  refine lv_iload_n hx hb dX11_layShortest_12 rfl (lv_at hl 0 rfl) ?_
  refine lv_iconst (v := 0) hx hb dX11_layShortest_13 z8 ?_
  refine my_iastS hx hb hK hP hD hS 1 1 rfl rfl z1693 rfl dX11_layShortest_14 (fun H locs hP hD hS => ?_)
  refine lv_iinc (v := 7) (lv' := [(1, .int 7), (0, .ref (n 0))]) hx hb dX11_layShortest_15 hl (k := 0) rfl z268 (nlt rfl) rfl (fun ls hl => ?_)
  refine lv_goto (tgt := 2) hx hb dX11_layShortest_18 z1684 ?_
  refine lv_iload_n hx hb dX11_layShortest_2 rfl (lv_at hl 0 rfl) ?_
  refine lv_bipush (v := 8) hx hb dX11_layShortest_3 z130 ?_
  refine lv_icmp_ge (tgt := 21) hx hb dX11_layShortest_5 z1428 (fun c1 => absurd c1 (z580)) (fun _ => ?_)
  refine lv_aload_n hx hb dX11_layShortest_8 rfl (lv_at hl 1 rfl) ?_
  refine va_get (D := (dC, dI)) (ci := 11) (v := .ref (n 38)) (C := RX11) (T := TX11) (N := 71) hx hb hts i11 hown hK hP 0 rfl rfl 60 (nlt rfl) w1 (fun _ h9 => h9) rfl dX11_layShortest_9 ?_
  refine lv_iload_n hx hb dX11_layShortest_12 rfl (lv_at hl 0 rfl) ?_
  refine lv_iconst (v := 0) hx hb dX11_layShortest_13 z8 ?_
  refine my_iastS hx hb hK hP hD hS 1 1 rfl rfl z1694 rfl dX11_layShortest_14 (fun H locs hP hD hS => ?_)
  refine lv_iinc (v := 8) (lv' := [(1, .int 8), (0, .ref (n 0))]) hx hb dX11_layShortest_15 hl (k := 0) rfl z271 (nlt rfl) rfl (fun ls hl => ?_)
  refine lv_goto (tgt := 2) hx hb dX11_layShortest_18 z1684 ?_
  refine lv_iload_n hx hb dX11_layShortest_2 rfl (lv_at hl 0 rfl) ?_
  refine lv_bipush (v := 8) hx hb dX11_layShortest_3 z130 ?_
  refine lv_icmp_ge (tgt := 21) hx hb dX11_layShortest_5 z1428 (fun _ => ?_) (fun c1 => absurd (z586) c1)
  refine lv_iconst (v := 1) hx hb dX11_layShortest_21 z39 ?_
  refine lv_istore_n (lv' := [(1, .int 1), (0, .ref (n 0))]) hx hb dX11_layShortest_22 rfl hl (nlt rfl) rfl (fun ls hl => ?_)
  refine lv_iload_n hx hb dX11_layShortest_23 rfl (lv_at hl 0 rfl) ?_
  refine lv_if_eq (tgt := 119) hx hb dX11_layShortest_24 z1695 (fun c1 => absurd c1 (z1273)) (fun _ => ?_)
  refine lv_iconst (v := 0) hx hb dX11_layShortest_27 z8 ?_
  refine lv_istore_n (lv' := [(1, .int 0), (0, .ref (n 0))]) hx hb dX11_layShortest_28 rfl hl (nlt rfl) rfl (fun ls hl => ?_)
  refine lv_bipush (v := 24) hx hb dX11_layShortest_29 z134 ?_
  refine lv_aload_n hx hb dX11_layShortest_31 rfl (lv_at hl 1 rfl) ?_
  refine va_get (D := (dC, dI)) (ci := 11) (v := .int 0) (C := RX11) (T := TX11) (N := 71) hx hb hts i11 hown hK hP 0 rfl rfl 29 (nlt rfl) w2 (fun _ h9 => h9) rfl dX11_layShortest_32 ?_
  refine lv_imul hx hb dX11_layShortest_35 ?_
  refine tpi z1696 ?_
  refine lv_istore_n (lv' := [(2, .int 0), (1, .int 0), (0, .ref (n 0))]) hx hb dX11_layShortest_36 rfl hl (nlt rfl) rfl (fun ls hl => ?_)
  refine lv_iload_n hx hb dX11_layShortest_37 rfl (lv_at hl 0 rfl) ?_
  refine lv_bipush (v := 24) hx hb dX11_layShortest_38 z134 ?_
  refine lv_aload_n hx hb dX11_layShortest_40 rfl (lv_at hl 2 rfl) ?_
  refine va_get (D := (dC, dI)) (ci := 11) (v := .int 0) (C := RX11) (T := TX11) (N := 71) hx hb hts i11 hown hK hP 0 rfl rfl 29 (nlt rfl) w2 (fun _ h9 => h9) rfl dX11_layShortest_41 ?_
  refine lv_imul hx hb dX11_layShortest_44 ?_
  refine tpi z1696 ?_
  refine lv_aload_n hx hb dX11_layShortest_45 rfl (lv_at hl 2 rfl) ?_
  refine va_get (D := (dC, dI)) (ci := 11) (v := .ref (n 6)) (C := RX11) (T := TX11) (N := 71) hx hb hts i11 hown hK hP 0 rfl rfl 14 (nlt rfl) w3 (fun _ h9 => h9) rfl dX11_layShortest_46 ?_
  refine lv_aload_n hx hb dX11_layShortest_49 rfl (lv_at hl 2 rfl) ?_
  refine va_get (D := (dC, dI)) (ci := 11) (v := .int 0) (C := RX11) (T := TX11) (N := 71) hx hb hts i11 hown hK hP 0 rfl rfl 29 (nlt rfl) w2 (fun _ h9 => h9) rfl dX11_layShortest_50 ?_
  refine my_iald (v := 0) hx hb hK hP 2 1 rfl rfl z248 rfl dX11_layShortest_53 ?_
  refine lv_iadd hx hb dX11_layShortest_54 ?_
  refine tpi z536 ?_
  refine lv_icmp_ge (tgt := 116) hx hb dX11_layShortest_55 z1697 (fun _ => ?_) (fun c1 => absurd (z682) c1)
  refine lv_goto (tgt := 23) hx hb dX11_layShortest_116 z1698 ?_
  refine lv_iload_n hx hb dX11_layShortest_23 rfl (lv_at hl 1 rfl) ?_
  refine lv_if_eq (tgt := 119) hx hb dX11_layShortest_24 z1695 (fun _ => ?_) (fun c1 => absurd (rfl) c1)
  refine W.widen (k := 0) (n := 0) (by decide +kernel) (by decide +kernel) ?_
  exact ret_v hx hb hr hlocks hS (u := (fun _ => 0)) (hP.sub [0, 1, 2] rfl) (hD.sub [0, 1, 2] (by decide +kernel) rfl) dX11_layShortest_119

set_option maxHeartbeats 4000000 in
set_option maxRecDepth 100000 in
theorem k283_X11_used (l : Launch) (dC : Nat → ClassId) (dI : Nat → Nat → Nat) (cB cI cJ cZ cO : ClassId) (n : Nat → Nat) : CI l yX11_used wsX11_used ({ frames := 1, cells := 0, slots := 0, locals := 24 }) (dC, dI) (tyL cB cI cJ cZ cO) [.ref (n 0)] [((n 0), .inr (11, fM n)), ((n 38), .inl (cI, 8, .inl (fun _ => 0))), ((n 6), .inl (cI, 2, .inl (fun _ => 0))), ((n 5), .inl (cI, 2, .inl (fun _ => 0)))] (fun _ => []) 0 := by
  intro sz
  refine ct_open (cc := cX11_used) (maxL := 5) (ret := (some .int)) (by decide) rfl (Nat.le_of_ble_eq_true rfl) ?_
  intro p e s m below meth c ls A hx hb hr hml hts hown hlocks hin hP hK hD hA hS hl
  have hl : lv_has ls 5 [(0, .ref (n 0))] := hl
  have hown : s.vm.findClass RX11 = some m.cls := hown
  have i11 : ∀ w ∈ u_ws RX11 TX11 71, w ∈ wsX11_used := fun _ h => List.mem_cons_of_mem _ (List.mem_append_right _ h)
  have w1 := hts (.fieldLink RX11 27 "GuildCharterModel" "rules" "[I") (List.mem_cons_of_mem _ (List.mem_append_left _ (List.mem_of_getElem? (i := 0) rfl)))
  have w2 := hts (.fieldLink RX11 233 "GuildCharterModel" "bank" "I") (List.mem_cons_of_mem _ (List.mem_append_left _ (List.mem_of_getElem? (i := 1) rfl)))
  refine lv_aload_n hx hb dX11_used_0 rfl (lv_at hl 0 rfl) ?_
  refine call_vV (ci := 11) (As := []) (rest := []) (wr := [((n 5), .inl (cI, 2, .inl (fun _ => 0)))]) ⟨hx, hb, hml, hown, hts⟩ (k282_X11_layShortest l dC dI cB cI cJ cZ cO n) (cwV 0 hts gX11_used_X11_layShortest rfl rfl rfl ⟨rfl, z1700⟩ ⟨Nat.le_of_ble_eq_true rfl, Nat.le_of_ble_eq_true rfl⟩) hK hP hD hS hA [0, 1, 2] [3] rfl rfl (by decide +kernel) (by decide +kernel) (by decide +kernel) rfl rfl rfl hl.1 (Nat.le_of_ble_eq_true rfl) rfl rfl dX11_used_1 ⟨by decide +kernel, by decide +kernel⟩ (fun u0 H locs hP hD hS => ?_)
  refine lv_aload_n hx hb dX11_used_4 rfl (lv_at hl 0 rfl) ?_
  refine va_get (D := (dC, dI)) (ci := 11) (v := .ref (n 5)) (C := RX11) (T := TX11) (N := 71) hx hb hts i11 hown hK hP 1 rfl rfl 13 (nlt rfl) w1 (fun _ h9 => h9) rfl dX11_used_5 ?_
  refine lv_aload_n hx hb dX11_used_8 rfl (lv_at hl 0 rfl) ?_
  refine va_get (D := (dC, dI)) (ci := 11) (v := .int 0) (C := RX11) (T := TX11) (N := 71) hx hb hts i11 hown hK hP 1 rfl rfl 29 (nlt rfl) w2 (fun _ h9 => h9) rfl dX11_used_9 ?_
  refine my_iald (v := 0) hx hb hK hP 0 1 rfl rfl z248 rfl dX11_used_12 ?_
  refine lv_if_eq (tgt := 25) hx hb dX11_used_13 z1699 (fun _ => ?_) (fun c1 => absurd (rfl) c1)
  refine lv_iconst (v := 0) hx hb dX11_used_25 z8 ?_
  refine W.widen (k := 0) (n := 0) (by decide +kernel) (by decide +kernel) ?_
  exact ret_i hx hb hr hlocks hS (u := (fun _ => 0)) (hP.sub [] rfl) (hD.sub [] (by decide +kernel) rfl) dX11_used_26

set_option maxHeartbeats 4000000 in
set_option maxRecDepth 100000 in
theorem k284_X10_shortest (l : Launch) (dC : Nat → ClassId) (dI : Nat → Nat → Nat) (cB cI cJ cZ cO : ClassId) (r : Nat → Nat) (x1 : Int32) (h0 : x1 < 0) : CI l yX10_shortest wsX10_shortest ({ frames := 0, cells := 0, slots := 0, locals := 0 }) (dC, dI) (tyL cB cI cJ cZ cO) [.ref (r 0), .int x1] [((r 0), .inr (10, fX r))] (fun _ => []) (-1) := by
  intro sz
  refine ct_open (cc := cX10_shortest) (maxL := 2) (ret := (some .int)) (by decide) rfl (Nat.le_of_ble_eq_true rfl) ?_
  intro p e s m below meth c ls A hx hb hr hml hts hown hlocks hin hP hK hD hA hS hl
  have hl : lv_has ls 2 [(0, .ref (r 0)), (1, .int x1)] := hl
  have hown : s.vm.findClass RX10 = some m.cls := hown
  refine lv_iload_n hx hb dX10_shortest_0 rfl (lv_at hl 1 rfl) ?_
  refine lv_if_lt (tgt := 15) hx hb dX10_shortest_1 z1451 (fun _ => ?_) (fun c1 => absurd (h0) c1)
  refine lv_iconst (v := (-1)) hx hb dX10_shortest_15 z128 ?_
  refine W.widen (k := 0) (n := 0) (by decide +kernel) (by decide +kernel) ?_
  exact ret_i hx hb hr hlocks hS (u := (fun _ => 0)) (hP.sub [] rfl) (hD.sub [] (by decide +kernel) rfl) dX10_shortest_16

set_option maxHeartbeats 4000000 in
set_option maxRecDepth 100000 in
theorem k285_X11_shortest (l : Launch) (dC : Nat → ClassId) (dI : Nat → Nat → Nat) (cB cI cJ cZ cO : ClassId) (n : Nat → Nat) (x1 : Int32) (h0 : x1 < 0) : CI l yX11_shortest wsX11_shortest ({ frames := 1, cells := 0, slots := 0, locals := 22 }) (dC, dI) (tyL cB cI cJ cZ cO) [.ref (n 0), .int x1] [((n 0), .inr (11, fM n)), ((n 5), .inl (cI, 2, .inl (fun _ => 0)))] (fun _ => []) (-1) := by
  intro sz
  refine ct_open (cc := cX11_shortest) (maxL := 2) (ret := (some .int)) (by decide) rfl (Nat.le_of_ble_eq_true rfl) ?_
  intro p e s m below meth c ls A hx hb hr hml hts hown hlocks hin hP hK hD hA hS hl
  have hl : lv_has ls 2 [(0, .ref (n 0)), (1, .int x1)] := hl
  have hown : s.vm.findClass RX11 = some m.cls := hown
  have i11 : ∀ w ∈ u_ws RX11 TX11 71, w ∈ wsX11_shortest := fun _ h => List.mem_cons_of_mem _ (List.mem_append_right _ h)
  have w1 := hts (.fieldLink RX11 27 "GuildCharterModel" "rules" "[I") (List.mem_cons_of_mem _ (List.mem_append_left _ (List.mem_of_getElem? (i := 0) rfl)))
  have w2 := hts (.fieldLink RX11 233 "GuildCharterModel" "bank" "I") (List.mem_cons_of_mem _ (List.mem_append_left _ (List.mem_of_getElem? (i := 1) rfl)))
  refine lv_iload_n hx hb dX11_shortest_0 rfl (lv_at hl 1 rfl) ?_
  refine lv_iconst (v := 0) hx hb dX11_shortest_1 z8 ?_
  refine lv_aload_n hx hb dX11_shortest_2 rfl (lv_at hl 0 rfl) ?_
  refine va_get (D := (dC, dI)) (ci := 11) (v := .ref (n 5)) (C := RX11) (T := TX11) (N := 71) hx hb hts i11 hown hK hP 0 rfl rfl 13 (nlt rfl) w1 (fun _ h9 => h9) rfl dX11_shortest_3 ?_
  refine lv_aload_n hx hb dX11_shortest_6 rfl (lv_at hl 0 rfl) ?_
  refine va_get (D := (dC, dI)) (ci := 11) (v := .int 0) (C := RX11) (T := TX11) (N := 71) hx hb hts i11 hown hK hP 0 rfl rfl 29 (nlt rfl) w2 (fun _ h9 => h9) rfl dX11_shortest_7 ?_
  refine my_iald (v := 0) hx hb hK hP 1 1 rfl rfl z248 rfl dX11_shortest_10 ?_
  refine lv_iconst (v := 1) hx hb dX11_shortest_11 z39 ?_
  refine lv_isub hx hb dX11_shortest_12 ?_
  refine tpi z1461 ?_
  refine call_iS (As := [.int x1, .int 0, .int (-1)]) (rest := []) (wr := [((n 0), .inr (11, fM n)), ((n 5), .inl (cI, 2, .inl (fun _ => 0)))]) ⟨hx, hb, hml, hown, hts⟩ (k76_X11_isIn l dC dI cB cI cJ cZ cO x1 h0) (va_cwS 3 hts gX11_shortest_X11_isIn rfl rfl rfl z1463 ⟨Nat.le_of_ble_eq_true rfl, Nat.le_of_ble_eq_true rfl⟩) hK hP hD hS hA [] [0, 1] rfl rfl (by decide +kernel) (by decide +kernel) (by decide +kernel) hl.1 (Nat.le_of_ble_eq_true rfl) rfl rfl dX11_shortest_13 ⟨by decide +kernel, by decide +kernel⟩ (fun u0 H locs hP hD hS => ?_)
  refine lv_if_ne (tgt := 21) hx hb dX11_shortest_16 z1701 (fun c1 => absurd (rfl) c1) (fun _ => ?_)
  refine lv_iconst (v := (-1)) hx hb dX11_shortest_19 z128 ?_
  refine W.widen (k := 0) (n := 0) (by decide +kernel) (by decide +kernel) ?_
  exact ret_i hx hb hr hlocks hS (u := (fun _ => 0)) (hP.sub [] rfl) (hD.sub [] (by decide +kernel) rfl) dX11_shortest_20

set_option maxHeartbeats 4000000 in
set_option maxRecDepth 100000 in
theorem k286_X10_shortest (l : Launch) (dC : Nat → ClassId) (dI : Nat → Nat → Nat) (cB cI cJ cZ cO : ClassId) (r : Nat → Nat) (x1 : Int32) (h0 : ¬ x1 < 0) : CI l yX10_shortest wsX10_shortest ({ frames := 0, cells := 0, slots := 0, locals := 0 }) (dC, dI) (tyL cB cI cJ cZ cO) [.ref (r 0), .int x1] [((r 0), .inr (10, fX r)), ((r 18), .inr (4, [.int 0, .ref (r 19), .ref (r 20), .int 0, .ref (r 21), .ref (r 22), .int 0, .ref (r 23), .ref (r 24), .int 0, .ref (r 25), .ref (r 26), .int 3, .int 0, .int 0, .ref (r 27)]))] (fun _ => []) (-1) := by
  intro sz
  refine ct_open (cc := cX10_shortest) (maxL := 2) (ret := (some .int)) (by decide) rfl (Nat.le_of_ble_eq_true rfl) ?_
  intro p e s m below meth c ls A hx hb hr hml hts hown hlocks hin hP hK hD hA hS hl
  have hl : lv_has ls 2 [(0, .ref (r 0)), (1, .int x1)] := hl
  have hown : s.vm.findClass RX10 = some m.cls := hown
  have i10 : ∀ w ∈ u_ws RX10 TX10 18, w ∈ wsX10_shortest := fun _ h => List.mem_cons_of_mem _ (List.mem_append_left _ (List.mem_append_right _ h))
  have w1 := hts (.fieldLink RX10 23 "GuildCharter" "told" "LGuildCharter$Port;") (List.mem_cons_of_mem _ (List.mem_append_left _ (List.mem_append_left _ (List.mem_of_getElem? (i := 0) rfl))))
  have i4 : ∀ w ∈ u_ws RX4 TX4 16, w ∈ wsX10_shortest := fun _ h => List.mem_cons_of_mem _ (List.mem_append_right _ h)
  have w3 := hts (.fieldLink RX10 273 "GuildCharter$Port" "rules" "I") (List.mem_cons_of_mem _ (List.mem_append_left _ (List.mem_append_left _ (List.mem_of_getElem? (i := 1) rfl))))
  refine lv_iload_n hx hb dX10_shortest_0 rfl (lv_at hl 1 rfl) ?_
  refine lv_if_lt (tgt := 15) hx hb dX10_shortest_1 z1451 (fun c1 => absurd c1 (h0)) (fun _ => ?_)
  refine lv_iload_n hx hb dX10_shortest_4 rfl (lv_at hl 1 rfl) ?_
  refine lv_aload_n hx hb dX10_shortest_5 rfl (lv_at hl 0 rfl) ?_
  refine va_get (D := (dC, dI)) (ci := 10) (v := .ref (r 18)) (C := RX10) (T := TX10) (N := 18) hx hb hts i10 hown hK hP 0 rfl rfl 3 (nlt rfl) w1 (fun _ h9 => h9) rfl dX10_shortest_6 ?_
  refine va_get (D := (dC, dI)) (ci := 4) (v := .int 0) (C := RX4) (T := TX4) (N := 16) hx hb hts i4 hown hK hP 1 rfl rfl 6 (nlt rfl) w3 (fun _ h9 => h9) rfl dX10_shortest_9 ?_
  refine lv_icmp_lt (tgt := 17) hx hb dX10_shortest_12 z1496 (fun c1 => absurd c1 (h0)) (fun _ => ?_)
  refine lv_iconst (v := (-1)) hx hb dX10_shortest_15 z128 ?_
  refine W.widen (k := 0) (n := 0) (by decide +kernel) (by decide +kernel) ?_
  exact ret_i hx hb hr hlocks hS (u := (fun _ => 0)) (hP.sub [] rfl) (hD.sub [] (by decide +kernel) rfl) dX10_shortest_16

set_option maxHeartbeats 4000000 in
set_option maxRecDepth 100000 in
theorem k287_X11_shortest (l : Launch) (dC : Nat → ClassId) (dI : Nat → Nat → Nat) (cB cI cJ cZ cO : ClassId) (n : Nat → Nat) (x1 : Int32) (h0 : ¬ x1 < 0) (h1 : (-1) < x1) : CI l yX11_shortest wsX11_shortest ({ frames := 1, cells := 0, slots := 0, locals := 22 }) (dC, dI) (tyL cB cI cJ cZ cO) [.ref (n 0), .int x1] [((n 0), .inr (11, fM n)), ((n 5), .inl (cI, 2, .inl (fun _ => 0)))] (fun _ => []) (-1) := by
  intro sz
  refine ct_open (cc := cX11_shortest) (maxL := 2) (ret := (some .int)) (by decide) rfl (Nat.le_of_ble_eq_true rfl) ?_
  intro p e s m below meth c ls A hx hb hr hml hts hown hlocks hin hP hK hD hA hS hl
  have hl : lv_has ls 2 [(0, .ref (n 0)), (1, .int x1)] := hl
  have hown : s.vm.findClass RX11 = some m.cls := hown
  have i11 : ∀ w ∈ u_ws RX11 TX11 71, w ∈ wsX11_shortest := fun _ h => List.mem_cons_of_mem _ (List.mem_append_right _ h)
  have w1 := hts (.fieldLink RX11 27 "GuildCharterModel" "rules" "[I") (List.mem_cons_of_mem _ (List.mem_append_left _ (List.mem_of_getElem? (i := 0) rfl)))
  have w2 := hts (.fieldLink RX11 233 "GuildCharterModel" "bank" "I") (List.mem_cons_of_mem _ (List.mem_append_left _ (List.mem_of_getElem? (i := 1) rfl)))
  refine lv_iload_n hx hb dX11_shortest_0 rfl (lv_at hl 1 rfl) ?_
  refine lv_iconst (v := 0) hx hb dX11_shortest_1 z8 ?_
  refine lv_aload_n hx hb dX11_shortest_2 rfl (lv_at hl 0 rfl) ?_
  refine va_get (D := (dC, dI)) (ci := 11) (v := .ref (n 5)) (C := RX11) (T := TX11) (N := 71) hx hb hts i11 hown hK hP 0 rfl rfl 13 (nlt rfl) w1 (fun _ h9 => h9) rfl dX11_shortest_3 ?_
  refine lv_aload_n hx hb dX11_shortest_6 rfl (lv_at hl 0 rfl) ?_
  refine va_get (D := (dC, dI)) (ci := 11) (v := .int 0) (C := RX11) (T := TX11) (N := 71) hx hb hts i11 hown hK hP 0 rfl rfl 29 (nlt rfl) w2 (fun _ h9 => h9) rfl dX11_shortest_7 ?_
  refine my_iald (v := 0) hx hb hK hP 1 1 rfl rfl z248 rfl dX11_shortest_10 ?_
  refine lv_iconst (v := 1) hx hb dX11_shortest_11 z39 ?_
  refine lv_isub hx hb dX11_shortest_12 ?_
  refine tpi z1461 ?_
  refine call_iS (As := [.int x1, .int 0, .int (-1)]) (rest := []) (wr := [((n 0), .inr (11, fM n)), ((n 5), .inl (cI, 2, .inl (fun _ => 0)))]) ⟨hx, hb, hml, hown, hts⟩ (k81_X11_isIn l dC dI cB cI cJ cZ cO x1 h0 h1) (va_cwS 3 hts gX11_shortest_X11_isIn rfl rfl rfl z1463 ⟨Nat.le_of_ble_eq_true rfl, Nat.le_of_ble_eq_true rfl⟩) hK hP hD hS hA [] [0, 1] rfl rfl (by decide +kernel) (by decide +kernel) (by decide +kernel) hl.1 (Nat.le_of_ble_eq_true rfl) rfl rfl dX11_shortest_13 ⟨by decide +kernel, by decide +kernel⟩ (fun u0 H locs hP hD hS => ?_)
  refine lv_if_ne (tgt := 21) hx hb dX11_shortest_16 z1701 (fun c1 => absurd (rfl) c1) (fun _ => ?_)
  refine lv_iconst (v := (-1)) hx hb dX11_shortest_19 z128 ?_
  refine W.widen (k := 0) (n := 0) (by decide +kernel) (by decide +kernel) ?_
  exact ret_i hx hb hr hlocks hS (u := (fun _ => 0)) (hP.sub [] rfl) (hD.sub [] (by decide +kernel) rfl) dX11_shortest_20

set_option maxHeartbeats 4000000 in
set_option maxRecDepth 100000 in
theorem k288_X10_growWhole (l : Launch) (dC : Nat → ClassId) (dI : Nat → Nat → Nat) (cB cI cJ cZ cO : ClassId) (r : Nat → Nat) : CR l yX10_growWhole wsX10_growWhole ({ frames := 3, cells := 0, slots := 0, locals := 78 }) (dC, dI) (tyL cB cI cJ cZ cO) [.ref (r 0)] [((r 0), .inr (10, fX r)), ((r 38), .inr (0, [.ref (r 39), .int 0, .ref (r 40), .ref (r 41), .ref (r 42), .ref (r 43), .ref (r 44), .int 0, .int 0])), ((r 65), .inr (9, [.int 0, .int 0, .ref (r 66), .ref (r 67), .ref (r 68), .ref (r 69), .int 0, .int 0, .int 0, .int 0, .int 0])), ((r 18), .inr (4, [.int 0, .ref (r 19), .ref (r 20), .int 0, .ref (r 21), .ref (r 22), .int 0, .ref (r 23), .ref (r 24), .int 0, .ref (r 25), .ref (r 26), .int 3, .int 0, .int 0, .ref (r 27)])), ((r 66), .inl (cI, 3000, .inl (fun _ => 0))), ((r 67), .inl (cI, 3000, .inl (fun _ => 0))), ((r 69), .inl (cI, 3000, .inl (fun _ => 0))), ((r 68), .inl (cI, 9000, .inl (fun _ => 0))), ((r 55), .inr (5, [.ref (r 56), .ref (r 57)]))] (fun u => [((r 0), .inr (10, fX r)), ((r 38), .inr (0, [.ref (r 39), .int 0, .ref (r 40), .ref (r 41), .ref (r 42), .ref (r 43), .ref (r 44), .int 0, .int 0])), ((r 65), .inr (9, [.int 0, .int 0, .ref (r 66), .ref (r 67), .ref (r 68), .ref (r 69), .int 3, .int 1, .int 0, .int 0, .int 0])), ((r 18), .inr (4, [.int 0, .ref (r 19), .ref (r 20), .int 0, .ref (r 21), .ref (r 22), .int 0, .ref (r 23), .ref (r 24), .int 0, .ref (r 25), .ref (r 26), .int 3, .int 0, .int 0, .ref (r 27)])), ((r 66), .inl (cI, 3000, .inl (upd (fun _ => 0) 0 (-1)))), ((r 67), .inl (cI, 3000, .inl (fun _ => 0))), ((r 69), .inl (cI, 3000, .inl (fun _ => 0))), ((r 68), .inl (cI, 9000, .inl (fun _ => 0))), ((r 55), .inr (5, [.ref (r 56), .ref (r 57)]))]) (r 65) := by
  intro sz
  refine ct_open (cc := cX10_growWhole) (maxL := 1) (ret := (some (.object "GuildCharter$Tree"))) (by decide) rfl (Nat.le_of_ble_eq_true rfl) ?_
  intro p e s m below meth c ls A hx hb hr hml hts hown hlocks hin hP hK hD hA hS hl
  have hl : lv_has ls 1 [(0, .ref (r 0))] := hl
  have hown : s.vm.findClass RX10 = some m.cls := hown
  have i10 : ∀ w ∈ u_ws RX10 TX10 18, w ∈ wsX10_growWhole := fun _ h => List.mem_cons_of_mem _ (List.mem_append_left _ (List.mem_append_left _ (List.mem_append_left _ (List.mem_append_left _ (List.mem_append_right _ h)))))
  have w1 := hts (.fieldLink RX10 68 "GuildCharter" "wholeTree" "LGuildCharter$Tree;") (List.mem_cons_of_mem _ (List.mem_append_left _ (List.mem_append_left _ (List.mem_append_left _ (List.mem_append_left _ (List.mem_append_left _ (List.mem_append_left _ (List.mem_of_getElem? (i := 0) rfl))))))))
  have w2 := hts (.fieldLink RX10 23 "GuildCharter" "told" "LGuildCharter$Port;") (List.mem_cons_of_mem _ (List.mem_append_left _ (List.mem_append_left _ (List.mem_append_left _ (List.mem_append_left _ (List.mem_append_left _ (List.mem_append_left _ (List.mem_of_getElem? (i := 1) rfl))))))))
  have w3 := hts (.fieldLink RX10 47 "GuildCharter" "reader" "LGuildCharter$Reader;") (List.mem_cons_of_mem _ (List.mem_append_left _ (List.mem_append_left _ (List.mem_append_left _ (List.mem_append_left _ (List.mem_append_left _ (List.mem_append_left _ (List.mem_of_getElem? (i := 2) rfl))))))))
  have w4 := hts (.fieldLink RX10 33 "GuildCharter" "earnest" "LGuildCharter$Earnest;") (List.mem_cons_of_mem _ (List.mem_append_left _ (List.mem_append_left _ (List.mem_append_left _ (List.mem_append_left _ (List.mem_append_left _ (List.mem_append_left _ (List.mem_of_getElem? (i := 3) rfl))))))))
  have i0 : ∀ w ∈ u_ws RX0 TX0 9, w ∈ wsX10_growWhole := fun _ h => List.mem_cons_of_mem _ (List.mem_append_left _ (List.mem_append_left _ (List.mem_append_left _ (List.mem_append_right _ h))))
  have w6 := hts (.fieldLink RX10 194 "GuildCharter$Earnest" "row" "[I") (List.mem_cons_of_mem _ (List.mem_append_left _ (List.mem_append_left _ (List.mem_append_left _ (List.mem_append_left _ (List.mem_append_left _ (List.mem_append_left _ (List.mem_of_getElem? (i := 4) rfl))))))))
  refine lv_aload_n hx hb dX10_growWhole_0 rfl (lv_at hl 0 rfl) ?_
  refine va_get (D := (dC, dI)) (ci := 10) (v := .ref (r 65)) (C := RX10) (T := TX10) (N := 18) hx hb hts i10 hown hK hP 0 rfl rfl 10 (nlt rfl) w1 (fun _ h9 => h9) rfl dX10_growWhole_1 ?_
  refine lv_aload_n hx hb dX10_growWhole_4 rfl (lv_at hl 0 rfl) ?_
  refine va_get (D := (dC, dI)) (ci := 10) (v := .ref (r 18)) (C := RX10) (T := TX10) (N := 18) hx hb hts i10 hown hK hP 0 rfl rfl 3 (nlt rfl) w2 (fun _ h9 => h9) rfl dX10_growWhole_5 ?_
  refine lv_aload_n hx hb dX10_growWhole_8 rfl (lv_at hl 0 rfl) ?_
  refine va_get (D := (dC, dI)) (ci := 10) (v := .ref (r 55)) (C := RX10) (T := TX10) (N := 18) hx hb hts i10 hown hK hP 0 rfl rfl 7 (nlt rfl) w3 (fun _ h9 => h9) rfl dX10_growWhole_9 ?_
  refine lv_aload_n hx hb dX10_growWhole_12 rfl (lv_at hl 0 rfl) ?_
  refine va_get (D := (dC, dI)) (ci := 10) (v := .ref (r 38)) (C := RX10) (T := TX10) (N := 18) hx hb hts i10 hown hK hP 0 rfl rfl 5 (nlt rfl) w4 (fun _ h9 => h9) rfl dX10_growWhole_13 ?_
  refine va_get (D := (dC, dI)) (ci := 0) (v := .ref (r 39)) (C := RX0) (T := TX0) (N := 9) hx hb hts i0 hown hK hP 1 rfl rfl 0 (nlt rfl) w6 (fun _ h9 => h9) rfl dX10_growWhole_16 ?_
  refine lv_iconst (v := 0) hx hb dX10_growWhole_19 z8 ?_
  refine lv_iconst (v := 0) hx hb dX10_growWhole_20 z8 ?_
  refine call_vV (ci := 9) (As := [.ref (r 18), .ref (r 55), .ref (r 39), .int 0, .int 0]) (rest := []) (wr := [((r 0), .inr (10, fX r)), ((r 38), .inr (0, [.ref (r 39), .int 0, .ref (r 40), .ref (r 41), .ref (r 42), .ref (r 43), .ref (r 44), .int 0, .int 0]))]) ⟨hx, hb, hml, hown, hts⟩ (k221_X9_growFrom l dC dI cB cI cJ cZ cO r) (cwV 5 hts gX10_growWhole_X9_growFrom rfl rfl rfl ⟨rfl, z1558⟩ ⟨Nat.le_of_ble_eq_true rfl, Nat.le_of_ble_eq_true rfl⟩) hK hP hD hS hA [2, 3, 4, 5, 6, 7, 8] [0, 1] rfl rfl (by decide +kernel) (by decide +kernel) (by decide +kernel) rfl rfl rfl hl.1 (Nat.le_of_ble_eq_true rfl) rfl rfl dX10_growWhole_21 ⟨by decide +kernel, by decide +kernel⟩ (fun u0 H locs hP hD hS => ?_)
  refine lv_aload_n hx hb dX10_growWhole_24 rfl (lv_at hl 0 rfl) ?_
  refine va_get (D := (dC, dI)) (ci := 10) (v := .ref (r 65)) (C := RX10) (T := TX10) (N := 18) hx hb hts i10 hown hK hP 0 rfl rfl 10 (nlt rfl) w1 (fun _ h9 => h9) rfl dX10_growWhole_25 ?_
  refine W.widen (k := 0) (n := 0) (by decide +kernel) (by decide +kernel) ?_
  exact ret_r hx hb hr hlocks hS (u := (fun _ => 0)) (hP.sub [0, 1, 2, 3, 4, 5, 6, 7, 8] rfl) (hD.sub [0, 1, 2, 3, 4, 5, 6, 7, 8] (by decide +kernel) rfl) dX10_growWhole_28

set_option maxHeartbeats 4000000 in
set_option maxRecDepth 100000 in
theorem k289_X10_doubtful (l : Launch) (dC : Nat → ClassId) (dI : Nat → Nat → Nat) (cB cI cJ cZ cO : ClassId) (r : Nat → Nat) : CI l yX10_doubtful wsX10_doubtful ({ frames := 4, cells := 0, slots := 0, locals := 98 }) (dC, dI) (tyL cB cI cJ cZ cO) [.ref (r 0)] [((r 0), .inr (10, fX r)), ((r 38), .inr (0, [.ref (r 39), .int 0, .ref (r 40), .ref (r 41), .ref (r 42), .ref (r 43), .ref (r 44), .int 0, .int 0])), ((r 65), .inr (9, [.int 0, .int 0, .ref (r 66), .ref (r 67), .ref (r 68), .ref (r 69), .int 0, .int 0, .int 0, .int 0, .int 0])), ((r 18), .inr (4, [.int 0, .ref (r 19), .ref (r 20), .int 0, .ref (r 21), .ref (r 22), .int 0, .ref (r 23), .ref (r 24), .int 0, .ref (r 25), .ref (r 26), .int 3, .int 0, .int 0, .ref (r 27)])), ((r 66), .inl (cI, 3000, .inl (fun _ => 0))), ((r 67), .inl (cI, 3000, .inl (fun _ => 0))), ((r 69), .inl (cI, 3000, .inl (fun _ => 0))), ((r 68), .inl (cI, 9000, .inl (fun _ => 0))), ((r 55), .inr (5, [.ref (r 56), .ref (r 57)]))] (fun _ => []) 0 := by
  intro sz
  refine ct_open (cc := cX10_doubtful) (maxL := 4) (ret := (some .int)) (by decide) rfl (Nat.le_of_ble_eq_true rfl) ?_
  intro p e s m below meth c ls A hx hb hr hml hts hown hlocks hin hP hK hD hA hS hl
  have hl : lv_has ls 4 [(0, .ref (r 0))] := hl
  have hown : s.vm.findClass RX10 = some m.cls := hown
  have i10 : ∀ w ∈ u_ws RX10 TX10 18, w ∈ wsX10_doubtful := fun _ h => List.mem_cons_of_mem _ (List.mem_append_left _ (List.mem_append_left _ (List.mem_append_left _ (List.mem_append_left _ (List.mem_append_left _ (List.mem_append_right _ h))))))
  have w1 := hts (.fieldLink RX10 128 "GuildCharter" "lyingSize" "I") (List.mem_cons_of_mem _ (List.mem_append_left _ (List.mem_append_left _ (List.mem_append_left _ (List.mem_append_left _ (List.mem_append_left _ (List.mem_append_left _ (List.mem_append_left _ (List.mem_of_getElem? (i := 0) rfl)))))))))
  have i9 : ∀ w ∈ u_ws RX9 TX9 11, w ∈ wsX10_doubtful := fun _ h => List.mem_cons_of_mem _ (List.mem_append_left _ (List.mem_append_left _ (List.mem_append_left _ (List.mem_append_left _ (List.mem_append_right _ h)))))
  have w3 := hts (.fieldLink RX10 279 "GuildCharter$Tree" "spent" "Z") (List.mem_cons_of_mem _ (List.mem_append_left _ (List.mem_append_left _ (List.mem_append_left _ (List.mem_append_left _ (List.mem_append_left _ (List.mem_append_left _ (List.mem_append_left _ (List.mem_of_getElem? (i := 1) rfl)))))))))
  have w4 := hts (.fieldLink RX10 282 "GuildCharter$Tree" "size" "I") (List.mem_cons_of_mem _ (List.mem_append_left _ (List.mem_append_left _ (List.mem_append_left _ (List.mem_append_left _ (List.mem_append_left _ (List.mem_append_left _ (List.mem_append_left _ (List.mem_of_getElem? (i := 2) rfl)))))))))
  refine lv_aload_n hx hb dX10_doubtful_0 rfl (lv_at hl 0 rfl) ?_
  refine lv_iconst (v := 0) hx hb dX10_doubtful_1 z8 ?_
  refine va_put (D := (dC, dI)) (ci := 10) (v := .int 0) (ty := tyX10 16) (C := RX10) (T := TX10) (N := 18) hx hb hts i10 tyX10 tyX10_ok nmX10 hown hK hP hD hS 0 rfl rfl 16 (nlt rfl) w1 (fun _ h9 => h9) rfl (tyX10_ok 16 (nlt rfl)) rfl rfl (nlt rfl) dX10_doubtful_2 (fun H locs hP hD hS => ?_)
  refine lv_aload_n hx hb dX10_doubtful_5 rfl (lv_at hl 0 rfl) ?_
  refine call_rV (ci := 10) (As := []) (rest := []) (wr := []) ⟨hx, hb, hml, hown, hts⟩ (k288_X10_growWhole l dC dI cB cI cJ cZ cO r) (cwV 0 hts gX10_doubtful_X10_growWhole rfl rfl rfl ⟨rfl, z1704⟩ ⟨Nat.le_of_ble_eq_true rfl, Nat.le_of_ble_eq_true rfl⟩) hK hP hD hS hA [0, 1, 2, 3, 4, 5, 6, 7, 8] [] rfl rfl (by decide +kernel) (by decide +kernel) (by decide +kernel) rfl rfl rfl hl.1 (Nat.le_of_ble_eq_true rfl) rfl rfl dX10_doubtful_6 ⟨by decide +kernel, by decide +kernel⟩ (fun u0 H locs hP hD hS => ?_)
  refine lv_astore_n (lv' := [(1, .ref (r 65)), (0, .ref (r 0))]) hx hb dX10_doubtful_9 rfl hl (nlt rfl) rfl (fun ls hl => ?_)
  refine lv_aload_n hx hb dX10_doubtful_10 rfl (lv_at hl 0 rfl) ?_
  refine va_get (D := (dC, dI)) (ci := 9) (v := .int 0) (C := RX9) (T := TX9) (N := 11) hx hb hts i9 hown hK hP 2 rfl rfl 1 (nlt rfl) w3 (fun _ h9 => h9) rfl dX10_doubtful_11 ?_
  refine lv_if_eq (tgt := 20) hx hb dX10_doubtful_14 z1702 (fun _ => ?_) (fun c1 => absurd (rfl) c1)
  refine lv_iconst (v := 0) hx hb dX10_doubtful_20 z8 ?_
  refine lv_istore_n (lv' := [(2, .int 0), (1, .ref (r 65)), (0, .ref (r 0))]) hx hb dX10_doubtful_21 rfl hl (nlt rfl) rfl (fun ls hl => ?_)
  refine lv_iload_n hx hb dX10_doubtful_22 rfl (lv_at hl 0 rfl) ?_
  refine lv_aload_n hx hb dX10_doubtful_23 rfl (lv_at hl 1 rfl) ?_
  refine va_get (D := (dC, dI)) (ci := 9) (v := .int 0) (C := RX9) (T := TX9) (N := 11) hx hb hts i9 hown hK hP 2 rfl rfl 0 (nlt rfl) w4 (fun _ h9 => h9) rfl dX10_doubtful_24 ?_
  refine lv_icmp_ge (tgt := 89) hx hb dX10_doubtful_27 z1703 (fun _ => ?_) (fun c1 => absurd (z682) c1)
  refine lv_iconst (v := 0) hx hb dX10_doubtful_89 z8 ?_
  refine W.widen (k := 0) (n := 0) (by decide +kernel) (by decide +kernel) ?_
  exact ret_i hx hb hr hlocks hS (u := (fun _ => 0)) (hP.sub [] rfl) (hD.sub [] (by decide +kernel) rfl) dX10_doubtful_90

set_option maxHeartbeats 4000000 in
set_option maxRecDepth 100000 in
theorem k290_X11_layFromNone (l : Launch) (dC : Nat → ClassId) (dI : Nat → Nat → Nat) (cB cI cJ cZ cO : ClassId) (n : Nat → Nat) : CI l yX11_layFromNone wsX11_layFromNone ({ frames := 4, cells := 0, slots := 0, locals := 90 }) (dC, dI) (tyL cB cI cJ cZ cO) [.ref (n 0)] [((n 0), .inr (11, fM n)), ((n 7), .inl (cI, 2, .inl (upd (fun _ => 0) 0 3))), ((n 21), .inl (cI, 6, .inl (fun _ => 0))), ((n 5), .inl (cI, 2, .inl (fun _ => 0)))] (fun u => [((n 0), .inr (11, [.ref (n 1), .ref (n 2), .int 0, .int 0, .int 0, .int (-1), .int 0, .int 0, .int 0, .int 0, .long 0, .ref (n 3), .ref (n 4), .ref (n 5), .ref (n 6), .ref (n 7), .ref (n 8), .ref (n 9), .ref (n 10), .ref (n 11), .ref (n 12), .ref (n 13), .ref (n 14), .ref (n 15), .ref (n 16), .ref (n 17), .ref (n 18), .ref (n 19), .ref (n 20), .int 0, .int 0, .ref (n 21), .ref (n 22), .ref (n 23), .ref (n 24), .ref (n 25), .ref (n 26), .ref (n 27), .ref (n 28), .int 0, .ref (n 29), .ref (n 30), .int 0, .int 0, .ref (n 31), .ref (n 32), .ref (n 33), .ref (n 34), .int 0, .int 0, .int 0, .long 1000000, .ref (n 35), .ref (n 36), .int (-1), .int 0, .int 0, .int 0, .ref (n 37), .int 0, .ref (n 38), .ref (n 39), .ref (n 40), .ref (n 41), .ref (n 42), .ref (n 43), .int 0, .int 0, .ref (n 44), .ref (n 45), .ref (n 46)])), ((n 7), .inl (cI, 2, .inl (upd (fun _ => 0) 0 3))), ((n 21), .inl (cI, 6, .inl (upd (upd (upd (fun _ => 0) 0 (-1)) 1 (-1)) 2 (-1)))), ((n 5), .inl (cI, 2, .inl (fun _ => 0)))]) 1 := by
  intro sz
  refine ct_open (cc := cX11_layFromNone) (maxL := 1) (ret := (some .boolean)) (by decide) rfl (Nat.le_of_ble_eq_true rfl) ?_
  intro p e s m below meth c ls A hx hb hr hml hts hown hlocks hin hP hK hD hA hS hl
  have hl : lv_has ls 1 [(0, .ref (n 0))] := hl
  have hown : s.vm.findClass RX11 = some m.cls := hown
  refine lv_aload_n hx hb dX11_layFromNone_0 rfl (lv_at hl 0 rfl) ?_
  refine lv_iconst (v := 0) hx hb dX11_layFromNone_1 z8 ?_
  refine lv_iconst (v := 0) hx hb dX11_layFromNone_2 z8 ?_
  refine call_iV (ci := 11) (As := [.int 0, .int 0]) (rest := []) (wr := []) ⟨hx, hb, hml, hown, hts⟩ (k232_X11_layList l dC dI cB cI cJ cZ cO n) (cwV 2 hts gX11_layFromNone_X11_layList rfl rfl rfl ⟨rfl, z1599⟩ ⟨Nat.le_of_ble_eq_true rfl, Nat.le_of_ble_eq_true rfl⟩) hK hP hD hS hA [0, 1, 2, 3] [] rfl rfl (by decide +kernel) (by decide +kernel) (by decide +kernel) rfl rfl rfl hl.1 (Nat.le_of_ble_eq_true rfl) rfl rfl dX11_layFromNone_3 ⟨by decide +kernel, by decide +kernel⟩ (fun u0 H locs hP hD hS => ?_)
  refine W.widen (k := 0) (n := 0) (by decide +kernel) (by decide +kernel) ?_
  exact ret_z hx hb hr rfl hlocks hS (u := (fun _ => 0)) (hP.sub [0, 1, 2, 3] rfl) (hD.sub [0, 1, 2, 3] (by decide +kernel) rfl) dX11_layFromNone_6

set_option maxHeartbeats 4000000 in
set_option maxRecDepth 100000 in
theorem k291_X11_doubtful (l : Launch) (dC : Nat → ClassId) (dI : Nat → Nat → Nat) (cB cI cJ cZ cO : ClassId) (n : Nat → Nat) : CI l yX11_doubtful wsX11_doubtful ({ frames := 5, cells := 0, slots := 0, locals := 110 }) (dC, dI) (tyL cB cI cJ cZ cO) [.ref (n 0)] [((n 0), .inr (11, fM n)), ((n 7), .inl (cI, 2, .inl (upd (fun _ => 0) 0 3))), ((n 21), .inl (cI, 6, .inl (fun _ => 0))), ((n 5), .inl (cI, 2, .inl (fun _ => 0)))] (fun _ => []) 0 := by
  intro sz
  refine ct_open (cc := cX11_doubtful) (maxL := 4) (ret := (some .int)) (by decide) rfl (Nat.le_of_ble_eq_true rfl) ?_
  intro p e s m below meth c ls A hx hb hr hml hts hown hlocks hin hP hK hD hA hS hl
  have hl : lv_has ls 4 [(0, .ref (n 0))] := hl
  have hown : s.vm.findClass RX11 = some m.cls := hown
  have i11 : ∀ w ∈ u_ws RX11 TX11 71, w ∈ wsX11_doubtful := fun _ h => List.mem_cons_of_mem _ (List.mem_append_right _ h)
  have w1 := hts (.fieldLink RX11 248 "GuildCharterModel" "laid" "I") (List.mem_cons_of_mem _ (List.mem_append_left _ (List.mem_append_left _ (List.mem_of_getElem? (i := 0) rfl))))
  have w2 := hts (.fieldLink RX11 390 "GuildCharterModel" "listMany" "I") (List.mem_cons_of_mem _ (List.mem_append_left _ (List.mem_append_left _ (List.mem_of_getElem? (i := 1) rfl))))
  refine lv_aload_n hx hb dX11_doubtful_0 rfl (lv_at hl 0 rfl) ?_
  refine lv_iconst (v := 0) hx hb dX11_doubtful_1 z8 ?_
  refine va_put (D := (dC, dI)) (ci := 11) (v := .int 0) (ty := tyX11 59) (C := RX11) (T := TX11) (N := 71) hx hb hts i11 tyX11 tyX11_ok nmX11 hown hK hP hD hS 0 rfl rfl 59 (nlt rfl) w1 (fun _ h9 => h9) rfl (tyX11_ok 59 (nlt rfl)) rfl rfl (nlt rfl) dX11_doubtful_2 (fun H locs hP hD hS => ?_)
  refine lv_aload_n hx hb dX11_doubtful_5 rfl (lv_at hl 0 rfl) ?_
  refine call_iV (ci := 11) (As := []) (rest := []) (wr := []) ⟨hx, hb, hml, hown, hts⟩ (k290_X11_layFromNone l dC dI cB cI cJ cZ cO n) (cwV 0 hts gX11_doubtful_X11_layFromNone rfl rfl rfl ⟨rfl, z1707⟩ ⟨Nat.le_of_ble_eq_true rfl, Nat.le_of_ble_eq_true rfl⟩) hK hP hD hS hA [0, 1, 2, 3] [] rfl rfl (by decide +kernel) (by decide +kernel) (by decide +kernel) rfl rfl rfl hl.1 (Nat.le_of_ble_eq_true rfl) rfl rfl dX11_doubtful_6 ⟨by decide +kernel, by decide +kernel⟩ (fun u0 H locs hP hD hS => ?_)
  refine lv_if_ne (tgt := 15) hx hb dX11_doubtful_9 z1705 (fun _ => ?_) (fun c1 => absurd c1 (z1273))
  refine lv_iconst (v := 0) hx hb dX11_doubtful_15 z8 ?_
  refine lv_istore_n (lv' := [(1, .int 0), (0, .ref (n 0))]) hx hb dX11_doubtful_16 rfl hl (nlt rfl) rfl (fun ls hl => ?_)
  refine lv_iload_n hx hb dX11_doubtful_17 rfl (lv_at hl 0 rfl) ?_
  refine lv_aload_n hx hb dX11_doubtful_18 rfl (lv_at hl 1 rfl) ?_
  refine va_get (D := (dC, dI)) (ci := 11) (v := .int 0) (C := RX11) (T := TX11) (N := 71) hx hb hts i11 hown hK hP 0 rfl rfl 48 (nlt rfl) w2 (fun _ h9 => h9) rfl dX11_doubtful_19 ?_
  refine lv_icmp_ge (tgt := 69) hx hb dX11_doubtful_22 z1706 (fun _ => ?_) (fun c1 => absurd (z682) c1)
  refine lv_iconst (v := 0) hx hb dX11_doubtful_69 z8 ?_
  refine W.widen (k := 0) (n := 0) (by decide +kernel) (by decide +kernel) ?_
  exact ret_i hx hb hr hlocks hS (u := (fun _ => 0)) (hP.sub [] rfl) (hD.sub [] (by decide +kernel) rfl) dX11_doubtful_70

set_option maxHeartbeats 4000000 in
set_option maxRecDepth 100000 in
theorem k292_X10_lots (l : Launch) (dC : Nat → ClassId) (dI : Nat → Nat → Nat) (cB cI cJ cZ cO : ClassId) (r : Nat → Nat) (x1 : Int32) (h0 : x1 < 0) : CI l yX10_lots wsX10_lots ({ frames := 4, cells := 0, slots := 0, locals := 98 }) (dC, dI) (tyL cB cI cJ cZ cO) [.ref (r 0), .int x1] [((r 0), .inr (10, fX r)), ((r 38), .inr (0, [.ref (r 39), .int 0, .ref (r 40), .ref (r 41), .ref (r 42), .ref (r 43), .ref (r 44), .int 0, .int 0])), ((r 65), .inr (9, [.int 0, .int 0, .ref (r 66), .ref (r 67), .ref (r 68), .ref (r 69), .int 0, .int 0, .int 0, .int 0, .int 0])), ((r 18), .inr (4, [.int 0, .ref (r 19), .ref (r 20), .int 0, .ref (r 21), .ref (r 22), .int 0, .ref (r 23), .ref (r 24), .int 0, .ref (r 25), .ref (r 26), .int 3, .int 0, .int 0, .ref (r 27)])), ((r 66), .inl (cI, 3000, .inl (fun _ => 0))), ((r 67), .inl (cI, 3000, .inl (fun _ => 0))), ((r 69), .inl (cI, 3000, .inl (fun _ => 0))), ((r 68), .inl (cI, 9000, .inl (fun _ => 0))), ((r 55), .inr (5, [.ref (r 56), .ref (r 57)]))] (fun _ => []) (-1000000) := by
  intro sz
  refine ct_open (cc := cX10_lots) (maxL := 5) (ret := (some .int)) (by decide) rfl (Nat.le_of_ble_eq_true rfl) ?_
  intro p e s m below meth c ls A hx hb hr hml hts hown hlocks hin hP hK hD hA hS hl
  have hl : lv_has ls 5 [(0, .ref (r 0)), (1, .int x1)] := hl
  have hown : s.vm.findClass RX10 = some m.cls := hown
  have w0 := hts (.constant RX10 153 (-1000000)) (List.mem_cons_of_mem _ (List.mem_append_left _ (List.mem_append_left _ (List.mem_append_left _ (List.mem_append_left _ (List.mem_append_left _ (List.mem_append_left _ (List.mem_append_left _ (List.mem_of_getElem? (i := 0) rfl)))))))))
  refine lv_aload_n hx hb dX10_lots_0 rfl (lv_at hl 0 rfl) ?_
  refine call_rV (ci := 10) (As := []) (rest := []) (wr := []) ⟨hx, hb, hml, hown, hts⟩ (k288_X10_growWhole l dC dI cB cI cJ cZ cO r) (cwV 0 hts gX10_lots_X10_growWhole rfl rfl rfl ⟨rfl, z1704⟩ ⟨Nat.le_of_ble_eq_true rfl, Nat.le_of_ble_eq_true rfl⟩) hK hP hD hS hA [0, 1, 2, 3, 4, 5, 6, 7, 8] [] rfl rfl (by decide +kernel) (by decide +kernel) (by decide +kernel) rfl rfl rfl hl.1 (Nat.le_of_ble_eq_true rfl) rfl rfl dX10_lots_1 ⟨by decide +kernel, by decide +kernel⟩ (fun u0 H locs hP hD hS => ?_)
  refine lv_astore_n (lv' := [(2, .ref (r 65)), (0, .ref (r 0)), (1, .int x1)]) hx hb dX10_lots_4 rfl hl (nlt rfl) rfl (fun ls hl => ?_)
  refine lv_iload_n hx hb dX10_lots_5 rfl (lv_at hl 2 rfl) ?_
  refine call_iS (As := [.int x1]) (rest := []) (wr := [((r 0), .inr (10, fX r)), ((r 38), .inr (0, [.ref (r 39), .int 0, .ref (r 40), .ref (r 41), .ref (r 42), .ref (r 43), .ref (r 44), .int 0, .int 0])), ((r 65), .inr (9, [.int 0, .int 0, .ref (r 66), .ref (r 67), .ref (r 68), .ref (r 69), .int 3, .int 1, .int 0, .int 0, .int 0])), ((r 18), .inr (4, [.int 0, .ref (r 19), .ref (r 20), .int 0, .ref (r 21), .ref (r 22), .int 0, .ref (r 23), .ref (r 24), .int 0, .ref (r 25), .ref (r 26), .int 3, .int 0, .int 0, .ref (r 27)])), ((r 66), .inl (cI, 3000, .inl (upd (fun _ => 0) 0 (-1)))), ((r 67), .inl (cI, 3000, .inl (fun _ => 0))), ((r 69), .inl (cI, 3000, .inl (fun _ => 0))), ((r 68), .inl (cI, 9000, .inl (fun _ => 0))), ((r 55), .inr (5, [.ref (r 56), .ref (r 57)]))]) ⟨hx, hb, hml, hown, hts⟩ (k201_X10_isGuild l dC dI cB cI cJ cZ cO x1 h0) (va_cwS 1 hts gX10_lots_X10_isGuild rfl rfl rfl z1497 ⟨Nat.le_of_ble_eq_true rfl, Nat.le_of_ble_eq_true rfl⟩) hK hP hD hS hA [] [0, 1, 2, 3, 4, 5, 6, 7, 8] rfl rfl (by decide +kernel) (by decide +kernel) (by decide +kernel) hl.1 (Nat.le_of_ble_eq_true rfl) rfl rfl dX10_lots_6 ⟨by decide +kernel, by decide +kernel⟩ (fun u1 H locs hP hD hS => ?_)
  refine lv_if_eq (tgt := 19) hx hb dX10_lots_9 z1560 (fun _ => ?_) (fun c1 => absurd (rfl) c1)
  refine lv_ldc hx hb hown w0 dX10_lots_19 ?_
  refine W.widen (k := 0) (n := 0) (by decide +kernel) (by decide +kernel) ?_
  exact ret_i hx hb hr hlocks hS (u := (fun _ => 0)) (hP.sub [] rfl) (hD.sub [] (by decide +kernel) rfl) dX10_lots_21

set_option maxHeartbeats 4000000 in
set_option maxRecDepth 100000 in
theorem k293_X11_lots (l : Launch) (dC : Nat → ClassId) (dI : Nat → Nat → Nat) (cB cI cJ cZ cO : ClassId) (n : Nat → Nat) (x1 : Int32) (h0 : x1 < 0) : CI l yX11_lots wsX11_lots ({ frames := 2, cells := 0, slots := 0, locals := 42 }) (dC, dI) (tyL cB cI cJ cZ cO) [.ref (n 0), .int x1] [((n 0), .inr (11, fM n))] (fun _ => []) (-1000000) := by
  intro sz
  refine ct_open (cc := cX11_lots) (maxL := 4) (ret := (some .int)) (by decide) rfl (Nat.le_of_ble_eq_true rfl) ?_
  intro p e s m below meth c ls A hx hb hr hml hts hown hlocks hin hP hK hD hA hS hl
  have hl : lv_has ls 4 [(0, .ref (n 0)), (1, .int x1)] := hl
  have hown : s.vm.findClass RX11 = some m.cls := hown
  have w0 := hts (.constant RX11 311 (-1000000)) (List.mem_cons_of_mem _ (List.mem_append_left _ (List.mem_append_left _ (List.mem_of_getElem? (i := 1) rfl))))
  refine lv_iload_n hx hb dX11_lots_0 rfl (lv_at hl 1 rfl) ?_
  refine call_iS (As := [.int x1]) (rest := []) (wr := [((n 0), .inr (11, fM n))]) ⟨hx, hb, hml, hown, hts⟩ (k203_X11_isGuild l dC dI cB cI cJ cZ cO x1 h0) (va_cwS 1 hts gX11_lots_X11_isGuild rfl rfl rfl z1499 ⟨Nat.le_of_ble_eq_true rfl, Nat.le_of_ble_eq_true rfl⟩) hK hP hD hS hA [] [0] rfl rfl (by decide +kernel) (by decide +kernel) (by decide +kernel) hl.1 (Nat.le_of_ble_eq_true rfl) rfl rfl dX11_lots_1 ⟨by decide +kernel, by decide +kernel⟩ (fun u0 H locs hP hD hS => ?_)
  refine lv_if_eq (tgt := 21) hx hb dX11_lots_4 z1478 (fun _ => ?_) (fun c1 => absurd (rfl) c1)
  refine lv_ldcw hx hb hown w0 dX11_lots_21 ?_
  refine W.widen (k := 0) (n := 0) (by decide +kernel) (by decide +kernel) ?_
  exact ret_i hx hb hr hlocks hS (u := (fun _ => 0)) (hP.sub [] rfl) (hD.sub [] (by decide +kernel) rfl) dX11_lots_24

set_option maxHeartbeats 4000000 in
set_option maxRecDepth 100000 in
theorem k294_X10_lots (l : Launch) (dC : Nat → ClassId) (dI : Nat → Nat → Nat) (cB cI cJ cZ cO : ClassId) (r : Nat → Nat) (x1 : Int32) (h0 : ¬ x1 < 0) (h1 : ¬ 3 ≤ x1) : CI l yX10_lots wsX10_lots ({ frames := 4, cells := 0, slots := 0, locals := 98 }) (dC, dI) (tyL cB cI cJ cZ cO) [.ref (r 0), .int x1] [((r 0), .inr (10, fX r)), ((r 38), .inr (0, [.ref (r 39), .int 0, .ref (r 40), .ref (r 41), .ref (r 42), .ref (r 43), .ref (r 44), .int 0, .int 0])), ((r 65), .inr (9, [.int 0, .int 0, .ref (r 66), .ref (r 67), .ref (r 68), .ref (r 69), .int 0, .int 0, .int 0, .int 0, .int 0])), ((r 18), .inr (4, [.int 0, .ref (r 19), .ref (r 20), .int 0, .ref (r 21), .ref (r 22), .int 0, .ref (r 23), .ref (r 24), .int 0, .ref (r 25), .ref (r 26), .int 3, .int 0, .int 0, .ref (r 27)])), ((r 66), .inl (cI, 3000, .inl (fun _ => 0))), ((r 67), .inl (cI, 3000, .inl (fun _ => 0))), ((r 69), .inl (cI, 3000, .inl (fun _ => 0))), ((r 68), .inl (cI, 9000, .inl (fun _ => 0))), ((r 55), .inr (5, [.ref (r 56), .ref (r 57)]))] (fun _ => []) (-1000000) := by
  intro sz
  refine ct_open (cc := cX10_lots) (maxL := 5) (ret := (some .int)) (by decide) rfl (Nat.le_of_ble_eq_true rfl) ?_
  intro p e s m below meth c ls A hx hb hr hml hts hown hlocks hin hP hK hD hA hS hl
  have hl : lv_has ls 5 [(0, .ref (r 0)), (1, .int x1)] := hl
  have hown : s.vm.findClass RX10 = some m.cls := hown
  have w0 := hts (.constant RX10 153 (-1000000)) (List.mem_cons_of_mem _ (List.mem_append_left _ (List.mem_append_left _ (List.mem_append_left _ (List.mem_append_left _ (List.mem_append_left _ (List.mem_append_left _ (List.mem_append_left _ (List.mem_of_getElem? (i := 0) rfl)))))))))
  refine lv_aload_n hx hb dX10_lots_0 rfl (lv_at hl 0 rfl) ?_
  refine call_rV (ci := 10) (As := []) (rest := []) (wr := []) ⟨hx, hb, hml, hown, hts⟩ (k288_X10_growWhole l dC dI cB cI cJ cZ cO r) (cwV 0 hts gX10_lots_X10_growWhole rfl rfl rfl ⟨rfl, z1704⟩ ⟨Nat.le_of_ble_eq_true rfl, Nat.le_of_ble_eq_true rfl⟩) hK hP hD hS hA [0, 1, 2, 3, 4, 5, 6, 7, 8] [] rfl rfl (by decide +kernel) (by decide +kernel) (by decide +kernel) rfl rfl rfl hl.1 (Nat.le_of_ble_eq_true rfl) rfl rfl dX10_lots_1 ⟨by decide +kernel, by decide +kernel⟩ (fun u0 H locs hP hD hS => ?_)
  refine lv_astore_n (lv' := [(2, .ref (r 65)), (0, .ref (r 0)), (1, .int x1)]) hx hb dX10_lots_4 rfl hl (nlt rfl) rfl (fun ls hl => ?_)
  refine lv_iload_n hx hb dX10_lots_5 rfl (lv_at hl 2 rfl) ?_
  refine call_iS (As := [.int x1]) (rest := []) (wr := [((r 0), .inr (10, fX r)), ((r 38), .inr (0, [.ref (r 39), .int 0, .ref (r 40), .ref (r 41), .ref (r 42), .ref (r 43), .ref (r 44), .int 0, .int 0])), ((r 65), .inr (9, [.int 0, .int 0, .ref (r 66), .ref (r 67), .ref (r 68), .ref (r 69), .int 3, .int 1, .int 0, .int 0, .int 0])), ((r 18), .inr (4, [.int 0, .ref (r 19), .ref (r 20), .int 0, .ref (r 21), .ref (r 22), .int 0, .ref (r 23), .ref (r 24), .int 0, .ref (r 25), .ref (r 26), .int 3, .int 0, .int 0, .ref (r 27)])), ((r 66), .inl (cI, 3000, .inl (upd (fun _ => 0) 0 (-1)))), ((r 67), .inl (cI, 3000, .inl (fun _ => 0))), ((r 69), .inl (cI, 3000, .inl (fun _ => 0))), ((r 68), .inl (cI, 9000, .inl (fun _ => 0))), ((r 55), .inr (5, [.ref (r 56), .ref (r 57)]))]) ⟨hx, hb, hml, hown, hts⟩ (k205_X10_isGuild l dC dI cB cI cJ cZ cO x1 h0 h1) (va_cwS 1 hts gX10_lots_X10_isGuild rfl rfl rfl z1497 ⟨Nat.le_of_ble_eq_true rfl, Nat.le_of_ble_eq_true rfl⟩) hK hP hD hS hA [] [0, 1, 2, 3, 4, 5, 6, 7, 8] rfl rfl (by decide +kernel) (by decide +kernel) (by decide +kernel) hl.1 (Nat.le_of_ble_eq_true rfl) rfl rfl dX10_lots_6 ⟨by decide +kernel, by decide +kernel⟩ (fun u1 H locs hP hD hS => ?_)
  refine lv_if_eq (tgt := 19) hx hb dX10_lots_9 z1560 (fun c1 => absurd c1 (z1273)) (fun _ => ?_)
  refine lv_aload_n hx hb dX10_lots_12 rfl (lv_at hl 0 rfl) ?_
  refine call_iV (ci := 9) (As := []) (rest := []) (wr := [((r 0), .inr (10, fX r)), ((r 38), .inr (0, [.ref (r 39), .int 0, .ref (r 40), .ref (r 41), .ref (r 42), .ref (r 43), .ref (r 44), .int 0, .int 0])), ((r 18), .inr (4, [.int 0, .ref (r 19), .ref (r 20), .int 0, .ref (r 21), .ref (r 22), .int 0, .ref (r 23), .ref (r 24), .int 0, .ref (r 25), .ref (r 26), .int 3, .int 0, .int 0, .ref (r 27)])), ((r 66), .inl (cI, 3000, .inl (upd (fun _ => 0) 0 (-1)))), ((r 67), .inl (cI, 3000, .inl (fun _ => 0))), ((r 69), .inl (cI, 3000, .inl (fun _ => 0))), ((r 68), .inl (cI, 9000, .inl (fun _ => 0))), ((r 55), .inr (5, [.ref (r 56), .ref (r 57)]))]) ⟨hx, hb, hml, hown, hts⟩ (k225_X9_hasCharters l dC dI cB cI cJ cZ cO r) (cwV 0 hts gX10_lots_X9_hasCharters rfl rfl rfl ⟨rfl, z1564⟩ ⟨Nat.le_of_ble_eq_true rfl, Nat.le_of_ble_eq_true rfl⟩) hK hP hD hS hA [2] [0, 1, 3, 4, 5, 6, 7, 8] rfl rfl (by decide +kernel) (by decide +kernel) (by decide +kernel) rfl rfl rfl hl.1 (Nat.le_of_ble_eq_true rfl) rfl rfl dX10_lots_13 ⟨by decide +kernel, by decide +kernel⟩ (fun u2 H locs hP hD hS => ?_)
  refine lv_if_ne (tgt := 22) hx hb dX10_lots_16 z1635 (fun c1 => absurd (rfl) c1) (fun _ => ?_)
  refine lv_ldc hx hb hown w0 dX10_lots_19 ?_
  refine W.widen (k := 0) (n := 0) (by decide +kernel) (by decide +kernel) ?_
  exact ret_i hx hb hr hlocks hS (u := (fun _ => 0)) (hP.sub [] rfl) (hD.sub [] (by decide +kernel) rfl) dX10_lots_21

set_option maxHeartbeats 4000000 in
set_option maxRecDepth 100000 in
theorem k295_X11_lots (l : Launch) (dC : Nat → ClassId) (dI : Nat → Nat → Nat) (cB cI cJ cZ cO : ClassId) (n : Nat → Nat) (x1 : Int32) (h0 : ¬ x1 < 0) (h1 : ¬ 2 < x1) : CI l yX11_lots wsX11_lots ({ frames := 5, cells := 0, slots := 0, locals := 110 }) (dC, dI) (tyL cB cI cJ cZ cO) [.ref (n 0), .int x1] [((n 0), .inr (11, fM n)), ((n 7), .inl (cI, 2, .inl (upd (fun _ => 0) 0 3))), ((n 21), .inl (cI, 6, .inl (fun _ => 0))), ((n 5), .inl (cI, 2, .inl (fun _ => 0)))] (fun _ => []) (-1000000) := by
  intro sz
  refine ct_open (cc := cX11_lots) (maxL := 4) (ret := (some .int)) (by decide) rfl (Nat.le_of_ble_eq_true rfl) ?_
  intro p e s m below meth c ls A hx hb hr hml hts hown hlocks hin hP hK hD hA hS hl
  have hl : lv_has ls 4 [(0, .ref (n 0)), (1, .int x1)] := hl
  have hown : s.vm.findClass RX11 = some m.cls := hown
  have i11 : ∀ w ∈ u_ws RX11 TX11 71, w ∈ wsX11_lots := fun _ h => List.mem_cons_of_mem _ (List.mem_append_right _ h)
  have w1 := hts (.fieldLink RX11 390 "GuildCharterModel" "listMany" "I") (List.mem_cons_of_mem _ (List.mem_append_left _ (List.mem_append_left _ (List.mem_of_getElem? (i := 0) rfl))))
  have w2 := hts (.constant RX11 311 (-1000000)) (List.mem_cons_of_mem _ (List.mem_append_left _ (List.mem_append_left _ (List.mem_of_getElem? (i := 1) rfl))))
  refine lv_iload_n hx hb dX11_lots_0 rfl (lv_at hl 1 rfl) ?_
  refine call_iS (As := [.int x1]) (rest := []) (wr := [((n 0), .inr (11, fM n)), ((n 7), .inl (cI, 2, .inl (upd (fun _ => 0) 0 3))), ((n 21), .inl (cI, 6, .inl (fun _ => 0))), ((n 5), .inl (cI, 2, .inl (fun _ => 0)))]) ⟨hx, hb, hml, hown, hts⟩ (k209_X11_isGuild l dC dI cB cI cJ cZ cO x1 h0 h1) (va_cwS 1 hts gX11_lots_X11_isGuild rfl rfl rfl z1499 ⟨Nat.le_of_ble_eq_true rfl, Nat.le_of_ble_eq_true rfl⟩) hK hP hD hS hA [] [0, 1, 2, 3] rfl rfl (by decide +kernel) (by decide +kernel) (by decide +kernel) hl.1 (Nat.le_of_ble_eq_true rfl) rfl rfl dX11_lots_1 ⟨by decide +kernel, by decide +kernel⟩ (fun u0 H locs hP hD hS => ?_)
  refine lv_if_eq (tgt := 21) hx hb dX11_lots_4 z1478 (fun c1 => absurd c1 (z1273)) (fun _ => ?_)
  refine lv_aload_n hx hb dX11_lots_7 rfl (lv_at hl 0 rfl) ?_
  refine call_iV (ci := 11) (As := []) (rest := []) (wr := []) ⟨hx, hb, hml, hown, hts⟩ (k290_X11_layFromNone l dC dI cB cI cJ cZ cO n) (cwV 0 hts gX11_lots_X11_layFromNone rfl rfl rfl ⟨rfl, z1707⟩ ⟨Nat.le_of_ble_eq_true rfl, Nat.le_of_ble_eq_true rfl⟩) hK hP hD hS hA [0, 1, 2, 3] [] rfl rfl (by decide +kernel) (by decide +kernel) (by decide +kernel) rfl rfl rfl hl.1 (Nat.le_of_ble_eq_true rfl) rfl rfl dX11_lots_8 ⟨by decide +kernel, by decide +kernel⟩ (fun u1 H locs hP hD hS => ?_)
  refine lv_if_eq (tgt := 21) hx hb dX11_lots_11 z1708 (fun c1 => absurd c1 (z1273)) (fun _ => ?_)
  refine lv_aload_n hx hb dX11_lots_14 rfl (lv_at hl 0 rfl) ?_
  refine va_get (D := (dC, dI)) (ci := 11) (v := .int 0) (C := RX11) (T := TX11) (N := 71) hx hb hts i11 hown hK hP 0 rfl rfl 48 (nlt rfl) w1 (fun _ h9 => h9) rfl dX11_lots_15 ?_
  refine lv_if_ne (tgt := 25) hx hb dX11_lots_18 z1709 (fun c1 => absurd (rfl) c1) (fun _ => ?_)
  refine lv_ldcw hx hb hown w2 dX11_lots_21 ?_
  refine W.widen (k := 0) (n := 0) (by decide +kernel) (by decide +kernel) ?_
  exact ret_i hx hb hr hlocks hS (u := (fun _ => 0)) (hP.sub [] rfl) (hD.sub [] (by decide +kernel) rfl) dX11_lots_24

set_option maxHeartbeats 4000000 in
set_option maxRecDepth 100000 in
theorem k296_X10_lots (l : Launch) (dC : Nat → ClassId) (dI : Nat → Nat → Nat) (cB cI cJ cZ cO : ClassId) (r : Nat → Nat) (x1 : Int32) (h0 : ¬ x1 < 0) (h1 : 3 ≤ x1) : CI l yX10_lots wsX10_lots ({ frames := 4, cells := 0, slots := 0, locals := 98 }) (dC, dI) (tyL cB cI cJ cZ cO) [.ref (r 0), .int x1] [((r 0), .inr (10, fX r)), ((r 38), .inr (0, [.ref (r 39), .int 0, .ref (r 40), .ref (r 41), .ref (r 42), .ref (r 43), .ref (r 44), .int 0, .int 0])), ((r 65), .inr (9, [.int 0, .int 0, .ref (r 66), .ref (r 67), .ref (r 68), .ref (r 69), .int 0, .int 0, .int 0, .int 0, .int 0])), ((r 18), .inr (4, [.int 0, .ref (r 19), .ref (r 20), .int 0, .ref (r 21), .ref (r 22), .int 0, .ref (r 23), .ref (r 24), .int 0, .ref (r 25), .ref (r 26), .int 3, .int 0, .int 0, .ref (r 27)])), ((r 66), .inl (cI, 3000, .inl (fun _ => 0))), ((r 67), .inl (cI, 3000, .inl (fun _ => 0))), ((r 69), .inl (cI, 3000, .inl (fun _ => 0))), ((r 68), .inl (cI, 9000, .inl (fun _ => 0))), ((r 55), .inr (5, [.ref (r 56), .ref (r 57)]))] (fun _ => []) (-1000000) := by
  intro sz
  refine ct_open (cc := cX10_lots) (maxL := 5) (ret := (some .int)) (by decide) rfl (Nat.le_of_ble_eq_true rfl) ?_
  intro p e s m below meth c ls A hx hb hr hml hts hown hlocks hin hP hK hD hA hS hl
  have hl : lv_has ls 5 [(0, .ref (r 0)), (1, .int x1)] := hl
  have hown : s.vm.findClass RX10 = some m.cls := hown
  have w0 := hts (.constant RX10 153 (-1000000)) (List.mem_cons_of_mem _ (List.mem_append_left _ (List.mem_append_left _ (List.mem_append_left _ (List.mem_append_left _ (List.mem_append_left _ (List.mem_append_left _ (List.mem_append_left _ (List.mem_of_getElem? (i := 0) rfl)))))))))
  refine lv_aload_n hx hb dX10_lots_0 rfl (lv_at hl 0 rfl) ?_
  refine call_rV (ci := 10) (As := []) (rest := []) (wr := []) ⟨hx, hb, hml, hown, hts⟩ (k288_X10_growWhole l dC dI cB cI cJ cZ cO r) (cwV 0 hts gX10_lots_X10_growWhole rfl rfl rfl ⟨rfl, z1704⟩ ⟨Nat.le_of_ble_eq_true rfl, Nat.le_of_ble_eq_true rfl⟩) hK hP hD hS hA [0, 1, 2, 3, 4, 5, 6, 7, 8] [] rfl rfl (by decide +kernel) (by decide +kernel) (by decide +kernel) rfl rfl rfl hl.1 (Nat.le_of_ble_eq_true rfl) rfl rfl dX10_lots_1 ⟨by decide +kernel, by decide +kernel⟩ (fun u0 H locs hP hD hS => ?_)
  refine lv_astore_n (lv' := [(2, .ref (r 65)), (0, .ref (r 0)), (1, .int x1)]) hx hb dX10_lots_4 rfl hl (nlt rfl) rfl (fun ls hl => ?_)
  refine lv_iload_n hx hb dX10_lots_5 rfl (lv_at hl 2 rfl) ?_
  refine call_iS (As := [.int x1]) (rest := []) (wr := [((r 0), .inr (10, fX r)), ((r 38), .inr (0, [.ref (r 39), .int 0, .ref (r 40), .ref (r 41), .ref (r 42), .ref (r 43), .ref (r 44), .int 0, .int 0])), ((r 65), .inr (9, [.int 0, .int 0, .ref (r 66), .ref (r 67), .ref (r 68), .ref (r 69), .int 3, .int 1, .int 0, .int 0, .int 0])), ((r 18), .inr (4, [.int 0, .ref (r 19), .ref (r 20), .int 0, .ref (r 21), .ref (r 22), .int 0, .ref (r 23), .ref (r 24), .int 0, .ref (r 25), .ref (r 26), .int 3, .int 0, .int 0, .ref (r 27)])), ((r 66), .inl (cI, 3000, .inl (upd (fun _ => 0) 0 (-1)))), ((r 67), .inl (cI, 3000, .inl (fun _ => 0))), ((r 69), .inl (cI, 3000, .inl (fun _ => 0))), ((r 68), .inl (cI, 9000, .inl (fun _ => 0))), ((r 55), .inr (5, [.ref (r 56), .ref (r 57)]))]) ⟨hx, hb, hml, hown, hts⟩ (k212_X10_isGuild l dC dI cB cI cJ cZ cO x1 h0 h1) (va_cwS 1 hts gX10_lots_X10_isGuild rfl rfl rfl z1497 ⟨Nat.le_of_ble_eq_true rfl, Nat.le_of_ble_eq_true rfl⟩) hK hP hD hS hA [] [0, 1, 2, 3, 4, 5, 6, 7, 8] rfl rfl (by decide +kernel) (by decide +kernel) (by decide +kernel) hl.1 (Nat.le_of_ble_eq_true rfl) rfl rfl dX10_lots_6 ⟨by decide +kernel, by decide +kernel⟩ (fun u1 H locs hP hD hS => ?_)
  refine lv_if_eq (tgt := 19) hx hb dX10_lots_9 z1560 (fun _ => ?_) (fun c1 => absurd (rfl) c1)
  refine lv_ldc hx hb hown w0 dX10_lots_19 ?_
  refine W.widen (k := 0) (n := 0) (by decide +kernel) (by decide +kernel) ?_
  exact ret_i hx hb hr hlocks hS (u := (fun _ => 0)) (hP.sub [] rfl) (hD.sub [] (by decide +kernel) rfl) dX10_lots_21

set_option maxHeartbeats 4000000 in
set_option maxRecDepth 100000 in
theorem k297_X11_lots (l : Launch) (dC : Nat → ClassId) (dI : Nat → Nat → Nat) (cB cI cJ cZ cO : ClassId) (n : Nat → Nat) (x1 : Int32) (h0 : ¬ x1 < 0) (h1 : 2 < x1) : CI l yX11_lots wsX11_lots ({ frames := 2, cells := 0, slots := 0, locals := 42 }) (dC, dI) (tyL cB cI cJ cZ cO) [.ref (n 0), .int x1] [((n 0), .inr (11, fM n))] (fun _ => []) (-1000000) := by
  intro sz
  refine ct_open (cc := cX11_lots) (maxL := 4) (ret := (some .int)) (by decide) rfl (Nat.le_of_ble_eq_true rfl) ?_
  intro p e s m below meth c ls A hx hb hr hml hts hown hlocks hin hP hK hD hA hS hl
  have hl : lv_has ls 4 [(0, .ref (n 0)), (1, .int x1)] := hl
  have hown : s.vm.findClass RX11 = some m.cls := hown
  have w0 := hts (.constant RX11 311 (-1000000)) (List.mem_cons_of_mem _ (List.mem_append_left _ (List.mem_append_left _ (List.mem_of_getElem? (i := 1) rfl))))
  refine lv_iload_n hx hb dX11_lots_0 rfl (lv_at hl 1 rfl) ?_
  refine call_iS (As := [.int x1]) (rest := []) (wr := [((n 0), .inr (11, fM n))]) ⟨hx, hb, hml, hown, hts⟩ (k214_X11_isGuild l dC dI cB cI cJ cZ cO x1 h0 h1) (va_cwS 1 hts gX11_lots_X11_isGuild rfl rfl rfl z1499 ⟨Nat.le_of_ble_eq_true rfl, Nat.le_of_ble_eq_true rfl⟩) hK hP hD hS hA [] [0] rfl rfl (by decide +kernel) (by decide +kernel) (by decide +kernel) hl.1 (Nat.le_of_ble_eq_true rfl) rfl rfl dX11_lots_1 ⟨by decide +kernel, by decide +kernel⟩ (fun u0 H locs hP hD hS => ?_)
  refine lv_if_eq (tgt := 21) hx hb dX11_lots_4 z1478 (fun _ => ?_) (fun c1 => absurd (rfl) c1)
  refine lv_ldcw hx hb hown w0 dX11_lots_21 ?_
  refine W.widen (k := 0) (n := 0) (by decide +kernel) (by decide +kernel) ?_
  exact ret_i hx hb hr hlocks hS (u := (fun _ => 0)) (hP.sub [] rfl) (hD.sub [] (by decide +kernel) rfl) dX11_lots_24

set_option maxHeartbeats 4000000 in
set_option maxRecDepth 100000 in
theorem k298_X10_hole (l : Launch) (dC : Nat → ClassId) (dI : Nat → Nat → Nat) (cB cI cJ cZ cO : ClassId) (r : Nat → Nat) (x1 : Int32) (x2 : Int32) (h0 : x1 < 0) : CI l yX10_hole wsX10_hole ({ frames := 1, cells := 0, slots := 0, locals := 21 }) (dC, dI) (tyL cB cI cJ cZ cO) [.ref (r 0), .int x1, .int x2] [((r 0), .inr (10, fX r)), ((r 18), .inr (4, [.int 0, .ref (r 19), .ref (r 20), .int 0, .ref (r 21), .ref (r 22), .int 0, .ref (r 23), .ref (r 24), .int 0, .ref (r 25), .ref (r 26), .int 3, .int 0, .int 0, .ref (r 27)]))] (fun _ => []) 0 := by
  intro sz
  refine ct_open (cc := cX10_hole) (maxL := 4) (ret := (some .boolean)) (by decide) rfl (Nat.le_of_ble_eq_true rfl) ?_
  intro p e s m below meth c ls A hx hb hr hml hts hown hlocks hin hP hK hD hA hS hl
  have hl : lv_has ls 4 [(0, .ref (r 0)), (1, .int x1), (2, .int x2)] := hl
  have hown : s.vm.findClass RX10 = some m.cls := hown
  have i10 : ∀ w ∈ u_ws RX10 TX10 18, w ∈ wsX10_hole := fun _ h => List.mem_cons_of_mem _ (List.mem_append_left _ (List.mem_append_right _ h))
  have w1 := hts (.fieldLink RX10 23 "GuildCharter" "told" "LGuildCharter$Port;") (List.mem_cons_of_mem _ (List.mem_append_left _ (List.mem_append_left _ (List.mem_of_getElem? (i := 0) rfl))))
  refine lv_aload_n hx hb dX10_hole_0 rfl (lv_at hl 0 rfl) ?_
  refine va_get (D := (dC, dI)) (ci := 10) (v := .ref (r 18)) (C := RX10) (T := TX10) (N := 18) hx hb hts i10 hown hK hP 0 rfl rfl 3 (nlt rfl) w1 (fun _ h9 => h9) rfl dX10_hole_1 ?_
  refine lv_iload_n hx hb dX10_hole_4 rfl (lv_at hl 1 rfl) ?_
  refine call_iV (ci := 4) (As := [.int x1]) (rest := []) (wr := [((r 0), .inr (10, fX r))]) ⟨hx, hb, hml, hown, hts⟩ (k88_X4_hasPlace l dC dI cB cI cJ cZ cO r x1 h0) (cwV 1 hts gX10_hole_X4_hasPlace rfl rfl rfl ⟨rfl, z1471⟩ ⟨Nat.le_of_ble_eq_true rfl, Nat.le_of_ble_eq_true rfl⟩) hK hP hD hS hA [1] [0] rfl rfl (by decide +kernel) (by decide +kernel) (by decide +kernel) rfl rfl rfl hl.1 (Nat.le_of_ble_eq_true rfl) rfl rfl dX10_hole_5 ⟨by decide +kernel, by decide +kernel⟩ (fun u0 H locs hP hD hS => ?_)
  refine lv_if_eq (tgt := 27) hx hb dX10_hole_8 z1710 (fun _ => ?_) (fun c1 => absurd (rfl) c1)
  refine lv_iconst (v := 0) hx hb dX10_hole_27 z8 ?_
  refine W.widen (k := 0) (n := 0) (by decide +kernel) (by decide +kernel) ?_
  exact ret_z hx hb hr rfl hlocks hS (u := (fun _ => 0)) (hP.sub [] rfl) (hD.sub [] (by decide +kernel) rfl) dX10_hole_28

set_option maxHeartbeats 4000000 in
set_option maxRecDepth 100000 in
theorem k299_X11_hole (l : Launch) (dC : Nat → ClassId) (dI : Nat → Nat → Nat) (cB cI cJ cZ cO : ClassId) (n : Nat → Nat) (x1 : Int32) (x2 : Int32) (h0 : x1 < 0) : CI l yX11_hole wsX11_hole ({ frames := 2, cells := 0, slots := 0, locals := 43 }) (dC, dI) (tyL cB cI cJ cZ cO) [.ref (n 0), .int x1, .int x2] [((n 0), .inr (11, fM n)), ((n 7), .inl (cI, 2, .inl (upd (fun _ => 0) 0 3)))] (fun _ => []) 0 := by
  intro sz
  refine ct_open (cc := cX11_hole) (maxL := 3) (ret := (some .boolean)) (by decide) rfl (Nat.le_of_ble_eq_true rfl) ?_
  intro p e s m below meth c ls A hx hb hr hml hts hown hlocks hin hP hK hD hA hS hl
  have hl : lv_has ls 3 [(0, .ref (n 0)), (1, .int x1), (2, .int x2)] := hl
  have hown : s.vm.findClass RX11 = some m.cls := hown
  refine lv_aload_n hx hb dX11_hole_0 rfl (lv_at hl 0 rfl) ?_
  refine lv_iload_n hx hb dX11_hole_1 rfl (lv_at hl 1 rfl) ?_
  refine call_iV (ci := 11) (As := [.int x1]) (rest := []) (wr := []) ⟨hx, hb, hml, hown, hts⟩ (k92_X11_isPlace l dC dI cB cI cJ cZ cO n x1 h0) (cwV 1 hts gX11_hole_X11_isPlace rfl rfl rfl ⟨rfl, z1475⟩ ⟨Nat.le_of_ble_eq_true rfl, Nat.le_of_ble_eq_true rfl⟩) hK hP hD hS hA [0, 1] [] rfl rfl (by decide +kernel) (by decide +kernel) (by decide +kernel) rfl rfl rfl hl.1 (Nat.le_of_ble_eq_true rfl) rfl rfl dX11_hole_2 ⟨by decide +kernel, by decide +kernel⟩ (fun u0 H locs hP hD hS => ?_)
  refine lv_if_eq (tgt := 21) hx hb dX11_hole_5 z1428 (fun _ => ?_) (fun c1 => absurd (rfl) c1)
  refine lv_iconst (v := 0) hx hb dX11_hole_21 z8 ?_
  refine W.widen (k := 0) (n := 0) (by decide +kernel) (by decide +kernel) ?_
  exact ret_z hx hb hr rfl hlocks hS (u := (fun _ => 0)) (hP.sub [] rfl) (hD.sub [] (by decide +kernel) rfl) dX11_hole_22

set_option maxHeartbeats 4000000 in
set_option maxRecDepth 100000 in
theorem k300_X10_hole (l : Launch) (dC : Nat → ClassId) (dI : Nat → Nat → Nat) (cB cI cJ cZ cO : ClassId) (r : Nat → Nat) (x1 : Int32) (x2 : Int32) (h0 : ¬ x1 < 0) (h1 : 3 ≤ x1) : CI l yX10_hole wsX10_hole ({ frames := 1, cells := 0, slots := 0, locals := 21 }) (dC, dI) (tyL cB cI cJ cZ cO) [.ref (r 0), .int x1, .int x2] [((r 0), .inr (10, fX r)), ((r 18), .inr (4, [.int 0, .ref (r 19), .ref (r 20), .int 0, .ref (r 21), .ref (r 22), .int 0, .ref (r 23), .ref (r 24), .int 0, .ref (r 25), .ref (r 26), .int 3, .int 0, .int 0, .ref (r 27)]))] (fun _ => []) 0 := by
  intro sz
  refine ct_open (cc := cX10_hole) (maxL := 4) (ret := (some .boolean)) (by decide) rfl (Nat.le_of_ble_eq_true rfl) ?_
  intro p e s m below meth c ls A hx hb hr hml hts hown hlocks hin hP hK hD hA hS hl
  have hl : lv_has ls 4 [(0, .ref (r 0)), (1, .int x1), (2, .int x2)] := hl
  have hown : s.vm.findClass RX10 = some m.cls := hown
  have i10 : ∀ w ∈ u_ws RX10 TX10 18, w ∈ wsX10_hole := fun _ h => List.mem_cons_of_mem _ (List.mem_append_left _ (List.mem_append_right _ h))
  have w1 := hts (.fieldLink RX10 23 "GuildCharter" "told" "LGuildCharter$Port;") (List.mem_cons_of_mem _ (List.mem_append_left _ (List.mem_append_left _ (List.mem_of_getElem? (i := 0) rfl))))
  refine lv_aload_n hx hb dX10_hole_0 rfl (lv_at hl 0 rfl) ?_
  refine va_get (D := (dC, dI)) (ci := 10) (v := .ref (r 18)) (C := RX10) (T := TX10) (N := 18) hx hb hts i10 hown hK hP 0 rfl rfl 3 (nlt rfl) w1 (fun _ h9 => h9) rfl dX10_hole_1 ?_
  refine lv_iload_n hx hb dX10_hole_4 rfl (lv_at hl 1 rfl) ?_
  refine call_iV (ci := 4) (As := [.int x1]) (rest := []) (wr := [((r 0), .inr (10, fX r))]) ⟨hx, hb, hml, hown, hts⟩ (k115_X4_hasPlace l dC dI cB cI cJ cZ cO r x1 h0 h1) (cwV 1 hts gX10_hole_X4_hasPlace rfl rfl rfl ⟨rfl, z1471⟩ ⟨Nat.le_of_ble_eq_true rfl, Nat.le_of_ble_eq_true rfl⟩) hK hP hD hS hA [1] [0] rfl rfl (by decide +kernel) (by decide +kernel) (by decide +kernel) rfl rfl rfl hl.1 (Nat.le_of_ble_eq_true rfl) rfl rfl dX10_hole_5 ⟨by decide +kernel, by decide +kernel⟩ (fun u0 H locs hP hD hS => ?_)
  refine lv_if_eq (tgt := 27) hx hb dX10_hole_8 z1710 (fun _ => ?_) (fun c1 => absurd (rfl) c1)
  refine lv_iconst (v := 0) hx hb dX10_hole_27 z8 ?_
  refine W.widen (k := 0) (n := 0) (by decide +kernel) (by decide +kernel) ?_
  exact ret_z hx hb hr rfl hlocks hS (u := (fun _ => 0)) (hP.sub [] rfl) (hD.sub [] (by decide +kernel) rfl) dX10_hole_28

set_option maxHeartbeats 4000000 in
set_option maxRecDepth 100000 in
theorem k301_X11_hole (l : Launch) (dC : Nat → ClassId) (dI : Nat → Nat → Nat) (cB cI cJ cZ cO : ClassId) (n : Nat → Nat) (x1 : Int32) (x2 : Int32) (h0 : ¬ x1 < 0) (h1 : 2 < x1) : CI l yX11_hole wsX11_hole ({ frames := 2, cells := 0, slots := 0, locals := 43 }) (dC, dI) (tyL cB cI cJ cZ cO) [.ref (n 0), .int x1, .int x2] [((n 0), .inr (11, fM n)), ((n 7), .inl (cI, 2, .inl (upd (fun _ => 0) 0 3)))] (fun _ => []) 0 := by
  intro sz
  refine ct_open (cc := cX11_hole) (maxL := 3) (ret := (some .boolean)) (by decide) rfl (Nat.le_of_ble_eq_true rfl) ?_
  intro p e s m below meth c ls A hx hb hr hml hts hown hlocks hin hP hK hD hA hS hl
  have hl : lv_has ls 3 [(0, .ref (n 0)), (1, .int x1), (2, .int x2)] := hl
  have hown : s.vm.findClass RX11 = some m.cls := hown
  refine lv_aload_n hx hb dX11_hole_0 rfl (lv_at hl 0 rfl) ?_
  refine lv_iload_n hx hb dX11_hole_1 rfl (lv_at hl 1 rfl) ?_
  refine call_iV (ci := 11) (As := [.int x1]) (rest := []) (wr := []) ⟨hx, hb, hml, hown, hts⟩ (k118_X11_isPlace l dC dI cB cI cJ cZ cO n x1 h0 h1) (cwV 1 hts gX11_hole_X11_isPlace rfl rfl rfl ⟨rfl, z1475⟩ ⟨Nat.le_of_ble_eq_true rfl, Nat.le_of_ble_eq_true rfl⟩) hK hP hD hS hA [0, 1] [] rfl rfl (by decide +kernel) (by decide +kernel) (by decide +kernel) rfl rfl rfl hl.1 (Nat.le_of_ble_eq_true rfl) rfl rfl dX11_hole_2 ⟨by decide +kernel, by decide +kernel⟩ (fun u0 H locs hP hD hS => ?_)
  refine lv_if_eq (tgt := 21) hx hb dX11_hole_5 z1428 (fun _ => ?_) (fun c1 => absurd (rfl) c1)
  refine lv_iconst (v := 0) hx hb dX11_hole_21 z8 ?_
  refine W.widen (k := 0) (n := 0) (by decide +kernel) (by decide +kernel) ?_
  exact ret_z hx hb hr rfl hlocks hS (u := (fun _ => 0)) (hP.sub [] rfl) (hD.sub [] (by decide +kernel) rfl) dX11_hole_22

set_option maxHeartbeats 4000000 in
set_option maxRecDepth 100000 in
theorem k302_X10_hole (l : Launch) (dC : Nat → ClassId) (dI : Nat → Nat → Nat) (cB cI cJ cZ cO : ClassId) (r : Nat → Nat) (x2 : Int32) (h0 : ¬ x2 = (-1)) (h1 : x2 < 0) : CI l yX10_hole wsX10_hole ({ frames := 1, cells := 0, slots := 0, locals := 21 }) (dC, dI) (tyL cB cI cJ cZ cO) [.ref (r 0), .int 0, .int x2] [((r 0), .inr (10, fX r)), ((r 18), .inr (4, [.int 0, .ref (r 19), .ref (r 20), .int 0, .ref (r 21), .ref (r 22), .int 0, .ref (r 23), .ref (r 24), .int 0, .ref (r 25), .ref (r 26), .int 3, .int 0, .int 0, .ref (r 27)]))] (fun _ => []) 0 := by
  intro sz
  refine ct_open (cc := cX10_hole) (maxL := 4) (ret := (some .boolean)) (by decide) rfl (Nat.le_of_ble_eq_true rfl) ?_
  intro p e s m below meth c ls A hx hb hr hml hts hown hlocks hin hP hK hD hA hS hl
  have hl : lv_has ls 4 [(0, .ref (r 0)), (1, .int 0), (2, .int x2)] := hl
  have hown : s.vm.findClass RX10 = some m.cls := hown
  have i10 : ∀ w ∈ u_ws RX10 TX10 18, w ∈ wsX10_hole := fun _ h => List.mem_cons_of_mem _ (List.mem_append_left _ (List.mem_append_right _ h))
  have w1 := hts (.fieldLink RX10 23 "GuildCharter" "told" "LGuildCharter$Port;") (List.mem_cons_of_mem _ (List.mem_append_left _ (List.mem_append_left _ (List.mem_of_getElem? (i := 0) rfl))))
  refine lv_aload_n hx hb dX10_hole_0 rfl (lv_at hl 0 rfl) ?_
  refine va_get (D := (dC, dI)) (ci := 10) (v := .ref (r 18)) (C := RX10) (T := TX10) (N := 18) hx hb hts i10 hown hK hP 0 rfl rfl 3 (nlt rfl) w1 (fun _ h9 => h9) rfl dX10_hole_1 ?_
  refine lv_iload_n hx hb dX10_hole_4 rfl (lv_at hl 1 rfl) ?_
  refine call_iV (ci := 4) (As := [.int 0]) (rest := []) (wr := [((r 0), .inr (10, fX r))]) ⟨hx, hb, hml, hown, hts⟩ (k94_X4_hasPlace l dC dI cB cI cJ cZ cO r) (cwV 1 hts gX10_hole_X4_hasPlace rfl rfl rfl ⟨rfl, z1471⟩ ⟨Nat.le_of_ble_eq_true rfl, Nat.le_of_ble_eq_true rfl⟩) hK hP hD hS hA [1] [0] rfl rfl (by decide +kernel) (by decide +kernel) (by decide +kernel) rfl rfl rfl hl.1 (Nat.le_of_ble_eq_true rfl) rfl rfl dX10_hole_5 ⟨by decide +kernel, by decide +kernel⟩ (fun u0 H locs hP hD hS => ?_)
  refine lv_if_eq (tgt := 27) hx hb dX10_hole_8 z1710 (fun c1 => absurd c1 (z1273)) (fun _ => ?_)
  refine lv_iload_n hx hb dX10_hole_11 rfl (lv_at hl 2 rfl) ?_
  refine lv_iconst (v := (-1)) hx hb dX10_hole_12 z128 ?_
  refine lv_icmp_eq (tgt := 29) hx hb dX10_hole_13 z1711 (fun c1 => absurd c1 (h0)) (fun _ => ?_)
  refine lv_aload_n hx hb dX10_hole_16 rfl (lv_at hl 0 rfl) ?_
  refine va_get (D := (dC, dI)) (ci := 10) (v := .ref (r 18)) (C := RX10) (T := TX10) (N := 18) hx hb hts i10 hown hK hP 0 rfl rfl 3 (nlt rfl) w1 (fun _ h9 => h9) rfl dX10_hole_17 ?_
  refine lv_iload_n hx hb dX10_hole_20 rfl (lv_at hl 2 rfl) ?_
  refine call_iV (ci := 4) (As := [.int x2]) (rest := []) (wr := [((r 0), .inr (10, fX r))]) ⟨hx, hb, hml, hown, hts⟩ (k269_X4_hasWord l dC dI cB cI cJ cZ cO r x2 h1) (cwV 1 hts gX10_hole_X4_hasWord rfl rfl rfl ⟨rfl, z1460⟩ ⟨Nat.le_of_ble_eq_true rfl, Nat.le_of_ble_eq_true rfl⟩) hK hP hD hS hA [1] [0] rfl rfl (by decide +kernel) (by decide +kernel) (by decide +kernel) rfl rfl rfl hl.1 (Nat.le_of_ble_eq_true rfl) rfl rfl dX10_hole_21 ⟨by decide +kernel, by decide +kernel⟩ (fun u1 H locs hP hD hS => ?_)
  refine lv_if_ne (tgt := 29) hx hb dX10_hole_24 z1712 (fun c1 => absurd (rfl) c1) (fun _ => ?_)
  refine lv_iconst (v := 0) hx hb dX10_hole_27 z8 ?_
  refine W.widen (k := 0) (n := 0) (by decide +kernel) (by decide +kernel) ?_
  exact ret_z hx hb hr rfl hlocks hS (u := (fun _ => 0)) (hP.sub [] rfl) (hD.sub [] (by decide +kernel) rfl) dX10_hole_28

set_option maxHeartbeats 4000000 in
set_option maxRecDepth 100000 in
theorem k303_X11_hole (l : Launch) (dC : Nat → ClassId) (dI : Nat → Nat → Nat) (cB cI cJ cZ cO : ClassId) (n : Nat → Nat) (x2 : Int32) (h0 : ¬ x2 = (-1)) (h1 : x2 < 0) : CI l yX11_hole wsX11_hole ({ frames := 2, cells := 0, slots := 0, locals := 43 }) (dC, dI) (tyL cB cI cJ cZ cO) [.ref (n 0), .int 0, .int x2] [((n 0), .inr (11, fM n)), ((n 7), .inl (cI, 2, .inl (upd (fun _ => 0) 0 3))), ((n 3), .inl (cI, 2, .inl (fun _ => 0)))] (fun _ => []) 0 := by
  intro sz
  refine ct_open (cc := cX11_hole) (maxL := 3) (ret := (some .boolean)) (by decide) rfl (Nat.le_of_ble_eq_true rfl) ?_
  intro p e s m below meth c ls A hx hb hr hml hts hown hlocks hin hP hK hD hA hS hl
  have hl : lv_has ls 3 [(0, .ref (n 0)), (1, .int 0), (2, .int x2)] := hl
  have hown : s.vm.findClass RX11 = some m.cls := hown
  refine lv_aload_n hx hb dX11_hole_0 rfl (lv_at hl 0 rfl) ?_
  refine lv_iload_n hx hb dX11_hole_1 rfl (lv_at hl 1 rfl) ?_
  refine call_iV (ci := 11) (As := [.int 0]) (rest := []) (wr := [((n 3), .inl (cI, 2, .inl (fun _ => 0)))]) ⟨hx, hb, hml, hown, hts⟩ (k99_X11_isPlace l dC dI cB cI cJ cZ cO n) (cwV 1 hts gX11_hole_X11_isPlace rfl rfl rfl ⟨rfl, z1475⟩ ⟨Nat.le_of_ble_eq_true rfl, Nat.le_of_ble_eq_true rfl⟩) hK hP hD hS hA [0, 1] [2] rfl rfl (by decide +kernel) (by decide +kernel) (by decide +kernel) rfl rfl rfl hl.1 (Nat.le_of_ble_eq_true rfl) rfl rfl dX11_hole_2 ⟨by decide +kernel, by decide +kernel⟩ (fun u0 H locs hP hD hS => ?_)
  refine lv_if_eq (tgt := 21) hx hb dX11_hole_5 z1428 (fun c1 => absurd c1 (z1273)) (fun _ => ?_)
  refine lv_iload_n hx hb dX11_hole_8 rfl (lv_at hl 2 rfl) ?_
  refine lv_iconst (v := (-1)) hx hb dX11_hole_9 z128 ?_
  refine lv_icmp_eq (tgt := 23) hx hb dX11_hole_10 z1713 (fun c1 => absurd c1 (h0)) (fun _ => ?_)
  refine lv_aload_n hx hb dX11_hole_13 rfl (lv_at hl 0 rfl) ?_
  refine lv_iload_n hx hb dX11_hole_14 rfl (lv_at hl 2 rfl) ?_
  refine call_iV (ci := 11) (As := [.int x2]) (rest := []) (wr := [((n 7), .inl (cI, 2, .inl (upd (fun _ => 0) 0 3)))]) ⟨hx, hb, hml, hown, hts⟩ (k272_X11_isWordOf l dC dI cB cI cJ cZ cO n x2 h1) (cwV 1 hts gX11_hole_X11_isWordOf rfl rfl rfl ⟨rfl, z1465⟩ ⟨Nat.le_of_ble_eq_true rfl, Nat.le_of_ble_eq_true rfl⟩) hK hP hD hS hA [1, 0] [2] rfl rfl (by decide +kernel) (by decide +kernel) (by decide +kernel) rfl rfl rfl hl.1 (Nat.le_of_ble_eq_true rfl) rfl rfl dX11_hole_15 ⟨by decide +kernel, by decide +kernel⟩ (fun u1 H locs hP hD hS => ?_)
  refine lv_if_ne (tgt := 23) hx hb dX11_hole_18 z1714 (fun c1 => absurd (rfl) c1) (fun _ => ?_)
  refine lv_iconst (v := 0) hx hb dX11_hole_21 z8 ?_
  refine W.widen (k := 0) (n := 0) (by decide +kernel) (by decide +kernel) ?_
  exact ret_z hx hb hr rfl hlocks hS (u := (fun _ => 0)) (hP.sub [] rfl) (hD.sub [] (by decide +kernel) rfl) dX11_hole_22

set_option maxHeartbeats 4000000 in
set_option maxRecDepth 100000 in
theorem k304_X10_hole (l : Launch) (dC : Nat → ClassId) (dI : Nat → Nat → Nat) (cB cI cJ cZ cO : ClassId) (r : Nat → Nat) : CI l yX10_hole wsX10_hole ({ frames := 1, cells := 0, slots := 0, locals := 21 }) (dC, dI) (tyL cB cI cJ cZ cO) [.ref (r 0), .int 0, .int (-1)] [((r 0), .inr (10, fX r)), ((r 18), .inr (4, [.int 0, .ref (r 19), .ref (r 20), .int 0, .ref (r 21), .ref (r 22), .int 0, .ref (r 23), .ref (r 24), .int 0, .ref (r 25), .ref (r 26), .int 3, .int 0, .int 0, .ref (r 27)]))] (fun _ => []) 1 := by
  intro sz
  refine ct_open (cc := cX10_hole) (maxL := 4) (ret := (some .boolean)) (by decide) rfl (Nat.le_of_ble_eq_true rfl) ?_
  intro p e s m below meth c ls A hx hb hr hml hts hown hlocks hin hP hK hD hA hS hl
  have hl : lv_has ls 4 [(0, .ref (r 0)), (1, .int 0), (2, .int (-1))] := hl
  have hown : s.vm.findClass RX10 = some m.cls := hown
  have i10 : ∀ w ∈ u_ws RX10 TX10 18, w ∈ wsX10_hole := fun _ h => List.mem_cons_of_mem _ (List.mem_append_left _ (List.mem_append_right _ h))
  have w1 := hts (.fieldLink RX10 23 "GuildCharter" "told" "LGuildCharter$Port;") (List.mem_cons_of_mem _ (List.mem_append_left _ (List.mem_append_left _ (List.mem_of_getElem? (i := 0) rfl))))
  have w2 := hts (.fieldLink RX10 122 "GuildCharter" "holes" "I") (List.mem_cons_of_mem _ (List.mem_append_left _ (List.mem_append_left _ (List.mem_of_getElem? (i := 1) rfl))))
  refine lv_aload_n hx hb dX10_hole_0 rfl (lv_at hl 0 rfl) ?_
  refine va_get (D := (dC, dI)) (ci := 10) (v := .ref (r 18)) (C := RX10) (T := TX10) (N := 18) hx hb hts i10 hown hK hP 0 rfl rfl 3 (nlt rfl) w1 (fun _ h9 => h9) rfl dX10_hole_1 ?_
  refine lv_iload_n hx hb dX10_hole_4 rfl (lv_at hl 1 rfl) ?_
  refine call_iV (ci := 4) (As := [.int 0]) (rest := []) (wr := [((r 0), .inr (10, fX r))]) ⟨hx, hb, hml, hown, hts⟩ (k94_X4_hasPlace l dC dI cB cI cJ cZ cO r) (cwV 1 hts gX10_hole_X4_hasPlace rfl rfl rfl ⟨rfl, z1471⟩ ⟨Nat.le_of_ble_eq_true rfl, Nat.le_of_ble_eq_true rfl⟩) hK hP hD hS hA [1] [0] rfl rfl (by decide +kernel) (by decide +kernel) (by decide +kernel) rfl rfl rfl hl.1 (Nat.le_of_ble_eq_true rfl) rfl rfl dX10_hole_5 ⟨by decide +kernel, by decide +kernel⟩ (fun u0 H locs hP hD hS => ?_)
  refine lv_if_eq (tgt := 27) hx hb dX10_hole_8 z1710 (fun c1 => absurd c1 (z1273)) (fun _ => ?_)
  refine lv_iload_n hx hb dX10_hole_11 rfl (lv_at hl 2 rfl) ?_
  refine lv_iconst (v := (-1)) hx hb dX10_hole_12 z128 ?_
  refine lv_icmp_eq (tgt := 29) hx hb dX10_hole_13 z1711 (fun _ => ?_) (fun c1 => absurd (rfl) c1)
  refine lv_iload_n hx hb dX10_hole_29 rfl (lv_at hl 1 rfl) ?_
  refine lv_iconst (v := 4) hx hb dX10_hole_30 z77 ?_
  refine lv_imul hx hb dX10_hole_31 ?_
  refine tpi z1549 ?_
  refine lv_istore_n (lv' := [(3, .int 0), (0, .ref (r 0)), (1, .int 0), (2, .int (-1))]) hx hb dX10_hole_32 rfl hl (nlt rfl) rfl (fun ls hl => ?_)
  refine lv_aload_n hx hb dX10_hole_33 rfl (lv_at hl 1 rfl) ?_
  refine lv_aload_n hx hb dX10_hole_34 rfl (lv_at hl 1 rfl) ?_
  refine va_get (D := (dC, dI)) (ci := 10) (v := .int 0) (C := RX10) (T := TX10) (N := 18) hx hb hts i10 hown hK hP 0 rfl rfl 13 (nlt rfl) w2 (fun _ h9 => h9) rfl dX10_hole_35 ?_
  refine lv_bipush (v := 15) hx hb dX10_hole_38 z1551 ?_
  refine lv_iload_n hx hb dX10_hole_40 rfl (lv_at hl 0 rfl) ?_
  refine lv_ishl hx hb dX10_hole_41 ?_
  refine tpi z1715 ?_
  refine lv_iconst (v := (-1)) hx hb dX10_hole_42 z128 ?_
  refine lv_ixor hx hb dX10_hole_43 ?_
  refine tpi z1716 ?_
  refine lv_iand hx hb dX10_hole_44 ?_
  refine tpi z1717 ?_
  refine lv_iload_n hx hb dX10_hole_45 rfl (lv_at hl 3 rfl) ?_
  refine lv_iconst (v := 1) hx hb dX10_hole_46 z39 ?_
  refine lv_iadd hx hb dX10_hole_47 ?_
  refine tpi z1718 ?_
  refine lv_iload_n hx hb dX10_hole_48 rfl (lv_at hl 0 rfl) ?_
  refine lv_ishl hx hb dX10_hole_49 ?_
  refine tpi z1719 ?_
  refine lv_ior hx hb dX10_hole_50 ?_
  refine tpi z1720 ?_
  refine va_put (D := (dC, dI)) (ci := 10) (v := .int 0) (ty := tyX10 13) (C := RX10) (T := TX10) (N := 18) hx hb hts i10 tyX10 tyX10_ok nmX10 hown hK hP hD hS 0 rfl rfl 13 (nlt rfl) w2 (fun _ h9 => h9) rfl (tyX10_ok 13 (nlt rfl)) rfl rfl (nlt rfl) dX10_hole_51 (fun H locs hP hD hS => ?_)
  refine lv_iconst (v := 1) hx hb dX10_hole_54 z39 ?_
  refine W.widen (k := 0) (n := 0) (by decide +kernel) (by decide +kernel) ?_
  exact ret_z hx hb hr rfl hlocks hS (u := (fun _ => 0)) (hP.sub [] rfl) (hD.sub [] (by decide +kernel) rfl) dX10_hole_55

set_option maxHeartbeats 4000000 in
set_option maxRecDepth 100000 in
theorem k305_X11_hole (l : Launch) (dC : Nat → ClassId) (dI : Nat → Nat → Nat) (cB cI cJ cZ cO : ClassId) (n : Nat → Nat) : CI l yX11_hole wsX11_hole ({ frames := 2, cells := 0, slots := 0, locals := 43 }) (dC, dI) (tyL cB cI cJ cZ cO) [.ref (n 0), .int 0, .int (-1)] [((n 0), .inr (11, fM n)), ((n 7), .inl (cI, 2, .inl (upd (fun _ => 0) 0 3))), ((n 28), .inl (cI, 6, .inl (upd (upd (upd (upd (upd (upd (fun _ => 0) 0 (-1)) 1 (-1)) 2 (-1)) 3 (-1)) 4 (-1)) 5 (-1))))] (fun _ => []) 1 := by
  intro sz
  refine ct_open (cc := cX11_hole) (maxL := 3) (ret := (some .boolean)) (by decide) rfl (Nat.le_of_ble_eq_true rfl) ?_
  intro p e s m below meth c ls A hx hb hr hml hts hown hlocks hin hP hK hD hA hS hl
  have hl : lv_has ls 3 [(0, .ref (n 0)), (1, .int 0), (2, .int (-1))] := hl
  have hown : s.vm.findClass RX11 = some m.cls := hown
  have i11 : ∀ w ∈ u_ws RX11 TX11 71, w ∈ wsX11_hole := fun _ h => List.mem_cons_of_mem _ (List.mem_append_right _ h)
  have w1 := hts (.fieldLink RX11 98 "GuildCharterModel" "holes" "[I") (List.mem_cons_of_mem _ (List.mem_append_left _ (List.mem_of_getElem? (i := 0) rfl)))
  refine lv_aload_n hx hb dX11_hole_0 rfl (lv_at hl 0 rfl) ?_
  refine lv_iload_n hx hb dX11_hole_1 rfl (lv_at hl 1 rfl) ?_
  refine call_iV (ci := 11) (As := [.int 0]) (rest := []) (wr := [((n 28), .inl (cI, 6, .inl (upd (upd (upd (upd (upd (upd (fun _ => 0) 0 (-1)) 1 (-1)) 2 (-1)) 3 (-1)) 4 (-1)) 5 (-1))))]) ⟨hx, hb, hml, hown, hts⟩ (k99_X11_isPlace l dC dI cB cI cJ cZ cO n) (cwV 1 hts gX11_hole_X11_isPlace rfl rfl rfl ⟨rfl, z1475⟩ ⟨Nat.le_of_ble_eq_true rfl, Nat.le_of_ble_eq_true rfl⟩) hK hP hD hS hA [0, 1] [2] rfl rfl (by decide +kernel) (by decide +kernel) (by decide +kernel) rfl rfl rfl hl.1 (Nat.le_of_ble_eq_true rfl) rfl rfl dX11_hole_2 ⟨by decide +kernel, by decide +kernel⟩ (fun u0 H locs hP hD hS => ?_)
  refine lv_if_eq (tgt := 21) hx hb dX11_hole_5 z1428 (fun c1 => absurd c1 (z1273)) (fun _ => ?_)
  refine lv_iload_n hx hb dX11_hole_8 rfl (lv_at hl 2 rfl) ?_
  refine lv_iconst (v := (-1)) hx hb dX11_hole_9 z128 ?_
  refine lv_icmp_eq (tgt := 23) hx hb dX11_hole_10 z1713 (fun _ => ?_) (fun c1 => absurd (rfl) c1)
  refine lv_aload_n hx hb dX11_hole_23 rfl (lv_at hl 0 rfl) ?_
  refine va_get (D := (dC, dI)) (ci := 11) (v := .ref (n 28)) (C := RX11) (T := TX11) (N := 71) hx hb hts i11 hown hK hP 1 rfl rfl 38 (nlt rfl) w1 (fun _ h9 => h9) rfl dX11_hole_24 ?_
  refine lv_iload_n hx hb dX11_hole_27 rfl (lv_at hl 1 rfl) ?_
  refine lv_iload_n hx hb dX11_hole_28 rfl (lv_at hl 2 rfl) ?_
  refine my_iastS hx hb hK hP hD hS 0 1 rfl rfl z38 rfl dX11_hole_29 (fun H locs hP hD hS => ?_)
  refine lv_iconst (v := 1) hx hb dX11_hole_30 z39 ?_
  refine W.widen (k := 0) (n := 0) (by decide +kernel) (by decide +kernel) ?_
  exact ret_z hx hb hr rfl hlocks hS (u := (fun _ => 0)) (hP.sub [] rfl) (hD.sub [] (by decide +kernel) rfl) dX11_hole_31

set_option maxHeartbeats 4000000 in
set_option maxRecDepth 100000 in
theorem k306_X10_hole (l : Launch) (dC : Nat → ClassId) (dI : Nat → Nat → Nat) (cB cI cJ cZ cO : ClassId) (r : Nat → Nat) (x2 : Int32) (h0 : ¬ x2 = (-1)) (h1 : ¬ x2 < 0) (h2 : 0 ≤ x2) : CI l yX10_hole wsX10_hole ({ frames := 1, cells := 0, slots := 0, locals := 21 }) (dC, dI) (tyL cB cI cJ cZ cO) [.ref (r 0), .int 0, .int x2] [((r 0), .inr (10, fX r)), ((r 18), .inr (4, [.int 0, .ref (r 19), .ref (r 20), .int 0, .ref (r 21), .ref (r 22), .int 0, .ref (r 23), .ref (r 24), .int 0, .ref (r 25), .ref (r 26), .int 3, .int 0, .int 0, .ref (r 27)]))] (fun _ => []) 0 := by
  intro sz
  refine ct_open (cc := cX10_hole) (maxL := 4) (ret := (some .boolean)) (by decide) rfl (Nat.le_of_ble_eq_true rfl) ?_
  intro p e s m below meth c ls A hx hb hr hml hts hown hlocks hin hP hK hD hA hS hl
  have hl : lv_has ls 4 [(0, .ref (r 0)), (1, .int 0), (2, .int x2)] := hl
  have hown : s.vm.findClass RX10 = some m.cls := hown
  have i10 : ∀ w ∈ u_ws RX10 TX10 18, w ∈ wsX10_hole := fun _ h => List.mem_cons_of_mem _ (List.mem_append_left _ (List.mem_append_right _ h))
  have w1 := hts (.fieldLink RX10 23 "GuildCharter" "told" "LGuildCharter$Port;") (List.mem_cons_of_mem _ (List.mem_append_left _ (List.mem_append_left _ (List.mem_of_getElem? (i := 0) rfl))))
  refine lv_aload_n hx hb dX10_hole_0 rfl (lv_at hl 0 rfl) ?_
  refine va_get (D := (dC, dI)) (ci := 10) (v := .ref (r 18)) (C := RX10) (T := TX10) (N := 18) hx hb hts i10 hown hK hP 0 rfl rfl 3 (nlt rfl) w1 (fun _ h9 => h9) rfl dX10_hole_1 ?_
  refine lv_iload_n hx hb dX10_hole_4 rfl (lv_at hl 1 rfl) ?_
  refine call_iV (ci := 4) (As := [.int 0]) (rest := []) (wr := [((r 0), .inr (10, fX r))]) ⟨hx, hb, hml, hown, hts⟩ (k94_X4_hasPlace l dC dI cB cI cJ cZ cO r) (cwV 1 hts gX10_hole_X4_hasPlace rfl rfl rfl ⟨rfl, z1471⟩ ⟨Nat.le_of_ble_eq_true rfl, Nat.le_of_ble_eq_true rfl⟩) hK hP hD hS hA [1] [0] rfl rfl (by decide +kernel) (by decide +kernel) (by decide +kernel) rfl rfl rfl hl.1 (Nat.le_of_ble_eq_true rfl) rfl rfl dX10_hole_5 ⟨by decide +kernel, by decide +kernel⟩ (fun u0 H locs hP hD hS => ?_)
  refine lv_if_eq (tgt := 27) hx hb dX10_hole_8 z1710 (fun c1 => absurd c1 (z1273)) (fun _ => ?_)
  refine lv_iload_n hx hb dX10_hole_11 rfl (lv_at hl 2 rfl) ?_
  refine lv_iconst (v := (-1)) hx hb dX10_hole_12 z128 ?_
  refine lv_icmp_eq (tgt := 29) hx hb dX10_hole_13 z1711 (fun c1 => absurd c1 (h0)) (fun _ => ?_)
  refine lv_aload_n hx hb dX10_hole_16 rfl (lv_at hl 0 rfl) ?_
  refine va_get (D := (dC, dI)) (ci := 10) (v := .ref (r 18)) (C := RX10) (T := TX10) (N := 18) hx hb hts i10 hown hK hP 0 rfl rfl 3 (nlt rfl) w1 (fun _ h9 => h9) rfl dX10_hole_17 ?_
  refine lv_iload_n hx hb dX10_hole_20 rfl (lv_at hl 2 rfl) ?_
  refine call_iV (ci := 4) (As := [.int x2]) (rest := []) (wr := [((r 0), .inr (10, fX r))]) ⟨hx, hb, hml, hown, hts⟩ (k274_X4_hasWord l dC dI cB cI cJ cZ cO r x2 h1 h2) (cwV 1 hts gX10_hole_X4_hasWord rfl rfl rfl ⟨rfl, z1460⟩ ⟨Nat.le_of_ble_eq_true rfl, Nat.le_of_ble_eq_true rfl⟩) hK hP hD hS hA [1] [0] rfl rfl (by decide +kernel) (by decide +kernel) (by decide +kernel) rfl rfl rfl hl.1 (Nat.le_of_ble_eq_true rfl) rfl rfl dX10_hole_21 ⟨by decide +kernel, by decide +kernel⟩ (fun u1 H locs hP hD hS => ?_)
  refine lv_if_ne (tgt := 29) hx hb dX10_hole_24 z1712 (fun c1 => absurd (rfl) c1) (fun _ => ?_)
  refine lv_iconst (v := 0) hx hb dX10_hole_27 z8 ?_
  refine W.widen (k := 0) (n := 0) (by decide +kernel) (by decide +kernel) ?_
  exact ret_z hx hb hr rfl hlocks hS (u := (fun _ => 0)) (hP.sub [] rfl) (hD.sub [] (by decide +kernel) rfl) dX10_hole_28
