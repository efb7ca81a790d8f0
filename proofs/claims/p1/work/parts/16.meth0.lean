set_option maxHeartbeats 4000000 in
set_option maxRecDepth 100000 in
theorem k26_X10_tapeNumber (l : Launch) (dC : Nat → ClassId) (dI : Nat → Nat → Nat) (cB cI cJ cZ cO : ClassId) (r : Nat → Nat) (x1 : Int32) : CV l yX10_tapeNumber wsX10_tapeNumber ({ frames := 0, cells := 0, slots := 0, locals := 0 }) (dC, dI) (tyL cB cI cJ cZ cO) [.ref (r 0), .int x1] [((r 0), .inr (10, fX r)), ((r 1), .inl (cB, 1600, .inl (fun _ => 0)))] (fun u => [((r 0), .inr (10, [.ref (r 1), .int 4, .ref (r 2), .ref (r 18), .ref (r 28), .ref (r 38), .ref (r 45), .ref (r 55), .ref (r 58), .ref (r 61), .ref (r 65), .ref (r 70), .ref (r 75), .int 0, .ref (r 80), .ref (r 86), .int 0, .ref (r 87)])), ((r 1), .inl (cB, 1600, .inl (upd (upd (upd (upd (fun _ => 0) 0 (vp_nar .byte ((x1 >>> (24 &&& 31))).toInt8.toInt32)) 1 (vp_nar .byte ((x1 >>> (16 &&& 31))).toInt8.toInt32)) 2 (vp_nar .byte ((x1 >>> (8 &&& 31))).toInt8.toInt32)) 3 (vp_nar .byte ((x1 >>> (0 &&& 31))).toInt8.toInt32))))]) := by
  intro sz
  refine ct_open (cc := cX10_tapeNumber) (maxL := 3) (ret := none) (by decide) rfl (Nat.le_of_ble_eq_true rfl) ?_
  intro p e s m below meth c ls A hx hb hr hml hts hown hlocks hin hP hK hD hA hS hl
  have hl : lv_has ls 3 [(0, .ref (r 0)), (1, .int x1)] := hl
  have hown : s.vm.findClass RX10 = some m.cls := hown
  have i10 : ∀ w ∈ u_ws RX10 TX10 18, w ∈ wsX10_tapeNumber := fun _ h => List.mem_cons_of_mem _ (List.mem_append_right _ h)
  have w1 := hts (.fieldLink RX10 92 "GuildCharter" "tapeSize" "I") (List.mem_cons_of_mem _ (List.mem_append_left _ (List.mem_of_getElem? (i := 0) rfl)))
  have w2 := hts (.fieldLink RX10 9 "GuildCharter" "tape" "[B") (List.mem_cons_of_mem _ (List.mem_append_left _ (List.mem_of_getElem? (i := 1) rfl)))
  refine lv_bipush (v := 24) hx hb dX10_tapeNumber_0 z134 ?_
  refine lv_istore_n (lv' := [(2, .int 24), (0, .ref (r 0)), (1, .int x1)]) hx hb dX10_tapeNumber_2 rfl hl (nlt rfl) rfl (fun ls hl => ?_)
  refine lv_iload_n hx hb dX10_tapeNumber_3 rfl (lv_at hl 0 rfl) ?_
  refine lv_if_lt (tgt := 46) hx hb dX10_tapeNumber_4 z277 (fun c1 => absurd c1 (z135)) (fun _ => ?_)
  refine lv_aload_n hx hb dX10_tapeNumber_7 rfl (lv_at hl 1 rfl) ?_
  refine va_get (D := (dC, dI)) (ci := 10) (v := .int 0) (C := RX10) (T := TX10) (N := 18) hx hb hts i10 hown hK hP 0 rfl rfl 1 (nlt rfl) w1 (fun _ h9 => h9) rfl dX10_tapeNumber_8 ?_
  refine lv_sipush (v := 1600) hx hb dX10_tapeNumber_11 z0 ?_
  refine lv_icmp_ge (tgt := 40) hx hb dX10_tapeNumber_14 z279 (fun c1 => absurd c1 (z278)) (fun _ => ?_)
  refine lv_aload_n hx hb dX10_tapeNumber_17 rfl (lv_at hl 1 rfl) ?_
  refine va_get (D := (dC, dI)) (ci := 10) (v := .ref (r 1)) (C := RX10) (T := TX10) (N := 18) hx hb hts i10 hown hK hP 0 rfl rfl 0 (nlt rfl) w2 (fun _ h9 => h9) rfl dX10_tapeNumber_18 ?_
  refine lv_aload_n hx hb dX10_tapeNumber_21 rfl (lv_at hl 1 rfl) ?_
  refine va_get (D := (dC, dI)) (ci := 10) (v := .int 0) (C := RX10) (T := TX10) (N := 18) hx hb hts i10 hown hK hP 0 rfl rfl 1 (nlt rfl) w1 (fun _ h9 => h9) rfl dX10_tapeNumber_22 ?_
  refine lv_iload_n hx hb dX10_tapeNumber_25 rfl (lv_at hl 2 rfl) ?_
  refine lv_iload_n hx hb dX10_tapeNumber_26 rfl (lv_at hl 0 rfl) ?_
  refine lv_ishr hx hb dX10_tapeNumber_27 ?_
  refine lv_i2b hx hb dX10_tapeNumber_28 rfl ?_
  refine my_bast hx hb hK hP hD hS 1 0 rfl rfl z280 (rfl : vp_nar .byte ((x1 >>> (24 &&& 31))).toInt8.toInt32 = _) dX10_tapeNumber_29 (fun H locs hP hD hS => ?_)
  refine lv_aload_n hx hb dX10_tapeNumber_30 rfl (lv_at hl 1 rfl) ?_
  refine lv_dup hx hb dX10_tapeNumber_31 rfl ?_
  refine va_get (D := (dC, dI)) (ci := 10) (v := .int 0) (C := RX10) (T := TX10) (N := 18) hx hb hts i10 hown hK hP 0 rfl rfl 1 (nlt rfl) w1 (fun _ h9 => h9) rfl dX10_tapeNumber_32 ?_
  refine lv_iconst (v := 1) hx hb dX10_tapeNumber_35 z39 ?_
  refine lv_iadd hx hb dX10_tapeNumber_36 ?_
  refine tpi z281 ?_
  refine va_put (D := (dC, dI)) (ci := 10) (v := .int 1) (ty := tyX10 1) (C := RX10) (T := TX10) (N := 18) hx hb hts i10 tyX10 tyX10_ok nmX10 hown hK hP hD hS 0 rfl rfl 1 (nlt rfl) w1 (fun _ h9 => h9) rfl (tyX10_ok 1 (nlt rfl)) rfl rfl (nlt rfl) dX10_tapeNumber_37 (fun H locs hP hD hS => ?_)
  refine lv_iinc (v := 16) (lv' := [(2, .int 16), (0, .ref (r 0)), (1, .int x1)]) hx hb dX10_tapeNumber_40 hl (k := 0) rfl z282 (nlt rfl) rfl (fun ls hl => ?_)
  refine lv_goto (tgt := 3) hx hb dX10_tapeNumber_43 z283 ?_
  refine lv_iload_n hx hb dX10_tapeNumber_3 rfl (lv_at hl 0 rfl) ?_
  refine lv_if_lt (tgt := 46) hx hb dX10_tapeNumber_4 z277 (fun c1 => absurd c1 (z190)) (fun _ => ?_)
  refine lv_aload_n hx hb dX10_tapeNumber_7 rfl (lv_at hl 1 rfl) ?_
  refine va_get (D := (dC, dI)) (ci := 10) (v := .int 1) (C := RX10) (T := TX10) (N := 18) hx hb hts i10 hown hK hP 0 rfl rfl 1 (nlt rfl) w1 (fun _ h9 => h9) rfl dX10_tapeNumber_8 ?_
  refine lv_sipush (v := 1600) hx hb dX10_tapeNumber_11 z0 ?_
  refine lv_icmp_ge (tgt := 40) hx hb dX10_tapeNumber_14 z279 (fun c1 => absurd c1 (z284)) (fun _ => ?_)
  refine lv_aload_n hx hb dX10_tapeNumber_17 rfl (lv_at hl 1 rfl) ?_
  refine va_get (D := (dC, dI)) (ci := 10) (v := .ref (r 1)) (C := RX10) (T := TX10) (N := 18) hx hb hts i10 hown hK hP 0 rfl rfl 0 (nlt rfl) w2 (fun _ h9 => h9) rfl dX10_tapeNumber_18 ?_
  refine lv_aload_n hx hb dX10_tapeNumber_21 rfl (lv_at hl 1 rfl) ?_
  refine va_get (D := (dC, dI)) (ci := 10) (v := .int 1) (C := RX10) (T := TX10) (N := 18) hx hb hts i10 hown hK hP 0 rfl rfl 1 (nlt rfl) w1 (fun _ h9 => h9) rfl dX10_tapeNumber_22 ?_
  refine lv_iload_n hx hb dX10_tapeNumber_25 rfl (lv_at hl 2 rfl) ?_
  refine lv_iload_n hx hb dX10_tapeNumber_26 rfl (lv_at hl 0 rfl) ?_
  refine lv_ishr hx hb dX10_tapeNumber_27 ?_
  refine lv_i2b hx hb dX10_tapeNumber_28 rfl ?_
  refine my_bast hx hb hK hP hD hS 1 0 rfl rfl z285 (rfl : vp_nar .byte ((x1 >>> (16 &&& 31))).toInt8.toInt32 = _) dX10_tapeNumber_29 (fun H locs hP hD hS => ?_)
  have hP : va_P (dC, dI) vwCl [((r 0), .inr (10, [.ref (r 1), .int 1, .ref (r 2), .ref (r 18), .ref (r 28), .ref (r 38), .ref (r 45), .ref (r 55), .ref (r 58), .ref (r 61), .ref (r 65), .ref (r 70), .ref (r 75), .int 0, .ref (r 80), .ref (r 86), .int 0, .ref (r 87)])), ((r 1), .inl (cB, 1600, .inl (upd (upd (fun _ => 0) 0 (vp_nar .byte ((x1 >>> (24 &&& 31))).toInt8.toInt32)) 1 (vp_nar .byte ((x1 >>> (16 &&& 31))).toInt8.toInt32))))] H := hP
  have hD : va_D A [((r 0), .inr (10, [.ref (r 1), .int 1, .ref (r 2), .ref (r 18), .ref (r 28), .ref (r 38), .ref (r 45), .ref (r 55), .ref (r 58), .ref (r 61), .ref (r 65), .ref (r 70), .ref (r 75), .int 0, .ref (r 80), .ref (r 86), .int 0, .ref (r 87)])), ((r 1), .inl (cB, 1600, .inl (upd (upd (fun _ => 0) 0 (vp_nar .byte ((x1 >>> (24 &&& 31))).toInt8.toInt32)) 1 (vp_nar .byte ((x1 >>> (16 &&& 31))).toInt8.toInt32))))] := hD
  refine lv_aload_n hx hb dX10_tapeNumber_30 rfl (lv_at hl 1 rfl) ?_
  refine lv_dup hx hb dX10_tapeNumber_31 rfl ?_
  refine va_get (D := (dC, dI)) (ci := 10) (v := .int 1) (C := RX10) (T := TX10) (N := 18) hx hb hts i10 hown hK hP 0 rfl rfl 1 (nlt rfl) w1 (fun _ h9 => h9) rfl dX10_tapeNumber_32 ?_
  refine lv_iconst (v := 1) hx hb dX10_tapeNumber_35 z39 ?_
  refine lv_iadd hx hb dX10_tapeNumber_36 ?_
  refine tpi z286 ?_
  refine va_put (D := (dC, dI)) (ci := 10) (v := .int 2) (ty := tyX10 1) (C := RX10) (T := TX10) (N := 18) hx hb hts i10 tyX10 tyX10_ok nmX10 hown hK hP hD hS 0 rfl rfl 1 (nlt rfl) w1 (fun _ h9 => h9) rfl (tyX10_ok 1 (nlt rfl)) rfl rfl (nlt rfl) dX10_tapeNumber_37 (fun H locs hP hD hS => ?_)
  refine lv_iinc (v := 8) (lv' := [(2, .int 8), (0, .ref (r 0)), (1, .int x1)]) hx hb dX10_tapeNumber_40 hl (k := 0) rfl z287 (nlt rfl) rfl (fun ls hl => ?_)
  refine lv_goto (tgt := 3) hx hb dX10_tapeNumber_43 z283 ?_
  refine lv_iload_n hx hb dX10_tapeNumber_3 rfl (lv_at hl 0 rfl) ?_
  refine lv_if_lt (tgt := 46) hx hb dX10_tapeNumber_4 z277 (fun c1 => absurd c1 (z131)) (fun _ => ?_)
  refine lv_aload_n hx hb dX10_tapeNumber_7 rfl (lv_at hl 1 rfl) ?_
  refine va_get (D := (dC, dI)) (ci := 10) (v := .int 2) (C := RX10) (T := TX10) (N := 18) hx hb hts i10 hown hK hP 0 rfl rfl 1 (nlt rfl) w1 (fun _ h9 => h9) rfl dX10_tapeNumber_8 ?_
  refine lv_sipush (v := 1600) hx hb dX10_tapeNumber_11 z0 ?_
  refine lv_icmp_ge (tgt := 40) hx hb dX10_tapeNumber_14 z279 (fun c1 => absurd c1 (z288)) (fun _ => ?_)
  refine lv_aload_n hx hb dX10_tapeNumber_17 rfl (lv_at hl 1 rfl) ?_
  refine va_get (D := (dC, dI)) (ci := 10) (v := .ref (r 1)) (C := RX10) (T := TX10) (N := 18) hx hb hts i10 hown hK hP 0 rfl rfl 0 (nlt rfl) w2 (fun _ h9 => h9) rfl dX10_tapeNumber_18 ?_
  refine lv_aload_n hx hb dX10_tapeNumber_21 rfl (lv_at hl 1 rfl) ?_
  refine va_get (D := (dC, dI)) (ci := 10) (v := .int 2) (C := RX10) (T := TX10) (N := 18) hx hb hts i10 hown hK hP 0 rfl rfl 1 (nlt rfl) w1 (fun _ h9 => h9) rfl dX10_tapeNumber_22 ?_
  refine lv_iload_n hx hb dX10_tapeNumber_25 rfl (lv_at hl 2 rfl) ?_
  refine lv_iload_n hx hb dX10_tapeNumber_26 rfl (lv_at hl 0 rfl) ?_
  refine lv_ishr hx hb dX10_tapeNumber_27 ?_
  refine lv_i2b hx hb dX10_tapeNumber_28 rfl ?_
  refine my_bast hx hb hK hP hD hS 1 0 rfl rfl z289 (rfl : vp_nar .byte ((x1 >>> (8 &&& 31))).toInt8.toInt32 = _) dX10_tapeNumber_29 (fun H locs hP hD hS => ?_)
  refine lv_aload_n hx hb dX10_tapeNumber_30 rfl (lv_at hl 1 rfl) ?_
  refine lv_dup hx hb dX10_tapeNumber_31 rfl ?_
  refine va_get (D := (dC, dI)) (ci := 10) (v := .int 2) (C := RX10) (T := TX10) (N := 18) hx hb hts i10 hown hK hP 0 rfl rfl 1 (nlt rfl) w1 (fun _ h9 => h9) rfl dX10_tapeNumber_32 ?_
  refine lv_iconst (v := 1) hx hb dX10_tapeNumber_35 z39 ?_
  refine lv_iadd hx hb dX10_tapeNumber_36 ?_
  refine tpi z290 ?_
  refine va_put (D := (dC, dI)) (ci := 10) (v := .int 3) (ty := tyX10 1) (C := RX10) (T := TX10) (N := 18) hx hb hts i10 tyX10 tyX10_ok nmX10 hown hK hP hD hS 0 rfl rfl 1 (nlt rfl) w1 (fun _ h9 => h9) rfl (tyX10_ok 1 (nlt rfl)) rfl rfl (nlt rfl) dX10_tapeNumber_37 (fun H locs hP hD hS => ?_)
  have hP : va_P (dC, dI) vwCl [((r 0), .inr (10, [.ref (r 1), .int 3, .ref (r 2), .ref (r 18), .ref (r 28), .ref (r 38), .ref (r 45), .ref (r 55), .ref (r 58), .ref (r 61), .ref (r 65), .ref (r 70), .ref (r 75), .int 0, .ref (r 80), .ref (r 86), .int 0, .ref (r 87)])), ((r 1), .inl (cB, 1600, .inl (upd (upd (upd (fun _ => 0) 0 (vp_nar .byte ((x1 >>> (24 &&& 31))).toInt8.toInt32)) 1 (vp_nar .byte ((x1 >>> (16 &&& 31))).toInt8.toInt32)) 2 (vp_nar .byte ((x1 >>> (8 &&& 31))).toInt8.toInt32))))] H := hP
  have hD : va_D A [((r 0), .inr (10, [.ref (r 1), .int 3, .ref (r 2), .ref (r 18), .ref (r 28), .ref (r 38), .ref (r 45), .ref (r 55), .ref (r 58), .ref (r 61), .ref (r 65), .ref (r 70), .ref (r 75), .int 0, .ref (r 80), .ref (r 86), .int 0, .ref (r 87)])), ((r 1), .inl (cB, 1600, .inl (upd (upd (upd (fun _ => 0) 0 (vp_nar .byte ((x1 >>> (24 &&& 31))).toInt8.toInt32)) 1 (vp_nar .byte ((x1 >>> (16 &&& 31))).toInt8.toInt32)) 2 (vp_nar .byte ((x1 >>> (8 &&& 31))).toInt8.toInt32))))] := hD
  refine lv_iinc (v := 0) (lv' := [(2, .int 0), (0, .ref (r 0)), (1, .int x1)]) hx hb dX10_tapeNumber_40 hl (k := 0) rfl z291 (nlt rfl) rfl (fun ls hl => ?_)
  refine lv_goto (tgt := 3) hx hb dX10_tapeNumber_43 z283 ?_
  refine lv_iload_n hx hb dX10_tapeNumber_3 rfl (lv_at hl 0 rfl) ?_
  refine lv_if_lt (tgt := 46) hx hb dX10_tapeNumber_4 z277 (fun c1 => absurd c1 (z125)) (fun _ => ?_)
  refine lv_aload_n hx hb dX10_tapeNumber_7 rfl (lv_at hl 1 rfl) ?_
  refine va_get (D := (dC, dI)) (ci := 10) (v := .int 3) (C := RX10) (T := TX10) (N := 18) hx hb hts i10 hown hK hP 0 rfl rfl 1 (nlt rfl) w1 (fun _ h9 => h9) rfl dX10_tapeNumber_8 ?_
  refine lv_sipush (v := 1600) hx hb dX10_tapeNumber_11 z0 ?_
  refine lv_icmp_ge (tgt := 40) hx hb dX10_tapeNumber_14 z279 (fun c1 => absurd c1 (z292)) (fun _ => ?_)
  refine lv_aload_n hx hb dX10_tapeNumber_17 rfl (lv_at hl 1 rfl) ?_
  refine va_get (D := (dC, dI)) (ci := 10) (v := .ref (r 1)) (C := RX10) (T := TX10) (N := 18) hx hb hts i10 hown hK hP 0 rfl rfl 0 (nlt rfl) w2 (fun _ h9 => h9) rfl dX10_tapeNumber_18 ?_
  refine lv_aload_n hx hb dX10_tapeNumber_21 rfl (lv_at hl 1 rfl) ?_
  refine va_get (D := (dC, dI)) (ci := 10) (v := .int 3) (C := RX10) (T := TX10) (N := 18) hx hb hts i10 hown hK hP 0 rfl rfl 1 (nlt rfl) w1 (fun _ h9 => h9) rfl dX10_tapeNumber_22 ?_
  refine lv_iload_n hx hb dX10_tapeNumber_25 rfl (lv_at hl 2 rfl) ?_
  refine lv_iload_n hx hb dX10_tapeNumber_26 rfl (lv_at hl 0 rfl) ?_
  refine lv_ishr hx hb dX10_tapeNumber_27 ?_
  refine lv_i2b hx hb dX10_tapeNumber_28 rfl ?_
  refine my_bast hx hb hK hP hD hS 1 0 rfl rfl z293 (rfl : vp_nar .byte ((x1 >>> (0 &&& 31))).toInt8.toInt32 = _) dX10_tapeNumber_29 (fun H locs hP hD hS => ?_)
  refine lv_aload_n hx hb dX10_tapeNumber_30 rfl (lv_at hl 1 rfl) ?_
  refine lv_dup hx hb dX10_tapeNumber_31 rfl ?_
  refine va_get (D := (dC, dI)) (ci := 10) (v := .int 3) (C := RX10) (T := TX10) (N := 18) hx hb hts i10 hown hK hP 0 rfl rfl 1 (nlt rfl) w1 (fun _ h9 => h9) rfl dX10_tapeNumber_32 ?_
  refine lv_iconst (v := 1) hx hb dX10_tapeNumber_35 z39 ?_
  refine lv_iadd hx hb dX10_tapeNumber_36 ?_
  refine tpi z294 ?_
  refine va_put (D := (dC, dI)) (ci := 10) (v := .int 4) (ty := tyX10 1) (C := RX10) (T := TX10) (N := 18) hx hb hts i10 tyX10 tyX10_ok nmX10 hown hK hP hD hS 0 rfl rfl 1 (nlt rfl) w1 (fun _ h9 => h9) rfl (tyX10_ok 1 (nlt rfl)) rfl rfl (nlt rfl) dX10_tapeNumber_37 (fun H locs hP hD hS => ?_)
  refine lv_iinc (v := (-8)) (lv' := [(2, .int (-8)), (0, .ref (r 0)), (1, .int x1)]) hx hb dX10_tapeNumber_40 hl (k := 0) rfl z295 (nlt rfl) rfl (fun ls hl => ?_)
  refine lv_goto (tgt := 3) hx hb dX10_tapeNumber_43 z283 ?_
  refine lv_iload_n hx hb dX10_tapeNumber_3 rfl (lv_at hl 0 rfl) ?_
  refine lv_if_lt (tgt := 46) hx hb dX10_tapeNumber_4 z277 (fun _ => ?_) (fun c1 => absurd (z296) c1)
  refine W.widen (k := 0) (n := 0) (by decide +kernel) (by decide +kernel) ?_
  exact ret_v hx hb hr hlocks hS (u := (fun _ => 0)) (hP.sub [0, 1] rfl) (hD.sub [0, 1] (by decide +kernel) rfl) dX10_tapeNumber_46

set_option maxHeartbeats 4000000 in
set_option maxRecDepth 100000 in
theorem k27_X10_tapeNumber (l : Launch) (dC : Nat → ClassId) (dI : Nat → Nat → Nat) (cB cI cJ cZ cO : ClassId) (r : Nat → Nat) (x1 : Int32) (x2 : Int32) : CV l yX10_tapeNumber wsX10_tapeNumber ({ frames := 0, cells := 0, slots := 0, locals := 0 }) (dC, dI) (tyL cB cI cJ cZ cO) [.ref (r 0), .int x2] [((r 0), .inr (10, [.ref (r 1), .int 4, .ref (r 2), .ref (r 18), .ref (r 28), .ref (r 38), .ref (r 45), .ref (r 55), .ref (r 58), .ref (r 61), .ref (r 65), .ref (r 70), .ref (r 75), .int 0, .ref (r 80), .ref (r 86), .int 0, .ref (r 87)])), ((r 1), .inl (cB, 1600, .inl (upd (upd (upd (upd (fun _ => 0) 0 (vp_nar .byte ((x1 >>> (24 &&& 31))).toInt8.toInt32)) 1 (vp_nar .byte ((x1 >>> (16 &&& 31))).toInt8.toInt32)) 2 (vp_nar .byte ((x1 >>> (8 &&& 31))).toInt8.toInt32)) 3 (vp_nar .byte ((x1 >>> (0 &&& 31))).toInt8.toInt32))))] (fun u => [((r 0), .inr (10, [.ref (r 1), .int 8, .ref (r 2), .ref (r 18), .ref (r 28), .ref (r 38), .ref (r 45), .ref (r 55), .ref (r 58), .ref (r 61), .ref (r 65), .ref (r 70), .ref (r 75), .int 0, .ref (r 80), .ref (r 86), .int 0, .ref (r 87)])), ((r 1), .inl (cB, 1600, .inl (upd (upd (upd (upd (upd (upd (upd (upd (fun _ => 0) 0 (vp_nar .byte ((x1 >>> (24 &&& 31))).toInt8.toInt32)) 1 (vp_nar .byte ((x1 >>> (16 &&& 31))).toInt8.toInt32)) 2 (vp_nar .byte ((x1 >>> (8 &&& 31))).toInt8.toInt32)) 3 (vp_nar .byte ((x1 >>> (0 &&& 31))).toInt8.toInt32)) 4 (vp_nar .byte ((x2 >>> (24 &&& 31))).toInt8.toInt32)) 5 (vp_nar .byte ((x2 >>> (16 &&& 31))).toInt8.toInt32)) 6 (vp_nar .byte ((x2 >>> (8 &&& 31))).toInt8.toInt32)) 7 (vp_nar .byte ((x2 >>> (0 &&& 31))).toInt8.toInt32))))]) := by
  intro sz
  refine ct_open (cc := cX10_tapeNumber) (maxL := 3) (ret := none) (by decide) rfl (Nat.le_of_ble_eq_true rfl) ?_
  intro p e s m below meth c ls A hx hb hr hml hts hown hlocks hin hP hK hD hA hS hl
  have hl : lv_has ls 3 [(0, .ref (r 0)), (1, .int x2)] := hl
  have hown : s.vm.findClass RX10 = some m.cls := hown
  have i10 : ∀ w ∈ u_ws RX10 TX10 18, w ∈ wsX10_tapeNumber := fun _ h => List.mem_cons_of_mem _ (List.mem_append_right _ h)
  have w1 := hts (.fieldLink RX10 92 "GuildCharter" "tapeSize" "I") (List.mem_cons_of_mem _ (List.mem_append_left _ (List.mem_of_getElem? (i := 0) rfl)))
  have w2 := hts (.fieldLink RX10 9 "GuildCharter" "tape" "[B") (List.mem_cons_of_mem _ (List.mem_append_left _ (List.mem_of_getElem? (i := 1) rfl)))
  refine lv_bipush (v := 24) hx hb dX10_tapeNumber_0 z134 ?_
  refine lv_istore_n (lv' := [(2, .int 24), (0, .ref (r 0)), (1, .int x2)]) hx hb dX10_tapeNumber_2 rfl hl (nlt rfl) rfl (fun ls hl => ?_)
  refine lv_iload_n hx hb dX10_tapeNumber_3 rfl (lv_at hl 0 rfl) ?_
  refine lv_if_lt (tgt := 46) hx hb dX10_tapeNumber_4 z277 (fun c1 => absurd c1 (z135)) (fun _ => ?_)
  refine lv_aload_n hx hb dX10_tapeNumber_7 rfl (lv_at hl 1 rfl) ?_
  refine va_get (D := (dC, dI)) (ci := 10) (v := .int 4) (C := RX10) (T := TX10) (N := 18) hx hb hts i10 hown hK hP 0 rfl rfl 1 (nlt rfl) w1 (fun _ h9 => h9) rfl dX10_tapeNumber_8 ?_
  refine lv_sipush (v := 1600) hx hb dX10_tapeNumber_11 z0 ?_
  refine lv_icmp_ge (tgt := 40) hx hb dX10_tapeNumber_14 z279 (fun c1 => absurd c1 (z297)) (fun _ => ?_)
  refine lv_aload_n hx hb dX10_tapeNumber_17 rfl (lv_at hl 1 rfl) ?_
  refine va_get (D := (dC, dI)) (ci := 10) (v := .ref (r 1)) (C := RX10) (T := TX10) (N := 18) hx hb hts i10 hown hK hP 0 rfl rfl 0 (nlt rfl) w2 (fun _ h9 => h9) rfl dX10_tapeNumber_18 ?_
  refine lv_aload_n hx hb dX10_tapeNumber_21 rfl (lv_at hl 1 rfl) ?_
  refine va_get (D := (dC, dI)) (ci := 10) (v := .int 4) (C := RX10) (T := TX10) (N := 18) hx hb hts i10 hown hK hP 0 rfl rfl 1 (nlt rfl) w1 (fun _ h9 => h9) rfl dX10_tapeNumber_22 ?_
  refine lv_iload_n hx hb dX10_tapeNumber_25 rfl (lv_at hl 2 rfl) ?_
  refine lv_iload_n hx hb dX10_tapeNumber_26 rfl (lv_at hl 0 rfl) ?_
  refine lv_ishr hx hb dX10_tapeNumber_27 ?_
  refine lv_i2b hx hb dX10_tapeNumber_28 rfl ?_
  refine my_bast hx hb hK hP hD hS 1 0 rfl rfl z298 (rfl : vp_nar .byte ((x2 >>> (24 &&& 31))).toInt8.toInt32 = _) dX10_tapeNumber_29 (fun H locs hP hD hS => ?_)
  refine lv_aload_n hx hb dX10_tapeNumber_30 rfl (lv_at hl 1 rfl) ?_
  refine lv_dup hx hb dX10_tapeNumber_31 rfl ?_
  refine va_get (D := (dC, dI)) (ci := 10) (v := .int 4) (C := RX10) (T := TX10) (N := 18) hx hb hts i10 hown hK hP 0 rfl rfl 1 (nlt rfl) w1 (fun _ h9 => h9) rfl dX10_tapeNumber_32 ?_
  refine lv_iconst (v := 1) hx hb dX10_tapeNumber_35 z39 ?_
  refine lv_iadd hx hb dX10_tapeNumber_36 ?_
  refine tpi z299 ?_
  refine va_put (D := (dC, dI)) (ci := 10) (v := .int 5) (ty := tyX10 1) (C := RX10) (T := TX10) (N := 18) hx hb hts i10 tyX10 tyX10_ok nmX10 hown hK hP hD hS 0 rfl rfl 1 (nlt rfl) w1 (fun _ h9 => h9) rfl (tyX10_ok 1 (nlt rfl)) rfl rfl (nlt rfl) dX10_tapeNumber_37 (fun H locs hP hD hS => ?_)
  refine lv_iinc (v := 16) (lv' := [(2, .int 16), (0, .ref (r 0)), (1, .int x2)]) hx hb dX10_tapeNumber_40 hl (k := 0) rfl z282 (nlt rfl) rfl (fun ls hl => ?_)
  refine lv_goto (tgt := 3) hx hb dX10_tapeNumber_43 z283 ?_
  refine lv_iload_n hx hb dX10_tapeNumber_3 rfl (lv_at hl 0 rfl) ?_
  refine lv_if_lt (tgt := 46) hx hb dX10_tapeNumber_4 z277 (fun c1 => absurd c1 (z190)) (fun _ => ?_)
  refine lv_aload_n hx hb dX10_tapeNumber_7 rfl (lv_at hl 1 rfl) ?_
  refine va_get (D := (dC, dI)) (ci := 10) (v := .int 5) (C := RX10) (T := TX10) (N := 18) hx hb hts i10 hown hK hP 0 rfl rfl 1 (nlt rfl) w1 (fun _ h9 => h9) rfl dX10_tapeNumber_8 ?_
  refine lv_sipush (v := 1600) hx hb dX10_tapeNumber_11 z0 ?_
  refine lv_icmp_ge (tgt := 40) hx hb dX10_tapeNumber_14 z279 (fun c1 => absurd c1 (z300)) (fun _ => ?_)
  refine lv_aload_n hx hb dX10_tapeNumber_17 rfl (lv_at hl 1 rfl) ?_
  refine va_get (D := (dC, dI)) (ci := 10) (v := .ref (r 1)) (C := RX10) (T := TX10) (N := 18) hx hb hts i10 hown hK hP 0 rfl rfl 0 (nlt rfl) w2 (fun _ h9 => h9) rfl dX10_tapeNumber_18 ?_
  refine lv_aload_n hx hb dX10_tapeNumber_21 rfl (lv_at hl 1 rfl) ?_
  refine va_get (D := (dC, dI)) (ci := 10) (v := .int 5) (C := RX10) (T := TX10) (N := 18) hx hb hts i10 hown hK hP 0 rfl rfl 1 (nlt rfl) w1 (fun _ h9 => h9) rfl dX10_tapeNumber_22 ?_
  refine lv_iload_n hx hb dX10_tapeNumber_25 rfl (lv_at hl 2 rfl) ?_
  refine lv_iload_n hx hb dX10_tapeNumber_26 rfl (lv_at hl 0 rfl) ?_
  refine lv_ishr hx hb dX10_tapeNumber_27 ?_
  refine lv_i2b hx hb dX10_tapeNumber_28 rfl ?_
  refine my_bast hx hb hK hP hD hS 1 0 rfl rfl z301 (rfl : vp_nar .byte ((x2 >>> (16 &&& 31))).toInt8.toInt32 = _) dX10_tapeNumber_29 (fun H locs hP hD hS => ?_)
  have hP : va_P (dC, dI) vwCl [((r 0), .inr (10, [.ref (r 1), .int 5, .ref (r 2), .ref (r 18), .ref (r 28), .ref (r 38), .ref (r 45), .ref (r 55), .ref (r 58), .ref (r 61), .ref (r 65), .ref (r 70), .ref (r 75), .int 0, .ref (r 80), .ref (r 86), .int 0, .ref (r 87)])), ((r 1), .inl (cB, 1600, .inl (upd (upd (upd (upd (upd (upd (fun _ => 0) 0 (vp_nar .byte ((x1 >>> (24 &&& 31))).toInt8.toInt32)) 1 (vp_nar .byte ((x1 >>> (16 &&& 31))).toInt8.toInt32)) 2 (vp_nar .byte ((x1 >>> (8 &&& 31))).toInt8.toInt32)) 3 (vp_nar .byte ((x1 >>> (0 &&& 31))).toInt8.toInt32)) 4 (vp_nar .byte ((x2 >>> (24 &&& 31))).toInt8.toInt32)) 5 (vp_nar .byte ((x2 >>> (16 &&& 31))).toInt8.toInt32))))] H := hP
  have hD : va_D A [((r 0), .inr (10, [.ref (r 1), .int 5, .ref (r 2), .ref (r 18), .ref (r 28), .ref (r 38), .ref (r 45), .ref (r 55), .ref (r 58), .ref (r 61), .ref (r 65), .ref (r 70), .ref (r 75), .int 0, .ref (r 80), .ref (r 86), .int 0, .ref (r 87)])), ((r 1), .inl (cB, 1600, .inl (upd (upd (upd (upd (upd (upd (fun _ => 0) 0 (vp_nar .byte ((x1 >>> (24 &&& 31))).toInt8.toInt32)) 1 (vp_nar .byte ((x1 >>> (16 &&& 31))).toInt8.toInt32)) 2 (vp_nar .byte ((x1 >>> (8 &&& 31))).toInt8.toInt32)) 3 (vp_nar .byte ((x1 >>> (0 &&& 31))).toInt8.toInt32)) 4 (vp_nar .byte ((x2 >>> (24 &&& 31))).toInt8.toInt32)) 5 (vp_nar .byte ((x2 >>> (16 &&& 31))).toInt8.toInt32))))] := hD
  refine lv_aload_n hx hb dX10_tapeNumber_30 rfl (lv_at hl 1 rfl) ?_
  refine lv_dup hx hb dX10_tapeNumber_31 rfl ?_
  refine va_get (D := (dC, dI)) (ci := 10) (v := .int 5) (C := RX10) (T := TX10) (N := 18) hx hb hts i10 hown hK hP 0 rfl rfl 1 (nlt rfl) w1 (fun _ h9 => h9) rfl dX10_tapeNumber_32 ?_
  refine lv_iconst (v := 1) hx hb dX10_tapeNumber_35 z39 ?_
  refine lv_iadd hx hb dX10_tapeNumber_36 ?_
  refine tpi z302 ?_
  refine va_put (D := (dC, dI)) (ci := 10) (v := .int 6) (ty := tyX10 1) (C := RX10) (T := TX10) (N := 18) hx hb hts i10 tyX10 tyX10_ok nmX10 hown hK hP hD hS 0 rfl rfl 1 (nlt rfl) w1 (fun _ h9 => h9) rfl (tyX10_ok 1 (nlt rfl)) rfl rfl (nlt rfl) dX10_tapeNumber_37 (fun H locs hP hD hS => ?_)
  refine lv_iinc (v := 8) (lv' := [(2, .int 8), (0, .ref (r 0)), (1, .int x2)]) hx hb dX10_tapeNumber_40 hl (k := 0) rfl z287 (nlt rfl) rfl (fun ls hl => ?_)
  refine lv_goto (tgt := 3) hx hb dX10_tapeNumber_43 z283 ?_
  refine lv_iload_n hx hb dX10_tapeNumber_3 rfl (lv_at hl 0 rfl) ?_
  refine lv_if_lt (tgt := 46) hx hb dX10_tapeNumber_4 z277 (fun c1 => absurd c1 (z131)) (fun _ => ?_)
  refine lv_aload_n hx hb dX10_tapeNumber_7 rfl (lv_at hl 1 rfl) ?_
  refine va_get (D := (dC, dI)) (ci := 10) (v := .int 6) (C := RX10) (T := TX10) (N := 18) hx hb hts i10 hown hK hP 0 rfl rfl 1 (nlt rfl) w1 (fun _ h9 => h9) rfl dX10_tapeNumber_8 ?_
  refine lv_sipush (v := 1600) hx hb dX10_tapeNumber_11 z0 ?_
  refine lv_icmp_ge (tgt := 40) hx hb dX10_tapeNumber_14 z279 (fun c1 => absurd c1 (z303)) (fun _ => ?_)
  refine lv_aload_n hx hb dX10_tapeNumber_17 rfl (lv_at hl 1 rfl) ?_
  refine va_get (D := (dC, dI)) (ci := 10) (v := .ref (r 1)) (C := RX10) (T := TX10) (N := 18) hx hb hts i10 hown hK hP 0 rfl rfl 0 (nlt rfl) w2 (fun _ h9 => h9) rfl dX10_tapeNumber_18 ?_
  refine lv_aload_n hx hb dX10_tapeNumber_21 rfl (lv_at hl 1 rfl) ?_
  refine va_get (D := (dC, dI)) (ci := 10) (v := .int 6) (C := RX10) (T := TX10) (N := 18) hx hb hts i10 hown hK hP 0 rfl rfl 1 (nlt rfl) w1 (fun _ h9 => h9) rfl dX10_tapeNumber_22 ?_
  refine lv_iload_n hx hb dX10_tapeNumber_25 rfl (lv_at hl 2 rfl) ?_
  refine lv_iload_n hx hb dX10_tapeNumber_26 rfl (lv_at hl 0 rfl) ?_
  refine lv_ishr hx hb dX10_tapeNumber_27 ?_
  refine lv_i2b hx hb dX10_tapeNumber_28 rfl ?_
  refine my_bast hx hb hK hP hD hS 1 0 rfl rfl z304 (rfl : vp_nar .byte ((x2 >>> (8 &&& 31))).toInt8.toInt32 = _) dX10_tapeNumber_29 (fun H locs hP hD hS => ?_)
  refine lv_aload_n hx hb dX10_tapeNumber_30 rfl (lv_at hl 1 rfl) ?_
  refine lv_dup hx hb dX10_tapeNumber_31 rfl ?_
  refine va_get (D := (dC, dI)) (ci := 10) (v := .int 6) (C := RX10) (T := TX10) (N := 18) hx hb hts i10 hown hK hP 0 rfl rfl 1 (nlt rfl) w1 (fun _ h9 => h9) rfl dX10_tapeNumber_32 ?_
  refine lv_iconst (v := 1) hx hb dX10_tapeNumber_35 z39 ?_
  refine lv_iadd hx hb dX10_tapeNumber_36 ?_
  refine tpi z305 ?_
  refine va_put (D := (dC, dI)) (ci := 10) (v := .int 7) (ty := tyX10 1) (C := RX10) (T := TX10) (N := 18) hx hb hts i10 tyX10 tyX10_ok nmX10 hown hK hP hD hS 0 rfl rfl 1 (nlt rfl) w1 (fun _ h9 => h9) rfl (tyX10_ok 1 (nlt rfl)) rfl rfl (nlt rfl) dX10_tapeNumber_37 (fun H locs hP hD hS => ?_)
  have hP : va_P (dC, dI) vwCl [((r 0), .inr (10, [.ref (r 1), .int 7, .ref (r 2), .ref (r 18), .ref (r 28), .ref (r 38), .ref (r 45), .ref (r 55), .ref (r 58), .ref (r 61), .ref (r 65), .ref (r 70), .ref (r 75), .int 0, .ref (r 80), .ref (r 86), .int 0, .ref (r 87)])), ((r 1), .inl (cB, 1600, .inl (upd (upd (upd (upd (upd (upd (upd (fun _ => 0) 0 (vp_nar .byte ((x1 >>> (24 &&& 31))).toInt8.toInt32)) 1 (vp_nar .byte ((x1 >>> (16 &&& 31))).toInt8.toInt32)) 2 (vp_nar .byte ((x1 >>> (8 &&& 31))).toInt8.toInt32)) 3 (vp_nar .byte ((x1 >>> (0 &&& 31))).toInt8.toInt32)) 4 (vp_nar .byte ((x2 >>> (24 &&& 31))).toInt8.toInt32)) 5 (vp_nar .byte ((x2 >>> (16 &&& 31))).toInt8.toInt32)) 6 (vp_nar .byte ((x2 >>> (8 &&& 31))).toInt8.toInt32))))] H := hP
  have hD : va_D A [((r 0), .inr (10, [.ref (r 1), .int 7, .ref (r 2), .ref (r 18), .ref (r 28), .ref (r 38), .ref (r 45), .ref (r 55), .ref (r 58), .ref (r 61), .ref (r 65), .ref (r 70), .ref (r 75), .int 0, .ref (r 80), .ref (r 86), .int 0, .ref (r 87)])), ((r 1), .inl (cB, 1600, .inl (upd (upd (upd (upd (upd (upd (upd (fun _ => 0) 0 (vp_nar .byte ((x1 >>> (24 &&& 31))).toInt8.toInt32)) 1 (vp_nar .byte ((x1 >>> (16 &&& 31))).toInt8.toInt32)) 2 (vp_nar .byte ((x1 >>> (8 &&& 31))).toInt8.toInt32)) 3 (vp_nar .byte ((x1 >>> (0 &&& 31))).toInt8.toInt32)) 4 (vp_nar .byte ((x2 >>> (24 &&& 31))).toInt8.toInt32)) 5 (vp_nar .byte ((x2 >>> (16 &&& 31))).toInt8.toInt32)) 6 (vp_nar .byte ((x2 >>> (8 &&& 31))).toInt8.toInt32))))] := hD
  refine lv_iinc (v := 0) (lv' := [(2, .int 0), (0, .ref (r 0)), (1, .int x2)]) hx hb dX10_tapeNumber_40 hl (k := 0) rfl z291 (nlt rfl) rfl (fun ls hl => ?_)
  refine lv_goto (tgt := 3) hx hb dX10_tapeNumber_43 z283 ?_
  refine lv_iload_n hx hb dX10_tapeNumber_3 rfl (lv_at hl 0 rfl) ?_
  refine lv_if_lt (tgt := 46) hx hb dX10_tapeNumber_4 z277 (fun c1 => absurd c1 (z125)) (fun _ => ?_)
  refine lv_aload_n hx hb dX10_tapeNumber_7 rfl (lv_at hl 1 rfl) ?_
  refine va_get (D := (dC, dI)) (ci := 10) (v := .int 7) (C := RX10) (T := TX10) (N := 18) hx hb hts i10 hown hK hP 0 rfl rfl 1 (nlt rfl) w1 (fun _ h9 => h9) rfl dX10_tapeNumber_8 ?_
  refine lv_sipush (v := 1600) hx hb dX10_tapeNumber_11 z0 ?_
  refine lv_icmp_ge (tgt := 40) hx hb dX10_tapeNumber_14 z279 (fun c1 => absurd c1 (z306)) (fun _ => ?_)
  refine lv_aload_n hx hb dX10_tapeNumber_17 rfl (lv_at hl 1 rfl) ?_
  refine va_get (D := (dC, dI)) (ci := 10) (v := .ref (r 1)) (C := RX10) (T := TX10) (N := 18) hx hb hts i10 hown hK hP 0 rfl rfl 0 (nlt rfl) w2 (fun _ h9 => h9) rfl dX10_tapeNumber_18 ?_
  refine lv_aload_n hx hb dX10_tapeNumber_21 rfl (lv_at hl 1 rfl) ?_
  refine va_get (D := (dC, dI)) (ci := 10) (v := .int 7) (C := RX10) (T := TX10) (N := 18) hx hb hts i10 hown hK hP 0 rfl rfl 1 (nlt rfl) w1 (fun _ h9 => h9) rfl dX10_tapeNumber_22 ?_
  refine lv_iload_n hx hb dX10_tapeNumber_25 rfl (lv_at hl 2 rfl) ?_
  refine lv_iload_n hx hb dX10_tapeNumber_26 rfl (lv_at hl 0 rfl) ?_
  refine lv_ishr hx hb dX10_tapeNumber_27 ?_
  refine lv_i2b hx hb dX10_tapeNumber_28 rfl ?_
  refine my_bast hx hb hK hP hD hS 1 0 rfl rfl z307 (rfl : vp_nar .byte ((x2 >>> (0 &&& 31))).toInt8.toInt32 = _) dX10_tapeNumber_29 (fun H locs hP hD hS => ?_)
  refine lv_aload_n hx hb dX10_tapeNumber_30 rfl (lv_at hl 1 rfl) ?_
  refine lv_dup hx hb dX10_tapeNumber_31 rfl ?_
  refine va_get (D := (dC, dI)) (ci := 10) (v := .int 7) (C := RX10) (T := TX10) (N := 18) hx hb hts i10 hown hK hP 0 rfl rfl 1 (nlt rfl) w1 (fun _ h9 => h9) rfl dX10_tapeNumber_32 ?_
  refine lv_iconst (v := 1) hx hb dX10_tapeNumber_35 z39 ?_
  refine lv_iadd hx hb dX10_tapeNumber_36 ?_
  refine tpi z308 ?_
  refine va_put (D := (dC, dI)) (ci := 10) (v := .int 8) (ty := tyX10 1) (C := RX10) (T := TX10) (N := 18) hx hb hts i10 tyX10 tyX10_ok nmX10 hown hK hP hD hS 0 rfl rfl 1 (nlt rfl) w1 (fun _ h9 => h9) rfl (tyX10_ok 1 (nlt rfl)) rfl rfl (nlt rfl) dX10_tapeNumber_37 (fun H locs hP hD hS => ?_)
  refine lv_iinc (v := (-8)) (lv' := [(2, .int (-8)), (0, .ref (r 0)), (1, .int x2)]) hx hb dX10_tapeNumber_40 hl (k := 0) rfl z295 (nlt rfl) rfl (fun ls hl => ?_)
  refine lv_goto (tgt := 3) hx hb dX10_tapeNumber_43 z283 ?_
  refine lv_iload_n hx hb dX10_tapeNumber_3 rfl (lv_at hl 0 rfl) ?_
  refine lv_if_lt (tgt := 46) hx hb dX10_tapeNumber_4 z277 (fun _ => ?_) (fun c1 => absurd (z296) c1)
  refine W.widen (k := 0) (n := 0) (by decide +kernel) (by decide +kernel) ?_
  exact ret_v hx hb hr hlocks hS (u := (fun _ => 0)) (hP.sub [0, 1] rfl) (hD.sub [0, 1] (by decide +kernel) rfl) dX10_tapeNumber_46

set_option maxHeartbeats 4000000 in
set_option maxRecDepth 100000 in
theorem k28_X10_tapeNumber (l : Launch) (dC : Nat → ClassId) (dI : Nat → Nat → Nat) (cB cI cJ cZ cO : ClassId) (r : Nat → Nat) (x1 : Int32) (x2 : Int32) (x3 : Int32) : CV l yX10_tapeNumber wsX10_tapeNumber ({ frames := 0, cells := 0, slots := 0, locals := 0 }) (dC, dI) (tyL cB cI cJ cZ cO) [.ref (r 0), .int x3] [((r 0), .inr (10, [.ref (r 1), .int 8, .ref (r 2), .ref (r 18), .ref (r 28), .ref (r 38), .ref (r 45), .ref (r 55), .ref (r 58), .ref (r 61), .ref (r 65), .ref (r 70), .ref (r 75), .int 0, .ref (r 80), .ref (r 86), .int 0, .ref (r 87)])), ((r 1), .inl (cB, 1600, .inl (upd (upd (upd (upd (upd (upd (upd (upd (fun _ => 0) 0 (vp_nar .byte ((x1 >>> (24 &&& 31))).toInt8.toInt32)) 1 (vp_nar .byte ((x1 >>> (16 &&& 31))).toInt8.toInt32)) 2 (vp_nar .byte ((x1 >>> (8 &&& 31))).toInt8.toInt32)) 3 (vp_nar .byte ((x1 >>> (0 &&& 31))).toInt8.toInt32)) 4 (vp_nar .byte ((x2 >>> (24 &&& 31))).toInt8.toInt32)) 5 (vp_nar .byte ((x2 >>> (16 &&& 31))).toInt8.toInt32)) 6 (vp_nar .byte ((x2 >>> (8 &&& 31))).toInt8.toInt32)) 7 (vp_nar .byte ((x2 >>> (0 &&& 31))).toInt8.toInt32))))] (fun u => [((r 0), .inr (10, [.ref (r 1), .int 12, .ref (r 2), .ref (r 18), .ref (r 28), .ref (r 38), .ref (r 45), .ref (r 55), .ref (r 58), .ref (r 61), .ref (r 65), .ref (r 70), .ref (r 75), .int 0, .ref (r 80), .ref (r 86), .int 0, .ref (r 87)])), ((r 1), .inl (cB, 1600, .inl (upd (upd (upd (upd (upd (upd (upd (upd (upd (upd (upd (upd (fun _ => 0) 0 (vp_nar .byte ((x1 >>> (24 &&& 31))).toInt8.toInt32)) 1 (vp_nar .byte ((x1 >>> (16 &&& 31))).toInt8.toInt32)) 2 (vp_nar .byte ((x1 >>> (8 &&& 31))).toInt8.toInt32)) 3 (vp_nar .byte ((x1 >>> (0 &&& 31))).toInt8.toInt32)) 4 (vp_nar .byte ((x2 >>> (24 &&& 31))).toInt8.toInt32)) 5 (vp_nar .byte ((x2 >>> (16 &&& 31))).toInt8.toInt32)) 6 (vp_nar .byte ((x2 >>> (8 &&& 31))).toInt8.toInt32)) 7 (vp_nar .byte ((x2 >>> (0 &&& 31))).toInt8.toInt32)) 8 (vp_nar .byte ((x3 >>> (24 &&& 31))).toInt8.toInt32)) 9 (vp_nar .byte ((x3 >>> (16 &&& 31))).toInt8.toInt32)) 10 (vp_nar .byte ((x3 >>> (8 &&& 31))).toInt8.toInt32)) 11 (vp_nar .byte ((x3 >>> (0 &&& 31))).toInt8.toInt32))))]) := by
  intro sz
  refine ct_open (cc := cX10_tapeNumber) (maxL := 3) (ret := none) (by decide) rfl (Nat.le_of_ble_eq_true rfl) ?_
  intro p e s m below meth c ls A hx hb hr hml hts hown hlocks hin hP hK hD hA hS hl
  have hl : lv_has ls 3 [(0, .ref (r 0)), (1, .int x3)] := hl
  have hown : s.vm.findClass RX10 = some m.cls := hown
  have i10 : ∀ w ∈ u_ws RX10 TX10 18, w ∈ wsX10_tapeNumber := fun _ h => List.mem_cons_of_mem _ (List.mem_append_right _ h)
  have w1 := hts (.fieldLink RX10 92 "GuildCharter" "tapeSize" "I") (List.mem_cons_of_mem _ (List.mem_append_left _ (List.mem_of_getElem? (i := 0) rfl)))
  have w2 := hts (.fieldLink RX10 9 "GuildCharter" "tape" "[B") (List.mem_cons_of_mem _ (List.mem_append_left _ (List.mem_of_getElem? (i := 1) rfl)))
  refine lv_bipush (v := 24) hx hb dX10_tapeNumber_0 z134 ?_
  refine lv_istore_n (lv' := [(2, .int 24), (0, .ref (r 0)), (1, .int x3)]) hx hb dX10_tapeNumber_2 rfl hl (nlt rfl) rfl (fun ls hl => ?_)
  refine lv_iload_n hx hb dX10_tapeNumber_3 rfl (lv_at hl 0 rfl) ?_
  refine lv_if_lt (tgt := 46) hx hb dX10_tapeNumber_4 z277 (fun c1 => absurd c1 (z135)) (fun _ => ?_)
  refine lv_aload_n hx hb dX10_tapeNumber_7 rfl (lv_at hl 1 rfl) ?_
  refine va_get (D := (dC, dI)) (ci := 10) (v := .int 8) (C := RX10) (T := TX10) (N := 18) hx hb hts i10 hown hK hP 0 rfl rfl 1 (nlt rfl) w1 (fun _ h9 => h9) rfl dX10_tapeNumber_8 ?_
  refine lv_sipush (v := 1600) hx hb dX10_tapeNumber_11 z0 ?_
  refine lv_icmp_ge (tgt := 40) hx hb dX10_tapeNumber_14 z279 (fun c1 => absurd c1 (z309)) (fun _ => ?_)
  refine lv_aload_n hx hb dX10_tapeNumber_17 rfl (lv_at hl 1 rfl) ?_
  refine va_get (D := (dC, dI)) (ci := 10) (v := .ref (r 1)) (C := RX10) (T := TX10) (N := 18) hx hb hts i10 hown hK hP 0 rfl rfl 0 (nlt rfl) w2 (fun _ h9 => h9) rfl dX10_tapeNumber_18 ?_
  refine lv_aload_n hx hb dX10_tapeNumber_21 rfl (lv_at hl 1 rfl) ?_
  refine va_get (D := (dC, dI)) (ci := 10) (v := .int 8) (C := RX10) (T := TX10) (N := 18) hx hb hts i10 hown hK hP 0 rfl rfl 1 (nlt rfl) w1 (fun _ h9 => h9) rfl dX10_tapeNumber_22 ?_
  refine lv_iload_n hx hb dX10_tapeNumber_25 rfl (lv_at hl 2 rfl) ?_
  refine lv_iload_n hx hb dX10_tapeNumber_26 rfl (lv_at hl 0 rfl) ?_
  refine lv_ishr hx hb dX10_tapeNumber_27 ?_
  refine lv_i2b hx hb dX10_tapeNumber_28 rfl ?_
  refine my_bast hx hb hK hP hD hS 1 0 rfl rfl z310 (rfl : vp_nar .byte ((x3 >>> (24 &&& 31))).toInt8.toInt32 = _) dX10_tapeNumber_29 (fun H locs hP hD hS => ?_)
  refine lv_aload_n hx hb dX10_tapeNumber_30 rfl (lv_at hl 1 rfl) ?_
  refine lv_dup hx hb dX10_tapeNumber_31 rfl ?_
  refine va_get (D := (dC, dI)) (ci := 10) (v := .int 8) (C := RX10) (T := TX10) (N := 18) hx hb hts i10 hown hK hP 0 rfl rfl 1 (nlt rfl) w1 (fun _ h9 => h9) rfl dX10_tapeNumber_32 ?_
  refine lv_iconst (v := 1) hx hb dX10_tapeNumber_35 z39 ?_
  refine lv_iadd hx hb dX10_tapeNumber_36 ?_
  refine tpi z311 ?_
  refine va_put (D := (dC, dI)) (ci := 10) (v := .int 9) (ty := tyX10 1) (C := RX10) (T := TX10) (N := 18) hx hb hts i10 tyX10 tyX10_ok nmX10 hown hK hP hD hS 0 rfl rfl 1 (nlt rfl) w1 (fun _ h9 => h9) rfl (tyX10_ok 1 (nlt rfl)) rfl rfl (nlt rfl) dX10_tapeNumber_37 (fun H locs hP hD hS => ?_)
  refine lv_iinc (v := 16) (lv' := [(2, .int 16), (0, .ref (r 0)), (1, .int x3)]) hx hb dX10_tapeNumber_40 hl (k := 0) rfl z282 (nlt rfl) rfl (fun ls hl => ?_)
  refine lv_goto (tgt := 3) hx hb dX10_tapeNumber_43 z283 ?_
  refine lv_iload_n hx hb dX10_tapeNumber_3 rfl (lv_at hl 0 rfl) ?_
  refine lv_if_lt (tgt := 46) hx hb dX10_tapeNumber_4 z277 (fun c1 => absurd c1 (z190)) (fun _ => ?_)
  refine lv_aload_n hx hb dX10_tapeNumber_7 rfl (lv_at hl 1 rfl) ?_
  refine va_get (D := (dC, dI)) (ci := 10) (v := .int 9) (C := RX10) (T := TX10) (N := 18) hx hb hts i10 hown hK hP 0 rfl rfl 1 (nlt rfl) w1 (fun _ h9 => h9) rfl dX10_tapeNumber_8 ?_
  refine lv_sipush (v := 1600) hx hb dX10_tapeNumber_11 z0 ?_
  refine lv_icmp_ge (tgt := 40) hx hb dX10_tapeNumber_14 z279 (fun c1 => absurd c1 (z312)) (fun _ => ?_)
  refine lv_aload_n hx hb dX10_tapeNumber_17 rfl (lv_at hl 1 rfl) ?_
  refine va_get (D := (dC, dI)) (ci := 10) (v := .ref (r 1)) (C := RX10) (T := TX10) (N := 18) hx hb hts i10 hown hK hP 0 rfl rfl 0 (nlt rfl) w2 (fun _ h9 => h9) rfl dX10_tapeNumber_18 ?_
  refine lv_aload_n hx hb dX10_tapeNumber_21 rfl (lv_at hl 1 rfl) ?_
  refine va_get (D := (dC, dI)) (ci := 10) (v := .int 9) (C := RX10) (T := TX10) (N := 18) hx hb hts i10 hown hK hP 0 rfl rfl 1 (nlt rfl) w1 (fun _ h9 => h9) rfl dX10_tapeNumber_22 ?_
  refine lv_iload_n hx hb dX10_tapeNumber_25 rfl (lv_at hl 2 rfl) ?_
  refine lv_iload_n hx hb dX10_tapeNumber_26 rfl (lv_at hl 0 rfl) ?_
  refine lv_ishr hx hb dX10_tapeNumber_27 ?_
  refine lv_i2b hx hb dX10_tapeNumber_28 rfl ?_
  refine my_bast hx hb hK hP hD hS 1 0 rfl rfl z313 (rfl : vp_nar .byte ((x3 >>> (16 &&& 31))).toInt8.toInt32 = _) dX10_tapeNumber_29 (fun H locs hP hD hS => ?_)
  have hP : va_P (dC, dI) vwCl [((r 0), .inr (10, [.ref (r 1), .int 9, .ref (r 2), .ref (r 18), .ref (r 28), .ref (r 38), .ref (r 45), .ref (r 55), .ref (r 58), .ref (r 61), .ref (r 65), .ref (r 70), .ref (r 75), .int 0, .ref (r 80), .ref (r 86), .int 0, .ref (r 87)])), ((r 1), .inl (cB, 1600, .inl (upd (upd (upd (upd (upd (upd (upd (upd (upd (upd (fun _ => 0) 0 (vp_nar .byte ((x1 >>> (24 &&& 31))).toInt8.toInt32)) 1 (vp_nar .byte ((x1 >>> (16 &&& 31))).toInt8.toInt32)) 2 (vp_nar .byte ((x1 >>> (8 &&& 31))).toInt8.toInt32)) 3 (vp_nar .byte ((x1 >>> (0 &&& 31))).toInt8.toInt32)) 4 (vp_nar .byte ((x2 >>> (24 &&& 31))).toInt8.toInt32)) 5 (vp_nar .byte ((x2 >>> (16 &&& 31))).toInt8.toInt32)) 6 (vp_nar .byte ((x2 >>> (8 &&& 31))).toInt8.toInt32)) 7 (vp_nar .byte ((x2 >>> (0 &&& 31))).toInt8.toInt32)) 8 (vp_nar .byte ((x3 >>> (24 &&& 31))).toInt8.toInt32)) 9 (vp_nar .byte ((x3 >>> (16 &&& 31))).toInt8.toInt32))))] H := hP
  have hD : va_D A [((r 0), .inr (10, [.ref (r 1), .int 9, .ref (r 2), .ref (r 18), .ref (r 28), .ref (r 38), .ref (r 45), .ref (r 55), .ref (r 58), .ref (r 61), .ref (r 65), .ref (r 70), .ref (r 75), .int 0, .ref (r 80), .ref (r 86), .int 0, .ref (r 87)])), ((r 1), .inl (cB, 1600, .inl (upd (upd (upd (upd (upd (upd (upd (upd (upd (upd (fun _ => 0) 0 (vp_nar .byte ((x1 >>> (24 &&& 31))).toInt8.toInt32)) 1 (vp_nar .byte ((x1 >>> (16 &&& 31))).toInt8.toInt32)) 2 (vp_nar .byte ((x1 >>> (8 &&& 31))).toInt8.toInt32)) 3 (vp_nar .byte ((x1 >>> (0 &&& 31))).toInt8.toInt32)) 4 (vp_nar .byte ((x2 >>> (24 &&& 31))).toInt8.toInt32)) 5 (vp_nar .byte ((x2 >>> (16 &&& 31))).toInt8.toInt32)) 6 (vp_nar .byte ((x2 >>> (8 &&& 31))).toInt8.toInt32)) 7 (vp_nar .byte ((x2 >>> (0 &&& 31))).toInt8.toInt32)) 8 (vp_nar .byte ((x3 >>> (24 &&& 31))).toInt8.toInt32)) 9 (vp_nar .byte ((x3 >>> (16 &&& 31))).toInt8.toInt32))))] := hD
  refine lv_aload_n hx hb dX10_tapeNumber_30 rfl (lv_at hl 1 rfl) ?_
  refine lv_dup hx hb dX10_tapeNumber_31 rfl ?_
  refine va_get (D := (dC, dI)) (ci := 10) (v := .int 9) (C := RX10) (T := TX10) (N := 18) hx hb hts i10 hown hK hP 0 rfl rfl 1 (nlt rfl) w1 (fun _ h9 => h9) rfl dX10_tapeNumber_32 ?_
  refine lv_iconst (v := 1) hx hb dX10_tapeNumber_35 z39 ?_
  refine lv_iadd hx hb dX10_tapeNumber_36 ?_
  refine tpi z314 ?_
  refine va_put (D := (dC, dI)) (ci := 10) (v := .int 10) (ty := tyX10 1) (C := RX10) (T := TX10) (N := 18) hx hb hts i10 tyX10 tyX10_ok nmX10 hown hK hP hD hS 0 rfl rfl 1 (nlt rfl) w1 (fun _ h9 => h9) rfl (tyX10_ok 1 (nlt rfl)) rfl rfl (nlt rfl) dX10_tapeNumber_37 (fun H locs hP hD hS => ?_)
  refine lv_iinc (v := 8) (lv' := [(2, .int 8), (0, .ref (r 0)), (1, .int x3)]) hx hb dX10_tapeNumber_40 hl (k := 0) rfl z287 (nlt rfl) rfl (fun ls hl => ?_)
  refine lv_goto (tgt := 3) hx hb dX10_tapeNumber_43 z283 ?_
  refine lv_iload_n hx hb dX10_tapeNumber_3 rfl (lv_at hl 0 rfl) ?_
  refine lv_if_lt (tgt := 46) hx hb dX10_tapeNumber_4 z277 (fun c1 => absurd c1 (z131)) (fun _ => ?_)
  refine lv_aload_n hx hb dX10_tapeNumber_7 rfl (lv_at hl 1 rfl) ?_
  refine va_get (D := (dC, dI)) (ci := 10) (v := .int 10) (C := RX10) (T := TX10) (N := 18) hx hb hts i10 hown hK hP 0 rfl rfl 1 (nlt rfl) w1 (fun _ h9 => h9) rfl dX10_tapeNumber_8 ?_
  refine lv_sipush (v := 1600) hx hb dX10_tapeNumber_11 z0 ?_
  refine lv_icmp_ge (tgt := 40) hx hb dX10_tapeNumber_14 z279 (fun c1 => absurd c1 (z315)) (fun _ => ?_)
  refine lv_aload_n hx hb dX10_tapeNumber_17 rfl (lv_at hl 1 rfl) ?_
  refine va_get (D := (dC, dI)) (ci := 10) (v := .ref (r 1)) (C := RX10) (T := TX10) (N := 18) hx hb hts i10 hown hK hP 0 rfl rfl 0 (nlt rfl) w2 (fun _ h9 => h9) rfl dX10_tapeNumber_18 ?_
  refine lv_aload_n hx hb dX10_tapeNumber_21 rfl (lv_at hl 1 rfl) ?_
  refine va_get (D := (dC, dI)) (ci := 10) (v := .int 10) (C := RX10) (T := TX10) (N := 18) hx hb hts i10 hown hK hP 0 rfl rfl 1 (nlt rfl) w1 (fun _ h9 => h9) rfl dX10_tapeNumber_22 ?_
  refine lv_iload_n hx hb dX10_tapeNumber_25 rfl (lv_at hl 2 rfl) ?_
  refine lv_iload_n hx hb dX10_tapeNumber_26 rfl (lv_at hl 0 rfl) ?_
  refine lv_ishr hx hb dX10_tapeNumber_27 ?_
  refine lv_i2b hx hb dX10_tapeNumber_28 rfl ?_
  refine my_bast hx hb hK hP hD hS 1 0 rfl rfl z316 (rfl : vp_nar .byte ((x3 >>> (8 &&& 31))).toInt8.toInt32 = _) dX10_tapeNumber_29 (fun H locs hP hD hS => ?_)
  refine lv_aload_n hx hb dX10_tapeNumber_30 rfl (lv_at hl 1 rfl) ?_
  refine lv_dup hx hb dX10_tapeNumber_31 rfl ?_
  refine va_get (D := (dC, dI)) (ci := 10) (v := .int 10) (C := RX10) (T := TX10) (N := 18) hx hb hts i10 hown hK hP 0 rfl rfl 1 (nlt rfl) w1 (fun _ h9 => h9) rfl dX10_tapeNumber_32 ?_
  refine lv_iconst (v := 1) hx hb dX10_tapeNumber_35 z39 ?_
  refine lv_iadd hx hb dX10_tapeNumber_36 ?_
  refine tpi z317 ?_
  refine va_put (D := (dC, dI)) (ci := 10) (v := .int 11) (ty := tyX10 1) (C := RX10) (T := TX10) (N := 18) hx hb hts i10 tyX10 tyX10_ok nmX10 hown hK hP hD hS 0 rfl rfl 1 (nlt rfl) w1 (fun _ h9 => h9) rfl (tyX10_ok 1 (nlt rfl)) rfl rfl (nlt rfl) dX10_tapeNumber_37 (fun H locs hP hD hS => ?_)
  have hP : va_P (dC, dI) vwCl [((r 0), .inr (10, [.ref (r 1), .int 11, .ref (r 2), .ref (r 18), .ref (r 28), .ref (r 38), .ref (r 45), .ref (r 55), .ref (r 58), .ref (r 61), .ref (r 65), .ref (r 70), .ref (r 75), .int 0, .ref (r 80), .ref (r 86), .int 0, .ref (r 87)])), ((r 1), .inl (cB, 1600, .inl (upd (upd (upd (upd (upd (upd (upd (upd (upd (upd (upd (fun _ => 0) 0 (vp_nar .byte ((x1 >>> (24 &&& 31))).toInt8.toInt32)) 1 (vp_nar .byte ((x1 >>> (16 &&& 31))).toInt8.toInt32)) 2 (vp_nar .byte ((x1 >>> (8 &&& 31))).toInt8.toInt32)) 3 (vp_nar .byte ((x1 >>> (0 &&& 31))).toInt8.toInt32)) 4 (vp_nar .byte ((x2 >>> (24 &&& 31))).toInt8.toInt32)) 5 (vp_nar .byte ((x2 >>> (16 &&& 31))).toInt8.toInt32)) 6 (vp_nar .byte ((x2 >>> (8 &&& 31))).toInt8.toInt32)) 7 (vp_nar .byte ((x2 >>> (0 &&& 31))).toInt8.toInt32)) 8 (vp_nar .byte ((x3 >>> (24 &&& 31))).toInt8.toInt32)) 9 (vp_nar .byte ((x3 >>> (16 &&& 31))).toInt8.toInt32)) 10 (vp_nar .byte ((x3 >>> (8 &&& 31))).toInt8.toInt32))))] H := hP
  have hD : va_D A [((r 0), .inr (10, [.ref (r 1), .int 11, .ref (r 2), .ref (r 18), .ref (r 28), .ref (r 38), .ref (r 45), .ref (r 55), .ref (r 58), .ref (r 61), .ref (r 65), .ref (r 70), .ref (r 75), .int 0, .ref (r 80), .ref (r 86), .int 0, .ref (r 87)])), ((r 1), .inl (cB, 1600, .inl (upd (upd (upd (upd (upd (upd (upd (upd (upd (upd (upd (fun _ => 0) 0 (vp_nar .byte ((x1 >>> (24 &&& 31))).toInt8.toInt32)) 1 (vp_nar .byte ((x1 >>> (16 &&& 31))).toInt8.toInt32)) 2 (vp_nar .byte ((x1 >>> (8 &&& 31))).toInt8.toInt32)) 3 (vp_nar .byte ((x1 >>> (0 &&& 31))).toInt8.toInt32)) 4 (vp_nar .byte ((x2 >>> (24 &&& 31))).toInt8.toInt32)) 5 (vp_nar .byte ((x2 >>> (16 &&& 31))).toInt8.toInt32)) 6 (vp_nar .byte ((x2 >>> (8 &&& 31))).toInt8.toInt32)) 7 (vp_nar .byte ((x2 >>> (0 &&& 31))).toInt8.toInt32)) 8 (vp_nar .byte ((x3 >>> (24 &&& 31))).toInt8.toInt32)) 9 (vp_nar .byte ((x3 >>> (16 &&& 31))).toInt8.toInt32)) 10 (vp_nar .byte ((x3 >>> (8 &&& 31))).toInt8.toInt32))))] := hD
  refine lv_iinc (v := 0) (lv' := [(2, .int 0), (0, .ref (r 0)), (1, .int x3)]) hx hb dX10_tapeNumber_40 hl (k := 0) rfl z291 (nlt rfl) rfl (fun ls hl => ?_)
  refine lv_goto (tgt := 3) hx hb dX10_tapeNumber_43 z283 ?_
  refine lv_iload_n hx hb dX10_tapeNumber_3 rfl (lv_at hl 0 rfl) ?_
  refine lv_if_lt (tgt := 46) hx hb dX10_tapeNumber_4 z277 (fun c1 => absurd c1 (z125)) (fun _ => ?_)
  refine lv_aload_n hx hb dX10_tapeNumber_7 rfl (lv_at hl 1 rfl) ?_
  refine va_get (D := (dC, dI)) (ci := 10) (v := .int 11) (C := RX10) (T := TX10) (N := 18) hx hb hts i10 hown hK hP 0 rfl rfl 1 (nlt rfl) w1 (fun _ h9 => h9) rfl dX10_tapeNumber_8 ?_
  refine lv_sipush (v := 1600) hx hb dX10_tapeNumber_11 z0 ?_
  refine lv_icmp_ge (tgt := 40) hx hb dX10_tapeNumber_14 z279 (fun c1 => absurd c1 (z318)) (fun _ => ?_)
  refine lv_aload_n hx hb dX10_tapeNumber_17 rfl (lv_at hl 1 rfl) ?_
  refine va_get (D := (dC, dI)) (ci := 10) (v := .ref (r 1)) (C := RX10) (T := TX10) (N := 18) hx hb hts i10 hown hK hP 0 rfl rfl 0 (nlt rfl) w2 (fun _ h9 => h9) rfl dX10_tapeNumber_18 ?_
  refine lv_aload_n hx hb dX10_tapeNumber_21 rfl (lv_at hl 1 rfl) ?_
  refine va_get (D := (dC, dI)) (ci := 10) (v := .int 11) (C := RX10) (T := TX10) (N := 18) hx hb hts i10 hown hK hP 0 rfl rfl 1 (nlt rfl) w1 (fun _ h9 => h9) rfl dX10_tapeNumber_22 ?_
  refine lv_iload_n hx hb dX10_tapeNumber_25 rfl (lv_at hl 2 rfl) ?_
  refine lv_iload_n hx hb dX10_tapeNumber_26 rfl (lv_at hl 0 rfl) ?_
  refine lv_ishr hx hb dX10_tapeNumber_27 ?_
  refine lv_i2b hx hb dX10_tapeNumber_28 rfl ?_
  refine my_bast hx hb hK hP hD hS 1 0 rfl rfl z319 (rfl : vp_nar .byte ((x3 >>> (0 &&& 31))).toInt8.toInt32 = _) dX10_tapeNumber_29 (fun H locs hP hD hS => ?_)
  refine lv_aload_n hx hb dX10_tapeNumber_30 rfl (lv_at hl 1 rfl) ?_
  refine lv_dup hx hb dX10_tapeNumber_31 rfl ?_
  refine va_get (D := (dC, dI)) (ci := 10) (v := .int 11) (C := RX10) (T := TX10) (N := 18) hx hb hts i10 hown hK hP 0 rfl rfl 1 (nlt rfl) w1 (fun _ h9 => h9) rfl dX10_tapeNumber_32 ?_
  refine lv_iconst (v := 1) hx hb dX10_tapeNumber_35 z39 ?_
  refine lv_iadd hx hb dX10_tapeNumber_36 ?_
  refine tpi z320 ?_
  refine va_put (D := (dC, dI)) (ci := 10) (v := .int 12) (ty := tyX10 1) (C := RX10) (T := TX10) (N := 18) hx hb hts i10 tyX10 tyX10_ok nmX10 hown hK hP hD hS 0 rfl rfl 1 (nlt rfl) w1 (fun _ h9 => h9) rfl (tyX10_ok 1 (nlt rfl)) rfl rfl (nlt rfl) dX10_tapeNumber_37 (fun H locs hP hD hS => ?_)
  refine lv_iinc (v := (-8)) (lv' := [(2, .int (-8)), (0, .ref (r 0)), (1, .int x3)]) hx hb dX10_tapeNumber_40 hl (k := 0) rfl z295 (nlt rfl) rfl (fun ls hl => ?_)
  refine lv_goto (tgt := 3) hx hb dX10_tapeNumber_43 z283 ?_
  refine lv_iload_n hx hb dX10_tapeNumber_3 rfl (lv_at hl 0 rfl) ?_
  refine lv_if_lt (tgt := 46) hx hb dX10_tapeNumber_4 z277 (fun _ => ?_) (fun c1 => absurd (z296) c1)
  refine W.widen (k := 0) (n := 0) (by decide +kernel) (by decide +kernel) ?_
  exact ret_v hx hb hr hlocks hS (u := (fun _ => 0)) (hP.sub [0, 1] rfl) (hD.sub [0, 1] (by decide +kernel) rfl) dX10_tapeNumber_46

set_option maxHeartbeats 4000000 in
set_option maxRecDepth 100000 in
theorem k29_X10_tapeNumber (l : Launch) (dC : Nat → ClassId) (dI : Nat → Nat → Nat) (cB cI cJ cZ cO : ClassId) (r : Nat → Nat) (x1 : Int32) (x2 : Int32) (x3 : Int32) (x4 : Int32) : CV l yX10_tapeNumber wsX10_tapeNumber ({ frames := 0, cells := 0, slots := 0, locals := 0 }) (dC, dI) (tyL cB cI cJ cZ cO) [.ref (r 0), .int x4] [((r 0), .inr (10, [.ref (r 1), .int 12, .ref (r 2), .ref (r 18), .ref (r 28), .ref (r 38), .ref (r 45), .ref (r 55), .ref (r 58), .ref (r 61), .ref (r 65), .ref (r 70), .ref (r 75), .int 0, .ref (r 80), .ref (r 86), .int 0, .ref (r 87)])), ((r 1), .inl (cB, 1600, .inl (upd (upd (upd (upd (upd (upd (upd (upd (upd (upd (upd (upd (fun _ => 0) 0 (vp_nar .byte ((x1 >>> (24 &&& 31))).toInt8.toInt32)) 1 (vp_nar .byte ((x1 >>> (16 &&& 31))).toInt8.toInt32)) 2 (vp_nar .byte ((x1 >>> (8 &&& 31))).toInt8.toInt32)) 3 (vp_nar .byte ((x1 >>> (0 &&& 31))).toInt8.toInt32)) 4 (vp_nar .byte ((x2 >>> (24 &&& 31))).toInt8.toInt32)) 5 (vp_nar .byte ((x2 >>> (16 &&& 31))).toInt8.toInt32)) 6 (vp_nar .byte ((x2 >>> (8 &&& 31))).toInt8.toInt32)) 7 (vp_nar .byte ((x2 >>> (0 &&& 31))).toInt8.toInt32)) 8 (vp_nar .byte ((x3 >>> (24 &&& 31))).toInt8.toInt32)) 9 (vp_nar .byte ((x3 >>> (16 &&& 31))).toInt8.toInt32)) 10 (vp_nar .byte ((x3 >>> (8 &&& 31))).toInt8.toInt32)) 11 (vp_nar .byte ((x3 >>> (0 &&& 31))).toInt8.toInt32))))] (fun u => [((r 0), .inr (10, [.ref (r 1), .int 16, .ref (r 2), .ref (r 18), .ref (r 28), .ref (r 38), .ref (r 45), .ref (r 55), .ref (r 58), .ref (r 61), .ref (r 65), .ref (r 70), .ref (r 75), .int 0, .ref (r 80), .ref (r 86), .int 0, .ref (r 87)])), ((r 1), .inl (cB, 1600, .inl (upd (upd (upd (upd (upd (upd (upd (upd (upd (upd (upd (upd (upd (upd (upd (upd (fun _ => 0) 0 (vp_nar .byte ((x1 >>> (24 &&& 31))).toInt8.toInt32)) 1 (vp_nar .byte ((x1 >>> (16 &&& 31))).toInt8.toInt32)) 2 (vp_nar .byte ((x1 >>> (8 &&& 31))).toInt8.toInt32)) 3 (vp_nar .byte ((x1 >>> (0 &&& 31))).toInt8.toInt32)) 4 (vp_nar .byte ((x2 >>> (24 &&& 31))).toInt8.toInt32)) 5 (vp_nar .byte ((x2 >>> (16 &&& 31))).toInt8.toInt32)) 6 (vp_nar .byte ((x2 >>> (8 &&& 31))).toInt8.toInt32)) 7 (vp_nar .byte ((x2 >>> (0 &&& 31))).toInt8.toInt32)) 8 (vp_nar .byte ((x3 >>> (24 &&& 31))).toInt8.toInt32)) 9 (vp_nar .byte ((x3 >>> (16 &&& 31))).toInt8.toInt32)) 10 (vp_nar .byte ((x3 >>> (8 &&& 31))).toInt8.toInt32)) 11 (vp_nar .byte ((x3 >>> (0 &&& 31))).toInt8.toInt32)) 12 (vp_nar .byte ((x4 >>> (24 &&& 31))).toInt8.toInt32)) 13 (vp_nar .byte ((x4 >>> (16 &&& 31))).toInt8.toInt32)) 14 (vp_nar .byte ((x4 >>> (8 &&& 31))).toInt8.toInt32)) 15 (vp_nar .byte ((x4 >>> (0 &&& 31))).toInt8.toInt32))))]) := by
  intro sz
  refine ct_open (cc := cX10_tapeNumber) (maxL := 3) (ret := none) (by decide) rfl (Nat.le_of_ble_eq_true rfl) ?_
  intro p e s m below meth c ls A hx hb hr hml hts hown hlocks hin hP hK hD hA hS hl
  have hl : lv_has ls 3 [(0, .ref (r 0)), (1, .int x4)] := hl
  have hown : s.vm.findClass RX10 = some m.cls := hown
  have i10 : ∀ w ∈ u_ws RX10 TX10 18, w ∈ wsX10_tapeNumber := fun _ h => List.mem_cons_of_mem _ (List.mem_append_right _ h)
  have w1 := hts (.fieldLink RX10 92 "GuildCharter" "tapeSize" "I") (List.mem_cons_of_mem _ (List.mem_append_left _ (List.mem_of_getElem? (i := 0) rfl)))
  have w2 := hts (.fieldLink RX10 9 "GuildCharter" "tape" "[B") (List.mem_cons_of_mem _ (List.mem_append_left _ (List.mem_of_getElem? (i := 1) rfl)))
  refine lv_bipush (v := 24) hx hb dX10_tapeNumber_0 z134 ?_
  refine lv_istore_n (lv' := [(2, .int 24), (0, .ref (r 0)), (1, .int x4)]) hx hb dX10_tapeNumber_2 rfl hl (nlt rfl) rfl (fun ls hl => ?_)
  refine lv_iload_n hx hb dX10_tapeNumber_3 rfl (lv_at hl 0 rfl) ?_
  refine lv_if_lt (tgt := 46) hx hb dX10_tapeNumber_4 z277 (fun c1 => absurd c1 (z135)) (fun _ => ?_)
  refine lv_aload_n hx hb dX10_tapeNumber_7 rfl (lv_at hl 1 rfl) ?_
  refine va_get (D := (dC, dI)) (ci := 10) (v := .int 12) (C := RX10) (T := TX10) (N := 18) hx hb hts i10 hown hK hP 0 rfl rfl 1 (nlt rfl) w1 (fun _ h9 => h9) rfl dX10_tapeNumber_8 ?_
  refine lv_sipush (v := 1600) hx hb dX10_tapeNumber_11 z0 ?_
  refine lv_icmp_ge (tgt := 40) hx hb dX10_tapeNumber_14 z279 (fun c1 => absurd c1 (z321)) (fun _ => ?_)
  refine lv_aload_n hx hb dX10_tapeNumber_17 rfl (lv_at hl 1 rfl) ?_
  refine va_get (D := (dC, dI)) (ci := 10) (v := .ref (r 1)) (C := RX10) (T := TX10) (N := 18) hx hb hts i10 hown hK hP 0 rfl rfl 0 (nlt rfl) w2 (fun _ h9 => h9) rfl dX10_tapeNumber_18 ?_
  refine lv_aload_n hx hb dX10_tapeNumber_21 rfl (lv_at hl 1 rfl) ?_
  refine va_get (D := (dC, dI)) (ci := 10) (v := .int 12) (C := RX10) (T := TX10) (N := 18) hx hb hts i10 hown hK hP 0 rfl rfl 1 (nlt rfl) w1 (fun _ h9 => h9) rfl dX10_tapeNumber_22 ?_
  refine lv_iload_n hx hb dX10_tapeNumber_25 rfl (lv_at hl 2 rfl) ?_
  refine lv_iload_n hx hb dX10_tapeNumber_26 rfl (lv_at hl 0 rfl) ?_
  refine lv_ishr hx hb dX10_tapeNumber_27 ?_
  refine lv_i2b hx hb dX10_tapeNumber_28 rfl ?_
  refine my_bast hx hb hK hP hD hS 1 0 rfl rfl z322 (rfl : vp_nar .byte ((x4 >>> (24 &&& 31))).toInt8.toInt32 = _) dX10_tapeNumber_29 (fun H locs hP hD hS => ?_)
  refine lv_aload_n hx hb dX10_tapeNumber_30 rfl (lv_at hl 1 rfl) ?_
  refine lv_dup hx hb dX10_tapeNumber_31 rfl ?_
  refine va_get (D := (dC, dI)) (ci := 10) (v := .int 12) (C := RX10) (T := TX10) (N := 18) hx hb hts i10 hown hK hP 0 rfl rfl 1 (nlt rfl) w1 (fun _ h9 => h9) rfl dX10_tapeNumber_32 ?_
  refine lv_iconst (v := 1) hx hb dX10_tapeNumber_35 z39 ?_
  refine lv_iadd hx hb dX10_tapeNumber_36 ?_
  refine tpi z323 ?_
  refine va_put (D := (dC, dI)) (ci := 10) (v := .int 13) (ty := tyX10 1) (C := RX10) (T := TX10) (N := 18) hx hb hts i10 tyX10 tyX10_ok nmX10 hown hK hP hD hS 0 rfl rfl 1 (nlt rfl) w1 (fun _ h9 => h9) rfl (tyX10_ok 1 (nlt rfl)) rfl rfl (nlt rfl) dX10_tapeNumber_37 (fun H locs hP hD hS => ?_)
  refine lv_iinc (v := 16) (lv' := [(2, .int 16), (0, .ref (r 0)), (1, .int x4)]) hx hb dX10_tapeNumber_40 hl (k := 0) rfl z282 (nlt rfl) rfl (fun ls hl => ?_)
  refine lv_goto (tgt := 3) hx hb dX10_tapeNumber_43 z283 ?_
  refine lv_iload_n hx hb dX10_tapeNumber_3 rfl (lv_at hl 0 rfl) ?_
  refine lv_if_lt (tgt := 46) hx hb dX10_tapeNumber_4 z277 (fun c1 => absurd c1 (z190)) (fun _ => ?_)
  refine lv_aload_n hx hb dX10_tapeNumber_7 rfl (lv_at hl 1 rfl) ?_
  refine va_get (D := (dC, dI)) (ci := 10) (v := .int 13) (C := RX10) (T := TX10) (N := 18) hx hb hts i10 hown hK hP 0 rfl rfl 1 (nlt rfl) w1 (fun _ h9 => h9) rfl dX10_tapeNumber_8 ?_
  refine lv_sipush (v := 1600) hx hb dX10_tapeNumber_11 z0 ?_
  refine lv_icmp_ge (tgt := 40) hx hb dX10_tapeNumber_14 z279 (fun c1 => absurd c1 (z324)) (fun _ => ?_)
  refine lv_aload_n hx hb dX10_tapeNumber_17 rfl (lv_at hl 1 rfl) ?_
  refine va_get (D := (dC, dI)) (ci := 10) (v := .ref (r 1)) (C := RX10) (T := TX10) (N := 18) hx hb hts i10 hown hK hP 0 rfl rfl 0 (nlt rfl) w2 (fun _ h9 => h9) rfl dX10_tapeNumber_18 ?_
  refine lv_aload_n hx hb dX10_tapeNumber_21 rfl (lv_at hl 1 rfl) ?_
  refine va_get (D := (dC, dI)) (ci := 10) (v := .int 13) (C := RX10) (T := TX10) (N := 18) hx hb hts i10 hown hK hP 0 rfl rfl 1 (nlt rfl) w1 (fun _ h9 => h9) rfl dX10_tapeNumber_22 ?_
  refine lv_iload_n hx hb dX10_tapeNumber_25 rfl (lv_at hl 2 rfl) ?_
  refine lv_iload_n hx hb dX10_tapeNumber_26 rfl (lv_at hl 0 rfl) ?_
  refine lv_ishr hx hb dX10_tapeNumber_27 ?_
  refine lv_i2b hx hb dX10_tapeNumber_28 rfl ?_
  refine my_bast hx hb hK hP hD hS 1 0 rfl rfl z325 (rfl : vp_nar .byte ((x4 >>> (16 &&& 31))).toInt8.toInt32 = _) dX10_tapeNumber_29 (fun H locs hP hD hS => ?_)
  have hP : va_P (dC, dI) vwCl [((r 0), .inr (10, [.ref (r 1), .int 13, .ref (r 2), .ref (r 18), .ref (r 28), .ref (r 38), .ref (r 45), .ref (r 55), .ref (r 58), .ref (r 61), .ref (r 65), .ref (r 70), .ref (r 75), .int 0, .ref (r 80), .ref (r 86), .int 0, .ref (r 87)])), ((r 1), .inl (cB, 1600, .inl (upd (upd (upd (upd (upd (upd (upd (upd (upd (upd (upd (upd (upd (upd (fun _ => 0) 0 (vp_nar .byte ((x1 >>> (24 &&& 31))).toInt8.toInt32)) 1 (vp_nar .byte ((x1 >>> (16 &&& 31))).toInt8.toInt32)) 2 (vp_nar .byte ((x1 >>> (8 &&& 31))).toInt8.toInt32)) 3 (vp_nar .byte ((x1 >>> (0 &&& 31))).toInt8.toInt32)) 4 (vp_nar .byte ((x2 >>> (24 &&& 31))).toInt8.toInt32)) 5 (vp_nar .byte ((x2 >>> (16 &&& 31))).toInt8.toInt32)) 6 (vp_nar .byte ((x2 >>> (8 &&& 31))).toInt8.toInt32)) 7 (vp_nar .byte ((x2 >>> (0 &&& 31))).toInt8.toInt32)) 8 (vp_nar .byte ((x3 >>> (24 &&& 31))).toInt8.toInt32)) 9 (vp_nar .byte ((x3 >>> (16 &&& 31))).toInt8.toInt32)) 10 (vp_nar .byte ((x3 >>> (8 &&& 31))).toInt8.toInt32)) 11 (vp_nar .byte ((x3 >>> (0 &&& 31))).toInt8.toInt32)) 12 (vp_nar .byte ((x4 >>> (24 &&& 31))).toInt8.toInt32)) 13 (vp_nar .byte ((x4 >>> (16 &&& 31))).toInt8.toInt32))))] H := hP
  have hD : va_D A [((r 0), .inr (10, [.ref (r 1), .int 13, .ref (r 2), .ref (r 18), .ref (r 28), .ref (r 38), .ref (r 45), .ref (r 55), .ref (r 58), .ref (r 61), .ref (r 65), .ref (r 70), .ref (r 75), .int 0, .ref (r 80), .ref (r 86), .int 0, .ref (r 87)])), ((r 1), .inl (cB, 1600, .inl (upd (upd (upd (upd (upd (upd (upd (upd (upd (upd (upd (upd (upd (upd (fun _ => 0) 0 (vp_nar .byte ((x1 >>> (24 &&& 31))).toInt8.toInt32)) 1 (vp_nar .byte ((x1 >>> (16 &&& 31))).toInt8.toInt32)) 2 (vp_nar .byte ((x1 >>> (8 &&& 31))).toInt8.toInt32)) 3 (vp_nar .byte ((x1 >>> (0 &&& 31))).toInt8.toInt32)) 4 (vp_nar .byte ((x2 >>> (24 &&& 31))).toInt8.toInt32)) 5 (vp_nar .byte ((x2 >>> (16 &&& 31))).toInt8.toInt32)) 6 (vp_nar .byte ((x2 >>> (8 &&& 31))).toInt8.toInt32)) 7 (vp_nar .byte ((x2 >>> (0 &&& 31))).toInt8.toInt32)) 8 (vp_nar .byte ((x3 >>> (24 &&& 31))).toInt8.toInt32)) 9 (vp_nar .byte ((x3 >>> (16 &&& 31))).toInt8.toInt32)) 10 (vp_nar .byte ((x3 >>> (8 &&& 31))).toInt8.toInt32)) 11 (vp_nar .byte ((x3 >>> (0 &&& 31))).toInt8.toInt32)) 12 (vp_nar .byte ((x4 >>> (24 &&& 31))).toInt8.toInt32)) 13 (vp_nar .byte ((x4 >>> (16 &&& 31))).toInt8.toInt32))))] := hD
  refine lv_aload_n hx hb dX10_tapeNumber_30 rfl (lv_at hl 1 rfl) ?_
  refine lv_dup hx hb dX10_tapeNumber_31 rfl ?_
  refine va_get (D := (dC, dI)) (ci := 10) (v := .int 13) (C := RX10) (T := TX10) (N := 18) hx hb hts i10 hown hK hP 0 rfl rfl 1 (nlt rfl) w1 (fun _ h9 => h9) rfl dX10_tapeNumber_32 ?_
  refine lv_iconst (v := 1) hx hb dX10_tapeNumber_35 z39 ?_
  refine lv_iadd hx hb dX10_tapeNumber_36 ?_
  refine tpi z326 ?_
  refine va_put (D := (dC, dI)) (ci := 10) (v := .int 14) (ty := tyX10 1) (C := RX10) (T := TX10) (N := 18) hx hb hts i10 tyX10 tyX10_ok nmX10 hown hK hP hD hS 0 rfl rfl 1 (nlt rfl) w1 (fun _ h9 => h9) rfl (tyX10_ok 1 (nlt rfl)) rfl rfl (nlt rfl) dX10_tapeNumber_37 (fun H locs hP hD hS => ?_)
  refine lv_iinc (v := 8) (lv' := [(2, .int 8), (0, .ref (r 0)), (1, .int x4)]) hx hb dX10_tapeNumber_40 hl (k := 0) rfl z287 (nlt rfl) rfl (fun ls hl => ?_)
  refine lv_goto (tgt := 3) hx hb dX10_tapeNumber_43 z283 ?_
  refine lv_iload_n hx hb dX10_tapeNumber_3 rfl (lv_at hl 0 rfl) ?_
  refine lv_if_lt (tgt := 46) hx hb dX10_tapeNumber_4 z277 (fun c1 => absurd c1 (z131)) (fun _ => ?_)
  refine lv_aload_n hx hb dX10_tapeNumber_7 rfl (lv_at hl 1 rfl) ?_
  refine va_get (D := (dC, dI)) (ci := 10) (v := .int 14) (C := RX10) (T := TX10) (N := 18) hx hb hts i10 hown hK hP 0 rfl rfl 1 (nlt rfl) w1 (fun _ h9 => h9) rfl dX10_tapeNumber_8 ?_
  refine lv_sipush (v := 1600) hx hb dX10_tapeNumber_11 z0 ?_
  refine lv_icmp_ge (tgt := 40) hx hb dX10_tapeNumber_14 z279 (fun c1 => absurd c1 (z327)) (fun _ => ?_)
  refine lv_aload_n hx hb dX10_tapeNumber_17 rfl (lv_at hl 1 rfl) ?_
  refine va_get (D := (dC, dI)) (ci := 10) (v := .ref (r 1)) (C := RX10) (T := TX10) (N := 18) hx hb hts i10 hown hK hP 0 rfl rfl 0 (nlt rfl) w2 (fun _ h9 => h9) rfl dX10_tapeNumber_18 ?_
  refine lv_aload_n hx hb dX10_tapeNumber_21 rfl (lv_at hl 1 rfl) ?_
  refine va_get (D := (dC, dI)) (ci := 10) (v := .int 14) (C := RX10) (T := TX10) (N := 18) hx hb hts i10 hown hK hP 0 rfl rfl 1 (nlt rfl) w1 (fun _ h9 => h9) rfl dX10_tapeNumber_22 ?_
  refine lv_iload_n hx hb dX10_tapeNumber_25 rfl (lv_at hl 2 rfl) ?_
  refine lv_iload_n hx hb dX10_tapeNumber_26 rfl (lv_at hl 0 rfl) ?_
  refine lv_ishr hx hb dX10_tapeNumber_27 ?_
  refine lv_i2b hx hb dX10_tapeNumber_28 rfl ?_
  refine my_bast hx hb hK hP hD hS 1 0 rfl rfl z328 (rfl : vp_nar .byte ((x4 >>> (8 &&& 31))).toInt8.toInt32 = _) dX10_tapeNumber_29 (fun H locs hP hD hS => ?_)
  refine lv_aload_n hx hb dX10_tapeNumber_30 rfl (lv_at hl 1 rfl) ?_
  refine lv_dup hx hb dX10_tapeNumber_31 rfl ?_
  refine va_get (D := (dC, dI)) (ci := 10) (v := .int 14) (C := RX10) (T := TX10) (N := 18) hx hb hts i10 hown hK hP 0 rfl rfl 1 (nlt rfl) w1 (fun _ h9 => h9) rfl dX10_tapeNumber_32 ?_
  refine lv_iconst (v := 1) hx hb dX10_tapeNumber_35 z39 ?_
  refine lv_iadd hx hb dX10_tapeNumber_36 ?_
  refine tpi z329 ?_
  refine va_put (D := (dC, dI)) (ci := 10) (v := .int 15) (ty := tyX10 1) (C := RX10) (T := TX10) (N := 18) hx hb hts i10 tyX10 tyX10_ok nmX10 hown hK hP hD hS 0 rfl rfl 1 (nlt rfl) w1 (fun _ h9 => h9) rfl (tyX10_ok 1 (nlt rfl)) rfl rfl (nlt rfl) dX10_tapeNumber_37 (fun H locs hP hD hS => ?_)
  have hP : va_P (dC, dI) vwCl [((r 0), .inr (10, [.ref (r 1), .int 15, .ref (r 2), .ref (r 18), .ref (r 28), .ref (r 38), .ref (r 45), .ref (r 55), .ref (r 58), .ref (r 61), .ref (r 65), .ref (r 70), .ref (r 75), .int 0, .ref (r 80), .ref (r 86), .int 0, .ref (r 87)])), ((r 1), .inl (cB, 1600, .inl (upd (upd (upd (upd (upd (upd (upd (upd (upd (upd (upd (upd (upd (upd (upd (fun _ => 0) 0 (vp_nar .byte ((x1 >>> (24 &&& 31))).toInt8.toInt32)) 1 (vp_nar .byte ((x1 >>> (16 &&& 31))).toInt8.toInt32)) 2 (vp_nar .byte ((x1 >>> (8 &&& 31))).toInt8.toInt32)) 3 (vp_nar .byte ((x1 >>> (0 &&& 31))).toInt8.toInt32)) 4 (vp_nar .byte ((x2 >>> (24 &&& 31))).toInt8.toInt32)) 5 (vp_nar .byte ((x2 >>> (16 &&& 31))).toInt8.toInt32)) 6 (vp_nar .byte ((x2 >>> (8 &&& 31))).toInt8.toInt32)) 7 (vp_nar .byte ((x2 >>> (0 &&& 31))).toInt8.toInt32)) 8 (vp_nar .byte ((x3 >>> (24 &&& 31))).toInt8.toInt32)) 9 (vp_nar .byte ((x3 >>> (16 &&& 31))).toInt8.toInt32)) 10 (vp_nar .byte ((x3 >>> (8 &&& 31))).toInt8.toInt32)) 11 (vp_nar .byte ((x3 >>> (0 &&& 31))).toInt8.toInt32)) 12 (vp_nar .byte ((x4 >>> (24 &&& 31))).toInt8.toInt32)) 13 (vp_nar .byte ((x4 >>> (16 &&& 31))).toInt8.toInt32)) 14 (vp_nar .byte ((x4 >>> (8 &&& 31))).toInt8.toInt32))))] H := hP
  have hD : va_D A [((r 0), .inr (10, [.ref (r 1), .int 15, .ref (r 2), .ref (r 18), .ref (r 28), .ref (r 38), .ref (r 45), .ref (r 55), .ref (r 58), .ref (r 61), .ref (r 65), .ref (r 70), .ref (r 75), .int 0, .ref (r 80), .ref (r 86), .int 0, .ref (r 87)])), ((r 1), .inl (cB, 1600, .inl (upd (upd (upd (upd (upd (upd (upd (upd (upd (upd (upd (upd (upd (upd (upd (fun _ => 0) 0 (vp_nar .byte ((x1 >>> (24 &&& 31))).toInt8.toInt32)) 1 (vp_nar .byte ((x1 >>> (16 &&& 31))).toInt8.toInt32)) 2 (vp_nar .byte ((x1 >>> (8 &&& 31))).toInt8.toInt32)) 3 (vp_nar .byte ((x1 >>> (0 &&& 31))).toInt8.toInt32)) 4 (vp_nar .byte ((x2 >>> (24 &&& 31))).toInt8.toInt32)) 5 (vp_nar .byte ((x2 >>> (16 &&& 31))).toInt8.toInt32)) 6 (vp_nar .byte ((x2 >>> (8 &&& 31))).toInt8.toInt32)) 7 (vp_nar .byte ((x2 >>> (0 &&& 31))).toInt8.toInt32)) 8 (vp_nar .byte ((x3 >>> (24 &&& 31))).toInt8.toInt32)) 9 (vp_nar .byte ((x3 >>> (16 &&& 31))).toInt8.toInt32)) 10 (vp_nar .byte ((x3 >>> (8 &&& 31))).toInt8.toInt32)) 11 (vp_nar .byte ((x3 >>> (0 &&& 31))).toInt8.toInt32)) 12 (vp_nar .byte ((x4 >>> (24 &&& 31))).toInt8.toInt32)) 13 (vp_nar .byte ((x4 >>> (16 &&& 31))).toInt8.toInt32)) 14 (vp_nar .byte ((x4 >>> (8 &&& 31))).toInt8.toInt32))))] := hD
  refine lv_iinc (v := 0) (lv' := [(2, .int 0), (0, .ref (r 0)), (1, .int x4)]) hx hb dX10_tapeNumber_40 hl (k := 0) rfl z291 (nlt rfl) rfl (fun ls hl => ?_)
  refine lv_goto (tgt := 3) hx hb dX10_tapeNumber_43 z283 ?_
  refine lv_iload_n hx hb dX10_tapeNumber_3 rfl (lv_at hl 0 rfl) ?_
  refine lv_if_lt (tgt := 46) hx hb dX10_tapeNumber_4 z277 (fun c1 => absurd c1 (z125)) (fun _ => ?_)
  refine lv_aload_n hx hb dX10_tapeNumber_7 rfl (lv_at hl 1 rfl) ?_
  refine va_get (D := (dC, dI)) (ci := 10) (v := .int 15) (C := RX10) (T := TX10) (N := 18) hx hb hts i10 hown hK hP 0 rfl rfl 1 (nlt rfl) w1 (fun _ h9 => h9) rfl dX10_tapeNumber_8 ?_
  refine lv_sipush (v := 1600) hx hb dX10_tapeNumber_11 z0 ?_
  refine lv_icmp_ge (tgt := 40) hx hb dX10_tapeNumber_14 z279 (fun c1 => absurd c1 (z330)) (fun _ => ?_)
  refine lv_aload_n hx hb dX10_tapeNumber_17 rfl (lv_at hl 1 rfl) ?_
  refine va_get (D := (dC, dI)) (ci := 10) (v := .ref (r 1)) (C := RX10) (T := TX10) (N := 18) hx hb hts i10 hown hK hP 0 rfl rfl 0 (nlt rfl) w2 (fun _ h9 => h9) rfl dX10_tapeNumber_18 ?_
  refine lv_aload_n hx hb dX10_tapeNumber_21 rfl (lv_at hl 1 rfl) ?_
  refine va_get (D := (dC, dI)) (ci := 10) (v := .int 15) (C := RX10) (T := TX10) (N := 18) hx hb hts i10 hown hK hP 0 rfl rfl 1 (nlt rfl) w1 (fun _ h9 => h9) rfl dX10_tapeNumber_22 ?_
  refine lv_iload_n hx hb dX10_tapeNumber_25 rfl (lv_at hl 2 rfl) ?_
  refine lv_iload_n hx hb dX10_tapeNumber_26 rfl (lv_at hl 0 rfl) ?_
  refine lv_ishr hx hb dX10_tapeNumber_27 ?_
  refine lv_i2b hx hb dX10_tapeNumber_28 rfl ?_
  refine my_bast hx hb hK hP hD hS 1 0 rfl rfl z331 (rfl : vp_nar .byte ((x4 >>> (0 &&& 31))).toInt8.toInt32 = _) dX10_tapeNumber_29 (fun H locs hP hD hS => ?_)
  refine lv_aload_n hx hb dX10_tapeNumber_30 rfl (lv_at hl 1 rfl) ?_
  refine lv_dup hx hb dX10_tapeNumber_31 rfl ?_
  refine va_get (D := (dC, dI)) (ci := 10) (v := .int 15) (C := RX10) (T := TX10) (N := 18) hx hb hts i10 hown hK hP 0 rfl rfl 1 (nlt rfl) w1 (fun _ h9 => h9) rfl dX10_tapeNumber_32 ?_
  refine lv_iconst (v := 1) hx hb dX10_tapeNumber_35 z39 ?_
  refine lv_iadd hx hb dX10_tapeNumber_36 ?_
  refine tpi z332 ?_
  refine va_put (D := (dC, dI)) (ci := 10) (v := .int 16) (ty := tyX10 1) (C := RX10) (T := TX10) (N := 18) hx hb hts i10 tyX10 tyX10_ok nmX10 hown hK hP hD hS 0 rfl rfl 1 (nlt rfl) w1 (fun _ h9 => h9) rfl (tyX10_ok 1 (nlt rfl)) rfl rfl (nlt rfl) dX10_tapeNumber_37 (fun H locs hP hD hS => ?_)
  refine lv_iinc (v := (-8)) (lv' := [(2, .int (-8)), (0, .ref (r 0)), (1, .int x4)]) hx hb dX10_tapeNumber_40 hl (k := 0) rfl z295 (nlt rfl) rfl (fun ls hl => ?_)
  refine lv_goto (tgt := 3) hx hb dX10_tapeNumber_43 z283 ?_
  refine lv_iload_n hx hb dX10_tapeNumber_3 rfl (lv_at hl 0 rfl) ?_
  refine lv_if_lt (tgt := 46) hx hb dX10_tapeNumber_4 z277 (fun _ => ?_) (fun c1 => absurd (z296) c1)
  refine W.widen (k := 0) (n := 0) (by decide +kernel) (by decide +kernel) ?_
  exact ret_v hx hb hr hlocks hS (u := (fun _ => 0)) (hP.sub [0, 1] rfl) (hD.sub [0, 1] (by decide +kernel) rfl) dX10_tapeNumber_46

set_option maxHeartbeats 4000000 in
set_option maxRecDepth 100000 in
theorem k30_X10_tapeNumber (l : Launch) (dC : Nat → ClassId) (dI : Nat → Nat → Nat) (cB cI cJ cZ cO : ClassId) (r : Nat → Nat) (x1 : Int32) (x2 : Int32) (x3 : Int32) (x4 : Int32) (x5 : Int32) : CV l yX10_tapeNumber wsX10_tapeNumber ({ frames := 0, cells := 0, slots := 0, locals := 0 }) (dC, dI) (tyL cB cI cJ cZ cO) [.ref (r 0), .int x5] [((r 0), .inr (10, [.ref (r 1), .int 16, .ref (r 2), .ref (r 18), .ref (r 28), .ref (r 38), .ref (r 45), .ref (r 55), .ref (r 58), .ref (r 61), .ref (r 65), .ref (r 70), .ref (r 75), .int 0, .ref (r 80), .ref (r 86), .int 0, .ref (r 87)])), ((r 1), .inl (cB, 1600, .inl (upd (upd (upd (upd (upd (upd (upd (upd (upd (upd (upd (upd (upd (upd (upd (upd (fun _ => 0) 0 (vp_nar .byte ((x1 >>> (24 &&& 31))).toInt8.toInt32)) 1 (vp_nar .byte ((x1 >>> (16 &&& 31))).toInt8.toInt32)) 2 (vp_nar .byte ((x1 >>> (8 &&& 31))).toInt8.toInt32)) 3 (vp_nar .byte ((x1 >>> (0 &&& 31))).toInt8.toInt32)) 4 (vp_nar .byte ((x2 >>> (24 &&& 31))).toInt8.toInt32)) 5 (vp_nar .byte ((x2 >>> (16 &&& 31))).toInt8.toInt32)) 6 (vp_nar .byte ((x2 >>> (8 &&& 31))).toInt8.toInt32)) 7 (vp_nar .byte ((x2 >>> (0 &&& 31))).toInt8.toInt32)) 8 (vp_nar .byte ((x3 >>> (24 &&& 31))).toInt8.toInt32)) 9 (vp_nar .byte ((x3 >>> (16 &&& 31))).toInt8.toInt32)) 10 (vp_nar .byte ((x3 >>> (8 &&& 31))).toInt8.toInt32)) 11 (vp_nar .byte ((x3 >>> (0 &&& 31))).toInt8.toInt32)) 12 (vp_nar .byte ((x4 >>> (24 &&& 31))).toInt8.toInt32)) 13 (vp_nar .byte ((x4 >>> (16 &&& 31))).toInt8.toInt32)) 14 (vp_nar .byte ((x4 >>> (8 &&& 31))).toInt8.toInt32)) 15 (vp_nar .byte ((x4 >>> (0 &&& 31))).toInt8.toInt32))))] (fun u => [((r 0), .inr (10, [.ref (r 1), .int 20, .ref (r 2), .ref (r 18), .ref (r 28), .ref (r 38), .ref (r 45), .ref (r 55), .ref (r 58), .ref (r 61), .ref (r 65), .ref (r 70), .ref (r 75), .int 0, .ref (r 80), .ref (r 86), .int 0, .ref (r 87)])), ((r 1), .inl (cB, 1600, .inl (upd (upd (upd (upd (upd (upd (upd (upd (upd (upd (upd (upd (upd (upd (upd (upd (upd (upd (upd (upd (fun _ => 0) 0 (vp_nar .byte ((x1 >>> (24 &&& 31))).toInt8.toInt32)) 1 (vp_nar .byte ((x1 >>> (16 &&& 31))).toInt8.toInt32)) 2 (vp_nar .byte ((x1 >>> (8 &&& 31))).toInt8.toInt32)) 3 (vp_nar .byte ((x1 >>> (0 &&& 31))).toInt8.toInt32)) 4 (vp_nar .byte ((x2 >>> (24 &&& 31))).toInt8.toInt32)) 5 (vp_nar .byte ((x2 >>> (16 &&& 31))).toInt8.toInt32)) 6 (vp_nar .byte ((x2 >>> (8 &&& 31))).toInt8.toInt32)) 7 (vp_nar .byte ((x2 >>> (0 &&& 31))).toInt8.toInt32)) 8 (vp_nar .byte ((x3 >>> (24 &&& 31))).toInt8.toInt32)) 9 (vp_nar .byte ((x3 >>> (16 &&& 31))).toInt8.toInt32)) 10 (vp_nar .byte ((x3 >>> (8 &&& 31))).toInt8.toInt32)) 11 (vp_nar .byte ((x3 >>> (0 &&& 31))).toInt8.toInt32)) 12 (vp_nar .byte ((x4 >>> (24 &&& 31))).toInt8.toInt32)) 13 (vp_nar .byte ((x4 >>> (16 &&& 31))).toInt8.toInt32)) 14 (vp_nar .byte ((x4 >>> (8 &&& 31))).toInt8.toInt32)) 15 (vp_nar .byte ((x4 >>> (0 &&& 31))).toInt8.toInt32)) 16 (vp_nar .byte ((x5 >>> (24 &&& 31))).toInt8.toInt32)) 17 (vp_nar .byte ((x5 >>> (16 &&& 31))).toInt8.toInt32)) 18 (vp_nar .byte ((x5 >>> (8 &&& 31))).toInt8.toInt32)) 19 (vp_nar .byte ((x5 >>> (0 &&& 31))).toInt8.toInt32))))]) := by
  intro sz
  refine ct_open (cc := cX10_tapeNumber) (maxL := 3) (ret := none) (by decide) rfl (Nat.le_of_ble_eq_true rfl) ?_
  intro p e s m below meth c ls A hx hb hr hml hts hown hlocks hin hP hK hD hA hS hl
  have hl : lv_has ls 3 [(0, .ref (r 0)), (1, .int x5)] := hl
  have hown : s.vm.findClass RX10 = some m.cls := hown
  have i10 : ∀ w ∈ u_ws RX10 TX10 18, w ∈ wsX10_tapeNumber := fun _ h => List.mem_cons_of_mem _ (List.mem_append_right _ h)
  have w1 := hts (.fieldLink RX10 92 "GuildCharter" "tapeSize" "I") (List.mem_cons_of_mem _ (List.mem_append_left _ (List.mem_of_getElem? (i := 0) rfl)))
  have w2 := hts (.fieldLink RX10 9 "GuildCharter" "tape" "[B") (List.mem_cons_of_mem _ (List.mem_append_left _ (List.mem_of_getElem? (i := 1) rfl)))
  refine lv_bipush (v := 24) hx hb dX10_tapeNumber_0 z134 ?_
  refine lv_istore_n (lv' := [(2, .int 24), (0, .ref (r 0)), (1, .int x5)]) hx hb dX10_tapeNumber_2 rfl hl (nlt rfl) rfl (fun ls hl => ?_)
  refine lv_iload_n hx hb dX10_tapeNumber_3 rfl (lv_at hl 0 rfl) ?_
  refine lv_if_lt (tgt := 46) hx hb dX10_tapeNumber_4 z277 (fun c1 => absurd c1 (z135)) (fun _ => ?_)
  refine lv_aload_n hx hb dX10_tapeNumber_7 rfl (lv_at hl 1 rfl) ?_
  refine va_get (D := (dC, dI)) (ci := 10) (v := .int 16) (C := RX10) (T := TX10) (N := 18) hx hb hts i10 hown hK hP 0 rfl rfl 1 (nlt rfl) w1 (fun _ h9 => h9) rfl dX10_tapeNumber_8 ?_
  refine lv_sipush (v := 1600) hx hb dX10_tapeNumber_11 z0 ?_
  refine lv_icmp_ge (tgt := 40) hx hb dX10_tapeNumber_14 z279 (fun c1 => absurd c1 (z333)) (fun _ => ?_)
  refine lv_aload_n hx hb dX10_tapeNumber_17 rfl (lv_at hl 1 rfl) ?_
  refine va_get (D := (dC, dI)) (ci := 10) (v := .ref (r 1)) (C := RX10) (T := TX10) (N := 18) hx hb hts i10 hown hK hP 0 rfl rfl 0 (nlt rfl) w2 (fun _ h9 => h9) rfl dX10_tapeNumber_18 ?_
  refine lv_aload_n hx hb dX10_tapeNumber_21 rfl (lv_at hl 1 rfl) ?_
  refine va_get (D := (dC, dI)) (ci := 10) (v := .int 16) (C := RX10) (T := TX10) (N := 18) hx hb hts i10 hown hK hP 0 rfl rfl 1 (nlt rfl) w1 (fun _ h9 => h9) rfl dX10_tapeNumber_22 ?_
  refine lv_iload_n hx hb dX10_tapeNumber_25 rfl (lv_at hl 2 rfl) ?_
  refine lv_iload_n hx hb dX10_tapeNumber_26 rfl (lv_at hl 0 rfl) ?_
  refine lv_ishr hx hb dX10_tapeNumber_27 ?_
  refine lv_i2b hx hb dX10_tapeNumber_28 rfl ?_
  refine my_bast hx hb hK hP hD hS 1 0 rfl rfl z334 (rfl : vp_nar .byte ((x5 >>> (24 &&& 31))).toInt8.toInt32 = _) dX10_tapeNumber_29 (fun H locs hP hD hS => ?_)
  refine lv_aload_n hx hb dX10_tapeNumber_30 rfl (lv_at hl 1 rfl) ?_
  refine lv_dup hx hb dX10_tapeNumber_31 rfl ?_
  refine va_get (D := (dC, dI)) (ci := 10) (v := .int 16) (C := RX10) (T := TX10) (N := 18) hx hb hts i10 hown hK hP 0 rfl rfl 1 (nlt rfl) w1 (fun _ h9 => h9) rfl dX10_tapeNumber_32 ?_
  refine lv_iconst (v := 1) hx hb dX10_tapeNumber_35 z39 ?_
  refine lv_iadd hx hb dX10_tapeNumber_36 ?_
  refine tpi z335 ?_
  refine va_put (D := (dC, dI)) (ci := 10) (v := .int 17) (ty := tyX10 1) (C := RX10) (T := TX10) (N := 18) hx hb hts i10 tyX10 tyX10_ok nmX10 hown hK hP hD hS 0 rfl rfl 1 (nlt rfl) w1 (fun _ h9 => h9) rfl (tyX10_ok 1 (nlt rfl)) rfl rfl (nlt rfl) dX10_tapeNumber_37 (fun H locs hP hD hS => ?_)
  refine lv_iinc (v := 16) (lv' := [(2, .int 16), (0, .ref (r 0)), (1, .int x5)]) hx hb dX10_tapeNumber_40 hl (k := 0) rfl z282 (nlt rfl) rfl (fun ls hl => ?_)
  refine lv_goto (tgt := 3) hx hb dX10_tapeNumber_43 z283 ?_
  refine lv_iload_n hx hb dX10_tapeNumber_3 rfl (lv_at hl 0 rfl) ?_
  refine lv_if_lt (tgt := 46) hx hb dX10_tapeNumber_4 z277 (fun c1 => absurd c1 (z190)) (fun _ => ?_)
  refine lv_aload_n hx hb dX10_tapeNumber_7 rfl (lv_at hl 1 rfl) ?_
  refine va_get (D := (dC, dI)) (ci := 10) (v := .int 17) (C := RX10) (T := TX10) (N := 18) hx hb hts i10 hown hK hP 0 rfl rfl 1 (nlt rfl) w1 (fun _ h9 => h9) rfl dX10_tapeNumber_8 ?_
  refine lv_sipush (v := 1600) hx hb dX10_tapeNumber_11 z0 ?_
  refine lv_icmp_ge (tgt := 40) hx hb dX10_tapeNumber_14 z279 (fun c1 => absurd c1 (z336)) (fun _ => ?_)
  refine lv_aload_n hx hb dX10_tapeNumber_17 rfl (lv_at hl 1 rfl) ?_
  refine va_get (D := (dC, dI)) (ci := 10) (v := .ref (r 1)) (C := RX10) (T := TX10) (N := 18) hx hb hts i10 hown hK hP 0 rfl rfl 0 (nlt rfl) w2 (fun _ h9 => h9) rfl dX10_tapeNumber_18 ?_
  refine lv_aload_n hx hb dX10_tapeNumber_21 rfl (lv_at hl 1 rfl) ?_
  refine va_get (D := (dC, dI)) (ci := 10) (v := .int 17) (C := RX10) (T := TX10) (N := 18) hx hb hts i10 hown hK hP 0 rfl rfl 1 (nlt rfl) w1 (fun _ h9 => h9) rfl dX10_tapeNumber_22 ?_
  refine lv_iload_n hx hb dX10_tapeNumber_25 rfl (lv_at hl 2 rfl) ?_
  refine lv_iload_n hx hb dX10_tapeNumber_26 rfl (lv_at hl 0 rfl) ?_
  refine lv_ishr hx hb dX10_tapeNumber_27 ?_
  refine lv_i2b hx hb dX10_tapeNumber_28 rfl ?_
  refine my_bast hx hb hK hP hD hS 1 0 rfl rfl z337 (rfl : vp_nar .byte ((x5 >>> (16 &&& 31))).toInt8.toInt32 = _) dX10_tapeNumber_29 (fun H locs hP hD hS => ?_)
  have hP : va_P (dC, dI) vwCl [((r 0), .inr (10, [.ref (r 1), .int 17, .ref (r 2), .ref (r 18), .ref (r 28), .ref (r 38), .ref (r 45), .ref (r 55), .ref (r 58), .ref (r 61), .ref (r 65), .ref (r 70), .ref (r 75), .int 0, .ref (r 80), .ref (r 86), .int 0, .ref (r 87)])), ((r 1), .inl (cB, 1600, .inl (upd (upd (upd (upd (upd (upd (upd (upd (upd (upd (upd (upd (upd (upd (upd (upd (upd (upd (fun _ => 0) 0 (vp_nar .byte ((x1 >>> (24 &&& 31))).toInt8.toInt32)) 1 (vp_nar .byte ((x1 >>> (16 &&& 31))).toInt8.toInt32)) 2 (vp_nar .byte ((x1 >>> (8 &&& 31))).toInt8.toInt32)) 3 (vp_nar .byte ((x1 >>> (0 &&& 31))).toInt8.toInt32)) 4 (vp_nar .byte ((x2 >>> (24 &&& 31))).toInt8.toInt32)) 5 (vp_nar .byte ((x2 >>> (16 &&& 31))).toInt8.toInt32)) 6 (vp_nar .byte ((x2 >>> (8 &&& 31))).toInt8.toInt32)) 7 (vp_nar .byte ((x2 >>> (0 &&& 31))).toInt8.toInt32)) 8 (vp_nar .byte ((x3 >>> (24 &&& 31))).toInt8.toInt32)) 9 (vp_nar .byte ((x3 >>> (16 &&& 31))).toInt8.toInt32)) 10 (vp_nar .byte ((x3 >>> (8 &&& 31))).toInt8.toInt32)) 11 (vp_nar .byte ((x3 >>> (0 &&& 31))).toInt8.toInt32)) 12 (vp_nar .byte ((x4 >>> (24 &&& 31))).toInt8.toInt32)) 13 (vp_nar .byte ((x4 >>> (16 &&& 31))).toInt8.toInt32)) 14 (vp_nar .byte ((x4 >>> (8 &&& 31))).toInt8.toInt32)) 15 (vp_nar .byte ((x4 >>> (0 &&& 31))).toInt8.toInt32)) 16 (vp_nar .byte ((x5 >>> (24 &&& 31))).toInt8.toInt32)) 17 (vp_nar .byte ((x5 >>> (16 &&& 31))).toInt8.toInt32))))] H := hP
  have hD : va_D A [((r 0), .inr (10, [.ref (r 1), .int 17, .ref (r 2), .ref (r 18), .ref (r 28), .ref (r 38), .ref (r 45), .ref (r 55), .ref (r 58), .ref (r 61), .ref (r 65), .ref (r 70), .ref (r 75), .int 0, .ref (r 80), .ref (r 86), .int 0, .ref (r 87)])), ((r 1), .inl (cB, 1600, .inl (upd (upd (upd (upd (upd (upd (upd (upd (upd (upd (upd (upd (upd (upd (upd (upd (upd (upd (fun _ => 0) 0 (vp_nar .byte ((x1 >>> (24 &&& 31))).toInt8.toInt32)) 1 (vp_nar .byte ((x1 >>> (16 &&& 31))).toInt8.toInt32)) 2 (vp_nar .byte ((x1 >>> (8 &&& 31))).toInt8.toInt32)) 3 (vp_nar .byte ((x1 >>> (0 &&& 31))).toInt8.toInt32)) 4 (vp_nar .byte ((x2 >>> (24 &&& 31))).toInt8.toInt32)) 5 (vp_nar .byte ((x2 >>> (16 &&& 31))).toInt8.toInt32)) 6 (vp_nar .byte ((x2 >>> (8 &&& 31))).toInt8.toInt32)) 7 (vp_nar .byte ((x2 >>> (0 &&& 31))).toInt8.toInt32)) 8 (vp_nar .byte ((x3 >>> (24 &&& 31))).toInt8.toInt32)) 9 (vp_nar .byte ((x3 >>> (16 &&& 31))).toInt8.toInt32)) 10 (vp_nar .byte ((x3 >>> (8 &&& 31))).toInt8.toInt32)) 11 (vp_nar .byte ((x3 >>> (0 &&& 31))).toInt8.toInt32)) 12 (vp_nar .byte ((x4 >>> (24 &&& 31))).toInt8.toInt32)) 13 (vp_nar .byte ((x4 >>> (16 &&& 31))).toInt8.toInt32)) 14 (vp_nar .byte ((x4 >>> (8 &&& 31))).toInt8.toInt32)) 15 (vp_nar .byte ((x4 >>> (0 &&& 31))).toInt8.toInt32)) 16 (vp_nar .byte ((x5 >>> (24 &&& 31))).toInt8.toInt32)) 17 (vp_nar .byte ((x5 >>> (16 &&& 31))).toInt8.toInt32))))] := hD
  refine lv_aload_n hx hb dX10_tapeNumber_30 rfl (lv_at hl 1 rfl) ?_
  refine lv_dup hx hb dX10_tapeNumber_31 rfl ?_
  refine va_get (D := (dC, dI)) (ci := 10) (v := .int 17) (C := RX10) (T := TX10) (N := 18) hx hb hts i10 hown hK hP 0 rfl rfl 1 (nlt rfl) w1 (fun _ h9 => h9) rfl dX10_tapeNumber_32 ?_
  refine lv_iconst (v := 1) hx hb dX10_tapeNumber_35 z39 ?_
  refine lv_iadd hx hb dX10_tapeNumber_36 ?_
  refine tpi z338 ?_
  refine va_put (D := (dC, dI)) (ci := 10) (v := .int 18) (ty := tyX10 1) (C := RX10) (T := TX10) (N := 18) hx hb hts i10 tyX10 tyX10_ok nmX10 hown hK hP hD hS 0 rfl rfl 1 (nlt rfl) w1 (fun _ h9 => h9) rfl (tyX10_ok 1 (nlt rfl)) rfl rfl (nlt rfl) dX10_tapeNumber_37 (fun H locs hP hD hS => ?_)
  refine lv_iinc (v := 8) (lv' := [(2, .int 8), (0, .ref (r 0)), (1, .int x5)]) hx hb dX10_tapeNumber_40 hl (k := 0) rfl z287 (nlt rfl) rfl (fun ls hl => ?_)
  refine lv_goto (tgt := 3) hx hb dX10_tapeNumber_43 z283 ?_
  refine lv_iload_n hx hb dX10_tapeNumber_3 rfl (lv_at hl 0 rfl) ?_
  refine lv_if_lt (tgt := 46) hx hb dX10_tapeNumber_4 z277 (fun c1 => absurd c1 (z131)) (fun _ => ?_)
  refine lv_aload_n hx hb dX10_tapeNumber_7 rfl (lv_at hl 1 rfl) ?_
  refine va_get (D := (dC, dI)) (ci := 10) (v := .int 18) (C := RX10) (T := TX10) (N := 18) hx hb hts i10 hown hK hP 0 rfl rfl 1 (nlt rfl) w1 (fun _ h9 => h9) rfl dX10_tapeNumber_8 ?_
  refine lv_sipush (v := 1600) hx hb dX10_tapeNumber_11 z0 ?_
  refine lv_icmp_ge (tgt := 40) hx hb dX10_tapeNumber_14 z279 (fun c1 => absurd c1 (z339)) (fun _ => ?_)
  refine lv_aload_n hx hb dX10_tapeNumber_17 rfl (lv_at hl 1 rfl) ?_
  refine va_get (D := (dC, dI)) (ci := 10) (v := .ref (r 1)) (C := RX10) (T := TX10) (N := 18) hx hb hts i10 hown hK hP 0 rfl rfl 0 (nlt rfl) w2 (fun _ h9 => h9) rfl dX10_tapeNumber_18 ?_
  refine lv_aload_n hx hb dX10_tapeNumber_21 rfl (lv_at hl 1 rfl) ?_
  refine va_get (D := (dC, dI)) (ci := 10) (v := .int 18) (C := RX10) (T := TX10) (N := 18) hx hb hts i10 hown hK hP 0 rfl rfl 1 (nlt rfl) w1 (fun _ h9 => h9) rfl dX10_tapeNumber_22 ?_
  refine lv_iload_n hx hb dX10_tapeNumber_25 rfl (lv_at hl 2 rfl) ?_
  refine lv_iload_n hx hb dX10_tapeNumber_26 rfl (lv_at hl 0 rfl) ?_
  refine lv_ishr hx hb dX10_tapeNumber_27 ?_
  refine lv_i2b hx hb dX10_tapeNumber_28 rfl ?_
  refine my_bast hx hb hK hP hD hS 1 0 rfl rfl z340 (rfl : vp_nar .byte ((x5 >>> (8 &&& 31))).toInt8.toInt32 = _) dX10_tapeNumber_29 (fun H locs hP hD hS => ?_)
  refine lv_aload_n hx hb dX10_tapeNumber_30 rfl (lv_at hl 1 rfl) ?_
  refine lv_dup hx hb dX10_tapeNumber_31 rfl ?_
  refine va_get (D := (dC, dI)) (ci := 10) (v := .int 18) (C := RX10) (T := TX10) (N := 18) hx hb hts i10 hown hK hP 0 rfl rfl 1 (nlt rfl) w1 (fun _ h9 => h9) rfl dX10_tapeNumber_32 ?_
  refine lv_iconst (v := 1) hx hb dX10_tapeNumber_35 z39 ?_
  refine lv_iadd hx hb dX10_tapeNumber_36 ?_
  refine tpi z341 ?_
  refine va_put (D := (dC, dI)) (ci := 10) (v := .int 19) (ty := tyX10 1) (C := RX10) (T := TX10) (N := 18) hx hb hts i10 tyX10 tyX10_ok nmX10 hown hK hP hD hS 0 rfl rfl 1 (nlt rfl) w1 (fun _ h9 => h9) rfl (tyX10_ok 1 (nlt rfl)) rfl rfl (nlt rfl) dX10_tapeNumber_37 (fun H locs hP hD hS => ?_)
  have hP : va_P (dC, dI) vwCl [((r 0), .inr (10, [.ref (r 1), .int 19, .ref (r 2), .ref (r 18), .ref (r 28), .ref (r 38), .ref (r 45), .ref (r 55), .ref (r 58), .ref (r 61), .ref (r 65), .ref (r 70), .ref (r 75), .int 0, .ref (r 80), .ref (r 86), .int 0, .ref (r 87)])), ((r 1), .inl (cB, 1600, .inl (upd (upd (upd (upd (upd (upd (upd (upd (upd (upd (upd (upd (upd (upd (upd (upd (upd (upd (upd (fun _ => 0) 0 (vp_nar .byte ((x1 >>> (24 &&& 31))).toInt8.toInt32)) 1 (vp_nar .byte ((x1 >>> (16 &&& 31))).toInt8.toInt32)) 2 (vp_nar .byte ((x1 >>> (8 &&& 31))).toInt8.toInt32)) 3 (vp_nar .byte ((x1 >>> (0 &&& 31))).toInt8.toInt32)) 4 (vp_nar .byte ((x2 >>> (24 &&& 31))).toInt8.toInt32)) 5 (vp_nar .byte ((x2 >>> (16 &&& 31))).toInt8.toInt32)) 6 (vp_nar .byte ((x2 >>> (8 &&& 31))).toInt8.toInt32)) 7 (vp_nar .byte ((x2 >>> (0 &&& 31))).toInt8.toInt32)) 8 (vp_nar .byte ((x3 >>> (24 &&& 31))).toInt8.toInt32)) 9 (vp_nar .byte ((x3 >>> (16 &&& 31))).toInt8.toInt32)) 10 (vp_nar .byte ((x3 >>> (8 &&& 31))).toInt8.toInt32)) 11 (vp_nar .byte ((x3 >>> (0 &&& 31))).toInt8.toInt32)) 12 (vp_nar .byte ((x4 >>> (24 &&& 31))).toInt8.toInt32)) 13 (vp_nar .byte ((x4 >>> (16 &&& 31))).toInt8.toInt32)) 14 (vp_nar .byte ((x4 >>> (8 &&& 31))).toInt8.toInt32)) 15 (vp_nar .byte ((x4 >>> (0 &&& 31))).toInt8.toInt32)) 16 (vp_nar .byte ((x5 >>> (24 &&& 31))).toInt8.toInt32)) 17 (vp_nar .byte ((x5 >>> (16 &&& 31))).toInt8.toInt32)) 18 (vp_nar .byte ((x5 >>> (8 &&& 31))).toInt8.toInt32))))] H := hP
  have hD : va_D A [((r 0), .inr (10, [.ref (r 1), .int 19, .ref (r 2), .ref (r 18), .ref (r 28), .ref (r 38), .ref (r 45), .ref (r 55), .ref (r 58), .ref (r 61), .ref (r 65), .ref (r 70), .ref (r 75), .int 0, .ref (r 80), .ref (r 86), .int 0, .ref (r 87)])), ((r 1), .inl (cB, 1600, .inl (upd (upd (upd (upd (upd (upd (upd (upd (upd (upd (upd (upd (upd (upd (upd (upd (upd (upd (upd (fun _ => 0) 0 (vp_nar .byte ((x1 >>> (24 &&& 31))).toInt8.toInt32)) 1 (vp_nar .byte ((x1 >>> (16 &&& 31))).toInt8.toInt32)) 2 (vp_nar .byte ((x1 >>> (8 &&& 31))).toInt8.toInt32)) 3 (vp_nar .byte ((x1 >>> (0 &&& 31))).toInt8.toInt32)) 4 (vp_nar .byte ((x2 >>> (24 &&& 31))).toInt8.toInt32)) 5 (vp_nar .byte ((x2 >>> (16 &&& 31))).toInt8.toInt32)) 6 (vp_nar .byte ((x2 >>> (8 &&& 31))).toInt8.toInt32)) 7 (vp_nar .byte ((x2 >>> (0 &&& 31))).toInt8.toInt32)) 8 (vp_nar .byte ((x3 >>> (24 &&& 31))).toInt8.toInt32)) 9 (vp_nar .byte ((x3 >>> (16 &&& 31))).toInt8.toInt32)) 10 (vp_nar .byte ((x3 >>> (8 &&& 31))).toInt8.toInt32)) 11 (vp_nar .byte ((x3 >>> (0 &&& 31))).toInt8.toInt32)) 12 (vp_nar .byte ((x4 >>> (24 &&& 31))).toInt8.toInt32)) 13 (vp_nar .byte ((x4 >>> (16 &&& 31))).toInt8.toInt32)) 14 (vp_nar .byte ((x4 >>> (8 &&& 31))).toInt8.toInt32)) 15 (vp_nar .byte ((x4 >>> (0 &&& 31))).toInt8.toInt32)) 16 (vp_nar .byte ((x5 >>> (24 &&& 31))).toInt8.toInt32)) 17 (vp_nar .byte ((x5 >>> (16 &&& 31))).toInt8.toInt32)) 18 (vp_nar .byte ((x5 >>> (8 &&& 31))).toInt8.toInt32))))] := hD
  refine lv_iinc (v := 0) (lv' := [(2, .int 0), (0, .ref (r 0)), (1, .int x5)]) hx hb dX10_tapeNumber_40 hl (k := 0) rfl z291 (nlt rfl) rfl (fun ls hl => ?_)
  refine lv_goto (tgt := 3) hx hb dX10_tapeNumber_43 z283 ?_
  refine lv_iload_n hx hb dX10_tapeNumber_3 rfl (lv_at hl 0 rfl) ?_
  refine lv_if_lt (tgt := 46) hx hb dX10_tapeNumber_4 z277 (fun c1 => absurd c1 (z125)) (fun _ => ?_)
  refine lv_aload_n hx hb dX10_tapeNumber_7 rfl (lv_at hl 1 rfl) ?_
  refine va_get (D := (dC, dI)) (ci := 10) (v := .int 19) (C := RX10) (T := TX10) (N := 18) hx hb hts i10 hown hK hP 0 rfl rfl 1 (nlt rfl) w1 (fun _ h9 => h9) rfl dX10_tapeNumber_8 ?_
  refine lv_sipush (v := 1600) hx hb dX10_tapeNumber_11 z0 ?_
  refine lv_icmp_ge (tgt := 40) hx hb dX10_tapeNumber_14 z279 (fun c1 => absurd c1 (z342)) (fun _ => ?_)
  refine lv_aload_n hx hb dX10_tapeNumber_17 rfl (lv_at hl 1 rfl) ?_
  refine va_get (D := (dC, dI)) (ci := 10) (v := .ref (r 1)) (C := RX10) (T := TX10) (N := 18) hx hb hts i10 hown hK hP 0 rfl rfl 0 (nlt rfl) w2 (fun _ h9 => h9) rfl dX10_tapeNumber_18 ?_
  refine lv_aload_n hx hb dX10_tapeNumber_21 rfl (lv_at hl 1 rfl) ?_
  refine va_get (D := (dC, dI)) (ci := 10) (v := .int 19) (C := RX10) (T := TX10) (N := 18) hx hb hts i10 hown hK hP 0 rfl rfl 1 (nlt rfl) w1 (fun _ h9 => h9) rfl dX10_tapeNumber_22 ?_
  refine lv_iload_n hx hb dX10_tapeNumber_25 rfl (lv_at hl 2 rfl) ?_
  refine lv_iload_n hx hb dX10_tapeNumber_26 rfl (lv_at hl 0 rfl) ?_
  refine lv_ishr hx hb dX10_tapeNumber_27 ?_
  refine lv_i2b hx hb dX10_tapeNumber_28 rfl ?_
  refine my_bast hx hb hK hP hD hS 1 0 rfl rfl z343 (rfl : vp_nar .byte ((x5 >>> (0 &&& 31))).toInt8.toInt32 = _) dX10_tapeNumber_29 (fun H locs hP hD hS => ?_)
  refine lv_aload_n hx hb dX10_tapeNumber_30 rfl (lv_at hl 1 rfl) ?_
  refine lv_dup hx hb dX10_tapeNumber_31 rfl ?_
  refine va_get (D := (dC, dI)) (ci := 10) (v := .int 19) (C := RX10) (T := TX10) (N := 18) hx hb hts i10 hown hK hP 0 rfl rfl 1 (nlt rfl) w1 (fun _ h9 => h9) rfl dX10_tapeNumber_32 ?_
  refine lv_iconst (v := 1) hx hb dX10_tapeNumber_35 z39 ?_
  refine lv_iadd hx hb dX10_tapeNumber_36 ?_
  refine tpi z344 ?_
  refine va_put (D := (dC, dI)) (ci := 10) (v := .int 20) (ty := tyX10 1) (C := RX10) (T := TX10) (N := 18) hx hb hts i10 tyX10 tyX10_ok nmX10 hown hK hP hD hS 0 rfl rfl 1 (nlt rfl) w1 (fun _ h9 => h9) rfl (tyX10_ok 1 (nlt rfl)) rfl rfl (nlt rfl) dX10_tapeNumber_37 (fun H locs hP hD hS => ?_)
  refine lv_iinc (v := (-8)) (lv' := [(2, .int (-8)), (0, .ref (r 0)), (1, .int x5)]) hx hb dX10_tapeNumber_40 hl (k := 0) rfl z295 (nlt rfl) rfl (fun ls hl => ?_)
  refine lv_goto (tgt := 3) hx hb dX10_tapeNumber_43 z283 ?_
  refine lv_iload_n hx hb dX10_tapeNumber_3 rfl (lv_at hl 0 rfl) ?_
  refine lv_if_lt (tgt := 46) hx hb dX10_tapeNumber_4 z277 (fun _ => ?_) (fun c1 => absurd (z296) c1)
  refine W.widen (k := 0) (n := 0) (by decide +kernel) (by decide +kernel) ?_
  exact ret_v hx hb hr hlocks hS (u := (fun _ => 0)) (hP.sub [0, 1] rfl) (hD.sub [0, 1] (by decide +kernel) rfl) dX10_tapeNumber_46

set_option maxHeartbeats 4000000 in
set_option maxRecDepth 100000 in
theorem k31_X10_feed (l : Launch) (dC : Nat → ClassId) (dI : Nat → Nat → Nat) (cB cI cJ cZ cO : ClassId) (r : Nat → Nat) (x1 : Int32) (x2 : Int32) (x3 : Int32) (x4 : Int32) (x5 : Int32) : CI l yX10_feed wsX10_feed ({ frames := 1, cells := 0, slots := 0, locals := 22 }) (dC, dI) (tyL cB cI cJ cZ cO) [.ref (r 0), .int x1, .int x2, .int x3, .int x4, .int x5] [((r 0), .inr (10, fX r)), ((r 1), .inl (cB, 1600, .inl (fun _ => 0)))] (fun _ => []) 20 := by
  intro sz
  refine ct_open (cc := cX10_feed) (maxL := 6) (ret := (some .int)) (by decide) rfl (Nat.le_of_ble_eq_true rfl) ?_
  intro p e s m below meth c ls A hx hb hr hml hts hown hlocks hin hP hK hD hA hS hl
  have hl : lv_has ls 6 [(0, .ref (r 0)), (1, .int x1), (2, .int x2), (3, .int x3), (4, .int x4), (5, .int x5)] := hl
  have hown : s.vm.findClass RX10 = some m.cls := hown
  have i10 : ∀ w ∈ u_ws RX10 TX10 18, w ∈ wsX10_feed := fun _ h => List.mem_cons_of_mem _ (List.mem_append_right _ h)
  have w1 := hts (.fieldLink RX10 92 "GuildCharter" "tapeSize" "I") (List.mem_cons_of_mem _ (List.mem_append_left _ (List.mem_of_getElem? (i := 0) rfl)))
  refine lv_aload_n hx hb dX10_feed_0 rfl (lv_at hl 0 rfl) ?_
  refine va_get (D := (dC, dI)) (ci := 10) (v := .int 0) (C := RX10) (T := TX10) (N := 18) hx hb hts i10 hown hK hP 0 rfl rfl 1 (nlt rfl) w1 (fun _ h9 => h9) rfl dX10_feed_1 ?_
  refine lv_bipush (v := 20) hx hb dX10_feed_4 z273 ?_
  refine lv_iadd hx hb dX10_feed_6 ?_
  refine tpi z274 ?_
  refine lv_sipush (v := 1600) hx hb dX10_feed_7 z0 ?_
  refine lv_icmp_le (tgt := 15) hx hb dX10_feed_10 z276 (fun _ => ?_) (fun c1 => absurd (z275) c1)
  refine lv_aload_n hx hb dX10_feed_15 rfl (lv_at hl 0 rfl) ?_
  refine lv_iload_n hx hb dX10_feed_16 rfl (lv_at hl 1 rfl) ?_
  refine call_vV (ci := 10) (As := [.int x1]) (rest := []) (wr := []) ⟨hx, hb, hml, hown, hts⟩ (k26_X10_tapeNumber l dC dI cB cI cJ cZ cO r x1) (cwV 1 hts gX10_feed_X10_tapeNumber rfl rfl rfl ⟨rfl, z345⟩ ⟨Nat.le_of_ble_eq_true rfl, Nat.le_of_ble_eq_true rfl⟩) hK hP hD hS hA [0, 1] [] rfl rfl (by decide +kernel) (by decide +kernel) (by decide +kernel) rfl rfl rfl hl.1 (Nat.le_of_ble_eq_true rfl) rfl rfl dX10_feed_17 ⟨by decide +kernel, by decide +kernel⟩ (fun u0 H locs hP hD hS => ?_)
  refine lv_aload_n hx hb dX10_feed_20 rfl (lv_at hl 0 rfl) ?_
  refine lv_iload_n hx hb dX10_feed_21 rfl (lv_at hl 2 rfl) ?_
  refine call_vV (ci := 10) (As := [.int x2]) (rest := []) (wr := []) ⟨hx, hb, hml, hown, hts⟩ (k27_X10_tapeNumber l dC dI cB cI cJ cZ cO r x1 x2) (cwV 1 hts gX10_feed_X10_tapeNumber rfl rfl rfl ⟨rfl, z345⟩ ⟨Nat.le_of_ble_eq_true rfl, Nat.le_of_ble_eq_true rfl⟩) hK hP hD hS hA [0, 1] [] rfl rfl (by decide +kernel) (by decide +kernel) (by decide +kernel) rfl rfl rfl hl.1 (Nat.le_of_ble_eq_true rfl) rfl rfl dX10_feed_22 ⟨by decide +kernel, by decide +kernel⟩ (fun u1 H locs hP hD hS => ?_)
  refine lv_aload_n hx hb dX10_feed_25 rfl (lv_at hl 0 rfl) ?_
  refine lv_iload_n hx hb dX10_feed_26 rfl (lv_at hl 3 rfl) ?_
  refine call_vV (ci := 10) (As := [.int x3]) (rest := []) (wr := []) ⟨hx, hb, hml, hown, hts⟩ (k28_X10_tapeNumber l dC dI cB cI cJ cZ cO r x1 x2 x3) (cwV 1 hts gX10_feed_X10_tapeNumber rfl rfl rfl ⟨rfl, z345⟩ ⟨Nat.le_of_ble_eq_true rfl, Nat.le_of_ble_eq_true rfl⟩) hK hP hD hS hA [0, 1] [] rfl rfl (by decide +kernel) (by decide +kernel) (by decide +kernel) rfl rfl rfl hl.1 (Nat.le_of_ble_eq_true rfl) rfl rfl dX10_feed_27 ⟨by decide +kernel, by decide +kernel⟩ (fun u2 H locs hP hD hS => ?_)
  refine lv_aload_n hx hb dX10_feed_30 rfl (lv_at hl 0 rfl) ?_
  refine lv_iload hx hb dX10_feed_31 (lv_at hl 4 rfl) ?_
  refine call_vV (ci := 10) (As := [.int x4]) (rest := []) (wr := []) ⟨hx, hb, hml, hown, hts⟩ (k29_X10_tapeNumber l dC dI cB cI cJ cZ cO r x1 x2 x3 x4) (cwV 1 hts gX10_feed_X10_tapeNumber rfl rfl rfl ⟨rfl, z345⟩ ⟨Nat.le_of_ble_eq_true rfl, Nat.le_of_ble_eq_true rfl⟩) hK hP hD hS hA [0, 1] [] rfl rfl (by decide +kernel) (by decide +kernel) (by decide +kernel) rfl rfl rfl hl.1 (Nat.le_of_ble_eq_true rfl) rfl rfl dX10_feed_33 ⟨by decide +kernel, by decide +kernel⟩ (fun u3 H locs hP hD hS => ?_)
  refine lv_aload_n hx hb dX10_feed_36 rfl (lv_at hl 0 rfl) ?_
  refine lv_iload hx hb dX10_feed_37 (lv_at hl 5 rfl) ?_
  refine call_vV (ci := 10) (As := [.int x5]) (rest := []) (wr := []) ⟨hx, hb, hml, hown, hts⟩ (k30_X10_tapeNumber l dC dI cB cI cJ cZ cO r x1 x2 x3 x4 x5) (cwV 1 hts gX10_feed_X10_tapeNumber rfl rfl rfl ⟨rfl, z345⟩ ⟨Nat.le_of_ble_eq_true rfl, Nat.le_of_ble_eq_true rfl⟩) hK hP hD hS hA [0, 1] [] rfl rfl (by decide +kernel) (by decide +kernel) (by decide +kernel) rfl rfl rfl hl.1 (Nat.le_of_ble_eq_true rfl) rfl rfl dX10_feed_39 ⟨by decide +kernel, by decide +kernel⟩ (fun u4 H locs hP hD hS => ?_)
  refine lv_aload_n hx hb dX10_feed_42 rfl (lv_at hl 0 rfl) ?_
  refine va_get (D := (dC, dI)) (ci := 10) (v := .int 20) (C := RX10) (T := TX10) (N := 18) hx hb hts i10 hown hK hP 0 rfl rfl 1 (nlt rfl) w1 (fun _ h9 => h9) rfl dX10_feed_43 ?_
  refine W.widen (k := 0) (n := 0) (by decide +kernel) (by decide +kernel) ?_
  exact ret_i hx hb hr hlocks hS (u := (fun _ => 0)) (hP.sub [] rfl) (hD.sub [] (by decide +kernel) rfl) dX10_feed_46

set_option maxHeartbeats 4000000 in
set_option maxRecDepth 100000 in
theorem k32_X11_feed (l : Launch) (dC : Nat → ClassId) (dI : Nat → Nat → Nat) (cB cI cJ cZ cO : ClassId) (n : Nat → Nat) (x1 : Int32) (x2 : Int32) (x3 : Int32) (x4 : Int32) (x5 : Int32) : CI l yX11_feed wsX11_feed ({ frames := 0, cells := 0, slots := 0, locals := 0 }) (dC, dI) (tyL cB cI cJ cZ cO) [.ref (n 0), .int x1, .int x2, .int x3, .int x4, .int x5] [((n 0), .inr (11, fM n)), ((n 1), .inl (cB, 1620, .inl (fun _ => 0)))] (fun _ => []) 20 := by
  intro sz
  refine ct_open (cc := cX11_feed) (maxL := 8) (ret := (some .int)) (by decide) rfl (Nat.le_of_ble_eq_true rfl) ?_
  intro p e s m below meth c ls A hx hb hr hml hts hown hlocks hin hP hK hD hA hS hl
  have hl : lv_has ls 8 [(0, .ref (n 0)), (1, .int x1), (2, .int x2), (3, .int x3), (4, .int x4), (5, .int x5)] := hl
  have hown : s.vm.findClass RX11 = some m.cls := hown
  have i11 : ∀ w ∈ u_ws RX11 TX11 71, w ∈ wsX11_feed := fun _ h => List.mem_cons_of_mem _ (List.mem_append_right _ h)
  have w1 := hts (.fieldLink RX11 230 "GuildCharterModel" "taped" "I") (List.mem_cons_of_mem _ (List.mem_append_left _ (List.mem_of_getElem? (i := 0) rfl)))
  have w2 := hts (.fieldLink RX11 7 "GuildCharterModel" "tape" "[B") (List.mem_cons_of_mem _ (List.mem_append_left _ (List.mem_of_getElem? (i := 1) rfl)))
  refine lv_aload_n hx hb dX11_feed_0 rfl (lv_at hl 0 rfl) ?_
  refine va_get (D := (dC, dI)) (ci := 11) (v := .int 0) (C := RX11) (T := TX11) (N := 71) hx hb hts i11 hown hK hP 0 rfl rfl 2 (nlt rfl) w1 (fun _ h9 => h9) rfl dX11_feed_1 ?_
  refine lv_bipush (v := 20) hx hb dX11_feed_4 z273 ?_
  refine lv_iadd hx hb dX11_feed_6 ?_
  refine tpi z274 ?_
  refine lv_sipush (v := 1600) hx hb dX11_feed_7 z0 ?_
  refine lv_icmp_le (tgt := 15) hx hb dX11_feed_10 z276 (fun _ => ?_) (fun c1 => absurd (z275) c1)
  refine lv_iconst (v := 0) hx hb dX11_feed_15 z8 ?_
  refine lv_istore (lv' := [(6, .int 0), (0, .ref (n 0)), (1, .int x1), (2, .int x2), (3, .int x3), (4, .int x4), (5, .int x5)]) hx hb dX11_feed_16 hl (nlt rfl) rfl (fun ls hl => ?_)
  refine lv_iload hx hb dX11_feed_18 (lv_at hl 0 rfl) ?_
  refine lv_bipush (v := 20) hx hb dX11_feed_20 z273 ?_
  refine lv_icmp_ge (tgt := 105) hx hb dX11_feed_22 z347 (fun c1 => absurd c1 (z346)) (fun _ => ?_)
  refine lv_iload hx hb dX11_feed_25 (lv_at hl 0 rfl) ?_
  refine lv_iconst (v := 4) hx hb dX11_feed_27 z77 ?_
  refine lv_icmp_ge (tgt := 35) hx hb dX11_feed_28 z348 (fun c1 => absurd c1 (z9)) (fun _ => ?_)
  refine lv_iload_n hx hb dX11_feed_31 rfl (lv_at hl 2 rfl) ?_
  refine lv_goto (tgt := 71) hx hb dX11_feed_32 z349 ?_
  refine lv_istore (lv' := [(7, .int x1), (6, .int 0), (0, .ref (n 0)), (1, .int x1), (2, .int x2), (3, .int x3), (4, .int x4), (5, .int x5)]) hx hb dX11_feed_71 hl (nlt rfl) rfl (fun ls hl => ?_)
  refine lv_aload_n hx hb dX11_feed_73 rfl (lv_at hl 2 rfl) ?_
  refine va_get (D := (dC, dI)) (ci := 11) (v := .ref (n 1)) (C := RX11) (T := TX11) (N := 71) hx hb hts i11 hown hK hP 0 rfl rfl 0 (nlt rfl) w2 (fun _ h9 => h9) rfl dX11_feed_74 ?_
  refine lv_aload_n hx hb dX11_feed_77 rfl (lv_at hl 2 rfl) ?_
  refine va_get (D := (dC, dI)) (ci := 11) (v := .int 0) (C := RX11) (T := TX11) (N := 71) hx hb hts i11 hown hK hP 0 rfl rfl 2 (nlt rfl) w1 (fun _ h9 => h9) rfl dX11_feed_78 ?_
  refine lv_iload hx hb dX11_feed_81 (lv_at hl 1 rfl) ?_
  refine lv_iadd hx hb dX11_feed_83 ?_
  refine tpi z350 ?_
  refine lv_iload hx hb dX11_feed_84 (lv_at hl 0 rfl) ?_
  refine lv_bipush (v := 24) hx hb dX11_feed_86 z134 ?_
  refine lv_bipush (v := 8) hx hb dX11_feed_88 z130 ?_
  refine lv_iload hx hb dX11_feed_90 (lv_at hl 1 rfl) ?_
  refine lv_iconst (v := 3) hx hb dX11_feed_92 z69 ?_
  refine lv_iand hx hb dX11_feed_93 ?_
  refine tpi z351 ?_
  refine lv_imul hx hb dX11_feed_94 ?_
  refine tpi z352 ?_
  refine lv_isub hx hb dX11_feed_95 ?_
  refine tpi z353 ?_
  refine lv_ishr hx hb dX11_feed_96 ?_
  refine lv_i2b hx hb dX11_feed_97 rfl ?_
  refine my_bast hx hb hK hP hD hS 1 0 rfl rfl z354 (rfl : vp_nar .byte ((x1 >>> (24 &&& 31))).toInt8.toInt32 = _) dX11_feed_98 (fun H locs hP hD hS => ?_)
  refine lv_iinc (v := 1) (lv' := [(6, .int 1), (7, .int x1), (0, .ref (n 0)), (1, .int x1), (2, .int x2), (3, .int x3), (4, .int x4), (5, .int x5)]) hx hb dX11_feed_99 hl (k := 1) rfl z17 (nlt rfl) rfl (fun ls hl => ?_)
  refine lv_goto (tgt := 18) hx hb dX11_feed_102 z355 ?_
  refine lv_iload hx hb dX11_feed_18 (lv_at hl 0 rfl) ?_
  refine lv_bipush (v := 20) hx hb dX11_feed_20 z273 ?_
  refine lv_icmp_ge (tgt := 105) hx hb dX11_feed_22 z347 (fun c1 => absurd c1 (z356)) (fun _ => ?_)
  refine lv_iload hx hb dX11_feed_25 (lv_at hl 0 rfl) ?_
  refine lv_iconst (v := 4) hx hb dX11_feed_27 z77 ?_
  refine lv_icmp_ge (tgt := 35) hx hb dX11_feed_28 z348 (fun c1 => absurd c1 (z19)) (fun _ => ?_)
  refine lv_iload_n hx hb dX11_feed_31 rfl (lv_at hl 3 rfl) ?_
  refine lv_goto (tgt := 71) hx hb dX11_feed_32 z349 ?_
  refine lv_istore (lv' := [(7, .int x1), (6, .int 1), (0, .ref (n 0)), (1, .int x1), (2, .int x2), (3, .int x3), (4, .int x4), (5, .int x5)]) hx hb dX11_feed_71 hl (nlt rfl) rfl (fun ls hl => ?_)
  refine lv_aload_n hx hb dX11_feed_73 rfl (lv_at hl 2 rfl) ?_
  refine va_get (D := (dC, dI)) (ci := 11) (v := .ref (n 1)) (C := RX11) (T := TX11) (N := 71) hx hb hts i11 hown hK hP 0 rfl rfl 0 (nlt rfl) w2 (fun _ h9 => h9) rfl dX11_feed_74 ?_
  refine lv_aload_n hx hb dX11_feed_77 rfl (lv_at hl 2 rfl) ?_
  refine va_get (D := (dC, dI)) (ci := 11) (v := .int 0) (C := RX11) (T := TX11) (N := 71) hx hb hts i11 hown hK hP 0 rfl rfl 2 (nlt rfl) w1 (fun _ h9 => h9) rfl dX11_feed_78 ?_
  refine lv_iload hx hb dX11_feed_81 (lv_at hl 1 rfl) ?_
  refine lv_iadd hx hb dX11_feed_83 ?_
  refine tpi z281 ?_
  refine lv_iload hx hb dX11_feed_84 (lv_at hl 0 rfl) ?_
  refine lv_bipush (v := 24) hx hb dX11_feed_86 z134 ?_
  refine lv_bipush (v := 8) hx hb dX11_feed_88 z130 ?_
  refine lv_iload hx hb dX11_feed_90 (lv_at hl 1 rfl) ?_
  refine lv_iconst (v := 3) hx hb dX11_feed_92 z69 ?_
  refine lv_iand hx hb dX11_feed_93 ?_
  refine tpi z357 ?_
  refine lv_imul hx hb dX11_feed_94 ?_
  refine tpi z358 ?_
  refine lv_isub hx hb dX11_feed_95 ?_
  refine tpi z359 ?_
  refine lv_ishr hx hb dX11_feed_96 ?_
  refine lv_i2b hx hb dX11_feed_97 rfl ?_
  refine my_bast hx hb hK hP hD hS 1 0 rfl rfl z360 (rfl : vp_nar .byte ((x1 >>> (16 &&& 31))).toInt8.toInt32 = _) dX11_feed_98 (fun H locs hP hD hS => ?_)
  refine lv_iinc (v := 2) (lv' := [(6, .int 2), (7, .int x1), (0, .ref (n 0)), (1, .int x1), (2, .int x2), (3, .int x3), (4, .int x4), (5, .int x5)]) hx hb dX11_feed_99 hl (k := 1) rfl z24 (nlt rfl) rfl (fun ls hl => ?_)
  refine lv_goto (tgt := 18) hx hb dX11_feed_102 z355 ?_
  refine lv_iload hx hb dX11_feed_18 (lv_at hl 0 rfl) ?_
  refine lv_bipush (v := 20) hx hb dX11_feed_20 z273 ?_
  refine lv_icmp_ge (tgt := 105) hx hb dX11_feed_22 z347 (fun c1 => absurd c1 (z361)) (fun _ => ?_)
  refine lv_iload hx hb dX11_feed_25 (lv_at hl 0 rfl) ?_
  refine lv_iconst (v := 4) hx hb dX11_feed_27 z77 ?_
  refine lv_icmp_ge (tgt := 35) hx hb dX11_feed_28 z348 (fun c1 => absurd c1 (z25)) (fun _ => ?_)
  refine lv_iload_n hx hb dX11_feed_31 rfl (lv_at hl 3 rfl) ?_
  refine lv_goto (tgt := 71) hx hb dX11_feed_32 z349 ?_
  refine lv_istore (lv' := [(7, .int x1), (6, .int 2), (0, .ref (n 0)), (1, .int x1), (2, .int x2), (3, .int x3), (4, .int x4), (5, .int x5)]) hx hb dX11_feed_71 hl (nlt rfl) rfl (fun ls hl => ?_)
  refine lv_aload_n hx hb dX11_feed_73 rfl (lv_at hl 2 rfl) ?_
  refine va_get (D := (dC, dI)) (ci := 11) (v := .ref (n 1)) (C := RX11) (T := TX11) (N := 71) hx hb hts i11 hown hK hP 0 rfl rfl 0 (nlt rfl) w2 (fun _ h9 => h9) rfl dX11_feed_74 ?_
  refine lv_aload_n hx hb dX11_feed_77 rfl (lv_at hl 2 rfl) ?_
  refine va_get (D := (dC, dI)) (ci := 11) (v := .int 0) (C := RX11) (T := TX11) (N := 71) hx hb hts i11 hown hK hP 0 rfl rfl 2 (nlt rfl) w1 (fun _ h9 => h9) rfl dX11_feed_78 ?_
  refine lv_iload hx hb dX11_feed_81 (lv_at hl 1 rfl) ?_
  refine lv_iadd hx hb dX11_feed_83 ?_
  refine tpi z362 ?_
  refine lv_iload hx hb dX11_feed_84 (lv_at hl 0 rfl) ?_
  refine lv_bipush (v := 24) hx hb dX11_feed_86 z134 ?_
  refine lv_bipush (v := 8) hx hb dX11_feed_88 z130 ?_
  refine lv_iload hx hb dX11_feed_90 (lv_at hl 1 rfl) ?_
  refine lv_iconst (v := 3) hx hb dX11_feed_92 z69 ?_
  refine lv_iand hx hb dX11_feed_93 ?_
  refine tpi z363 ?_
  refine lv_imul hx hb dX11_feed_94 ?_
  refine tpi z364 ?_
  refine lv_isub hx hb dX11_feed_95 ?_
  refine tpi z365 ?_
  refine lv_ishr hx hb dX11_feed_96 ?_
  refine lv_i2b hx hb dX11_feed_97 rfl ?_
  refine my_bast hx hb hK hP hD hS 1 0 rfl rfl z366 (rfl : vp_nar .byte ((x1 >>> (8 &&& 31))).toInt8.toInt32 = _) dX11_feed_98 (fun H locs hP hD hS => ?_)
  have hP : va_P (dC, dI) vwCl [((n 0), .inr (11, fM n)), ((n 1), .inl (cB, 1620, .inl (upd (upd (upd (fun _ => 0) 0 (vp_nar .byte ((x1 >>> (24 &&& 31))).toInt8.toInt32)) 1 (vp_nar .byte ((x1 >>> (16 &&& 31))).toInt8.toInt32)) 2 (vp_nar .byte ((x1 >>> (8 &&& 31))).toInt8.toInt32))))] H := hP
  have hD : va_D A [((n 0), .inr (11, fM n)), ((n 1), .inl (cB, 1620, .inl (upd (upd (upd (fun _ => 0) 0 (vp_nar .byte ((x1 >>> (24 &&& 31))).toInt8.toInt32)) 1 (vp_nar .byte ((x1 >>> (16 &&& 31))).toInt8.toInt32)) 2 (vp_nar .byte ((x1 >>> (8 &&& 31))).toInt8.toInt32))))] := hD
  refine lv_iinc (v := 3) (lv' := [(6, .int 3), (7, .int x1), (0, .ref (n 0)), (1, .int x1), (2, .int x2), (3, .int x3), (4, .int x4), (5, .int x5)]) hx hb dX11_feed_99 hl (k := 1) rfl z30 (nlt rfl) rfl (fun ls hl => ?_)
  refine lv_goto (tgt := 18) hx hb dX11_feed_102 z355 ?_
  refine lv_iload hx hb dX11_feed_18 (lv_at hl 0 rfl) ?_
  refine lv_bipush (v := 20) hx hb dX11_feed_20 z273 ?_
  refine lv_icmp_ge (tgt := 105) hx hb dX11_feed_22 z347 (fun c1 => absurd c1 (z367)) (fun _ => ?_)
  refine lv_iload hx hb dX11_feed_25 (lv_at hl 0 rfl) ?_
  refine lv_iconst (v := 4) hx hb dX11_feed_27 z77 ?_
  refine lv_icmp_ge (tgt := 35) hx hb dX11_feed_28 z348 (fun c1 => absurd c1 (z31)) (fun _ => ?_)
  refine lv_iload_n hx hb dX11_feed_31 rfl (lv_at hl 3 rfl) ?_
  refine lv_goto (tgt := 71) hx hb dX11_feed_32 z349 ?_
  refine lv_istore (lv' := [(7, .int x1), (6, .int 3), (0, .ref (n 0)), (1, .int x1), (2, .int x2), (3, .int x3), (4, .int x4), (5, .int x5)]) hx hb dX11_feed_71 hl (nlt rfl) rfl (fun ls hl => ?_)
  refine lv_aload_n hx hb dX11_feed_73 rfl (lv_at hl 2 rfl) ?_
  refine va_get (D := (dC, dI)) (ci := 11) (v := .ref (n 1)) (C := RX11) (T := TX11) (N := 71) hx hb hts i11 hown hK hP 0 rfl rfl 0 (nlt rfl) w2 (fun _ h9 => h9) rfl dX11_feed_74 ?_
  refine lv_aload_n hx hb dX11_feed_77 rfl (lv_at hl 2 rfl) ?_
  refine va_get (D := (dC, dI)) (ci := 11) (v := .int 0) (C := RX11) (T := TX11) (N := 71) hx hb hts i11 hown hK hP 0 rfl rfl 2 (nlt rfl) w1 (fun _ h9 => h9) rfl dX11_feed_78 ?_
  refine lv_iload hx hb dX11_feed_81 (lv_at hl 1 rfl) ?_
  refine lv_iadd hx hb dX11_feed_83 ?_
  refine tpi z368 ?_
  refine lv_iload hx hb dX11_feed_84 (lv_at hl 0 rfl) ?_
  refine lv_bipush (v := 24) hx hb dX11_feed_86 z134 ?_
  refine lv_bipush (v := 8) hx hb dX11_feed_88 z130 ?_
  refine lv_iload hx hb dX11_feed_90 (lv_at hl 1 rfl) ?_
  refine lv_iconst (v := 3) hx hb dX11_feed_92 z69 ?_
  refine lv_iand hx hb dX11_feed_93 ?_
  refine tpi z369 ?_
  refine lv_imul hx hb dX11_feed_94 ?_
  refine tpi z370 ?_
  refine lv_isub hx hb dX11_feed_95 ?_
  refine tpi z371 ?_
  refine lv_ishr hx hb dX11_feed_96 ?_
  refine lv_i2b hx hb dX11_feed_97 rfl ?_
  refine my_bast hx hb hK hP hD hS 1 0 rfl rfl z372 (rfl : vp_nar .byte ((x1 >>> (0 &&& 31))).toInt8.toInt32 = _) dX11_feed_98 (fun H locs hP hD hS => ?_)
  refine lv_iinc (v := 4) (lv' := [(6, .int 4), (7, .int x1), (0, .ref (n 0)), (1, .int x1), (2, .int x2), (3, .int x3), (4, .int x4), (5, .int x5)]) hx hb dX11_feed_99 hl (k := 1) rfl z36 (nlt rfl) rfl (fun ls hl => ?_)
  refine lv_goto (tgt := 18) hx hb dX11_feed_102 z355 ?_
  refine lv_iload hx hb dX11_feed_18 (lv_at hl 0 rfl) ?_
  refine lv_bipush (v := 20) hx hb dX11_feed_20 z273 ?_
  refine lv_icmp_ge (tgt := 105) hx hb dX11_feed_22 z347 (fun c1 => absurd c1 (z373)) (fun _ => ?_)
  refine lv_iload hx hb dX11_feed_25 (lv_at hl 0 rfl) ?_
  refine lv_iconst (v := 4) hx hb dX11_feed_27 z77 ?_
  refine lv_icmp_ge (tgt := 35) hx hb dX11_feed_28 z348 (fun _ => ?_) (fun c1 => absurd (z37) c1)
  refine lv_iload hx hb dX11_feed_35 (lv_at hl 0 rfl) ?_
  refine lv_bipush (v := 8) hx hb dX11_feed_37 z130 ?_
  refine lv_icmp_ge (tgt := 46) hx hb dX11_feed_39 z375 (fun c1 => absurd c1 (z374)) (fun _ => ?_)
  refine lv_iload_n hx hb dX11_feed_42 rfl (lv_at hl 4 rfl) ?_
  refine lv_goto (tgt := 71) hx hb dX11_feed_43 z376 ?_
  refine lv_istore (lv' := [(7, .int x2), (6, .int 4), (0, .ref (n 0)), (1, .int x1), (2, .int x2), (3, .int x3), (4, .int x4), (5, .int x5)]) hx hb dX11_feed_71 hl (nlt rfl) rfl (fun ls hl => ?_)
  refine lv_aload_n hx hb dX11_feed_73 rfl (lv_at hl 2 rfl) ?_
  refine va_get (D := (dC, dI)) (ci := 11) (v := .ref (n 1)) (C := RX11) (T := TX11) (N := 71) hx hb hts i11 hown hK hP 0 rfl rfl 0 (nlt rfl) w2 (fun _ h9 => h9) rfl dX11_feed_74 ?_
  refine lv_aload_n hx hb dX11_feed_77 rfl (lv_at hl 2 rfl) ?_
  refine va_get (D := (dC, dI)) (ci := 11) (v := .int 0) (C := RX11) (T := TX11) (N := 71) hx hb hts i11 hown hK hP 0 rfl rfl 2 (nlt rfl) w1 (fun _ h9 => h9) rfl dX11_feed_78 ?_
  refine lv_iload hx hb dX11_feed_81 (lv_at hl 1 rfl) ?_
  refine lv_iadd hx hb dX11_feed_83 ?_
  refine tpi z377 ?_
  refine lv_iload hx hb dX11_feed_84 (lv_at hl 0 rfl) ?_
  refine lv_bipush (v := 24) hx hb dX11_feed_86 z134 ?_
  refine lv_bipush (v := 8) hx hb dX11_feed_88 z130 ?_
  refine lv_iload hx hb dX11_feed_90 (lv_at hl 1 rfl) ?_
  refine lv_iconst (v := 3) hx hb dX11_feed_92 z69 ?_
  refine lv_iand hx hb dX11_feed_93 ?_
  refine tpi z378 ?_
  refine lv_imul hx hb dX11_feed_94 ?_
  refine tpi z352 ?_
  refine lv_isub hx hb dX11_feed_95 ?_
  refine tpi z353 ?_
  refine lv_ishr hx hb dX11_feed_96 ?_
  refine lv_i2b hx hb dX11_feed_97 rfl ?_
  refine my_bast hx hb hK hP hD hS 1 0 rfl rfl z379 (rfl : vp_nar .byte ((x2 >>> (24 &&& 31))).toInt8.toInt32 = _) dX11_feed_98 (fun H locs hP hD hS => ?_)
  refine lv_iinc (v := 5) (lv' := [(6, .int 5), (7, .int x2), (0, .ref (n 0)), (1, .int x1), (2, .int x2), (3, .int x3), (4, .int x4), (5, .int x5)]) hx hb dX11_feed_99 hl (k := 1) rfl z98 (nlt rfl) rfl (fun ls hl => ?_)
  refine lv_goto (tgt := 18) hx hb dX11_feed_102 z355 ?_
  refine lv_iload hx hb dX11_feed_18 (lv_at hl 0 rfl) ?_
  refine lv_bipush (v := 20) hx hb dX11_feed_20 z273 ?_
  refine lv_icmp_ge (tgt := 105) hx hb dX11_feed_22 z347 (fun c1 => absurd c1 (z380)) (fun _ => ?_)
  refine lv_iload hx hb dX11_feed_25 (lv_at hl 0 rfl) ?_
  refine lv_iconst (v := 4) hx hb dX11_feed_27 z77 ?_
  refine lv_icmp_ge (tgt := 35) hx hb dX11_feed_28 z348 (fun _ => ?_) (fun c1 => absurd (z381) c1)
  refine lv_iload hx hb dX11_feed_35 (lv_at hl 0 rfl) ?_
  refine lv_bipush (v := 8) hx hb dX11_feed_37 z130 ?_
  refine lv_icmp_ge (tgt := 46) hx hb dX11_feed_39 z375 (fun c1 => absurd c1 (z382)) (fun _ => ?_)
  refine lv_iload_n hx hb dX11_feed_42 rfl (lv_at hl 4 rfl) ?_
  refine lv_goto (tgt := 71) hx hb dX11_feed_43 z376 ?_
  refine lv_istore (lv' := [(7, .int x2), (6, .int 5), (0, .ref (n 0)), (1, .int x1), (2, .int x2), (3, .int x3), (4, .int x4), (5, .int x5)]) hx hb dX11_feed_71 hl (nlt rfl) rfl (fun ls hl => ?_)
  refine lv_aload_n hx hb dX11_feed_73 rfl (lv_at hl 2 rfl) ?_
  refine va_get (D := (dC, dI)) (ci := 11) (v := .ref (n 1)) (C := RX11) (T := TX11) (N := 71) hx hb hts i11 hown hK hP 0 rfl rfl 0 (nlt rfl) w2 (fun _ h9 => h9) rfl dX11_feed_74 ?_
  refine lv_aload_n hx hb dX11_feed_77 rfl (lv_at hl 2 rfl) ?_
  refine va_get (D := (dC, dI)) (ci := 11) (v := .int 0) (C := RX11) (T := TX11) (N := 71) hx hb hts i11 hown hK hP 0 rfl rfl 2 (nlt rfl) w1 (fun _ h9 => h9) rfl dX11_feed_78 ?_
  refine lv_iload hx hb dX11_feed_81 (lv_at hl 1 rfl) ?_
  refine lv_iadd hx hb dX11_feed_83 ?_
  refine tpi z383 ?_
  refine lv_iload hx hb dX11_feed_84 (lv_at hl 0 rfl) ?_
  refine lv_bipush (v := 24) hx hb dX11_feed_86 z134 ?_
  refine lv_bipush (v := 8) hx hb dX11_feed_88 z130 ?_
  refine lv_iload hx hb dX11_feed_90 (lv_at hl 1 rfl) ?_
  refine lv_iconst (v := 3) hx hb dX11_feed_92 z69 ?_
  refine lv_iand hx hb dX11_feed_93 ?_
  refine tpi z384 ?_
  refine lv_imul hx hb dX11_feed_94 ?_
  refine tpi z358 ?_
  refine lv_isub hx hb dX11_feed_95 ?_
  refine tpi z359 ?_
  refine lv_ishr hx hb dX11_feed_96 ?_
  refine lv_i2b hx hb dX11_feed_97 rfl ?_
  refine my_bast hx hb hK hP hD hS 1 0 rfl rfl z385 (rfl : vp_nar .byte ((x2 >>> (16 &&& 31))).toInt8.toInt32 = _) dX11_feed_98 (fun H locs hP hD hS => ?_)
  have hP : va_P (dC, dI) vwCl [((n 0), .inr (11, fM n)), ((n 1), .inl (cB, 1620, .inl (upd (upd (upd (upd (upd (upd (fun _ => 0) 0 (vp_nar .byte ((x1 >>> (24 &&& 31))).toInt8.toInt32)) 1 (vp_nar .byte ((x1 >>> (16 &&& 31))).toInt8.toInt32)) 2 (vp_nar .byte ((x1 >>> (8 &&& 31))).toInt8.toInt32)) 3 (vp_nar .byte ((x1 >>> (0 &&& 31))).toInt8.toInt32)) 4 (vp_nar .byte ((x2 >>> (24 &&& 31))).toInt8.toInt32)) 5 (vp_nar .byte ((x2 >>> (16 &&& 31))).toInt8.toInt32))))] H := hP
  have hD : va_D A [((n 0), .inr (11, fM n)), ((n 1), .inl (cB, 1620, .inl (upd (upd (upd (upd (upd (upd (fun _ => 0) 0 (vp_nar .byte ((x1 >>> (24 &&& 31))).toInt8.toInt32)) 1 (vp_nar .byte ((x1 >>> (16 &&& 31))).toInt8.toInt32)) 2 (vp_nar .byte ((x1 >>> (8 &&& 31))).toInt8.toInt32)) 3 (vp_nar .byte ((x1 >>> (0 &&& 31))).toInt8.toInt32)) 4 (vp_nar .byte ((x2 >>> (24 &&& 31))).toInt8.toInt32)) 5 (vp_nar .byte ((x2 >>> (16 &&& 31))).toInt8.toInt32))))] := hD
  refine lv_iinc (v := 6) (lv' := [(6, .int 6), (7, .int x2), (0, .ref (n 0)), (1, .int x1), (2, .int x2), (3, .int x3), (4, .int x4), (5, .int x5)]) hx hb dX11_feed_99 hl (k := 1) rfl z104 (nlt rfl) rfl (fun ls hl => ?_)
  refine lv_goto (tgt := 18) hx hb dX11_feed_102 z355 ?_
  refine lv_iload hx hb dX11_feed_18 (lv_at hl 0 rfl) ?_
  refine lv_bipush (v := 20) hx hb dX11_feed_20 z273 ?_
  refine lv_icmp_ge (tgt := 105) hx hb dX11_feed_22 z347 (fun c1 => absurd c1 (z386)) (fun _ => ?_)
  refine lv_iload hx hb dX11_feed_25 (lv_at hl 0 rfl) ?_
  refine lv_iconst (v := 4) hx hb dX11_feed_27 z77 ?_
  refine lv_icmp_ge (tgt := 35) hx hb dX11_feed_28 z348 (fun _ => ?_) (fun c1 => absurd (z387) c1)
  refine lv_iload hx hb dX11_feed_35 (lv_at hl 0 rfl) ?_
  refine lv_bipush (v := 8) hx hb dX11_feed_37 z130 ?_
  refine lv_icmp_ge (tgt := 46) hx hb dX11_feed_39 z375 (fun c1 => absurd c1 (z388)) (fun _ => ?_)
  refine lv_iload_n hx hb dX11_feed_42 rfl (lv_at hl 4 rfl) ?_
  refine lv_goto (tgt := 71) hx hb dX11_feed_43 z376 ?_
  refine lv_istore (lv' := [(7, .int x2), (6, .int 6), (0, .ref (n 0)), (1, .int x1), (2, .int x2), (3, .int x3), (4, .int x4), (5, .int x5)]) hx hb dX11_feed_71 hl (nlt rfl) rfl (fun ls hl => ?_)
  refine lv_aload_n hx hb dX11_feed_73 rfl (lv_at hl 2 rfl) ?_
  refine va_get (D := (dC, dI)) (ci := 11) (v := .ref (n 1)) (C := RX11) (T := TX11) (N := 71) hx hb hts i11 hown hK hP 0 rfl rfl 0 (nlt rfl) w2 (fun _ h9 => h9) rfl dX11_feed_74 ?_
  refine lv_aload_n hx hb dX11_feed_77 rfl (lv_at hl 2 rfl) ?_
  refine va_get (D := (dC, dI)) (ci := 11) (v := .int 0) (C := RX11) (T := TX11) (N := 71) hx hb hts i11 hown hK hP 0 rfl rfl 2 (nlt rfl) w1 (fun _ h9 => h9) rfl dX11_feed_78 ?_
  refine lv_iload hx hb dX11_feed_81 (lv_at hl 1 rfl) ?_
  refine lv_iadd hx hb dX11_feed_83 ?_
  refine tpi z389 ?_
  refine lv_iload hx hb dX11_feed_84 (lv_at hl 0 rfl) ?_
  refine lv_bipush (v := 24) hx hb dX11_feed_86 z134 ?_
  refine lv_bipush (v := 8) hx hb dX11_feed_88 z130 ?_
  refine lv_iload hx hb dX11_feed_90 (lv_at hl 1 rfl) ?_
  refine lv_iconst (v := 3) hx hb dX11_feed_92 z69 ?_
  refine lv_iand hx hb dX11_feed_93 ?_
  refine tpi z390 ?_
  refine lv_imul hx hb dX11_feed_94 ?_
  refine tpi z364 ?_
  refine lv_isub hx hb dX11_feed_95 ?_
  refine tpi z365 ?_
  refine lv_ishr hx hb dX11_feed_96 ?_
  refine lv_i2b hx hb dX11_feed_97 rfl ?_
  refine my_bast hx hb hK hP hD hS 1 0 rfl rfl z391 (rfl : vp_nar .byte ((x2 >>> (8 &&& 31))).toInt8.toInt32 = _) dX11_feed_98 (fun H locs hP hD hS => ?_)
  refine lv_iinc (v := 7) (lv' := [(6, .int 7), (7, .int x2), (0, .ref (n 0)), (1, .int x1), (2, .int x2), (3, .int x3), (4, .int x4), (5, .int x5)]) hx hb dX11_feed_99 hl (k := 1) rfl z392 (nlt rfl) rfl (fun ls hl => ?_)
  refine lv_goto (tgt := 18) hx hb dX11_feed_102 z355 ?_
  refine lv_iload hx hb dX11_feed_18 (lv_at hl 0 rfl) ?_
  refine lv_bipush (v := 20) hx hb dX11_feed_20 z273 ?_
  refine lv_icmp_ge (tgt := 105) hx hb dX11_feed_22 z347 (fun c1 => absurd c1 (z393)) (fun _ => ?_)
  refine lv_iload hx hb dX11_feed_25 (lv_at hl 0 rfl) ?_
  refine lv_iconst (v := 4) hx hb dX11_feed_27 z77 ?_
  refine lv_icmp_ge (tgt := 35) hx hb dX11_feed_28 z348 (fun _ => ?_) (fun c1 => absurd (z394) c1)
  refine lv_iload hx hb dX11_feed_35 (lv_at hl 0 rfl) ?_
  refine lv_bipush (v := 8) hx hb dX11_feed_37 z130 ?_
  refine lv_icmp_ge (tgt := 46) hx hb dX11_feed_39 z375 (fun c1 => absurd c1 (z395)) (fun _ => ?_)
  refine lv_iload_n hx hb dX11_feed_42 rfl (lv_at hl 4 rfl) ?_
  refine lv_goto (tgt := 71) hx hb dX11_feed_43 z376 ?_
  refine lv_istore (lv' := [(7, .int x2), (6, .int 7), (0, .ref (n 0)), (1, .int x1), (2, .int x2), (3, .int x3), (4, .int x4), (5, .int x5)]) hx hb dX11_feed_71 hl (nlt rfl) rfl (fun ls hl => ?_)
  refine lv_aload_n hx hb dX11_feed_73 rfl (lv_at hl 2 rfl) ?_
  refine va_get (D := (dC, dI)) (ci := 11) (v := .ref (n 1)) (C := RX11) (T := TX11) (N := 71) hx hb hts i11 hown hK hP 0 rfl rfl 0 (nlt rfl) w2 (fun _ h9 => h9) rfl dX11_feed_74 ?_
  refine lv_aload_n hx hb dX11_feed_77 rfl (lv_at hl 2 rfl) ?_
  refine va_get (D := (dC, dI)) (ci := 11) (v := .int 0) (C := RX11) (T := TX11) (N := 71) hx hb hts i11 hown hK hP 0 rfl rfl 2 (nlt rfl) w1 (fun _ h9 => h9) rfl dX11_feed_78 ?_
  refine lv_iload hx hb dX11_feed_81 (lv_at hl 1 rfl) ?_
  refine lv_iadd hx hb dX11_feed_83 ?_
  refine tpi z396 ?_
  refine lv_iload hx hb dX11_feed_84 (lv_at hl 0 rfl) ?_
  refine lv_bipush (v := 24) hx hb dX11_feed_86 z134 ?_
  refine lv_bipush (v := 8) hx hb dX11_feed_88 z130 ?_
  refine lv_iload hx hb dX11_feed_90 (lv_at hl 1 rfl) ?_
  refine lv_iconst (v := 3) hx hb dX11_feed_92 z69 ?_
  refine lv_iand hx hb dX11_feed_93 ?_
  refine tpi z397 ?_
  refine lv_imul hx hb dX11_feed_94 ?_
  refine tpi z370 ?_
  refine lv_isub hx hb dX11_feed_95 ?_
  refine tpi z371 ?_
  refine lv_ishr hx hb dX11_feed_96 ?_
  refine lv_i2b hx hb dX11_feed_97 rfl ?_
  refine my_bast hx hb hK hP hD hS 1 0 rfl rfl z398 (rfl : vp_nar .byte ((x2 >>> (0 &&& 31))).toInt8.toInt32 = _) dX11_feed_98 (fun H locs hP hD hS => ?_)
  refine lv_iinc (v := 8) (lv' := [(6, .int 8), (7, .int x2), (0, .ref (n 0)), (1, .int x1), (2, .int x2), (3, .int x3), (4, .int x4), (5, .int x5)]) hx hb dX11_feed_99 hl (k := 1) rfl z399 (nlt rfl) rfl (fun ls hl => ?_)
  refine lv_goto (tgt := 18) hx hb dX11_feed_102 z355 ?_
  refine lv_iload hx hb dX11_feed_18 (lv_at hl 0 rfl) ?_
  refine lv_bipush (v := 20) hx hb dX11_feed_20 z273 ?_
  refine lv_icmp_ge (tgt := 105) hx hb dX11_feed_22 z347 (fun c1 => absurd c1 (z400)) (fun _ => ?_)
  refine lv_iload hx hb dX11_feed_25 (lv_at hl 0 rfl) ?_
  refine lv_iconst (v := 4) hx hb dX11_feed_27 z77 ?_
  refine lv_icmp_ge (tgt := 35) hx hb dX11_feed_28 z348 (fun _ => ?_) (fun c1 => absurd (z401) c1)
  refine lv_iload hx hb dX11_feed_35 (lv_at hl 0 rfl) ?_
  refine lv_bipush (v := 8) hx hb dX11_feed_37 z130 ?_
  refine lv_icmp_ge (tgt := 46) hx hb dX11_feed_39 z375 (fun _ => ?_) (fun c1 => absurd (z402) c1)
  refine lv_iload hx hb dX11_feed_46 (lv_at hl 0 rfl) ?_
  refine lv_bipush (v := 12) hx hb dX11_feed_48 z200 ?_
  refine lv_icmp_ge (tgt := 57) hx hb dX11_feed_50 z404 (fun c1 => absurd c1 (z403)) (fun _ => ?_)
  refine lv_iload_n hx hb dX11_feed_53 rfl (lv_at hl 5 rfl) ?_
  refine lv_goto (tgt := 71) hx hb dX11_feed_54 z405 ?_
  refine lv_istore (lv' := [(7, .int x3), (6, .int 8), (0, .ref (n 0)), (1, .int x1), (2, .int x2), (3, .int x3), (4, .int x4), (5, .int x5)]) hx hb dX11_feed_71 hl (nlt rfl) rfl (fun ls hl => ?_)
  refine lv_aload_n hx hb dX11_feed_73 rfl (lv_at hl 2 rfl) ?_
  refine va_get (D := (dC, dI)) (ci := 11) (v := .ref (n 1)) (C := RX11) (T := TX11) (N := 71) hx hb hts i11 hown hK hP 0 rfl rfl 0 (nlt rfl) w2 (fun _ h9 => h9) rfl dX11_feed_74 ?_
  refine lv_aload_n hx hb dX11_feed_77 rfl (lv_at hl 2 rfl) ?_
  refine va_get (D := (dC, dI)) (ci := 11) (v := .int 0) (C := RX11) (T := TX11) (N := 71) hx hb hts i11 hown hK hP 0 rfl rfl 2 (nlt rfl) w1 (fun _ h9 => h9) rfl dX11_feed_78 ?_
  refine lv_iload hx hb dX11_feed_81 (lv_at hl 1 rfl) ?_
  refine lv_iadd hx hb dX11_feed_83 ?_
  refine tpi z406 ?_
  refine lv_iload hx hb dX11_feed_84 (lv_at hl 0 rfl) ?_
  refine lv_bipush (v := 24) hx hb dX11_feed_86 z134 ?_
  refine lv_bipush (v := 8) hx hb dX11_feed_88 z130 ?_
  refine lv_iload hx hb dX11_feed_90 (lv_at hl 1 rfl) ?_
  refine lv_iconst (v := 3) hx hb dX11_feed_92 z69 ?_
  refine lv_iand hx hb dX11_feed_93 ?_
  refine tpi z407 ?_
  refine lv_imul hx hb dX11_feed_94 ?_
  refine tpi z352 ?_
  refine lv_isub hx hb dX11_feed_95 ?_
  refine tpi z353 ?_
  refine lv_ishr hx hb dX11_feed_96 ?_
  refine lv_i2b hx hb dX11_feed_97 rfl ?_
  refine my_bast hx hb hK hP hD hS 1 0 rfl rfl z408 (rfl : vp_nar .byte ((x3 >>> (24 &&& 31))).toInt8.toInt32 = _) dX11_feed_98 (fun H locs hP hD hS => ?_)
  have hP : va_P (dC, dI) vwCl [((n 0), .inr (11, fM n)), ((n 1), .inl (cB, 1620, .inl (upd (upd (upd (upd (upd (upd (upd (upd (upd (fun _ => 0) 0 (vp_nar .byte ((x1 >>> (24 &&& 31))).toInt8.toInt32)) 1 (vp_nar .byte ((x1 >>> (16 &&& 31))).toInt8.toInt32)) 2 (vp_nar .byte ((x1 >>> (8 &&& 31))).toInt8.toInt32)) 3 (vp_nar .byte ((x1 >>> (0 &&& 31))).toInt8.toInt32)) 4 (vp_nar .byte ((x2 >>> (24 &&& 31))).toInt8.toInt32)) 5 (vp_nar .byte ((x2 >>> (16 &&& 31))).toInt8.toInt32)) 6 (vp_nar .byte ((x2 >>> (8 &&& 31))).toInt8.toInt32)) 7 (vp_nar .byte ((x2 >>> (0 &&& 31))).toInt8.toInt32)) 8 (vp_nar .byte ((x3 >>> (24 &&& 31))).toInt8.toInt32))))] H := hP
  have hD : va_D A [((n 0), .inr (11, fM n)), ((n 1), .inl (cB, 1620, .inl (upd (upd (upd (upd (upd (upd (upd (upd (upd (fun _ => 0) 0 (vp_nar .byte ((x1 >>> (24 &&& 31))).toInt8.toInt32)) 1 (vp_nar .byte ((x1 >>> (16 &&& 31))).toInt8.toInt32)) 2 (vp_nar .byte ((x1 >>> (8 &&& 31))).toInt8.toInt32)) 3 (vp_nar .byte ((x1 >>> (0 &&& 31))).toInt8.toInt32)) 4 (vp_nar .byte ((x2 >>> (24 &&& 31))).toInt8.toInt32)) 5 (vp_nar .byte ((x2 >>> (16 &&& 31))).toInt8.toInt32)) 6 (vp_nar .byte ((x2 >>> (8 &&& 31))).toInt8.toInt32)) 7 (vp_nar .byte ((x2 >>> (0 &&& 31))).toInt8.toInt32)) 8 (vp_nar .byte ((x3 >>> (24 &&& 31))).toInt8.toInt32))))] := hD
  refine lv_iinc (v := 9) (lv' := [(6, .int 9), (7, .int x3), (0, .ref (n 0)), (1, .int x1), (2, .int x2), (3, .int x3), (4, .int x4), (5, .int x5)]) hx hb dX11_feed_99 hl (k := 1) rfl z409 (nlt rfl) rfl (fun ls hl => ?_)
  refine lv_goto (tgt := 18) hx hb dX11_feed_102 z355 ?_
  refine lv_iload hx hb dX11_feed_18 (lv_at hl 0 rfl) ?_
  refine lv_bipush (v := 20) hx hb dX11_feed_20 z273 ?_
  refine lv_icmp_ge (tgt := 105) hx hb dX11_feed_22 z347 (fun c1 => absurd c1 (z410)) (fun _ => ?_)
  refine lv_iload hx hb dX11_feed_25 (lv_at hl 0 rfl) ?_
  refine lv_iconst (v := 4) hx hb dX11_feed_27 z77 ?_
  refine lv_icmp_ge (tgt := 35) hx hb dX11_feed_28 z348 (fun _ => ?_) (fun c1 => absurd (z411) c1)
  refine lv_iload hx hb dX11_feed_35 (lv_at hl 0 rfl) ?_
  refine lv_bipush (v := 8) hx hb dX11_feed_37 z130 ?_
  refine lv_icmp_ge (tgt := 46) hx hb dX11_feed_39 z375 (fun _ => ?_) (fun c1 => absurd (z412) c1)
  refine lv_iload hx hb dX11_feed_46 (lv_at hl 0 rfl) ?_
  refine lv_bipush (v := 12) hx hb dX11_feed_48 z200 ?_
  refine lv_icmp_ge (tgt := 57) hx hb dX11_feed_50 z404 (fun c1 => absurd c1 (z413)) (fun _ => ?_)
  refine lv_iload_n hx hb dX11_feed_53 rfl (lv_at hl 5 rfl) ?_
  refine lv_goto (tgt := 71) hx hb dX11_feed_54 z405 ?_
  refine lv_istore (lv' := [(7, .int x3), (6, .int 9), (0, .ref (n 0)), (1, .int x1), (2, .int x2), (3, .int x3), (4, .int x4), (5, .int x5)]) hx hb dX11_feed_71 hl (nlt rfl) rfl (fun ls hl => ?_)
  refine lv_aload_n hx hb dX11_feed_73 rfl (lv_at hl 2 rfl) ?_
  refine va_get (D := (dC, dI)) (ci := 11) (v := .ref (n 1)) (C := RX11) (T := TX11) (N := 71) hx hb hts i11 hown hK hP 0 rfl rfl 0 (nlt rfl) w2 (fun _ h9 => h9) rfl dX11_feed_74 ?_
  refine lv_aload_n hx hb dX11_feed_77 rfl (lv_at hl 2 rfl) ?_
  refine va_get (D := (dC, dI)) (ci := 11) (v := .int 0) (C := RX11) (T := TX11) (N := 71) hx hb hts i11 hown hK hP 0 rfl rfl 2 (nlt rfl) w1 (fun _ h9 => h9) rfl dX11_feed_78 ?_
  refine lv_iload hx hb dX11_feed_81 (lv_at hl 1 rfl) ?_
  refine lv_iadd hx hb dX11_feed_83 ?_
  refine tpi z414 ?_
  refine lv_iload hx hb dX11_feed_84 (lv_at hl 0 rfl) ?_
  refine lv_bipush (v := 24) hx hb dX11_feed_86 z134 ?_
  refine lv_bipush (v := 8) hx hb dX11_feed_88 z130 ?_
  refine lv_iload hx hb dX11_feed_90 (lv_at hl 1 rfl) ?_
  refine lv_iconst (v := 3) hx hb dX11_feed_92 z69 ?_
  refine lv_iand hx hb dX11_feed_93 ?_
  refine tpi z415 ?_
  refine lv_imul hx hb dX11_feed_94 ?_
  refine tpi z358 ?_
  refine lv_isub hx hb dX11_feed_95 ?_
  refine tpi z359 ?_
  refine lv_ishr hx hb dX11_feed_96 ?_
  refine lv_i2b hx hb dX11_feed_97 rfl ?_
  refine my_bast hx hb hK hP hD hS 1 0 rfl rfl z416 (rfl : vp_nar .byte ((x3 >>> (16 &&& 31))).toInt8.toInt32 = _) dX11_feed_98 (fun H locs hP hD hS => ?_)
  refine lv_iinc (v := 10) (lv' := [(6, .int 10), (7, .int x3), (0, .ref (n 0)), (1, .int x1), (2, .int x2), (3, .int x3), (4, .int x4), (5, .int x5)]) hx hb dX11_feed_99 hl (k := 1) rfl z417 (nlt rfl) rfl (fun ls hl => ?_)
  refine lv_goto (tgt := 18) hx hb dX11_feed_102 z355 ?_
  refine lv_iload hx hb dX11_feed_18 (lv_at hl 0 rfl) ?_
  refine lv_bipush (v := 20) hx hb dX11_feed_20 z273 ?_
  refine lv_icmp_ge (tgt := 105) hx hb dX11_feed_22 z347 (fun c1 => absurd c1 (z418)) (fun _ => ?_)
  refine lv_iload hx hb dX11_feed_25 (lv_at hl 0 rfl) ?_
  refine lv_iconst (v := 4) hx hb dX11_feed_27 z77 ?_
  refine lv_icmp_ge (tgt := 35) hx hb dX11_feed_28 z348 (fun _ => ?_) (fun c1 => absurd (z419) c1)
  refine lv_iload hx hb dX11_feed_35 (lv_at hl 0 rfl) ?_
  refine lv_bipush (v := 8) hx hb dX11_feed_37 z130 ?_
  refine lv_icmp_ge (tgt := 46) hx hb dX11_feed_39 z375 (fun _ => ?_) (fun c1 => absurd (z420) c1)
  refine lv_iload hx hb dX11_feed_46 (lv_at hl 0 rfl) ?_
  refine lv_bipush (v := 12) hx hb dX11_feed_48 z200 ?_
  refine lv_icmp_ge (tgt := 57) hx hb dX11_feed_50 z404 (fun c1 => absurd c1 (z421)) (fun _ => ?_)
  refine lv_iload_n hx hb dX11_feed_53 rfl (lv_at hl 5 rfl) ?_
  refine lv_goto (tgt := 71) hx hb dX11_feed_54 z405 ?_
  refine lv_istore (lv' := [(7, .int x3), (6, .int 10), (0, .ref (n 0)), (1, .int x1), (2, .int x2), (3, .int x3), (4, .int x4), (5, .int x5)]) hx hb dX11_feed_71 hl (nlt rfl) rfl (fun ls hl => ?_)
  refine lv_aload_n hx hb dX11_feed_73 rfl (lv_at hl 2 rfl) ?_
  refine va_get (D := (dC, dI)) (ci := 11) (v := .ref (n 1)) (C := RX11) (T := TX11) (N := 71) hx hb hts i11 hown hK hP 0 rfl rfl 0 (nlt rfl) w2 (fun _ h9 => h9) rfl dX11_feed_74 ?_
  refine lv_aload_n hx hb dX11_feed_77 rfl (lv_at hl 2 rfl) ?_
  refine va_get (D := (dC, dI)) (ci := 11) (v := .int 0) (C := RX11) (T := TX11) (N := 71) hx hb hts i11 hown hK hP 0 rfl rfl 2 (nlt rfl) w1 (fun _ h9 => h9) rfl dX11_feed_78 ?_
  refine lv_iload hx hb dX11_feed_81 (lv_at hl 1 rfl) ?_
  refine lv_iadd hx hb dX11_feed_83 ?_
  refine tpi z422 ?_
  refine lv_iload hx hb dX11_feed_84 (lv_at hl 0 rfl) ?_
  refine lv_bipush (v := 24) hx hb dX11_feed_86 z134 ?_
  refine lv_bipush (v := 8) hx hb dX11_feed_88 z130 ?_
  refine lv_iload hx hb dX11_feed_90 (lv_at hl 1 rfl) ?_
  refine lv_iconst (v := 3) hx hb dX11_feed_92 z69 ?_
  refine lv_iand hx hb dX11_feed_93 ?_
  refine tpi z423 ?_
  refine lv_imul hx hb dX11_feed_94 ?_
  refine tpi z364 ?_
  refine lv_isub hx hb dX11_feed_95 ?_
  refine tpi z365 ?_
  refine lv_ishr hx hb dX11_feed_96 ?_
  refine lv_i2b hx hb dX11_feed_97 rfl ?_
  refine my_bast hx hb hK hP hD hS 1 0 rfl rfl z424 (rfl : vp_nar .byte ((x3 >>> (8 &&& 31))).toInt8.toInt32 = _) dX11_feed_98 (fun H locs hP hD hS => ?_)
  refine lv_iinc (v := 11) (lv' := [(6, .int 11), (7, .int x3), (0, .ref (n 0)), (1, .int x1), (2, .int x2), (3, .int x3), (4, .int x4), (5, .int x5)]) hx hb dX11_feed_99 hl (k := 1) rfl z425 (nlt rfl) rfl (fun ls hl => ?_)
  refine lv_goto (tgt := 18) hx hb dX11_feed_102 z355 ?_
  refine lv_iload hx hb dX11_feed_18 (lv_at hl 0 rfl) ?_
  refine lv_bipush (v := 20) hx hb dX11_feed_20 z273 ?_
  refine lv_icmp_ge (tgt := 105) hx hb dX11_feed_22 z347 (fun c1 => absurd c1 (z426)) (fun _ => ?_)
  refine lv_iload hx hb dX11_feed_25 (lv_at hl 0 rfl) ?_
  refine lv_iconst (v := 4) hx hb dX11_feed_27 z77 ?_
  refine lv_icmp_ge (tgt := 35) hx hb dX11_feed_28 z348 (fun _ => ?_) (fun c1 => absurd (z427) c1)
  refine lv_iload hx hb dX11_feed_35 (lv_at hl 0 rfl) ?_
  refine lv_bipush (v := 8) hx hb dX11_feed_37 z130 ?_
  refine lv_icmp_ge (tgt := 46) hx hb dX11_feed_39 z375 (fun _ => ?_) (fun c1 => absurd (z428) c1)
  refine lv_iload hx hb dX11_feed_46 (lv_at hl 0 rfl) ?_
  refine lv_bipush (v := 12) hx hb dX11_feed_48 z200 ?_
  refine lv_icmp_ge (tgt := 57) hx hb dX11_feed_50 z404 (fun c1 => absurd c1 (z429)) (fun _ => ?_)
  refine lv_iload_n hx hb dX11_feed_53 rfl (lv_at hl 5 rfl) ?_
  refine lv_goto (tgt := 71) hx hb dX11_feed_54 z405 ?_
  refine lv_istore (lv' := [(7, .int x3), (6, .int 11), (0, .ref (n 0)), (1, .int x1), (2, .int x2), (3, .int x3), (4, .int x4), (5, .int x5)]) hx hb dX11_feed_71 hl (nlt rfl) rfl (fun ls hl => ?_)
  refine lv_aload_n hx hb dX11_feed_73 rfl (lv_at hl 2 rfl) ?_
  refine va_get (D := (dC, dI)) (ci := 11) (v := .ref (n 1)) (C := RX11) (T := TX11) (N := 71) hx hb hts i11 hown hK hP 0 rfl rfl 0 (nlt rfl) w2 (fun _ h9 => h9) rfl dX11_feed_74 ?_
  refine lv_aload_n hx hb dX11_feed_77 rfl (lv_at hl 2 rfl) ?_
  refine va_get (D := (dC, dI)) (ci := 11) (v := .int 0) (C := RX11) (T := TX11) (N := 71) hx hb hts i11 hown hK hP 0 rfl rfl 2 (nlt rfl) w1 (fun _ h9 => h9) rfl dX11_feed_78 ?_
  refine lv_iload hx hb dX11_feed_81 (lv_at hl 1 rfl) ?_
  refine lv_iadd hx hb dX11_feed_83 ?_
  refine tpi z430 ?_
  refine lv_iload hx hb dX11_feed_84 (lv_at hl 0 rfl) ?_
  refine lv_bipush (v := 24) hx hb dX11_feed_86 z134 ?_
  refine lv_bipush (v := 8) hx hb dX11_feed_88 z130 ?_
  refine lv_iload hx hb dX11_feed_90 (lv_at hl 1 rfl) ?_
  refine lv_iconst (v := 3) hx hb dX11_feed_92 z69 ?_
  refine lv_iand hx hb dX11_feed_93 ?_
  refine tpi z431 ?_
  refine lv_imul hx hb dX11_feed_94 ?_
  refine tpi z370 ?_
  refine lv_isub hx hb dX11_feed_95 ?_
  refine tpi z371 ?_
  refine lv_ishr hx hb dX11_feed_96 ?_
  refine lv_i2b hx hb dX11_feed_97 rfl ?_
  refine my_bast hx hb hK hP hD hS 1 0 rfl rfl z432 (rfl : vp_nar .byte ((x3 >>> (0 &&& 31))).toInt8.toInt32 = _) dX11_feed_98 (fun H locs hP hD hS => ?_)
  have hP : va_P (dC, dI) vwCl [((n 0), .inr (11, fM n)), ((n 1), .inl (cB, 1620, .inl (upd (upd (upd (upd (upd (upd (upd (upd (upd (upd (upd (upd (fun _ => 0) 0 (vp_nar .byte ((x1 >>> (24 &&& 31))).toInt8.toInt32)) 1 (vp_nar .byte ((x1 >>> (16 &&& 31))).toInt8.toInt32)) 2 (vp_nar .byte ((x1 >>> (8 &&& 31))).toInt8.toInt32)) 3 (vp_nar .byte ((x1 >>> (0 &&& 31))).toInt8.toInt32)) 4 (vp_nar .byte ((x2 >>> (24 &&& 31))).toInt8.toInt32)) 5 (vp_nar .byte ((x2 >>> (16 &&& 31))).toInt8.toInt32)) 6 (vp_nar .byte ((x2 >>> (8 &&& 31))).toInt8.toInt32)) 7 (vp_nar .byte ((x2 >>> (0 &&& 31))).toInt8.toInt32)) 8 (vp_nar .byte ((x3 >>> (24 &&& 31))).toInt8.toInt32)) 9 (vp_nar .byte ((x3 >>> (16 &&& 31))).toInt8.toInt32)) 10 (vp_nar .byte ((x3 >>> (8 &&& 31))).toInt8.toInt32)) 11 (vp_nar .byte ((x3 >>> (0 &&& 31))).toInt8.toInt32))))] H := hP
  have hD : va_D A [((n 0), .inr (11, fM n)), ((n 1), .inl (cB, 1620, .inl (upd (upd (upd (upd (upd (upd (upd (upd (upd (upd (upd (upd (fun _ => 0) 0 (vp_nar .byte ((x1 >>> (24 &&& 31))).toInt8.toInt32)) 1 (vp_nar .byte ((x1 >>> (16 &&& 31))).toInt8.toInt32)) 2 (vp_nar .byte ((x1 >>> (8 &&& 31))).toInt8.toInt32)) 3 (vp_nar .byte ((x1 >>> (0 &&& 31))).toInt8.toInt32)) 4 (vp_nar .byte ((x2 >>> (24 &&& 31))).toInt8.toInt32)) 5 (vp_nar .byte ((x2 >>> (16 &&& 31))).toInt8.toInt32)) 6 (vp_nar .byte ((x2 >>> (8 &&& 31))).toInt8.toInt32)) 7 (vp_nar .byte ((x2 >>> (0 &&& 31))).toInt8.toInt32)) 8 (vp_nar .byte ((x3 >>> (24 &&& 31))).toInt8.toInt32)) 9 (vp_nar .byte ((x3 >>> (16 &&& 31))).toInt8.toInt32)) 10 (vp_nar .byte ((x3 >>> (8 &&& 31))).toInt8.toInt32)) 11 (vp_nar .byte ((x3 >>> (0 &&& 31))).toInt8.toInt32))))] := hD
  refine lv_iinc (v := 12) (lv' := [(6, .int 12), (7, .int x3), (0, .ref (n 0)), (1, .int x1), (2, .int x2), (3, .int x3), (4, .int x4), (5, .int x5)]) hx hb dX11_feed_99 hl (k := 1) rfl z433 (nlt rfl) rfl (fun ls hl => ?_)
  refine lv_goto (tgt := 18) hx hb dX11_feed_102 z355 ?_
  refine lv_iload hx hb dX11_feed_18 (lv_at hl 0 rfl) ?_
  refine lv_bipush (v := 20) hx hb dX11_feed_20 z273 ?_
  refine lv_icmp_ge (tgt := 105) hx hb dX11_feed_22 z347 (fun c1 => absurd c1 (z434)) (fun _ => ?_)
  refine lv_iload hx hb dX11_feed_25 (lv_at hl 0 rfl) ?_
  refine lv_iconst (v := 4) hx hb dX11_feed_27 z77 ?_
  refine lv_icmp_ge (tgt := 35) hx hb dX11_feed_28 z348 (fun _ => ?_) (fun c1 => absurd (z435) c1)
  refine lv_iload hx hb dX11_feed_35 (lv_at hl 0 rfl) ?_
  refine lv_bipush (v := 8) hx hb dX11_feed_37 z130 ?_
  refine lv_icmp_ge (tgt := 46) hx hb dX11_feed_39 z375 (fun _ => ?_) (fun c1 => absurd (z436) c1)
  refine lv_iload hx hb dX11_feed_46 (lv_at hl 0 rfl) ?_
  refine lv_bipush (v := 12) hx hb dX11_feed_48 z200 ?_
  refine lv_icmp_ge (tgt := 57) hx hb dX11_feed_50 z404 (fun _ => ?_) (fun c1 => absurd (z437) c1)
  refine lv_iload hx hb dX11_feed_57 (lv_at hl 0 rfl) ?_
  refine lv_bipush (v := 16) hx hb dX11_feed_59 z189 ?_
  refine lv_icmp_ge (tgt := 69) hx hb dX11_feed_61 z439 (fun c1 => absurd c1 (z438)) (fun _ => ?_)
  refine lv_iload hx hb dX11_feed_64 (lv_at hl 6 rfl) ?_
  refine lv_goto (tgt := 71) hx hb dX11_feed_66 z440 ?_
  refine lv_istore (lv' := [(7, .int x4), (6, .int 12), (0, .ref (n 0)), (1, .int x1), (2, .int x2), (3, .int x3), (4, .int x4), (5, .int x5)]) hx hb dX11_feed_71 hl (nlt rfl) rfl (fun ls hl => ?_)
  refine lv_aload_n hx hb dX11_feed_73 rfl (lv_at hl 2 rfl) ?_
  refine va_get (D := (dC, dI)) (ci := 11) (v := .ref (n 1)) (C := RX11) (T := TX11) (N := 71) hx hb hts i11 hown hK hP 0 rfl rfl 0 (nlt rfl) w2 (fun _ h9 => h9) rfl dX11_feed_74 ?_
  refine lv_aload_n hx hb dX11_feed_77 rfl (lv_at hl 2 rfl) ?_
  refine va_get (D := (dC, dI)) (ci := 11) (v := .int 0) (C := RX11) (T := TX11) (N := 71) hx hb hts i11 hown hK hP 0 rfl rfl 2 (nlt rfl) w1 (fun _ h9 => h9) rfl dX11_feed_78 ?_
  refine lv_iload hx hb dX11_feed_81 (lv_at hl 1 rfl) ?_
  refine lv_iadd hx hb dX11_feed_83 ?_
  refine tpi z441 ?_
  refine lv_iload hx hb dX11_feed_84 (lv_at hl 0 rfl) ?_
  refine lv_bipush (v := 24) hx hb dX11_feed_86 z134 ?_
  refine lv_bipush (v := 8) hx hb dX11_feed_88 z130 ?_
  refine lv_iload hx hb dX11_feed_90 (lv_at hl 1 rfl) ?_
  refine lv_iconst (v := 3) hx hb dX11_feed_92 z69 ?_
  refine lv_iand hx hb dX11_feed_93 ?_
  refine tpi z442 ?_
  refine lv_imul hx hb dX11_feed_94 ?_
  refine tpi z352 ?_
  refine lv_isub hx hb dX11_feed_95 ?_
  refine tpi z353 ?_
  refine lv_ishr hx hb dX11_feed_96 ?_
  refine lv_i2b hx hb dX11_feed_97 rfl ?_
  refine my_bast hx hb hK hP hD hS 1 0 rfl rfl z443 (rfl : vp_nar .byte ((x4 >>> (24 &&& 31))).toInt8.toInt32 = _) dX11_feed_98 (fun H locs hP hD hS => ?_)
  refine lv_iinc (v := 13) (lv' := [(6, .int 13), (7, .int x4), (0, .ref (n 0)), (1, .int x1), (2, .int x2), (3, .int x3), (4, .int x4), (5, .int x5)]) hx hb dX11_feed_99 hl (k := 1) rfl z444 (nlt rfl) rfl (fun ls hl => ?_)
  refine lv_goto (tgt := 18) hx hb dX11_feed_102 z355 ?_
  refine lv_iload hx hb dX11_feed_18 (lv_at hl 0 rfl) ?_
  refine lv_bipush (v := 20) hx hb dX11_feed_20 z273 ?_
  refine lv_icmp_ge (tgt := 105) hx hb dX11_feed_22 z347 (fun c1 => absurd c1 (z445)) (fun _ => ?_)
  refine lv_iload hx hb dX11_feed_25 (lv_at hl 0 rfl) ?_
  refine lv_iconst (v := 4) hx hb dX11_feed_27 z77 ?_
  refine lv_icmp_ge (tgt := 35) hx hb dX11_feed_28 z348 (fun _ => ?_) (fun c1 => absurd (z446) c1)
  refine lv_iload hx hb dX11_feed_35 (lv_at hl 0 rfl) ?_
  refine lv_bipush (v := 8) hx hb dX11_feed_37 z130 ?_
  refine lv_icmp_ge (tgt := 46) hx hb dX11_feed_39 z375 (fun _ => ?_) (fun c1 => absurd (z447) c1)
  refine lv_iload hx hb dX11_feed_46 (lv_at hl 0 rfl) ?_
  refine lv_bipush (v := 12) hx hb dX11_feed_48 z200 ?_
  refine lv_icmp_ge (tgt := 57) hx hb dX11_feed_50 z404 (fun _ => ?_) (fun c1 => absurd (z448) c1)
  refine lv_iload hx hb dX11_feed_57 (lv_at hl 0 rfl) ?_
  refine lv_bipush (v := 16) hx hb dX11_feed_59 z189 ?_
  refine lv_icmp_ge (tgt := 69) hx hb dX11_feed_61 z439 (fun c1 => absurd c1 (z449)) (fun _ => ?_)
  refine lv_iload hx hb dX11_feed_64 (lv_at hl 6 rfl) ?_
  refine lv_goto (tgt := 71) hx hb dX11_feed_66 z440 ?_
  refine lv_istore (lv' := [(7, .int x4), (6, .int 13), (0, .ref (n 0)), (1, .int x1), (2, .int x2), (3, .int x3), (4, .int x4), (5, .int x5)]) hx hb dX11_feed_71 hl (nlt rfl) rfl (fun ls hl => ?_)
  refine lv_aload_n hx hb dX11_feed_73 rfl (lv_at hl 2 rfl) ?_
  refine va_get (D := (dC, dI)) (ci := 11) (v := .ref (n 1)) (C := RX11) (T := TX11) (N := 71) hx hb hts i11 hown hK hP 0 rfl rfl 0 (nlt rfl) w2 (fun _ h9 => h9) rfl dX11_feed_74 ?_
  refine lv_aload_n hx hb dX11_feed_77 rfl (lv_at hl 2 rfl) ?_
  refine va_get (D := (dC, dI)) (ci := 11) (v := .int 0) (C := RX11) (T := TX11) (N := 71) hx hb hts i11 hown hK hP 0 rfl rfl 2 (nlt rfl) w1 (fun _ h9 => h9) rfl dX11_feed_78 ?_
  refine lv_iload hx hb dX11_feed_81 (lv_at hl 1 rfl) ?_
  refine lv_iadd hx hb dX11_feed_83 ?_
  refine tpi z450 ?_
  refine lv_iload hx hb dX11_feed_84 (lv_at hl 0 rfl) ?_
  refine lv_bipush (v := 24) hx hb dX11_feed_86 z134 ?_
  refine lv_bipush (v := 8) hx hb dX11_feed_88 z130 ?_
  refine lv_iload hx hb dX11_feed_90 (lv_at hl 1 rfl) ?_
  refine lv_iconst (v := 3) hx hb dX11_feed_92 z69 ?_
  refine lv_iand hx hb dX11_feed_93 ?_
  refine tpi z451 ?_
  refine lv_imul hx hb dX11_feed_94 ?_
  refine tpi z358 ?_
  refine lv_isub hx hb dX11_feed_95 ?_
  refine tpi z359 ?_
  refine lv_ishr hx hb dX11_feed_96 ?_
  refine lv_i2b hx hb dX11_feed_97 rfl ?_
  refine my_bast hx hb hK hP hD hS 1 0 rfl rfl z452 (rfl : vp_nar .byte ((x4 >>> (16 &&& 31))).toInt8.toInt32 = _) dX11_feed_98 (fun H locs hP hD hS => ?_)
  refine lv_iinc (v := 14) (lv' := [(6, .int 14), (7, .int x4), (0, .ref (n 0)), (1, .int x1), (2, .int x2), (3, .int x3), (4, .int x4), (5, .int x5)]) hx hb dX11_feed_99 hl (k := 1) rfl z453 (nlt rfl) rfl (fun ls hl => ?_)
  refine lv_goto (tgt := 18) hx hb dX11_feed_102 z355 ?_
  refine lv_iload hx hb dX11_feed_18 (lv_at hl 0 rfl) ?_
  refine lv_bipush (v := 20) hx hb dX11_feed_20 z273 ?_
  refine lv_icmp_ge (tgt := 105) hx hb dX11_feed_22 z347 (fun c1 => absurd c1 (z454)) (fun _ => ?_)
  refine lv_iload hx hb dX11_feed_25 (lv_at hl 0 rfl) ?_
  refine lv_iconst (v := 4) hx hb dX11_feed_27 z77 ?_
  refine lv_icmp_ge (tgt := 35) hx hb dX11_feed_28 z348 (fun _ => ?_) (fun c1 => absurd (z455) c1)
  refine lv_iload hx hb dX11_feed_35 (lv_at hl 0 rfl) ?_
  refine lv_bipush (v := 8) hx hb dX11_feed_37 z130 ?_
  refine lv_icmp_ge (tgt := 46) hx hb dX11_feed_39 z375 (fun _ => ?_) (fun c1 => absurd (z456) c1)
  refine lv_iload hx hb dX11_feed_46 (lv_at hl 0 rfl) ?_
  refine lv_bipush (v := 12) hx hb dX11_feed_48 z200 ?_
  refine lv_icmp_ge (tgt := 57) hx hb dX11_feed_50 z404 (fun _ => ?_) (fun c1 => absurd (z457) c1)
  refine lv_iload hx hb dX11_feed_57 (lv_at hl 0 rfl) ?_
  refine lv_bipush (v := 16) hx hb dX11_feed_59 z189 ?_
  refine lv_icmp_ge (tgt := 69) hx hb dX11_feed_61 z439 (fun c1 => absurd c1 (z458)) (fun _ => ?_)
  refine lv_iload hx hb dX11_feed_64 (lv_at hl 6 rfl) ?_
  refine lv_goto (tgt := 71) hx hb dX11_feed_66 z440 ?_
  refine lv_istore (lv' := [(7, .int x4), (6, .int 14), (0, .ref (n 0)), (1, .int x1), (2, .int x2), (3, .int x3), (4, .int x4), (5, .int x5)]) hx hb dX11_feed_71 hl (nlt rfl) rfl (fun ls hl => ?_)
  refine lv_aload_n hx hb dX11_feed_73 rfl (lv_at hl 2 rfl) ?_
  refine va_get (D := (dC, dI)) (ci := 11) (v := .ref (n 1)) (C := RX11) (T := TX11) (N := 71) hx hb hts i11 hown hK hP 0 rfl rfl 0 (nlt rfl) w2 (fun _ h9 => h9) rfl dX11_feed_74 ?_
  refine lv_aload_n hx hb dX11_feed_77 rfl (lv_at hl 2 rfl) ?_
  refine va_get (D := (dC, dI)) (ci := 11) (v := .int 0) (C := RX11) (T := TX11) (N := 71) hx hb hts i11 hown hK hP 0 rfl rfl 2 (nlt rfl) w1 (fun _ h9 => h9) rfl dX11_feed_78 ?_
  refine lv_iload hx hb dX11_feed_81 (lv_at hl 1 rfl) ?_
  refine lv_iadd hx hb dX11_feed_83 ?_
  refine tpi z459 ?_
  refine lv_iload hx hb dX11_feed_84 (lv_at hl 0 rfl) ?_
  refine lv_bipush (v := 24) hx hb dX11_feed_86 z134 ?_
  refine lv_bipush (v := 8) hx hb dX11_feed_88 z130 ?_
  refine lv_iload hx hb dX11_feed_90 (lv_at hl 1 rfl) ?_
  refine lv_iconst (v := 3) hx hb dX11_feed_92 z69 ?_
  refine lv_iand hx hb dX11_feed_93 ?_
  refine tpi z460 ?_
  refine lv_imul hx hb dX11_feed_94 ?_
  refine tpi z364 ?_
  refine lv_isub hx hb dX11_feed_95 ?_
  refine tpi z365 ?_
  refine lv_ishr hx hb dX11_feed_96 ?_
  refine lv_i2b hx hb dX11_feed_97 rfl ?_
  refine my_bast hx hb hK hP hD hS 1 0 rfl rfl z461 (rfl : vp_nar .byte ((x4 >>> (8 &&& 31))).toInt8.toInt32 = _) dX11_feed_98 (fun H locs hP hD hS => ?_)
  have hP : va_P (dC, dI) vwCl [((n 0), .inr (11, fM n)), ((n 1), .inl (cB, 1620, .inl (upd (upd (upd (upd (upd (upd (upd (upd (upd (upd (upd (upd (upd (upd (upd (fun _ => 0) 0 (vp_nar .byte ((x1 >>> (24 &&& 31))).toInt8.toInt32)) 1 (vp_nar .byte ((x1 >>> (16 &&& 31))).toInt8.toInt32)) 2 (vp_nar .byte ((x1 >>> (8 &&& 31))).toInt8.toInt32)) 3 (vp_nar .byte ((x1 >>> (0 &&& 31))).toInt8.toInt32)) 4 (vp_nar .byte ((x2 >>> (24 &&& 31))).toInt8.toInt32)) 5 (vp_nar .byte ((x2 >>> (16 &&& 31))).toInt8.toInt32)) 6 (vp_nar .byte ((x2 >>> (8 &&& 31))).toInt8.toInt32)) 7 (vp_nar .byte ((x2 >>> (0 &&& 31))).toInt8.toInt32)) 8 (vp_nar .byte ((x3 >>> (24 &&& 31))).toInt8.toInt32)) 9 (vp_nar .byte ((x3 >>> (16 &&& 31))).toInt8.toInt32)) 10 (vp_nar .byte ((x3 >>> (8 &&& 31))).toInt8.toInt32)) 11 (vp_nar .byte ((x3 >>> (0 &&& 31))).toInt8.toInt32)) 12 (vp_nar .byte ((x4 >>> (24 &&& 31))).toInt8.toInt32)) 13 (vp_nar .byte ((x4 >>> (16 &&& 31))).toInt8.toInt32)) 14 (vp_nar .byte ((x4 >>> (8 &&& 31))).toInt8.toInt32))))] H := hP
  have hD : va_D A [((n 0), .inr (11, fM n)), ((n 1), .inl (cB, 1620, .inl (upd (upd (upd (upd (upd (upd (upd (upd (upd (upd (upd (upd (upd (upd (upd (fun _ => 0) 0 (vp_nar .byte ((x1 >>> (24 &&& 31))).toInt8.toInt32)) 1 (vp_nar .byte ((x1 >>> (16 &&& 31))).toInt8.toInt32)) 2 (vp_nar .byte ((x1 >>> (8 &&& 31))).toInt8.toInt32)) 3 (vp_nar .byte ((x1 >>> (0 &&& 31))).toInt8.toInt32)) 4 (vp_nar .byte ((x2 >>> (24 &&& 31))).toInt8.toInt32)) 5 (vp_nar .byte ((x2 >>> (16 &&& 31))).toInt8.toInt32)) 6 (vp_nar .byte ((x2 >>> (8 &&& 31))).toInt8.toInt32)) 7 (vp_nar .byte ((x2 >>> (0 &&& 31))).toInt8.toInt32)) 8 (vp_nar .byte ((x3 >>> (24 &&& 31))).toInt8.toInt32)) 9 (vp_nar .byte ((x3 >>> (16 &&& 31))).toInt8.toInt32)) 10 (vp_nar .byte ((x3 >>> (8 &&& 31))).toInt8.toInt32)) 11 (vp_nar .byte ((x3 >>> (0 &&& 31))).toInt8.toInt32)) 12 (vp_nar .byte ((x4 >>> (24 &&& 31))).toInt8.toInt32)) 13 (vp_nar .byte ((x4 >>> (16 &&& 31))).toInt8.toInt32)) 14 (vp_nar .byte ((x4 >>> (8 &&& 31))).toInt8.toInt32))))] := hD
  refine lv_iinc (v := 15) (lv' := [(6, .int 15), (7, .int x4), (0, .ref (n 0)), (1, .int x1), (2, .int x2), (3, .int x3), (4, .int x4), (5, .int x5)]) hx hb dX11_feed_99 hl (k := 1) rfl z462 (nlt rfl) rfl (fun ls hl => ?_)
  refine lv_goto (tgt := 18) hx hb dX11_feed_102 z355 ?_
  refine lv_iload hx hb dX11_feed_18 (lv_at hl 0 rfl) ?_
  refine lv_bipush (v := 20) hx hb dX11_feed_20 z273 ?_
  refine lv_icmp_ge (tgt := 105) hx hb dX11_feed_22 z347 (fun c1 => absurd c1 (z463)) (fun _ => ?_)
  refine lv_iload hx hb dX11_feed_25 (lv_at hl 0 rfl) ?_
  refine lv_iconst (v := 4) hx hb dX11_feed_27 z77 ?_
  refine lv_icmp_ge (tgt := 35) hx hb dX11_feed_28 z348 (fun _ => ?_) (fun c1 => absurd (z464) c1)
  refine lv_iload hx hb dX11_feed_35 (lv_at hl 0 rfl) ?_
  refine lv_bipush (v := 8) hx hb dX11_feed_37 z130 ?_
  refine lv_icmp_ge (tgt := 46) hx hb dX11_feed_39 z375 (fun _ => ?_) (fun c1 => absurd (z465) c1)
  refine lv_iload hx hb dX11_feed_46 (lv_at hl 0 rfl) ?_
  refine lv_bipush (v := 12) hx hb dX11_feed_48 z200 ?_
  refine lv_icmp_ge (tgt := 57) hx hb dX11_feed_50 z404 (fun _ => ?_) (fun c1 => absurd (z466) c1)
  refine lv_iload hx hb dX11_feed_57 (lv_at hl 0 rfl) ?_
  refine lv_bipush (v := 16) hx hb dX11_feed_59 z189 ?_
  refine lv_icmp_ge (tgt := 69) hx hb dX11_feed_61 z439 (fun c1 => absurd c1 (z467)) (fun _ => ?_)
  refine lv_iload hx hb dX11_feed_64 (lv_at hl 6 rfl) ?_
  refine lv_goto (tgt := 71) hx hb dX11_feed_66 z440 ?_
  refine lv_istore (lv' := [(7, .int x4), (6, .int 15), (0, .ref (n 0)), (1, .int x1), (2, .int x2), (3, .int x3), (4, .int x4), (5, .int x5)]) hx hb dX11_feed_71 hl (nlt rfl) rfl (fun ls hl => ?_)
  refine lv_aload_n hx hb dX11_feed_73 rfl (lv_at hl 2 rfl) ?_
  refine va_get (D := (dC, dI)) (ci := 11) (v := .ref (n 1)) (C := RX11) (T := TX11) (N := 71) hx hb hts i11 hown hK hP 0 rfl rfl 0 (nlt rfl) w2 (fun _ h9 => h9) rfl dX11_feed_74 ?_
  refine lv_aload_n hx hb dX11_feed_77 rfl (lv_at hl 2 rfl) ?_
  refine va_get (D := (dC, dI)) (ci := 11) (v := .int 0) (C := RX11) (T := TX11) (N := 71) hx hb hts i11 hown hK hP 0 rfl rfl 2 (nlt rfl) w1 (fun _ h9 => h9) rfl dX11_feed_78 ?_
  refine lv_iload hx hb dX11_feed_81 (lv_at hl 1 rfl) ?_
  refine lv_iadd hx hb dX11_feed_83 ?_
  refine tpi z468 ?_
  refine lv_iload hx hb dX11_feed_84 (lv_at hl 0 rfl) ?_
  refine lv_bipush (v := 24) hx hb dX11_feed_86 z134 ?_
  refine lv_bipush (v := 8) hx hb dX11_feed_88 z130 ?_
  refine lv_iload hx hb dX11_feed_90 (lv_at hl 1 rfl) ?_
  refine lv_iconst (v := 3) hx hb dX11_feed_92 z69 ?_
  refine lv_iand hx hb dX11_feed_93 ?_
  refine tpi z469 ?_
  refine lv_imul hx hb dX11_feed_94 ?_
  refine tpi z370 ?_
  refine lv_isub hx hb dX11_feed_95 ?_
  refine tpi z371 ?_
  refine lv_ishr hx hb dX11_feed_96 ?_
  refine lv_i2b hx hb dX11_feed_97 rfl ?_
  refine my_bast hx hb hK hP hD hS 1 0 rfl rfl z470 (rfl : vp_nar .byte ((x4 >>> (0 &&& 31))).toInt8.toInt32 = _) dX11_feed_98 (fun H locs hP hD hS => ?_)
  refine lv_iinc (v := 16) (lv' := [(6, .int 16), (7, .int x4), (0, .ref (n 0)), (1, .int x1), (2, .int x2), (3, .int x3), (4, .int x4), (5, .int x5)]) hx hb dX11_feed_99 hl (k := 1) rfl z471 (nlt rfl) rfl (fun ls hl => ?_)
  refine lv_goto (tgt := 18) hx hb dX11_feed_102 z355 ?_
  refine lv_iload hx hb dX11_feed_18 (lv_at hl 0 rfl) ?_
  refine lv_bipush (v := 20) hx hb dX11_feed_20 z273 ?_
  refine lv_icmp_ge (tgt := 105) hx hb dX11_feed_22 z347 (fun c1 => absurd c1 (z472)) (fun _ => ?_)
  refine lv_iload hx hb dX11_feed_25 (lv_at hl 0 rfl) ?_
  refine lv_iconst (v := 4) hx hb dX11_feed_27 z77 ?_
  refine lv_icmp_ge (tgt := 35) hx hb dX11_feed_28 z348 (fun _ => ?_) (fun c1 => absurd (z473) c1)
  refine lv_iload hx hb dX11_feed_35 (lv_at hl 0 rfl) ?_
  refine lv_bipush (v := 8) hx hb dX11_feed_37 z130 ?_
  refine lv_icmp_ge (tgt := 46) hx hb dX11_feed_39 z375 (fun _ => ?_) (fun c1 => absurd (z474) c1)
  refine lv_iload hx hb dX11_feed_46 (lv_at hl 0 rfl) ?_
  refine lv_bipush (v := 12) hx hb dX11_feed_48 z200 ?_
  refine lv_icmp_ge (tgt := 57) hx hb dX11_feed_50 z404 (fun _ => ?_) (fun c1 => absurd (z475) c1)
  refine lv_iload hx hb dX11_feed_57 (lv_at hl 0 rfl) ?_
  refine lv_bipush (v := 16) hx hb dX11_feed_59 z189 ?_
  refine lv_icmp_ge (tgt := 69) hx hb dX11_feed_61 z439 (fun _ => ?_) (fun c1 => absurd (z476) c1)
  refine lv_iload hx hb dX11_feed_69 (lv_at hl 7 rfl) ?_
  refine lv_istore (lv' := [(7, .int x5), (6, .int 16), (0, .ref (n 0)), (1, .int x1), (2, .int x2), (3, .int x3), (4, .int x4), (5, .int x5)]) hx hb dX11_feed_71 hl (nlt rfl) rfl (fun ls hl => ?_)
  refine lv_aload_n hx hb dX11_feed_73 rfl (lv_at hl 2 rfl) ?_
  refine va_get (D := (dC, dI)) (ci := 11) (v := .ref (n 1)) (C := RX11) (T := TX11) (N := 71) hx hb hts i11 hown hK hP 0 rfl rfl 0 (nlt rfl) w2 (fun _ h9 => h9) rfl dX11_feed_74 ?_
  refine lv_aload_n hx hb dX11_feed_77 rfl (lv_at hl 2 rfl) ?_
  refine va_get (D := (dC, dI)) (ci := 11) (v := .int 0) (C := RX11) (T := TX11) (N := 71) hx hb hts i11 hown hK hP 0 rfl rfl 2 (nlt rfl) w1 (fun _ h9 => h9) rfl dX11_feed_78 ?_
  refine lv_iload hx hb dX11_feed_81 (lv_at hl 1 rfl) ?_
  refine lv_iadd hx hb dX11_feed_83 ?_
  refine tpi z477 ?_
  refine lv_iload hx hb dX11_feed_84 (lv_at hl 0 rfl) ?_
  refine lv_bipush (v := 24) hx hb dX11_feed_86 z134 ?_
  refine lv_bipush (v := 8) hx hb dX11_feed_88 z130 ?_
  refine lv_iload hx hb dX11_feed_90 (lv_at hl 1 rfl) ?_
  refine lv_iconst (v := 3) hx hb dX11_feed_92 z69 ?_
  refine lv_iand hx hb dX11_feed_93 ?_
  refine tpi z478 ?_
  refine lv_imul hx hb dX11_feed_94 ?_
  refine tpi z352 ?_
  refine lv_isub hx hb dX11_feed_95 ?_
  refine tpi z353 ?_
  refine lv_ishr hx hb dX11_feed_96 ?_
  refine lv_i2b hx hb dX11_feed_97 rfl ?_
  refine my_bast hx hb hK hP hD hS 1 0 rfl rfl z479 (rfl : vp_nar .byte ((x5 >>> (24 &&& 31))).toInt8.toInt32 = _) dX11_feed_98 (fun H locs hP hD hS => ?_)
  refine lv_iinc (v := 17) (lv' := [(6, .int 17), (7, .int x5), (0, .ref (n 0)), (1, .int x1), (2, .int x2), (3, .int x3), (4, .int x4), (5, .int x5)]) hx hb dX11_feed_99 hl (k := 1) rfl z480 (nlt rfl) rfl (fun ls hl => ?_)
  refine lv_goto (tgt := 18) hx hb dX11_feed_102 z355 ?_
  refine lv_iload hx hb dX11_feed_18 (lv_at hl 0 rfl) ?_
  refine lv_bipush (v := 20) hx hb dX11_feed_20 z273 ?_
  refine lv_icmp_ge (tgt := 105) hx hb dX11_feed_22 z347 (fun c1 => absurd c1 (z481)) (fun _ => ?_)
  refine lv_iload hx hb dX11_feed_25 (lv_at hl 0 rfl) ?_
  refine lv_iconst (v := 4) hx hb dX11_feed_27 z77 ?_
  refine lv_icmp_ge (tgt := 35) hx hb dX11_feed_28 z348 (fun _ => ?_) (fun c1 => absurd (z482) c1)
  refine lv_iload hx hb dX11_feed_35 (lv_at hl 0 rfl) ?_
  refine lv_bipush (v := 8) hx hb dX11_feed_37 z130 ?_
  refine lv_icmp_ge (tgt := 46) hx hb dX11_feed_39 z375 (fun _ => ?_) (fun c1 => absurd (z483) c1)
  refine lv_iload hx hb dX11_feed_46 (lv_at hl 0 rfl) ?_
  refine lv_bipush (v := 12) hx hb dX11_feed_48 z200 ?_
  refine lv_icmp_ge (tgt := 57) hx hb dX11_feed_50 z404 (fun _ => ?_) (fun c1 => absurd (z484) c1)
  refine lv_iload hx hb dX11_feed_57 (lv_at hl 0 rfl) ?_
  refine lv_bipush (v := 16) hx hb dX11_feed_59 z189 ?_
  refine lv_icmp_ge (tgt := 69) hx hb dX11_feed_61 z439 (fun _ => ?_) (fun c1 => absurd (z485) c1)
  refine lv_iload hx hb dX11_feed_69 (lv_at hl 7 rfl) ?_
  refine lv_istore (lv' := [(7, .int x5), (6, .int 17), (0, .ref (n 0)), (1, .int x1), (2, .int x2), (3, .int x3), (4, .int x4), (5, .int x5)]) hx hb dX11_feed_71 hl (nlt rfl) rfl (fun ls hl => ?_)
  refine lv_aload_n hx hb dX11_feed_73 rfl (lv_at hl 2 rfl) ?_
  refine va_get (D := (dC, dI)) (ci := 11) (v := .ref (n 1)) (C := RX11) (T := TX11) (N := 71) hx hb hts i11 hown hK hP 0 rfl rfl 0 (nlt rfl) w2 (fun _ h9 => h9) rfl dX11_feed_74 ?_
  refine lv_aload_n hx hb dX11_feed_77 rfl (lv_at hl 2 rfl) ?_
  refine va_get (D := (dC, dI)) (ci := 11) (v := .int 0) (C := RX11) (T := TX11) (N := 71) hx hb hts i11 hown hK hP 0 rfl rfl 2 (nlt rfl) w1 (fun _ h9 => h9) rfl dX11_feed_78 ?_
  refine lv_iload hx hb dX11_feed_81 (lv_at hl 1 rfl) ?_
  refine lv_iadd hx hb dX11_feed_83 ?_
  refine tpi z486 ?_
  refine lv_iload hx hb dX11_feed_84 (lv_at hl 0 rfl) ?_
  refine lv_bipush (v := 24) hx hb dX11_feed_86 z134 ?_
  refine lv_bipush (v := 8) hx hb dX11_feed_88 z130 ?_
  refine lv_iload hx hb dX11_feed_90 (lv_at hl 1 rfl) ?_
  refine lv_iconst (v := 3) hx hb dX11_feed_92 z69 ?_
  refine lv_iand hx hb dX11_feed_93 ?_
  refine tpi z487 ?_
  refine lv_imul hx hb dX11_feed_94 ?_
  refine tpi z358 ?_
  refine lv_isub hx hb dX11_feed_95 ?_
  refine tpi z359 ?_
  refine lv_ishr hx hb dX11_feed_96 ?_
  refine lv_i2b hx hb dX11_feed_97 rfl ?_
  refine my_bast hx hb hK hP hD hS 1 0 rfl rfl z488 (rfl : vp_nar .byte ((x5 >>> (16 &&& 31))).toInt8.toInt32 = _) dX11_feed_98 (fun H locs hP hD hS => ?_)
  have hP : va_P (dC, dI) vwCl [((n 0), .inr (11, fM n)), ((n 1), .inl (cB, 1620, .inl (upd (upd (upd (upd (upd (upd (upd (upd (upd (upd (upd (upd (upd (upd (upd (upd (upd (upd (fun _ => 0) 0 (vp_nar .byte ((x1 >>> (24 &&& 31))).toInt8.toInt32)) 1 (vp_nar .byte ((x1 >>> (16 &&& 31))).toInt8.toInt32)) 2 (vp_nar .byte ((x1 >>> (8 &&& 31))).toInt8.toInt32)) 3 (vp_nar .byte ((x1 >>> (0 &&& 31))).toInt8.toInt32)) 4 (vp_nar .byte ((x2 >>> (24 &&& 31))).toInt8.toInt32)) 5 (vp_nar .byte ((x2 >>> (16 &&& 31))).toInt8.toInt32)) 6 (vp_nar .byte ((x2 >>> (8 &&& 31))).toInt8.toInt32)) 7 (vp_nar .byte ((x2 >>> (0 &&& 31))).toInt8.toInt32)) 8 (vp_nar .byte ((x3 >>> (24 &&& 31))).toInt8.toInt32)) 9 (vp_nar .byte ((x3 >>> (16 &&& 31))).toInt8.toInt32)) 10 (vp_nar .byte ((x3 >>> (8 &&& 31))).toInt8.toInt32)) 11 (vp_nar .byte ((x3 >>> (0 &&& 31))).toInt8.toInt32)) 12 (vp_nar .byte ((x4 >>> (24 &&& 31))).toInt8.toInt32)) 13 (vp_nar .byte ((x4 >>> (16 &&& 31))).toInt8.toInt32)) 14 (vp_nar .byte ((x4 >>> (8 &&& 31))).toInt8.toInt32)) 15 (vp_nar .byte ((x4 >>> (0 &&& 31))).toInt8.toInt32)) 16 (vp_nar .byte ((x5 >>> (24 &&& 31))).toInt8.toInt32)) 17 (vp_nar .byte ((x5 >>> (16 &&& 31))).toInt8.toInt32))))] H := hP
  have hD : va_D A [((n 0), .inr (11, fM n)), ((n 1), .inl (cB, 1620, .inl (upd (upd (upd (upd (upd (upd (upd (upd (upd (upd (upd (upd (upd (upd (upd (upd (upd (upd (fun _ => 0) 0 (vp_nar .byte ((x1 >>> (24 &&& 31))).toInt8.toInt32)) 1 (vp_nar .byte ((x1 >>> (16 &&& 31))).toInt8.toInt32)) 2 (vp_nar .byte ((x1 >>> (8 &&& 31))).toInt8.toInt32)) 3 (vp_nar .byte ((x1 >>> (0 &&& 31))).toInt8.toInt32)) 4 (vp_nar .byte ((x2 >>> (24 &&& 31))).toInt8.toInt32)) 5 (vp_nar .byte ((x2 >>> (16 &&& 31))).toInt8.toInt32)) 6 (vp_nar .byte ((x2 >>> (8 &&& 31))).toInt8.toInt32)) 7 (vp_nar .byte ((x2 >>> (0 &&& 31))).toInt8.toInt32)) 8 (vp_nar .byte ((x3 >>> (24 &&& 31))).toInt8.toInt32)) 9 (vp_nar .byte ((x3 >>> (16 &&& 31))).toInt8.toInt32)) 10 (vp_nar .byte ((x3 >>> (8 &&& 31))).toInt8.toInt32)) 11 (vp_nar .byte ((x3 >>> (0 &&& 31))).toInt8.toInt32)) 12 (vp_nar .byte ((x4 >>> (24 &&& 31))).toInt8.toInt32)) 13 (vp_nar .byte ((x4 >>> (16 &&& 31))).toInt8.toInt32)) 14 (vp_nar .byte ((x4 >>> (8 &&& 31))).toInt8.toInt32)) 15 (vp_nar .byte ((x4 >>> (0 &&& 31))).toInt8.toInt32)) 16 (vp_nar .byte ((x5 >>> (24 &&& 31))).toInt8.toInt32)) 17 (vp_nar .byte ((x5 >>> (16 &&& 31))).toInt8.toInt32))))] := hD
  refine lv_iinc (v := 18) (lv' := [(6, .int 18), (7, .int x5), (0, .ref (n 0)), (1, .int x1), (2, .int x2), (3, .int x3), (4, .int x4), (5, .int x5)]) hx hb dX11_feed_99 hl (k := 1) rfl z489 (nlt rfl) rfl (fun ls hl => ?_)
  refine lv_goto (tgt := 18) hx hb dX11_feed_102 z355 ?_
  refine lv_iload hx hb dX11_feed_18 (lv_at hl 0 rfl) ?_
  refine lv_bipush (v := 20) hx hb dX11_feed_20 z273 ?_
  refine lv_icmp_ge (tgt := 105) hx hb dX11_feed_22 z347 (fun c1 => absurd c1 (z490)) (fun _ => ?_)
  refine lv_iload hx hb dX11_feed_25 (lv_at hl 0 rfl) ?_
  refine lv_iconst (v := 4) hx hb dX11_feed_27 z77 ?_
  refine lv_icmp_ge (tgt := 35) hx hb dX11_feed_28 z348 (fun _ => ?_) (fun c1 => absurd (z491) c1)
  refine lv_iload hx hb dX11_feed_35 (lv_at hl 0 rfl) ?_
  refine lv_bipush (v := 8) hx hb dX11_feed_37 z130 ?_
  refine lv_icmp_ge (tgt := 46) hx hb dX11_feed_39 z375 (fun _ => ?_) (fun c1 => absurd (z492) c1)
  refine lv_iload hx hb dX11_feed_46 (lv_at hl 0 rfl) ?_
  refine lv_bipush (v := 12) hx hb dX11_feed_48 z200 ?_
  refine lv_icmp_ge (tgt := 57) hx hb dX11_feed_50 z404 (fun _ => ?_) (fun c1 => absurd (z493) c1)
  refine lv_iload hx hb dX11_feed_57 (lv_at hl 0 rfl) ?_
  refine lv_bipush (v := 16) hx hb dX11_feed_59 z189 ?_
  refine lv_icmp_ge (tgt := 69) hx hb dX11_feed_61 z439 (fun _ => ?_) (fun c1 => absurd (z494) c1)
  refine lv_iload hx hb dX11_feed_69 (lv_at hl 7 rfl) ?_
  refine lv_istore (lv' := [(7, .int x5), (6, .int 18), (0, .ref (n 0)), (1, .int x1), (2, .int x2), (3, .int x3), (4, .int x4), (5, .int x5)]) hx hb dX11_feed_71 hl (nlt rfl) rfl (fun ls hl => ?_)
  refine lv_aload_n hx hb dX11_feed_73 rfl (lv_at hl 2 rfl) ?_
  refine va_get (D := (dC, dI)) (ci := 11) (v := .ref (n 1)) (C := RX11) (T := TX11) (N := 71) hx hb hts i11 hown hK hP 0 rfl rfl 0 (nlt rfl) w2 (fun _ h9 => h9) rfl dX11_feed_74 ?_
  refine lv_aload_n hx hb dX11_feed_77 rfl (lv_at hl 2 rfl) ?_
  refine va_get (D := (dC, dI)) (ci := 11) (v := .int 0) (C := RX11) (T := TX11) (N := 71) hx hb hts i11 hown hK hP 0 rfl rfl 2 (nlt rfl) w1 (fun _ h9 => h9) rfl dX11_feed_78 ?_
  refine lv_iload hx hb dX11_feed_81 (lv_at hl 1 rfl) ?_
  refine lv_iadd hx hb dX11_feed_83 ?_
  refine tpi z495 ?_
  refine lv_iload hx hb dX11_feed_84 (lv_at hl 0 rfl) ?_
  refine lv_bipush (v := 24) hx hb dX11_feed_86 z134 ?_
  refine lv_bipush (v := 8) hx hb dX11_feed_88 z130 ?_
  refine lv_iload hx hb dX11_feed_90 (lv_at hl 1 rfl) ?_
  refine lv_iconst (v := 3) hx hb dX11_feed_92 z69 ?_
  refine lv_iand hx hb dX11_feed_93 ?_
  refine tpi z496 ?_
  refine lv_imul hx hb dX11_feed_94 ?_
  refine tpi z364 ?_
  refine lv_isub hx hb dX11_feed_95 ?_
  refine tpi z365 ?_
  refine lv_ishr hx hb dX11_feed_96 ?_
  refine lv_i2b hx hb dX11_feed_97 rfl ?_
  refine my_bast hx hb hK hP hD hS 1 0 rfl rfl z497 (rfl : vp_nar .byte ((x5 >>> (8 &&& 31))).toInt8.toInt32 = _) dX11_feed_98 (fun H locs hP hD hS => ?_)
  refine lv_iinc (v := 19) (lv' := [(6, .int 19), (7, .int x5), (0, .ref (n 0)), (1, .int x1), (2, .int x2), (3, .int x3), (4, .int x4), (5, .int x5)]) hx hb dX11_feed_99 hl (k := 1) rfl z498 (nlt rfl) rfl (fun ls hl => ?_)
  refine lv_goto (tgt := 18) hx hb dX11_feed_102 z355 ?_
  refine lv_iload hx hb dX11_feed_18 (lv_at hl 0 rfl) ?_
  refine lv_bipush (v := 20) hx hb dX11_feed_20 z273 ?_
  refine lv_icmp_ge (tgt := 105) hx hb dX11_feed_22 z347 (fun c1 => absurd c1 (z499)) (fun _ => ?_)
  refine lv_iload hx hb dX11_feed_25 (lv_at hl 0 rfl) ?_
  refine lv_iconst (v := 4) hx hb dX11_feed_27 z77 ?_
  refine lv_icmp_ge (tgt := 35) hx hb dX11_feed_28 z348 (fun _ => ?_) (fun c1 => absurd (z500) c1)
  refine lv_iload hx hb dX11_feed_35 (lv_at hl 0 rfl) ?_
  refine lv_bipush (v := 8) hx hb dX11_feed_37 z130 ?_
  refine lv_icmp_ge (tgt := 46) hx hb dX11_feed_39 z375 (fun _ => ?_) (fun c1 => absurd (z501) c1)
  refine lv_iload hx hb dX11_feed_46 (lv_at hl 0 rfl) ?_
  refine lv_bipush (v := 12) hx hb dX11_feed_48 z200 ?_
  refine lv_icmp_ge (tgt := 57) hx hb dX11_feed_50 z404 (fun _ => ?_) (fun c1 => absurd (z502) c1)
  refine lv_iload hx hb dX11_feed_57 (lv_at hl 0 rfl) ?_
  refine lv_bipush (v := 16) hx hb dX11_feed_59 z189 ?_
  refine lv_icmp_ge (tgt := 69) hx hb dX11_feed_61 z439 (fun _ => ?_) (fun c1 => absurd (z503) c1)
  refine lv_iload hx hb dX11_feed_69 (lv_at hl 7 rfl) ?_
  refine lv_istore (lv' := [(7, .int x5), (6, .int 19), (0, .ref (n 0)), (1, .int x1), (2, .int x2), (3, .int x3), (4, .int x4), (5, .int x5)]) hx hb dX11_feed_71 hl (nlt rfl) rfl (fun ls hl => ?_)
  refine lv_aload_n hx hb dX11_feed_73 rfl (lv_at hl 2 rfl) ?_
  refine va_get (D := (dC, dI)) (ci := 11) (v := .ref (n 1)) (C := RX11) (T := TX11) (N := 71) hx hb hts i11 hown hK hP 0 rfl rfl 0 (nlt rfl) w2 (fun _ h9 => h9) rfl dX11_feed_74 ?_
  refine lv_aload_n hx hb dX11_feed_77 rfl (lv_at hl 2 rfl) ?_
  refine va_get (D := (dC, dI)) (ci := 11) (v := .int 0) (C := RX11) (T := TX11) (N := 71) hx hb hts i11 hown hK hP 0 rfl rfl 2 (nlt rfl) w1 (fun _ h9 => h9) rfl dX11_feed_78 ?_
  refine lv_iload hx hb dX11_feed_81 (lv_at hl 1 rfl) ?_
  refine lv_iadd hx hb dX11_feed_83 ?_
  refine tpi z504 ?_
  refine lv_iload hx hb dX11_feed_84 (lv_at hl 0 rfl) ?_
  refine lv_bipush (v := 24) hx hb dX11_feed_86 z134 ?_
  refine lv_bipush (v := 8) hx hb dX11_feed_88 z130 ?_
  refine lv_iload hx hb dX11_feed_90 (lv_at hl 1 rfl) ?_
  refine lv_iconst (v := 3) hx hb dX11_feed_92 z69 ?_
  refine lv_iand hx hb dX11_feed_93 ?_
  refine tpi z505 ?_
  refine lv_imul hx hb dX11_feed_94 ?_
  refine tpi z370 ?_
  refine lv_isub hx hb dX11_feed_95 ?_
  refine tpi z371 ?_
  refine lv_ishr hx hb dX11_feed_96 ?_
  refine lv_i2b hx hb dX11_feed_97 rfl ?_
  refine my_bast hx hb hK hP hD hS 1 0 rfl rfl z506 (rfl : vp_nar .byte ((x5 >>> (0 &&& 31))).toInt8.toInt32 = _) dX11_feed_98 (fun H locs hP hD hS => ?_)
  refine lv_iinc (v := 20) (lv' := [(6, .int 20), (7, .int x5), (0, .ref (n 0)), (1, .int x1), (2, .int x2), (3, .int x3), (4, .int x4), (5, .int x5)]) hx hb dX11_feed_99 hl (k := 1) rfl z507 (nlt rfl) rfl (fun ls hl => ?_)
  refine lv_goto (tgt := 18) hx hb dX11_feed_102 z355 ?_
  refine lv_iload hx hb dX11_feed_18 (lv_at hl 0 rfl) ?_
  refine lv_bipush (v := 20) hx hb dX11_feed_20 z273 ?_
  refine lv_icmp_ge (tgt := 105) hx hb dX11_feed_22 z347 (fun _ => ?_) (fun c1 => absurd (z508) c1)
  refine lv_aload_n hx hb dX11_feed_105 rfl (lv_at hl 2 rfl) ?_
  refine lv_dup hx hb dX11_feed_106 rfl ?_
  refine va_get (D := (dC, dI)) (ci := 11) (v := .int 0) (C := RX11) (T := TX11) (N := 71) hx hb hts i11 hown hK hP 0 rfl rfl 2 (nlt rfl) w1 (fun _ h9 => h9) rfl dX11_feed_107 ?_
  refine lv_bipush (v := 20) hx hb dX11_feed_110 z273 ?_
  refine lv_iadd hx hb dX11_feed_112 ?_
  refine tpi z274 ?_
  refine va_put (D := (dC, dI)) (ci := 11) (v := .int 20) (ty := tyX11 2) (C := RX11) (T := TX11) (N := 71) hx hb hts i11 tyX11 tyX11_ok nmX11 hown hK hP hD hS 0 rfl rfl 2 (nlt rfl) w1 (fun _ h9 => h9) rfl (tyX11_ok 2 (nlt rfl)) rfl rfl (nlt rfl) dX11_feed_113 (fun H locs hP hD hS => ?_)
  have hP : va_P (dC, dI) vwCl [((n 0), .inr (11, [.ref (n 1), .ref (n 2), .int 20, .int 0, .int 0, .int (-1), .int 0, .int 0, .int 0, .int 0, .long 0, .ref (n 3), .ref (n 4), .ref (n 5), .ref (n 6), .ref (n 7), .ref (n 8), .ref (n 9), .ref (n 10), .ref (n 11), .ref (n 12), .ref (n 13), .ref (n 14), .ref (n 15), .ref (n 16), .ref (n 17), .ref (n 18), .ref (n 19), .ref (n 20), .int 0, .int 0, .ref (n 21), .ref (n 22), .ref (n 23), .ref (n 24), .ref (n 25), .ref (n 26), .ref (n 27), .ref (n 28), .int 0, .ref (n 29), .ref (n 30), .int 0, .int 0, .ref (n 31), .ref (n 32), .ref (n 33), .ref (n 34), .int 0, .int 0, .int 0, .long 0, .ref (n 35), .ref (n 36), .int (-1), .int 0, .int 0, .int 0, .ref (n 37), .int 0, .ref (n 38), .ref (n 39), .ref (n 40), .ref (n 41), .ref (n 42), .ref (n 43), .int 0, .int 0, .ref (n 44), .ref (n 45), .ref (n 46)])), ((n 1), .inl (cB, 1620, .inl (upd (upd (upd (upd (upd (upd (upd (upd (upd (upd (upd (upd (upd (upd (upd (upd (upd (upd (upd (upd (fun _ => 0) 0 (vp_nar .byte ((x1 >>> (24 &&& 31))).toInt8.toInt32)) 1 (vp_nar .byte ((x1 >>> (16 &&& 31))).toInt8.toInt32)) 2 (vp_nar .byte ((x1 >>> (8 &&& 31))).toInt8.toInt32)) 3 (vp_nar .byte ((x1 >>> (0 &&& 31))).toInt8.toInt32)) 4 (vp_nar .byte ((x2 >>> (24 &&& 31))).toInt8.toInt32)) 5 (vp_nar .byte ((x2 >>> (16 &&& 31))).toInt8.toInt32)) 6 (vp_nar .byte ((x2 >>> (8 &&& 31))).toInt8.toInt32)) 7 (vp_nar .byte ((x2 >>> (0 &&& 31))).toInt8.toInt32)) 8 (vp_nar .byte ((x3 >>> (24 &&& 31))).toInt8.toInt32)) 9 (vp_nar .byte ((x3 >>> (16 &&& 31))).toInt8.toInt32)) 10 (vp_nar .byte ((x3 >>> (8 &&& 31))).toInt8.toInt32)) 11 (vp_nar .byte ((x3 >>> (0 &&& 31))).toInt8.toInt32)) 12 (vp_nar .byte ((x4 >>> (24 &&& 31))).toInt8.toInt32)) 13 (vp_nar .byte ((x4 >>> (16 &&& 31))).toInt8.toInt32)) 14 (vp_nar .byte ((x4 >>> (8 &&& 31))).toInt8.toInt32)) 15 (vp_nar .byte ((x4 >>> (0 &&& 31))).toInt8.toInt32)) 16 (vp_nar .byte ((x5 >>> (24 &&& 31))).toInt8.toInt32)) 17 (vp_nar .byte ((x5 >>> (16 &&& 31))).toInt8.toInt32)) 18 (vp_nar .byte ((x5 >>> (8 &&& 31))).toInt8.toInt32)) 19 (vp_nar .byte ((x5 >>> (0 &&& 31))).toInt8.toInt32))))] H := hP
  have hD : va_D A [((n 0), .inr (11, [.ref (n 1), .ref (n 2), .int 20, .int 0, .int 0, .int (-1), .int 0, .int 0, .int 0, .int 0, .long 0, .ref (n 3), .ref (n 4), .ref (n 5), .ref (n 6), .ref (n 7), .ref (n 8), .ref (n 9), .ref (n 10), .ref (n 11), .ref (n 12), .ref (n 13), .ref (n 14), .ref (n 15), .ref (n 16), .ref (n 17), .ref (n 18), .ref (n 19), .ref (n 20), .int 0, .int 0, .ref (n 21), .ref (n 22), .ref (n 23), .ref (n 24), .ref (n 25), .ref (n 26), .ref (n 27), .ref (n 28), .int 0, .ref (n 29), .ref (n 30), .int 0, .int 0, .ref (n 31), .ref (n 32), .ref (n 33), .ref (n 34), .int 0, .int 0, .int 0, .long 0, .ref (n 35), .ref (n 36), .int (-1), .int 0, .int 0, .int 0, .ref (n 37), .int 0, .ref (n 38), .ref (n 39), .ref (n 40), .ref (n 41), .ref (n 42), .ref (n 43), .int 0, .int 0, .ref (n 44), .ref (n 45), .ref (n 46)])), ((n 1), .inl (cB, 1620, .inl (upd (upd (upd (upd (upd (upd (upd (upd (upd (upd (upd (upd (upd (upd (upd (upd (upd (upd (upd (upd (fun _ => 0) 0 (vp_nar .byte ((x1 >>> (24 &&& 31))).toInt8.toInt32)) 1 (vp_nar .byte ((x1 >>> (16 &&& 31))).toInt8.toInt32)) 2 (vp_nar .byte ((x1 >>> (8 &&& 31))).toInt8.toInt32)) 3 (vp_nar .byte ((x1 >>> (0 &&& 31))).toInt8.toInt32)) 4 (vp_nar .byte ((x2 >>> (24 &&& 31))).toInt8.toInt32)) 5 (vp_nar .byte ((x2 >>> (16 &&& 31))).toInt8.toInt32)) 6 (vp_nar .byte ((x2 >>> (8 &&& 31))).toInt8.toInt32)) 7 (vp_nar .byte ((x2 >>> (0 &&& 31))).toInt8.toInt32)) 8 (vp_nar .byte ((x3 >>> (24 &&& 31))).toInt8.toInt32)) 9 (vp_nar .byte ((x3 >>> (16 &&& 31))).toInt8.toInt32)) 10 (vp_nar .byte ((x3 >>> (8 &&& 31))).toInt8.toInt32)) 11 (vp_nar .byte ((x3 >>> (0 &&& 31))).toInt8.toInt32)) 12 (vp_nar .byte ((x4 >>> (24 &&& 31))).toInt8.toInt32)) 13 (vp_nar .byte ((x4 >>> (16 &&& 31))).toInt8.toInt32)) 14 (vp_nar .byte ((x4 >>> (8 &&& 31))).toInt8.toInt32)) 15 (vp_nar .byte ((x4 >>> (0 &&& 31))).toInt8.toInt32)) 16 (vp_nar .byte ((x5 >>> (24 &&& 31))).toInt8.toInt32)) 17 (vp_nar .byte ((x5 >>> (16 &&& 31))).toInt8.toInt32)) 18 (vp_nar .byte ((x5 >>> (8 &&& 31))).toInt8.toInt32)) 19 (vp_nar .byte ((x5 >>> (0 &&& 31))).toInt8.toInt32))))] := hD
  refine lv_aload_n hx hb dX11_feed_116 rfl (lv_at hl 2 rfl) ?_
  refine va_get (D := (dC, dI)) (ci := 11) (v := .int 20) (C := RX11) (T := TX11) (N := 71) hx hb hts i11 hown hK hP 0 rfl rfl 2 (nlt rfl) w1 (fun _ h9 => h9) rfl dX11_feed_117 ?_
  refine W.widen (k := 0) (n := 0) (by decide +kernel) (by decide +kernel) ?_
  exact ret_i hx hb hr hlocks hS (u := (fun _ => 0)) (hP.sub [] rfl) (hD.sub [] (by decide +kernel) rfl) dX11_feed_120
