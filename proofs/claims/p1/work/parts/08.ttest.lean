set_option maxHeartbeats 4000000 in
set_option maxRecDepth 100000 in
theorem k26_X10_tapeNumber (l : Launch) (dC : Nat → ClassId) (dI : Nat → Nat → Nat) (cB cI cJ cZ cO : ClassId) (r : Nat → Nat) (x1 : Int32) : CV l yX10_tapeNumber wsX10_tapeNumber ({ frames := 0, cells := 0, slots := 0, locals := 0 }) (dC, dI) (tyL cB cI cJ cZ cO) [.ref (r 0), .int x1] [((r 0), .inr (10, fX r)), ((r 1), .inl (cB, 1600, .inl (fun _ => 0)))] (fun u => [((r 0), .inr (10, [.ref (r 1), .int 4, .ref (r 2), .ref (r 18), .ref (r 28), .ref (r 38), .ref (r 45), .ref (r 55), .ref (r 58), .ref (r 61), .ref (r 65), .ref (r 70), .ref (r 75), .int 0, .ref (r 80), .ref (r 86), .int 0, .ref (r 87)])), ((r 1), .inl (cB, 1600, .inl (upd (upd (upd (upd (fun _ => 0) 0 (vp_nar .byte ((x1 >>> (24 &&& 31))).toInt8.toInt32)) 1 (vp_nar .byte ((x1 >>> (16 &&& 31))).toInt8.toInt32)) 2 (vp_nar .byte ((x1 >>> (8 &&& 31))).toInt8.toInt32)) 3 (vp_nar .byte ((x1 >>> (0 &&& 31))).toInt8.toInt32))))]) := by
  intro sz
  refine ct_open (cc := cX10_tapeNumber) (maxL := 3) (ret := none) (by decide) rfl (Nat.le_of_ble_eq_true rfl) ?_
  intro p e s m below meth c ls A hx hb hr hml hts hown hlocks hin hP hK hD hA hS hl
  have hl : lv_has ls 3 [(0, .ref (r 0)), (1, .int x1)] := hl
  have hown : s.vm.findClass RX10 = some m.cls := hown
  have i10 : ∀ w ∈ u_ws RX10 TX10 18, w ∈ wsX10_tapeNumber := fun _ h => List.mem_cons_of_mem _ (List.mem_append_right _ h)
  have w1 := hts (.fieldLink RX10 92 "GuildCharter" "tapeSize" "I") (List.mem_cons_of_mem _ (List.mem_append_left _ (List.mem_of_getElem? (i := 0) rfl)))
  have w2 := hts (.fieldLink RX10 9 "GuildCharter" "tape" "[B") (List.mem_cons_of_mem _ (List.mem_append_left _ (List.mem_of_getElem? (i := 1) rfl)))
  refine lv_bipush (v := 24) hx hb dX10_tapeNumber_0 (by decide) ?_
  refine lv_istore_n (lv' := [(2, .int 24), (0, .ref (r 0)), (1, .int x1)]) hx hb dX10_tapeNumber_2 rfl hl (by decide) rfl (fun ls hl => ?_)
  refine lv_iload_n hx hb dX10_tapeNumber_3 rfl (lv_at hl 0 rfl) ?_
  refine lv_if_lt (tgt := 46) hx hb dX10_tapeNumber_4 (by decide) (fun c1 => absurd c1 (by decide)) (fun _ => ?_)
  refine lv_aload_n hx hb dX10_tapeNumber_7 rfl (lv_at hl 1 rfl) ?_
  refine va_get (D := (dC, dI)) (ci := 10) (v := .int 0) (C := RX10) (T := TX10) (N := 18) hx hb hts i10 hown hK hP 0 rfl rfl 1 (by decide) w1 (fun _ h9 => h9) rfl dX10_tapeNumber_8 ?_
  refine lv_sipush (v := 1600) hx hb dX10_tapeNumber_11 (by decide) ?_
  refine lv_icmp_ge (tgt := 40) hx hb dX10_tapeNumber_14 (by decide) (fun c1 => absurd c1 (by decide)) (fun _ => ?_)
  refine lv_aload_n hx hb dX10_tapeNumber_17 rfl (lv_at hl 1 rfl) ?_
  refine va_get (D := (dC, dI)) (ci := 10) (v := .ref (r 1)) (C := RX10) (T := TX10) (N := 18) hx hb hts i10 hown hK hP 0 rfl rfl 0 (by decide) w2 (fun _ h9 => h9) rfl dX10_tapeNumber_18 ?_
  refine lv_aload_n hx hb dX10_tapeNumber_21 rfl (lv_at hl 1 rfl) ?_
  refine va_get (D := (dC, dI)) (ci := 10) (v := .int 0) (C := RX10) (T := TX10) (N := 18) hx hb hts i10 hown hK hP 0 rfl rfl 1 (by decide) w1 (fun _ h9 => h9) rfl dX10_tapeNumber_22 ?_
  refine lv_iload_n hx hb dX10_tapeNumber_25 rfl (lv_at hl 2 rfl) ?_
  refine lv_iload_n hx hb dX10_tapeNumber_26 rfl (lv_at hl 0 rfl) ?_
  refine lv_ishr hx hb dX10_tapeNumber_27 ?_
  refine lv_i2b hx hb dX10_tapeNumber_28 rfl ?_
  refine va_bast hx hb hK hP hD hS 1 0 rfl rfl (vin _ _ rfl) dX10_tapeNumber_29 (fun H locs hP hD hS => ?_)
  refine lv_aload_n hx hb dX10_tapeNumber_30 rfl (lv_at hl 1 rfl) ?_
  refine lv_dup hx hb dX10_tapeNumber_31 rfl ?_
  refine va_get (D := (dC, dI)) (ci := 10) (v := .int 0) (C := RX10) (T := TX10) (N := 18) hx hb hts i10 hown hK hP 0 rfl rfl 1 (by decide) w1 (fun _ h9 => h9) rfl dX10_tapeNumber_32 ?_
  refine lv_iconst (v := 1) hx hb dX10_tapeNumber_35 (by decide) ?_
  refine lv_iadd hx hb dX10_tapeNumber_36 ?_
  refine tpv (v := .int 1) rfl ?_
  refine va_put (D := (dC, dI)) (ci := 10) (v := .int 1) (ty := tyX10 1) (C := RX10) (T := TX10) (N := 18) hx hb hts i10 tyX10 tyX10_ok nmX10 hown hK hP hD hS 0 rfl rfl 1 (by decide) w1 (fun _ h9 => h9) rfl (by decide +kernel) rfl rfl (Nat.le_of_ble_eq_true rfl) dX10_tapeNumber_37 (fun H locs hP hD hS => ?_)
  refine lv_iinc (v := 16) (lv' := [(2, .int 16), (0, .ref (r 0)), (1, .int x1)]) hx hb dX10_tapeNumber_40 hl (k := 0) rfl (by decide) (by decide) rfl (fun ls hl => ?_)
  refine lv_goto (tgt := 3) hx hb dX10_tapeNumber_43 (by decide) ?_
  refine lv_iload_n hx hb dX10_tapeNumber_3 rfl (lv_at hl 0 rfl) ?_
  refine lv_if_lt (tgt := 46) hx hb dX10_tapeNumber_4 (by decide) (fun c1 => absurd c1 (by decide)) (fun _ => ?_)
  refine lv_aload_n hx hb dX10_tapeNumber_7 rfl (lv_at hl 1 rfl) ?_
  refine va_get (D := (dC, dI)) (ci := 10) (v := .int 1) (C := RX10) (T := TX10) (N := 18) hx hb hts i10 hown hK hP 0 rfl rfl 1 (by decide) w1 (fun _ h9 => h9) rfl dX10_tapeNumber_8 ?_
  refine lv_sipush (v := 1600) hx hb dX10_tapeNumber_11 (by decide) ?_
  refine lv_icmp_ge (tgt := 40) hx hb dX10_tapeNumber_14 (by decide) (fun c1 => absurd c1 (by decide)) (fun _ => ?_)
  refine lv_aload_n hx hb dX10_tapeNumber_17 rfl (lv_at hl 1 rfl) ?_
  refine va_get (D := (dC, dI)) (ci := 10) (v := .ref (r 1)) (C := RX10) (T := TX10) (N := 18) hx hb hts i10 hown hK hP 0 rfl rfl 0 (by decide) w2 (fun _ h9 => h9) rfl dX10_tapeNumber_18 ?_
  refine lv_aload_n hx hb dX10_tapeNumber_21 rfl (lv_at hl 1 rfl) ?_
  refine va_get (D := (dC, dI)) (ci := 10) (v := .int 1) (C := RX10) (T := TX10) (N := 18) hx hb hts i10 hown hK hP 0 rfl rfl 1 (by decide) w1 (fun _ h9 => h9) rfl dX10_tapeNumber_22 ?_
  refine lv_iload_n hx hb dX10_tapeNumber_25 rfl (lv_at hl 2 rfl) ?_
  refine lv_iload_n hx hb dX10_tapeNumber_26 rfl (lv_at hl 0 rfl) ?_
  refine lv_ishr hx hb dX10_tapeNumber_27 ?_
  refine lv_i2b hx hb dX10_tapeNumber_28 rfl ?_
  refine va_bast hx hb hK hP hD hS 1 0 rfl rfl (vin _ _ rfl) dX10_tapeNumber_29 (fun H locs hP hD hS => ?_)
  refine lv_aload_n hx hb dX10_tapeNumber_30 rfl (lv_at hl 1 rfl) ?_
  refine lv_dup hx hb dX10_tapeNumber_31 rfl ?_
  refine va_get (D := (dC, dI)) (ci := 10) (v := .int 1) (C := RX10) (T := TX10) (N := 18) hx hb hts i10 hown hK hP 0 rfl rfl 1 (by decide) w1 (fun _ h9 => h9) rfl dX10_tapeNumber_32 ?_
  refine lv_iconst (v := 1) hx hb dX10_tapeNumber_35 (by decide) ?_
  refine lv_iadd hx hb dX10_tapeNumber_36 ?_
  refine tpv (v := .int 2) rfl ?_
  refine va_put (D := (dC, dI)) (ci := 10) (v := .int 2) (ty := tyX10 1) (C := RX10) (T := TX10) (N := 18) hx hb hts i10 tyX10 tyX10_ok nmX10 hown hK hP hD hS 0 rfl rfl 1 (by decide) w1 (fun _ h9 => h9) rfl (by decide +kernel) rfl rfl (Nat.le_of_ble_eq_true rfl) dX10_tapeNumber_37 (fun H locs hP hD hS => ?_)
  refine lv_iinc (v := 8) (lv' := [(2, .int 8), (0, .ref (r 0)), (1, .int x1)]) hx hb dX10_tapeNumber_40 hl (k := 0) rfl (by decide) (by decide) rfl (fun ls hl => ?_)
  refine lv_goto (tgt := 3) hx hb dX10_tapeNumber_43 (by decide) ?_
  refine lv_iload_n hx hb dX10_tapeNumber_3 rfl (lv_at hl 0 rfl) ?_
  refine lv_if_lt (tgt := 46) hx hb dX10_tapeNumber_4 (by decide) (fun c1 => absurd c1 (by decide)) (fun _ => ?_)
  refine lv_aload_n hx hb dX10_tapeNumber_7 rfl (lv_at hl 1 rfl) ?_
  refine va_get (D := (dC, dI)) (ci := 10) (v := .int 2) (C := RX10) (T := TX10) (N := 18) hx hb hts i10 hown hK hP 0 rfl rfl 1 (by decide) w1 (fun _ h9 => h9) rfl dX10_tapeNumber_8 ?_
  refine lv_sipush (v := 1600) hx hb dX10_tapeNumber_11 (by decide) ?_
  refine lv_icmp_ge (tgt := 40) hx hb dX10_tapeNumber_14 (by decide) (fun c1 => absurd c1 (by decide)) (fun _ => ?_)
  refine lv_aload_n hx hb dX10_tapeNumber_17 rfl (lv_at hl 1 rfl) ?_
  refine va_get (D := (dC, dI)) (ci := 10) (v := .ref (r 1)) (C := RX10) (T := TX10) (N := 18) hx hb hts i10 hown hK hP 0 rfl rfl 0 (by decide) w2 (fun _ h9 => h9) rfl dX10_tapeNumber_18 ?_
  refine lv_aload_n hx hb dX10_tapeNumber_21 rfl (lv_at hl 1 rfl) ?_
  refine va_get (D := (dC, dI)) (ci := 10) (v := .int 2) (C := RX10) (T := TX10) (N := 18) hx hb hts i10 hown hK hP 0 rfl rfl 1 (by decide) w1 (fun _ h9 => h9) rfl dX10_tapeNumber_22 ?_
  refine lv_iload_n hx hb dX10_tapeNumber_25 rfl (lv_at hl 2 rfl) ?_
  refine lv_iload_n hx hb dX10_tapeNumber_26 rfl (lv_at hl 0 rfl) ?_
  refine lv_ishr hx hb dX10_tapeNumber_27 ?_
  refine lv_i2b hx hb dX10_tapeNumber_28 rfl ?_
  refine va_bast hx hb hK hP hD hS 1 0 rfl rfl (vin _ _ rfl) dX10_tapeNumber_29 (fun H locs hP hD hS => ?_)
  refine lv_aload_n hx hb dX10_tapeNumber_30 rfl (lv_at hl 1 rfl) ?_
  refine lv_dup hx hb dX10_tapeNumber_31 rfl ?_
  refine va_get (D := (dC, dI)) (ci := 10) (v := .int 2) (C := RX10) (T := TX10) (N := 18) hx hb hts i10 hown hK hP 0 rfl rfl 1 (by decide) w1 (fun _ h9 => h9) rfl dX10_tapeNumber_32 ?_
  refine lv_iconst (v := 1) hx hb dX10_tapeNumber_35 (by decide) ?_
  refine lv_iadd hx hb dX10_tapeNumber_36 ?_
  refine tpv (v := .int 3) rfl ?_
  refine va_put (D := (dC, dI)) (ci := 10) (v := .int 3) (ty := tyX10 1) (C := RX10) (T := TX10) (N := 18) hx hb hts i10 tyX10 tyX10_ok nmX10 hown hK hP hD hS 0 rfl rfl 1 (by decide) w1 (fun _ h9 => h9) rfl (by decide +kernel) rfl rfl (Nat.le_of_ble_eq_true rfl) dX10_tapeNumber_37 (fun H locs hP hD hS => ?_)
  refine lv_iinc (v := 0) (lv' := [(2, .int 0), (0, .ref (r 0)), (1, .int x1)]) hx hb dX10_tapeNumber_40 hl (k := 0) rfl (by decide) (by decide) rfl (fun ls hl => ?_)
  refine lv_goto (tgt := 3) hx hb dX10_tapeNumber_43 (by decide) ?_
  refine lv_iload_n hx hb dX10_tapeNumber_3 rfl (lv_at hl 0 rfl) ?_
  refine lv_if_lt (tgt := 46) hx hb dX10_tapeNumber_4 (by decide) (fun c1 => absurd c1 (by decide)) (fun _ => ?_)
  refine lv_aload_n hx hb dX10_tapeNumber_7 rfl (lv_at hl 1 rfl) ?_
  refine va_get (D := (dC, dI)) (ci := 10) (v := .int 3) (C := RX10) (T := TX10) (N := 18) hx hb hts i10 hown hK hP 0 rfl rfl 1 (by decide) w1 (fun _ h9 => h9) rfl dX10_tapeNumber_8 ?_
  refine lv_sipush (v := 1600) hx hb dX10_tapeNumber_11 (by decide) ?_
  refine lv_icmp_ge (tgt := 40) hx hb dX10_tapeNumber_14 (by decide) (fun c1 => absurd c1 (by decide)) (fun _ => ?_)
  refine lv_aload_n hx hb dX10_tapeNumber_17 rfl (lv_at hl 1 rfl) ?_
  refine va_get (D := (dC, dI)) (ci := 10) (v := .ref (r 1)) (C := RX10) (T := TX10) (N := 18) hx hb hts i10 hown hK hP 0 rfl rfl 0 (by decide) w2 (fun _ h9 => h9) rfl dX10_tapeNumber_18 ?_
  refine lv_aload_n hx hb dX10_tapeNumber_21 rfl (lv_at hl 1 rfl) ?_
  refine va_get (D := (dC, dI)) (ci := 10) (v := .int 3) (C := RX10) (T := TX10) (N := 18) hx hb hts i10 hown hK hP 0 rfl rfl 1 (by decide) w1 (fun _ h9 => h9) rfl dX10_tapeNumber_22 ?_
  refine lv_iload_n hx hb dX10_tapeNumber_25 rfl (lv_at hl 2 rfl) ?_
  refine lv_iload_n hx hb dX10_tapeNumber_26 rfl (lv_at hl 0 rfl) ?_
  refine lv_ishr hx hb dX10_tapeNumber_27 ?_
  refine lv_i2b hx hb dX10_tapeNumber_28 rfl ?_
  refine va_bast hx hb hK hP hD hS 1 0 rfl rfl (vin _ _ rfl) dX10_tapeNumber_29 (fun H locs hP hD hS => ?_)
  refine lv_aload_n hx hb dX10_tapeNumber_30 rfl (lv_at hl 1 rfl) ?_
  refine lv_dup hx hb dX10_tapeNumber_31 rfl ?_
  refine va_get (D := (dC, dI)) (ci := 10) (v := .int 3) (C := RX10) (T := TX10) (N := 18) hx hb hts i10 hown hK hP 0 rfl rfl 1 (by decide) w1 (fun _ h9 => h9) rfl dX10_tapeNumber_32 ?_
  refine lv_iconst (v := 1) hx hb dX10_tapeNumber_35 (by decide) ?_
  refine lv_iadd hx hb dX10_tapeNumber_36 ?_
  refine tpv (v := .int 4) rfl ?_
  refine va_put (D := (dC, dI)) (ci := 10) (v := .int 4) (ty := tyX10 1) (C := RX10) (T := TX10) (N := 18) hx hb hts i10 tyX10 tyX10_ok nmX10 hown hK hP hD hS 0 rfl rfl 1 (by decide) w1 (fun _ h9 => h9) rfl (by decide +kernel) rfl rfl (Nat.le_of_ble_eq_true rfl) dX10_tapeNumber_37 (fun H locs hP hD hS => ?_)
  refine lv_iinc (v := (-8)) (lv' := [(2, .int (-8)), (0, .ref (r 0)), (1, .int x1)]) hx hb dX10_tapeNumber_40 hl (k := 0) rfl (by decide) (by decide) rfl (fun ls hl => ?_)
  refine lv_goto (tgt := 3) hx hb dX10_tapeNumber_43 (by decide) ?_
  refine lv_iload_n hx hb dX10_tapeNumber_3 rfl (lv_at hl 0 rfl) ?_
  refine lv_if_lt (tgt := 46) hx hb dX10_tapeNumber_4 (by decide) (fun _ => ?_) (fun c1 => absurd (by decide) c1)
  refine W.widen (k := 0) (n := 0) (by decide) (by decide) ?_
  exact ret_v hx hb hr hlocks hS (u := (fun _ => 0)) (hP.sub [0, 1] rfl) (hD.sub [0, 1] (by decide) rfl) dX10_tapeNumber_46

set_option maxHeartbeats 4000000 in
set_option maxRecDepth 100000 in
theorem k27_X10_tapeNumber (l : Launch) (dC : Nat → ClassId) (dI : Nat → Nat → Nat) (cB cI cJ cZ cO : ClassId) (r : Nat → Nat) (x1 : Int32) (x2 : Int32) : CV l yX10_tapeNumber wsX10_tapeNumber ({ frames := 0, cells := 0, slots := 0, locals := 0 }) (dC, dI) (tyL cB cI cJ cZ cO) [.ref (r 0), .int x2] [((r 0), .inr (10, [.ref (r 1), .int 4, .ref (r 2), .ref (r 18), .ref (r 28), .ref (r 38), .ref (r 45), .ref (r 55), .ref (r 58), .ref (r 61), .ref (r 65), .ref (r 70), .ref (r 75), .int 0, .ref (r 80), .ref (r 86), .int 0, .ref (r 87)])), ((r 1), .inl (cB, 1600, .inl (upd (upd (upd (upd (fun _ => 0) 0 (vp_nar .byte ((x1 >>> (24 &&& 31))).toInt8.toInt32)) 1 (vp_nar .byte ((x1 >>> (16 &&& 31))).toInt8.toInt32)) 2 (vp_nar .byte ((x1 >>> (8 &&& 31))).toInt8.toInt32)) 3 (vp_nar .byte ((x1 >>> (0 &&& 31))).toInt8.toInt32))))] (fun u => [((r 0), .inr (10, [.ref (r 1), .int 8, .ref (r 2), .ref (r 18), .ref (r 28), .ref (r 38), .ref (r 45), .ref (r 55), .ref (r 58), .ref (r 61), .ref (r 65), .ref (r 70), .ref (r 75), .int 0, .ref (r 80), .ref (r 86), .int 0, .ref (r 87)])), ((r 1), .inl (cB, 1600, .inl (upd (upd (upd (upd (upd (upd (upd (upd (fun _ => 0) 0 (vp_nar .byte ((x1 >>> (24 &&& 31))).toInt8.toInt32)) 1 (vp_nar .byte ((x1 >>> (16 &&& 31))).toInt8.toInt32)) 2 (vp_nar .byte ((x1 >>> (8 &&& 31))).toInt8.toInt32)) 3 (vp_nar .byte ((x1 >>> (0 &&& 31))).toInt8.toInt32)) 4 (vp_nar .byte ((x2 >>> (24 &&& 31))).toInt8.toInt32)) 5 (vp_nar .byte ((x2 >>> (16 &&& 31))).toInt8.toInt32)) 6 (vp_nar .byte ((x2 >>> (8 &&& 31))).toInt8.toInt32)) 7 (vp_nar .byte ((x2 >>> (0 &&& 31))).toInt8.toInt32))))]) := by
  intro sz
  refine ct_open (cc := cX10_tapeNumber) (maxL := 3) (ret := none) (by decide) rfl (Nat.le_of_ble_eq_true rfl) ?_
  intro p e s m below meth c ls A hx hb hr hml hts hown hlocks hin hP hK hD hA hS hl
  have hl : lv_has ls 3 [(0, .ref (r 0)), (1, .int x2)] := hl
  have hown : s.vm.findClass RX10 = some m.cls := hown
  have i10 : ∀ w ∈ u_ws RX10 TX10 18, w ∈ wsX10_tapeNumber := fun _ h => List.mem_cons_of_mem _ (List.mem_append_right _ h)
  have w1 := hts (.fieldLink RX10 92 "GuildCharter" "tapeSize" "I") (List.mem_cons_of_mem _ (List.mem_append_left _ (List.mem_of_getElem? (i := 0) rfl)))
  have w2 := hts (.fieldLink RX10 9 "GuildCharter" "tape" "[B") (List.mem_cons_of_mem _ (List.mem_append_left _ (List.mem_of_getElem? (i := 1) rfl)))
  refine lv_bipush (v := 24) hx hb dX10_tapeNumber_0 (by decide) ?_
  refine lv_istore_n (lv' := [(2, .int 24), (0, .ref (r 0)), (1, .int x2)]) hx hb dX10_tapeNumber_2 rfl hl (by decide) rfl (fun ls hl => ?_)
  refine lv_iload_n hx hb dX10_tapeNumber_3 rfl (lv_at hl 0 rfl) ?_
  refine lv_if_lt (tgt := 46) hx hb dX10_tapeNumber_4 (by decide) (fun c1 => absurd c1 (by decide)) (fun _ => ?_)
  refine lv_aload_n hx hb dX10_tapeNumber_7 rfl (lv_at hl 1 rfl) ?_
  refine va_get (D := (dC, dI)) (ci := 10) (v := .int 4) (C := RX10) (T := TX10) (N := 18) hx hb hts i10 hown hK hP 0 rfl rfl 1 (by decide) w1 (fun _ h9 => h9) rfl dX10_tapeNumber_8 ?_
  refine lv_sipush (v := 1600) hx hb dX10_tapeNumber_11 (by decide) ?_
  refine lv_icmp_ge (tgt := 40) hx hb dX10_tapeNumber_14 (by decide) (fun c1 => absurd c1 (by decide)) (fun _ => ?_)
  refine lv_aload_n hx hb dX10_tapeNumber_17 rfl (lv_at hl 1 rfl) ?_
  refine va_get (D := (dC, dI)) (ci := 10) (v := .ref (r 1)) (C := RX10) (T := TX10) (N := 18) hx hb hts i10 hown hK hP 0 rfl rfl 0 (by decide) w2 (fun _ h9 => h9) rfl dX10_tapeNumber_18 ?_
  refine lv_aload_n hx hb dX10_tapeNumber_21 rfl (lv_at hl 1 rfl) ?_
  refine va_get (D := (dC, dI)) (ci := 10) (v := .int 4) (C := RX10) (T := TX10) (N := 18) hx hb hts i10 hown hK hP 0 rfl rfl 1 (by decide) w1 (fun _ h9 => h9) rfl dX10_tapeNumber_22 ?_
  refine lv_iload_n hx hb dX10_tapeNumber_25 rfl (lv_at hl 2 rfl) ?_
  refine lv_iload_n hx hb dX10_tapeNumber_26 rfl (lv_at hl 0 rfl) ?_
  refine lv_ishr hx hb dX10_tapeNumber_27 ?_
  refine lv_i2b hx hb dX10_tapeNumber_28 rfl ?_
  refine va_bast hx hb hK hP hD hS 1 0 rfl rfl (vin _ _ rfl) dX10_tapeNumber_29 (fun H locs hP hD hS => ?_)
  refine lv_aload_n hx hb dX10_tapeNumber_30 rfl (lv_at hl 1 rfl) ?_
  refine lv_dup hx hb dX10_tapeNumber_31 rfl ?_
  refine va_get (D := (dC, dI)) (ci := 10) (v := .int 4) (C := RX10) (T := TX10) (N := 18) hx hb hts i10 hown hK hP 0 rfl rfl 1 (by decide) w1 (fun _ h9 => h9) rfl dX10_tapeNumber_32 ?_
  refine lv_iconst (v := 1) hx hb dX10_tapeNumber_35 (by decide) ?_
  refine lv_iadd hx hb dX10_tapeNumber_36 ?_
  refine tpv (v := .int 5) rfl ?_
  refine va_put (D := (dC, dI)) (ci := 10) (v := .int 5) (ty := tyX10 1) (C := RX10) (T := TX10) (N := 18) hx hb hts i10 tyX10 tyX10_ok nmX10 hown hK hP hD hS 0 rfl rfl 1 (by decide) w1 (fun _ h9 => h9) rfl (by decide +kernel) rfl rfl (Nat.le_of_ble_eq_true rfl) dX10_tapeNumber_37 (fun H locs hP hD hS => ?_)
  refine lv_iinc (v := 16) (lv' := [(2, .int 16), (0, .ref (r 0)), (1, .int x2)]) hx hb dX10_tapeNumber_40 hl (k := 0) rfl (by decide) (by decide) rfl (fun ls hl => ?_)
  refine lv_goto (tgt := 3) hx hb dX10_tapeNumber_43 (by decide) ?_
  refine lv_iload_n hx hb dX10_tapeNumber_3 rfl (lv_at hl 0 rfl) ?_
  refine lv_if_lt (tgt := 46) hx hb dX10_tapeNumber_4 (by decide) (fun c1 => absurd c1 (by decide)) (fun _ => ?_)
  refine lv_aload_n hx hb dX10_tapeNumber_7 rfl (lv_at hl 1 rfl) ?_
  refine va_get (D := (dC, dI)) (ci := 10) (v := .int 5) (C := RX10) (T := TX10) (N := 18) hx hb hts i10 hown hK hP 0 rfl rfl 1 (by decide) w1 (fun _ h9 => h9) rfl dX10_tapeNumber_8 ?_
  refine lv_sipush (v := 1600) hx hb dX10_tapeNumber_11 (by decide) ?_
  refine lv_icmp_ge (tgt := 40) hx hb dX10_tapeNumber_14 (by decide) (fun c1 => absurd c1 (by decide)) (fun _ => ?_)
  refine lv_aload_n hx hb dX10_tapeNumber_17 rfl (lv_at hl 1 rfl) ?_
  refine va_get (D := (dC, dI)) (ci := 10) (v := .ref (r 1)) (C := RX10) (T := TX10) (N := 18) hx hb hts i10 hown hK hP 0 rfl rfl 0 (by decide) w2 (fun _ h9 => h9) rfl dX10_tapeNumber_18 ?_
  refine lv_aload_n hx hb dX10_tapeNumber_21 rfl (lv_at hl 1 rfl) ?_
  refine va_get (D := (dC, dI)) (ci := 10) (v := .int 5) (C := RX10) (T := TX10) (N := 18) hx hb hts i10 hown hK hP 0 rfl rfl 1 (by decide) w1 (fun _ h9 => h9) rfl dX10_tapeNumber_22 ?_
  refine lv_iload_n hx hb dX10_tapeNumber_25 rfl (lv_at hl 2 rfl) ?_
  refine lv_iload_n hx hb dX10_tapeNumber_26 rfl (lv_at hl 0 rfl) ?_
  refine lv_ishr hx hb dX10_tapeNumber_27 ?_
  refine lv_i2b hx hb dX10_tapeNumber_28 rfl ?_
  refine va_bast hx hb hK hP hD hS 1 0 rfl rfl (vin _ _ rfl) dX10_tapeNumber_29 (fun H locs hP hD hS => ?_)
  refine lv_aload_n hx hb dX10_tapeNumber_30 rfl (lv_at hl 1 rfl) ?_
  refine lv_dup hx hb dX10_tapeNumber_31 rfl ?_
  refine va_get (D := (dC, dI)) (ci := 10) (v := .int 5) (C := RX10) (T := TX10) (N := 18) hx hb hts i10 hown hK hP 0 rfl rfl 1 (by decide) w1 (fun _ h9 => h9) rfl dX10_tapeNumber_32 ?_
  refine lv_iconst (v := 1) hx hb dX10_tapeNumber_35 (by decide) ?_
  refine lv_iadd hx hb dX10_tapeNumber_36 ?_
  refine tpv (v := .int 6) rfl ?_
  refine va_put (D := (dC, dI)) (ci := 10) (v := .int 6) (ty := tyX10 1) (C := RX10) (T := TX10) (N := 18) hx hb hts i10 tyX10 tyX10_ok nmX10 hown hK hP hD hS 0 rfl rfl 1 (by decide) w1 (fun _ h9 => h9) rfl (by decide +kernel) rfl rfl (Nat.le_of_ble_eq_true rfl) dX10_tapeNumber_37 (fun H locs hP hD hS => ?_)
  refine lv_iinc (v := 8) (lv' := [(2, .int 8), (0, .ref (r 0)), (1, .int x2)]) hx hb dX10_tapeNumber_40 hl (k := 0) rfl (by decide) (by decide) rfl (fun ls hl => ?_)
  refine lv_goto (tgt := 3) hx hb dX10_tapeNumber_43 (by decide) ?_
  refine lv_iload_n hx hb dX10_tapeNumber_3 rfl (lv_at hl 0 rfl) ?_
  refine lv_if_lt (tgt := 46) hx hb dX10_tapeNumber_4 (by decide) (fun c1 => absurd c1 (by decide)) (fun _ => ?_)
  refine lv_aload_n hx hb dX10_tapeNumber_7 rfl (lv_at hl 1 rfl) ?_
  refine va_get (D := (dC, dI)) (ci := 10) (v := .int 6) (C := RX10) (T := TX10) (N := 18) hx hb hts i10 hown hK hP 0 rfl rfl 1 (by decide) w1 (fun _ h9 => h9) rfl dX10_tapeNumber_8 ?_
  refine lv_sipush (v := 1600) hx hb dX10_tapeNumber_11 (by decide) ?_
  refine lv_icmp_ge (tgt := 40) hx hb dX10_tapeNumber_14 (by decide) (fun c1 => absurd c1 (by decide)) (fun _ => ?_)
  refine lv_aload_n hx hb dX10_tapeNumber_17 rfl (lv_at hl 1 rfl) ?_
  refine va_get (D := (dC, dI)) (ci := 10) (v := .ref (r 1)) (C := RX10) (T := TX10) (N := 18) hx hb hts i10 hown hK hP 0 rfl rfl 0 (by decide) w2 (fun _ h9 => h9) rfl dX10_tapeNumber_18 ?_
  refine lv_aload_n hx hb dX10_tapeNumber_21 rfl (lv_at hl 1 rfl) ?_
  refine va_get (D := (dC, dI)) (ci := 10) (v := .int 6) (C := RX10) (T := TX10) (N := 18) hx hb hts i10 hown hK hP 0 rfl rfl 1 (by decide) w1 (fun _ h9 => h9) rfl dX10_tapeNumber_22 ?_
  refine lv_iload_n hx hb dX10_tapeNumber_25 rfl (lv_at hl 2 rfl) ?_
  refine lv_iload_n hx hb dX10_tapeNumber_26 rfl (lv_at hl 0 rfl) ?_
  refine lv_ishr hx hb dX10_tapeNumber_27 ?_
  refine lv_i2b hx hb dX10_tapeNumber_28 rfl ?_
  refine va_bast hx hb hK hP hD hS 1 0 rfl rfl (vin _ _ rfl) dX10_tapeNumber_29 (fun H locs hP hD hS => ?_)
  refine lv_aload_n hx hb dX10_tapeNumber_30 rfl (lv_at hl 1 rfl) ?_
  refine lv_dup hx hb dX10_tapeNumber_31 rfl ?_
  refine va_get (D := (dC, dI)) (ci := 10) (v := .int 6) (C := RX10) (T := TX10) (N := 18) hx hb hts i10 hown hK hP 0 rfl rfl 1 (by decide) w1 (fun _ h9 => h9) rfl dX10_tapeNumber_32 ?_
  refine lv_iconst (v := 1) hx hb dX10_tapeNumber_35 (by decide) ?_
  refine lv_iadd hx hb dX10_tapeNumber_36 ?_
  refine tpv (v := .int 7) rfl ?_
  refine va_put (D := (dC, dI)) (ci := 10) (v := .int 7) (ty := tyX10 1) (C := RX10) (T := TX10) (N := 18) hx hb hts i10 tyX10 tyX10_ok nmX10 hown hK hP hD hS 0 rfl rfl 1 (by decide) w1 (fun _ h9 => h9) rfl (by decide +kernel) rfl rfl (Nat.le_of_ble_eq_true rfl) dX10_tapeNumber_37 (fun H locs hP hD hS => ?_)
  refine lv_iinc (v := 0) (lv' := [(2, .int 0), (0, .ref (r 0)), (1, .int x2)]) hx hb dX10_tapeNumber_40 hl (k := 0) rfl (by decide) (by decide) rfl (fun ls hl => ?_)
  refine lv_goto (tgt := 3) hx hb dX10_tapeNumber_43 (by decide) ?_
  refine lv_iload_n hx hb dX10_tapeNumber_3 rfl (lv_at hl 0 rfl) ?_
  refine lv_if_lt (tgt := 46) hx hb dX10_tapeNumber_4 (by decide) (fun c1 => absurd c1 (by decide)) (fun _ => ?_)
  refine lv_aload_n hx hb dX10_tapeNumber_7 rfl (lv_at hl 1 rfl) ?_
  refine va_get (D := (dC, dI)) (ci := 10) (v := .int 7) (C := RX10) (T := TX10) (N := 18) hx hb hts i10 hown hK hP 0 rfl rfl 1 (by decide) w1 (fun _ h9 => h9) rfl dX10_tapeNumber_8 ?_
  refine lv_sipush (v := 1600) hx hb dX10_tapeNumber_11 (by decide) ?_
  refine lv_icmp_ge (tgt := 40) hx hb dX10_tapeNumber_14 (by decide) (fun c1 => absurd c1 (by decide)) (fun _ => ?_)
  refine lv_aload_n hx hb dX10_tapeNumber_17 rfl (lv_at hl 1 rfl) ?_
  refine va_get (D := (dC, dI)) (ci := 10) (v := .ref (r 1)) (C := RX10) (T := TX10) (N := 18) hx hb hts i10 hown hK hP 0 rfl rfl 0 (by decide) w2 (fun _ h9 => h9) rfl dX10_tapeNumber_18 ?_
  refine lv_aload_n hx hb dX10_tapeNumber_21 rfl (lv_at hl 1 rfl) ?_
  refine va_get (D := (dC, dI)) (ci := 10) (v := .int 7) (C := RX10) (T := TX10) (N := 18) hx hb hts i10 hown hK hP 0 rfl rfl 1 (by decide) w1 (fun _ h9 => h9) rfl dX10_tapeNumber_22 ?_
  refine lv_iload_n hx hb dX10_tapeNumber_25 rfl (lv_at hl 2 rfl) ?_
  refine lv_iload_n hx hb dX10_tapeNumber_26 rfl (lv_at hl 0 rfl) ?_
  refine lv_ishr hx hb dX10_tapeNumber_27 ?_
  refine lv_i2b hx hb dX10_tapeNumber_28 rfl ?_
  refine va_bast hx hb hK hP hD hS 1 0 rfl rfl (vin _ _ rfl) dX10_tapeNumber_29 (fun H locs hP hD hS => ?_)
  refine lv_aload_n hx hb dX10_tapeNumber_30 rfl (lv_at hl 1 rfl) ?_
  refine lv_dup hx hb dX10_tapeNumber_31 rfl ?_
  refine va_get (D := (dC, dI)) (ci := 10) (v := .int 7) (C := RX10) (T := TX10) (N := 18) hx hb hts i10 hown hK hP 0 rfl rfl 1 (by decide) w1 (fun _ h9 => h9) rfl dX10_tapeNumber_32 ?_
  refine lv_iconst (v := 1) hx hb dX10_tapeNumber_35 (by decide) ?_
  refine lv_iadd hx hb dX10_tapeNumber_36 ?_
  refine tpv (v := .int 8) rfl ?_
  refine va_put (D := (dC, dI)) (ci := 10) (v := .int 8) (ty := tyX10 1) (C := RX10) (T := TX10) (N := 18) hx hb hts i10 tyX10 tyX10_ok nmX10 hown hK hP hD hS 0 rfl rfl 1 (by decide) w1 (fun _ h9 => h9) rfl (by decide +kernel) rfl rfl (Nat.le_of_ble_eq_true rfl) dX10_tapeNumber_37 (fun H locs hP hD hS => ?_)
  refine lv_iinc (v := (-8)) (lv' := [(2, .int (-8)), (0, .ref (r 0)), (1, .int x2)]) hx hb dX10_tapeNumber_40 hl (k := 0) rfl (by decide) (by decide) rfl (fun ls hl => ?_)
  refine lv_goto (tgt := 3) hx hb dX10_tapeNumber_43 (by decide) ?_
  refine lv_iload_n hx hb dX10_tapeNumber_3 rfl (lv_at hl 0 rfl) ?_
  refine lv_if_lt (tgt := 46) hx hb dX10_tapeNumber_4 (by decide) (fun _ => ?_) (fun c1 => absurd (by decide) c1)
  refine W.widen (k := 0) (n := 0) (by decide) (by decide) ?_
  exact ret_v hx hb hr hlocks hS (u := (fun _ => 0)) (hP.sub [0, 1] rfl) (hD.sub [0, 1] (by decide) rfl) dX10_tapeNumber_46

set_option maxHeartbeats 4000000 in
set_option maxRecDepth 100000 in
theorem k28_X10_tapeNumber (l : Launch) (dC : Nat → ClassId) (dI : Nat → Nat → Nat) (cB cI cJ cZ cO : ClassId) (r : Nat → Nat) (x1 : Int32) (x2 : Int32) (x3 : Int32) : CV l yX10_tapeNumber wsX10_tapeNumber ({ frames := 0, cells := 0, slots := 0, locals := 0 }) (dC, dI) (tyL cB cI cJ cZ cO) [.ref (r 0), .int x3] [((r 0), .inr (10, [.ref (r 1), .int 8, .ref (r 2), .ref (r 18), .ref (r 28), .ref (r 38), .ref (r 45), .ref (r 55), .ref (r 58), .ref (r 61), .ref (r 65), .ref (r 70), .ref (r 75), .int 0, .ref (r 80), .ref (r 86), .int 0, .ref (r 87)])), ((r 1), .inl (cB, 1600, .inl (upd (upd (upd (upd (upd (upd (upd (upd (fun _ => 0) 0 (vp_nar .byte ((x1 >>> (24 &&& 31))).toInt8.toInt32)) 1 (vp_nar .byte ((x1 >>> (16 &&& 31))).toInt8.toInt32)) 2 (vp_nar .byte ((x1 >>> (8 &&& 31))).toInt8.toInt32)) 3 (vp_nar .byte ((x1 >>> (0 &&& 31))).toInt8.toInt32)) 4 (vp_nar .byte ((x2 >>> (24 &&& 31))).toInt8.toInt32)) 5 (vp_nar .byte ((x2 >>> (16 &&& 31))).toInt8.toInt32)) 6 (vp_nar .byte ((x2 >>> (8 &&& 31))).toInt8.toInt32)) 7 (vp_nar .byte ((x2 >>> (0 &&& 31))).toInt8.toInt32))))] (fun u => [((r 0), .inr (10, [.ref (r 1), .int 12, .ref (r 2), .ref (r 18), .ref (r 28), .ref (r 38), .ref (r 45), .ref (r 55), .ref (r 58), .ref (r 61), .ref (r 65), .ref (r 70), .ref (r 75), .int 0, .ref (r 80), .ref (r 86), .int 0, .ref (r 87)])), ((r 1), .inl (cB, 1600, .inl (upd (upd (upd (upd (upd (upd (upd (upd (upd (upd (upd (upd (fun _ => 0) 0 (vp_nar .byte ((x1 >>> (24 &&& 31))).toInt8.toInt32)) 1 (vp_nar .byte ((x1 >>> (16 &&& 31))).toInt8.toInt32)) 2 (vp_nar .byte ((x1 >>> (8 &&& 31))).toInt8.toInt32)) 3 (vp_nar .byte ((x1 >>> (0 &&& 31))).toInt8.toInt32)) 4 (vp_nar .byte ((x2 >>> (24 &&& 31))).toInt8.toInt32)) 5 (vp_nar .byte ((x2 >>> (16 &&& 31))).toInt8.toInt32)) 6 (vp_nar .byte ((x2 >>> (8 &&& 31))).toInt8.toInt32)) 7 (vp_nar .byte ((x2 >>> (0 &&& 31))).toInt8.toInt32)) 8 (vp_nar .byte ((x3 >>> (24 &&& 31))).toInt8.toInt32)) 9 (vp_nar .byte ((x3 >>> (16 &&& 31))).toInt8.toInt32)) 10 (vp_nar .byte ((x3 >>> (8 &&& 31))).toInt8.toInt32)) 11 (vp_nar .byte ((x3 >>> (0 &&& 31))).toInt8.toInt32))))]) := by
  intro sz
  refine ct_open (cc := cX10_tapeNumber) (maxL := 3) (ret := none) (by decide) rfl (Nat.le_of_ble_eq_true rfl) ?_
  intro p e s m below meth c ls A hx hb hr hml hts hown hlocks hin hP hK hD hA hS hl
  have hl : lv_has ls 3 [(0, .ref (r 0)), (1, .int x3)] := hl
  have hown : s.vm.findClass RX10 = some m.cls := hown
  have i10 : ∀ w ∈ u_ws RX10 TX10 18, w ∈ wsX10_tapeNumber := fun _ h => List.mem_cons_of_mem _ (List.mem_append_right _ h)
  have w1 := hts (.fieldLink RX10 92 "GuildCharter" "tapeSize" "I") (List.mem_cons_of_mem _ (List.mem_append_left _ (List.mem_of_getElem? (i := 0) rfl)))
  have w2 := hts (.fieldLink RX10 9 "GuildCharter" "tape" "[B") (List.mem_cons_of_mem _ (List.mem_append_left _ (List.mem_of_getElem? (i := 1) rfl)))
  refine lv_bipush (v := 24) hx hb dX10_tapeNumber_0 (by decide) ?_
  refine lv_istore_n (lv' := [(2, .int 24), (0, .ref (r 0)), (1, .int x3)]) hx hb dX10_tapeNumber_2 rfl hl (by decide) rfl (fun ls hl => ?_)
  refine lv_iload_n hx hb dX10_tapeNumber_3 rfl (lv_at hl 0 rfl) ?_
  refine lv_if_lt (tgt := 46) hx hb dX10_tapeNumber_4 (by decide) (fun c1 => absurd c1 (by decide)) (fun _ => ?_)
  refine lv_aload_n hx hb dX10_tapeNumber_7 rfl (lv_at hl 1 rfl) ?_
  refine va_get (D := (dC, dI)) (ci := 10) (v := .int 8) (C := RX10) (T := TX10) (N := 18) hx hb hts i10 hown hK hP 0 rfl rfl 1 (by decide) w1 (fun _ h9 => h9) rfl dX10_tapeNumber_8 ?_
  refine lv_sipush (v := 1600) hx hb dX10_tapeNumber_11 (by decide) ?_
  refine lv_icmp_ge (tgt := 40) hx hb dX10_tapeNumber_14 (by decide) (fun c1 => absurd c1 (by decide)) (fun _ => ?_)
  refine lv_aload_n hx hb dX10_tapeNumber_17 rfl (lv_at hl 1 rfl) ?_
  refine va_get (D := (dC, dI)) (ci := 10) (v := .ref (r 1)) (C := RX10) (T := TX10) (N := 18) hx hb hts i10 hown hK hP 0 rfl rfl 0 (by decide) w2 (fun _ h9 => h9) rfl dX10_tapeNumber_18 ?_
  refine lv_aload_n hx hb dX10_tapeNumber_21 rfl (lv_at hl 1 rfl) ?_
  refine va_get (D := (dC, dI)) (ci := 10) (v := .int 8) (C := RX10) (T := TX10) (N := 18) hx hb hts i10 hown hK hP 0 rfl rfl 1 (by decide) w1 (fun _ h9 => h9) rfl dX10_tapeNumber_22 ?_
  refine lv_iload_n hx hb dX10_tapeNumber_25 rfl (lv_at hl 2 rfl) ?_
  refine lv_iload_n hx hb dX10_tapeNumber_26 rfl (lv_at hl 0 rfl) ?_
  refine lv_ishr hx hb dX10_tapeNumber_27 ?_
  refine lv_i2b hx hb dX10_tapeNumber_28 rfl ?_
  refine va_bast hx hb hK hP hD hS 1 0 rfl rfl (vin _ _ rfl) dX10_tapeNumber_29 (fun H locs hP hD hS => ?_)
  refine lv_aload_n hx hb dX10_tapeNumber_30 rfl (lv_at hl 1 rfl) ?_
  refine lv_dup hx hb dX10_tapeNumber_31 rfl ?_
  refine va_get (D := (dC, dI)) (ci := 10) (v := .int 8) (C := RX10) (T := TX10) (N := 18) hx hb hts i10 hown hK hP 0 rfl rfl 1 (by decide) w1 (fun _ h9 => h9) rfl dX10_tapeNumber_32 ?_
  refine lv_iconst (v := 1) hx hb dX10_tapeNumber_35 (by decide) ?_
  refine lv_iadd hx hb dX10_tapeNumber_36 ?_
  refine tpv (v := .int 9) rfl ?_
  refine va_put (D := (dC, dI)) (ci := 10) (v := .int 9) (ty := tyX10 1) (C := RX10) (T := TX10) (N := 18) hx hb hts i10 tyX10 tyX10_ok nmX10 hown hK hP hD hS 0 rfl rfl 1 (by decide) w1 (fun _ h9 => h9) rfl (by decide +kernel) rfl rfl (Nat.le_of_ble_eq_true rfl) dX10_tapeNumber_37 (fun H locs hP hD hS => ?_)
  refine lv_iinc (v := 16) (lv' := [(2, .int 16), (0, .ref (r 0)), (1, .int x3)]) hx hb dX10_tapeNumber_40 hl (k := 0) rfl (by decide) (by decide) rfl (fun ls hl => ?_)
  refine lv_goto (tgt := 3) hx hb dX10_tapeNumber_43 (by decide) ?_
  refine lv_iload_n hx hb dX10_tapeNumber_3 rfl (lv_at hl 0 rfl) ?_
  refine lv_if_lt (tgt := 46) hx hb dX10_tapeNumber_4 (by decide) (fun c1 => absurd c1 (by decide)) (fun _ => ?_)
  refine lv_aload_n hx hb dX10_tapeNumber_7 rfl (lv_at hl 1 rfl) ?_
  refine va_get (D := (dC, dI)) (ci := 10) (v := .int 9) (C := RX10) (T := TX10) (N := 18) hx hb hts i10 hown hK hP 0 rfl rfl 1 (by decide) w1 (fun _ h9 => h9) rfl dX10_tapeNumber_8 ?_
  refine lv_sipush (v := 1600) hx hb dX10_tapeNumber_11 (by decide) ?_
  refine lv_icmp_ge (tgt := 40) hx hb dX10_tapeNumber_14 (by decide) (fun c1 => absurd c1 (by decide)) (fun _ => ?_)
  refine lv_aload_n hx hb dX10_tapeNumber_17 rfl (lv_at hl 1 rfl) ?_
  refine va_get (D := (dC, dI)) (ci := 10) (v := .ref (r 1)) (C := RX10) (T := TX10) (N := 18) hx hb hts i10 hown hK hP 0 rfl rfl 0 (by decide) w2 (fun _ h9 => h9) rfl dX10_tapeNumber_18 ?_
  refine lv_aload_n hx hb dX10_tapeNumber_21 rfl (lv_at hl 1 rfl) ?_
  refine va_get (D := (dC, dI)) (ci := 10) (v := .int 9) (C := RX10) (T := TX10) (N := 18) hx hb hts i10 hown hK hP 0 rfl rfl 1 (by decide) w1 (fun _ h9 => h9) rfl dX10_tapeNumber_22 ?_
  refine lv_iload_n hx hb dX10_tapeNumber_25 rfl (lv_at hl 2 rfl) ?_
  refine lv_iload_n hx hb dX10_tapeNumber_26 rfl (lv_at hl 0 rfl) ?_
  refine lv_ishr hx hb dX10_tapeNumber_27 ?_
  refine lv_i2b hx hb dX10_tapeNumber_28 rfl ?_
  refine va_bast hx hb hK hP hD hS 1 0 rfl rfl (vin _ _ rfl) dX10_tapeNumber_29 (fun H locs hP hD hS => ?_)
  refine lv_aload_n hx hb dX10_tapeNumber_30 rfl (lv_at hl 1 rfl) ?_
  refine lv_dup hx hb dX10_tapeNumber_31 rfl ?_
  refine va_get (D := (dC, dI)) (ci := 10) (v := .int 9) (C := RX10) (T := TX10) (N := 18) hx hb hts i10 hown hK hP 0 rfl rfl 1 (by decide) w1 (fun _ h9 => h9) rfl dX10_tapeNumber_32 ?_
  refine lv_iconst (v := 1) hx hb dX10_tapeNumber_35 (by decide) ?_
  refine lv_iadd hx hb dX10_tapeNumber_36 ?_
  refine tpv (v := .int 10) rfl ?_
  refine va_put (D := (dC, dI)) (ci := 10) (v := .int 10) (ty := tyX10 1) (C := RX10) (T := TX10) (N := 18) hx hb hts i10 tyX10 tyX10_ok nmX10 hown hK hP hD hS 0 rfl rfl 1 (by decide) w1 (fun _ h9 => h9) rfl (by decide +kernel) rfl rfl (Nat.le_of_ble_eq_true rfl) dX10_tapeNumber_37 (fun H locs hP hD hS => ?_)
  refine lv_iinc (v := 8) (lv' := [(2, .int 8), (0, .ref (r 0)), (1, .int x3)]) hx hb dX10_tapeNumber_40 hl (k := 0) rfl (by decide) (by decide) rfl (fun ls hl => ?_)
  refine lv_goto (tgt := 3) hx hb dX10_tapeNumber_43 (by decide) ?_
  refine lv_iload_n hx hb dX10_tapeNumber_3 rfl (lv_at hl 0 rfl) ?_
  refine lv_if_lt (tgt := 46) hx hb dX10_tapeNumber_4 (by decide) (fun c1 => absurd c1 (by decide)) (fun _ => ?_)
  refine lv_aload_n hx hb dX10_tapeNumber_7 rfl (lv_at hl 1 rfl) ?_
  refine va_get (D := (dC, dI)) (ci := 10) (v := .int 10) (C := RX10) (T := TX10) (N := 18) hx hb hts i10 hown hK hP 0 rfl rfl 1 (by decide) w1 (fun _ h9 => h9) rfl dX10_tapeNumber_8 ?_
  refine lv_sipush (v := 1600) hx hb dX10_tapeNumber_11 (by decide) ?_
  refine lv_icmp_ge (tgt := 40) hx hb dX10_tapeNumber_14 (by decide) (fun c1 => absurd c1 (by decide)) (fun _ => ?_)
  refine lv_aload_n hx hb dX10_tapeNumber_17 rfl (lv_at hl 1 rfl) ?_
  refine va_get (D := (dC, dI)) (ci := 10) (v := .ref (r 1)) (C := RX10) (T := TX10) (N := 18) hx hb hts i10 hown hK hP 0 rfl rfl 0 (by decide) w2 (fun _ h9 => h9) rfl dX10_tapeNumber_18 ?_
  refine lv_aload_n hx hb dX10_tapeNumber_21 rfl (lv_at hl 1 rfl) ?_
  refine va_get (D := (dC, dI)) (ci := 10) (v := .int 10) (C := RX10) (T := TX10) (N := 18) hx hb hts i10 hown hK hP 0 rfl rfl 1 (by decide) w1 (fun _ h9 => h9) rfl dX10_tapeNumber_22 ?_
  refine lv_iload_n hx hb dX10_tapeNumber_25 rfl (lv_at hl 2 rfl) ?_
  refine lv_iload_n hx hb dX10_tapeNumber_26 rfl (lv_at hl 0 rfl) ?_
  refine lv_ishr hx hb dX10_tapeNumber_27 ?_
  refine lv_i2b hx hb dX10_tapeNumber_28 rfl ?_
  refine va_bast hx hb hK hP hD hS 1 0 rfl rfl (vin _ _ rfl) dX10_tapeNumber_29 (fun H locs hP hD hS => ?_)
  refine lv_aload_n hx hb dX10_tapeNumber_30 rfl (lv_at hl 1 rfl) ?_
  refine lv_dup hx hb dX10_tapeNumber_31 rfl ?_
  refine va_get (D := (dC, dI)) (ci := 10) (v := .int 10) (C := RX10) (T := TX10) (N := 18) hx hb hts i10 hown hK hP 0 rfl rfl 1 (by decide) w1 (fun _ h9 => h9) rfl dX10_tapeNumber_32 ?_
  refine lv_iconst (v := 1) hx hb dX10_tapeNumber_35 (by decide) ?_
  refine lv_iadd hx hb dX10_tapeNumber_36 ?_
  refine tpv (v := .int 11) rfl ?_
  refine va_put (D := (dC, dI)) (ci := 10) (v := .int 11) (ty := tyX10 1) (C := RX10) (T := TX10) (N := 18) hx hb hts i10 tyX10 tyX10_ok nmX10 hown hK hP hD hS 0 rfl rfl 1 (by decide) w1 (fun _ h9 => h9) rfl (by decide +kernel) rfl rfl (Nat.le_of_ble_eq_true rfl) dX10_tapeNumber_37 (fun H locs hP hD hS => ?_)
  refine lv_iinc (v := 0) (lv' := [(2, .int 0), (0, .ref (r 0)), (1, .int x3)]) hx hb dX10_tapeNumber_40 hl (k := 0) rfl (by decide) (by decide) rfl (fun ls hl => ?_)
  refine lv_goto (tgt := 3) hx hb dX10_tapeNumber_43 (by decide) ?_
  refine lv_iload_n hx hb dX10_tapeNumber_3 rfl (lv_at hl 0 rfl) ?_
  refine lv_if_lt (tgt := 46) hx hb dX10_tapeNumber_4 (by decide) (fun c1 => absurd c1 (by decide)) (fun _ => ?_)
  refine lv_aload_n hx hb dX10_tapeNumber_7 rfl (lv_at hl 1 rfl) ?_
  refine va_get (D := (dC, dI)) (ci := 10) (v := .int 11) (C := RX10) (T := TX10) (N := 18) hx hb hts i10 hown hK hP 0 rfl rfl 1 (by decide) w1 (fun _ h9 => h9) rfl dX10_tapeNumber_8 ?_
  refine lv_sipush (v := 1600) hx hb dX10_tapeNumber_11 (by decide) ?_
  refine lv_icmp_ge (tgt := 40) hx hb dX10_tapeNumber_14 (by decide) (fun c1 => absurd c1 (by decide)) (fun _ => ?_)
  refine lv_aload_n hx hb dX10_tapeNumber_17 rfl (lv_at hl 1 rfl) ?_
  refine va_get (D := (dC, dI)) (ci := 10) (v := .ref (r 1)) (C := RX10) (T := TX10) (N := 18) hx hb hts i10 hown hK hP 0 rfl rfl 0 (by decide) w2 (fun _ h9 => h9) rfl dX10_tapeNumber_18 ?_
  refine lv_aload_n hx hb dX10_tapeNumber_21 rfl (lv_at hl 1 rfl) ?_
  refine va_get (D := (dC, dI)) (ci := 10) (v := .int 11) (C := RX10) (T := TX10) (N := 18) hx hb hts i10 hown hK hP 0 rfl rfl 1 (by decide) w1 (fun _ h9 => h9) rfl dX10_tapeNumber_22 ?_
  refine lv_iload_n hx hb dX10_tapeNumber_25 rfl (lv_at hl 2 rfl) ?_
  refine lv_iload_n hx hb dX10_tapeNumber_26 rfl (lv_at hl 0 rfl) ?_
  refine lv_ishr hx hb dX10_tapeNumber_27 ?_
  refine lv_i2b hx hb dX10_tapeNumber_28 rfl ?_
  refine va_bast hx hb hK hP hD hS 1 0 rfl rfl (vin _ _ rfl) dX10_tapeNumber_29 (fun H locs hP hD hS => ?_)
  refine lv_aload_n hx hb dX10_tapeNumber_30 rfl (lv_at hl 1 rfl) ?_
  refine lv_dup hx hb dX10_tapeNumber_31 rfl ?_
  refine va_get (D := (dC, dI)) (ci := 10) (v := .int 11) (C := RX10) (T := TX10) (N := 18) hx hb hts i10 hown hK hP 0 rfl rfl 1 (by decide) w1 (fun _ h9 => h9) rfl dX10_tapeNumber_32 ?_
  refine lv_iconst (v := 1) hx hb dX10_tapeNumber_35 (by decide) ?_
  refine lv_iadd hx hb dX10_tapeNumber_36 ?_
  refine tpv (v := .int 12) rfl ?_
  refine va_put (D := (dC, dI)) (ci := 10) (v := .int 12) (ty := tyX10 1) (C := RX10) (T := TX10) (N := 18) hx hb hts i10 tyX10 tyX10_ok nmX10 hown hK hP hD hS 0 rfl rfl 1 (by decide) w1 (fun _ h9 => h9) rfl (by decide +kernel) rfl rfl (Nat.le_of_ble_eq_true rfl) dX10_tapeNumber_37 (fun H locs hP hD hS => ?_)
  refine lv_iinc (v := (-8)) (lv' := [(2, .int (-8)), (0, .ref (r 0)), (1, .int x3)]) hx hb dX10_tapeNumber_40 hl (k := 0) rfl (by decide) (by decide) rfl (fun ls hl => ?_)
  refine lv_goto (tgt := 3) hx hb dX10_tapeNumber_43 (by decide) ?_
  refine lv_iload_n hx hb dX10_tapeNumber_3 rfl (lv_at hl 0 rfl) ?_
  refine lv_if_lt (tgt := 46) hx hb dX10_tapeNumber_4 (by decide) (fun _ => ?_) (fun c1 => absurd (by decide) c1)
  refine W.widen (k := 0) (n := 0) (by decide) (by decide) ?_
  exact ret_v hx hb hr hlocks hS (u := (fun _ => 0)) (hP.sub [0, 1] rfl) (hD.sub [0, 1] (by decide) rfl) dX10_tapeNumber_46

set_option maxHeartbeats 4000000 in
set_option maxRecDepth 100000 in
theorem k29_X10_tapeNumber (l : Launch) (dC : Nat → ClassId) (dI : Nat → Nat → Nat) (cB cI cJ cZ cO : ClassId) (r : Nat → Nat) (x1 : Int32) (x2 : Int32) (x3 : Int32) (x4 : Int32) : CV l yX10_tapeNumber wsX10_tapeNumber ({ frames := 0, cells := 0, slots := 0, locals := 0 }) (dC, dI) (tyL cB cI cJ cZ cO) [.ref (r 0), .int x4] [((r 0), .inr (10, [.ref (r 1), .int 12, .ref (r 2), .ref (r 18), .ref (r 28), .ref (r 38), .ref (r 45), .ref (r 55), .ref (r 58), .ref (r 61), .ref (r 65), .ref (r 70), .ref (r 75), .int 0, .ref (r 80), .ref (r 86), .int 0, .ref (r 87)])), ((r 1), .inl (cB, 1600, .inl (upd (upd (upd (upd (upd (upd (upd (upd (upd (upd (upd (upd (fun _ => 0) 0 (vp_nar .byte ((x1 >>> (24 &&& 31))).toInt8.toInt32)) 1 (vp_nar .byte ((x1 >>> (16 &&& 31))).toInt8.toInt32)) 2 (vp_nar .byte ((x1 >>> (8 &&& 31))).toInt8.toInt32)) 3 (vp_nar .byte ((x1 >>> (0 &&& 31))).toInt8.toInt32)) 4 (vp_nar .byte ((x2 >>> (24 &&& 31))).toInt8.toInt32)) 5 (vp_nar .byte ((x2 >>> (16 &&& 31))).toInt8.toInt32)) 6 (vp_nar .byte ((x2 >>> (8 &&& 31))).toInt8.toInt32)) 7 (vp_nar .byte ((x2 >>> (0 &&& 31))).toInt8.toInt32)) 8 (vp_nar .byte ((x3 >>> (24 &&& 31))).toInt8.toInt32)) 9 (vp_nar .byte ((x3 >>> (16 &&& 31))).toInt8.toInt32)) 10 (vp_nar .byte ((x3 >>> (8 &&& 31))).toInt8.toInt32)) 11 (vp_nar .byte ((x3 >>> (0 &&& 31))).toInt8.toInt32))))] (fun u => [((r 0), .inr (10, [.ref (r 1), .int 16, .ref (r 2), .ref (r 18), .ref (r 28), .ref (r 38), .ref (r 45), .ref (r 55), .ref (r 58), .ref (r 61), .ref (r 65), .ref (r 70), .ref (r 75), .int 0, .ref (r 80), .ref (r 86), .int 0, .ref (r 87)])), ((r 1), .inl (cB, 1600, .inl (upd (upd (upd (upd (upd (upd (upd (upd (upd (upd (upd (upd (upd (upd (upd (upd (fun _ => 0) 0 (vp_nar .byte ((x1 >>> (24 &&& 31))).toInt8.toInt32)) 1 (vp_nar .byte ((x1 >>> (16 &&& 31))).toInt8.toInt32)) 2 (vp_nar .byte ((x1 >>> (8 &&& 31))).toInt8.toInt32)) 3 (vp_nar .byte ((x1 >>> (0 &&& 31))).toInt8.toInt32)) 4 (vp_nar .byte ((x2 >>> (24 &&& 31))).toInt8.toInt32)) 5 (vp_nar .byte ((x2 >>> (16 &&& 31))).toInt8.toInt32)) 6 (vp_nar .byte ((x2 >>> (8 &&& 31))).toInt8.toInt32)) 7 (vp_nar .byte ((x2 >>> (0 &&& 31))).toInt8.toInt32)) 8 (vp_nar .byte ((x3 >>> (24 &&& 31))).toInt8.toInt32)) 9 (vp_nar .byte ((x3 >>> (16 &&& 31))).toInt8.toInt32)) 10 (vp_nar .byte ((x3 >>> (8 &&& 31))).toInt8.toInt32)) 11 (vp_nar .byte ((x3 >>> (0 &&& 31))).toInt8.toInt32)) 12 (vp_nar .byte ((x4 >>> (24 &&& 31))).toInt8.toInt32)) 13 (vp_nar .byte ((x4 >>> (16 &&& 31))).toInt8.toInt32)) 14 (vp_nar .byte ((x4 >>> (8 &&& 31))).toInt8.toInt32)) 15 (vp_nar .byte ((x4 >>> (0 &&& 31))).toInt8.toInt32))))]) := by
  intro sz
  refine ct_open (cc := cX10_tapeNumber) (maxL := 3) (ret := none) (by decide) rfl (Nat.le_of_ble_eq_true rfl) ?_
  intro p e s m below meth c ls A hx hb hr hml hts hown hlocks hin hP hK hD hA hS hl
  have hl : lv_has ls 3 [(0, .ref (r 0)), (1, .int x4)] := hl
  have hown : s.vm.findClass RX10 = some m.cls := hown
  have i10 : ∀ w ∈ u_ws RX10 TX10 18, w ∈ wsX10_tapeNumber := fun _ h => List.mem_cons_of_mem _ (List.mem_append_right _ h)
  have w1 := hts (.fieldLink RX10 92 "GuildCharter" "tapeSize" "I") (List.mem_cons_of_mem _ (List.mem_append_left _ (List.mem_of_getElem? (i := 0) rfl)))
  have w2 := hts (.fieldLink RX10 9 "GuildCharter" "tape" "[B") (List.mem_cons_of_mem _ (List.mem_append_left _ (List.mem_of_getElem? (i := 1) rfl)))
  refine lv_bipush (v := 24) hx hb dX10_tapeNumber_0 (by decide) ?_
  refine lv_istore_n (lv' := [(2, .int 24), (0, .ref (r 0)), (1, .int x4)]) hx hb dX10_tapeNumber_2 rfl hl (by decide) rfl (fun ls hl => ?_)
  refine lv_iload_n hx hb dX10_tapeNumber_3 rfl (lv_at hl 0 rfl) ?_
  refine lv_if_lt (tgt := 46) hx hb dX10_tapeNumber_4 (by decide) (fun c1 => absurd c1 (by decide)) (fun _ => ?_)
  refine lv_aload_n hx hb dX10_tapeNumber_7 rfl (lv_at hl 1 rfl) ?_
  refine va_get (D := (dC, dI)) (ci := 10) (v := .int 12) (C := RX10) (T := TX10) (N := 18) hx hb hts i10 hown hK hP 0 rfl rfl 1 (by decide) w1 (fun _ h9 => h9) rfl dX10_tapeNumber_8 ?_
  refine lv_sipush (v := 1600) hx hb dX10_tapeNumber_11 (by decide) ?_
  refine lv_icmp_ge (tgt := 40) hx hb dX10_tapeNumber_14 (by decide) (fun c1 => absurd c1 (by decide)) (fun _ => ?_)
  refine lv_aload_n hx hb dX10_tapeNumber_17 rfl (lv_at hl 1 rfl) ?_
  refine va_get (D := (dC, dI)) (ci := 10) (v := .ref (r 1)) (C := RX10) (T := TX10) (N := 18) hx hb hts i10 hown hK hP 0 rfl rfl 0 (by decide) w2 (fun _ h9 => h9) rfl dX10_tapeNumber_18 ?_
  refine lv_aload_n hx hb dX10_tapeNumber_21 rfl (lv_at hl 1 rfl) ?_
  refine va_get (D := (dC, dI)) (ci := 10) (v := .int 12) (C := RX10) (T := TX10) (N := 18) hx hb hts i10 hown hK hP 0 rfl rfl 1 (by decide) w1 (fun _ h9 => h9) rfl dX10_tapeNumber_22 ?_
  refine lv_iload_n hx hb dX10_tapeNumber_25 rfl (lv_at hl 2 rfl) ?_
  refine lv_iload_n hx hb dX10_tapeNumber_26 rfl (lv_at hl 0 rfl) ?_
  refine lv_ishr hx hb dX10_tapeNumber_27 ?_
  refine lv_i2b hx hb dX10_tapeNumber_28 rfl ?_
  refine va_bast hx hb hK hP hD hS 1 0 rfl rfl (vin _ _ rfl) dX10_tapeNumber_29 (fun H locs hP hD hS => ?_)
  refine lv_aload_n hx hb dX10_tapeNumber_30 rfl (lv_at hl 1 rfl) ?_
  refine lv_dup hx hb dX10_tapeNumber_31 rfl ?_
  refine va_get (D := (dC, dI)) (ci := 10) (v := .int 12) (C := RX10) (T := TX10) (N := 18) hx hb hts i10 hown hK hP 0 rfl rfl 1 (by decide) w1 (fun _ h9 => h9) rfl dX10_tapeNumber_32 ?_
  refine lv_iconst (v := 1) hx hb dX10_tapeNumber_35 (by decide) ?_
  refine lv_iadd hx hb dX10_tapeNumber_36 ?_
  refine tpv (v := .int 13) rfl ?_
  refine va_put (D := (dC, dI)) (ci := 10) (v := .int 13) (ty := tyX10 1) (C := RX10) (T := TX10) (N := 18) hx hb hts i10 tyX10 tyX10_ok nmX10 hown hK hP hD hS 0 rfl rfl 1 (by decide) w1 (fun _ h9 => h9) rfl (by decide +kernel) rfl rfl (Nat.le_of_ble_eq_true rfl) dX10_tapeNumber_37 (fun H locs hP hD hS => ?_)
  refine lv_iinc (v := 16) (lv' := [(2, .int 16), (0, .ref (r 0)), (1, .int x4)]) hx hb dX10_tapeNumber_40 hl (k := 0) rfl (by decide) (by decide) rfl (fun ls hl => ?_)
  refine lv_goto (tgt := 3) hx hb dX10_tapeNumber_43 (by decide) ?_
  refine lv_iload_n hx hb dX10_tapeNumber_3 rfl (lv_at hl 0 rfl) ?_
  refine lv_if_lt (tgt := 46) hx hb dX10_tapeNumber_4 (by decide) (fun c1 => absurd c1 (by decide)) (fun _ => ?_)
  refine lv_aload_n hx hb dX10_tapeNumber_7 rfl (lv_at hl 1 rfl) ?_
  refine va_get (D := (dC, dI)) (ci := 10) (v := .int 13) (C := RX10) (T := TX10) (N := 18) hx hb hts i10 hown hK hP 0 rfl rfl 1 (by decide) w1 (fun _ h9 => h9) rfl dX10_tapeNumber_8 ?_
  refine lv_sipush (v := 1600) hx hb dX10_tapeNumber_11 (by decide) ?_
  refine lv_icmp_ge (tgt := 40) hx hb dX10_tapeNumber_14 (by decide) (fun c1 => absurd c1 (by decide)) (fun _ => ?_)
  refine lv_aload_n hx hb dX10_tapeNumber_17 rfl (lv_at hl 1 rfl) ?_
  refine va_get (D := (dC, dI)) (ci := 10) (v := .ref (r 1)) (C := RX10) (T := TX10) (N := 18) hx hb hts i10 hown hK hP 0 rfl rfl 0 (by decide) w2 (fun _ h9 => h9) rfl dX10_tapeNumber_18 ?_
  refine lv_aload_n hx hb dX10_tapeNumber_21 rfl (lv_at hl 1 rfl) ?_
  refine va_get (D := (dC, dI)) (ci := 10) (v := .int 13) (C := RX10) (T := TX10) (N := 18) hx hb hts i10 hown hK hP 0 rfl rfl 1 (by decide) w1 (fun _ h9 => h9) rfl dX10_tapeNumber_22 ?_
  refine lv_iload_n hx hb dX10_tapeNumber_25 rfl (lv_at hl 2 rfl) ?_
  refine lv_iload_n hx hb dX10_tapeNumber_26 rfl (lv_at hl 0 rfl) ?_
  refine lv_ishr hx hb dX10_tapeNumber_27 ?_
  refine lv_i2b hx hb dX10_tapeNumber_28 rfl ?_
  refine va_bast hx hb hK hP hD hS 1 0 rfl rfl (vin _ _ rfl) dX10_tapeNumber_29 (fun H locs hP hD hS => ?_)
  refine lv_aload_n hx hb dX10_tapeNumber_30 rfl (lv_at hl 1 rfl) ?_
  refine lv_dup hx hb dX10_tapeNumber_31 rfl ?_
  refine va_get (D := (dC, dI)) (ci := 10) (v := .int 13) (C := RX10) (T := TX10) (N := 18) hx hb hts i10 hown hK hP 0 rfl rfl 1 (by decide) w1 (fun _ h9 => h9) rfl dX10_tapeNumber_32 ?_
  refine lv_iconst (v := 1) hx hb dX10_tapeNumber_35 (by decide) ?_
  refine lv_iadd hx hb dX10_tapeNumber_36 ?_
  refine tpv (v := .int 14) rfl ?_
  refine va_put (D := (dC, dI)) (ci := 10) (v := .int 14) (ty := tyX10 1) (C := RX10) (T := TX10) (N := 18) hx hb hts i10 tyX10 tyX10_ok nmX10 hown hK hP hD hS 0 rfl rfl 1 (by decide) w1 (fun _ h9 => h9) rfl (by decide +kernel) rfl rfl (Nat.le_of_ble_eq_true rfl) dX10_tapeNumber_37 (fun H locs hP hD hS => ?_)
  refine lv_iinc (v := 8) (lv' := [(2, .int 8), (0, .ref (r 0)), (1, .int x4)]) hx hb dX10_tapeNumber_40 hl (k := 0) rfl (by decide) (by decide) rfl (fun ls hl => ?_)
  refine lv_goto (tgt := 3) hx hb dX10_tapeNumber_43 (by decide) ?_
  refine lv_iload_n hx hb dX10_tapeNumber_3 rfl (lv_at hl 0 rfl) ?_
  refine lv_if_lt (tgt := 46) hx hb dX10_tapeNumber_4 (by decide) (fun c1 => absurd c1 (by decide)) (fun _ => ?_)
  refine lv_aload_n hx hb dX10_tapeNumber_7 rfl (lv_at hl 1 rfl) ?_
  refine va_get (D := (dC, dI)) (ci := 10) (v := .int 14) (C := RX10) (T := TX10) (N := 18) hx hb hts i10 hown hK hP 0 rfl rfl 1 (by decide) w1 (fun _ h9 => h9) rfl dX10_tapeNumber_8 ?_
  refine lv_sipush (v := 1600) hx hb dX10_tapeNumber_11 (by decide) ?_
  refine lv_icmp_ge (tgt := 40) hx hb dX10_tapeNumber_14 (by decide) (fun c1 => absurd c1 (by decide)) (fun _ => ?_)
  refine lv_aload_n hx hb dX10_tapeNumber_17 rfl (lv_at hl 1 rfl) ?_
  refine va_get (D := (dC, dI)) (ci := 10) (v := .ref (r 1)) (C := RX10) (T := TX10) (N := 18) hx hb hts i10 hown hK hP 0 rfl rfl 0 (by decide) w2 (fun _ h9 => h9) rfl dX10_tapeNumber_18 ?_
  refine lv_aload_n hx hb dX10_tapeNumber_21 rfl (lv_at hl 1 rfl) ?_
  refine va_get (D := (dC, dI)) (ci := 10) (v := .int 14) (C := RX10) (T := TX10) (N := 18) hx hb hts i10 hown hK hP 0 rfl rfl 1 (by decide) w1 (fun _ h9 => h9) rfl dX10_tapeNumber_22 ?_
  refine lv_iload_n hx hb dX10_tapeNumber_25 rfl (lv_at hl 2 rfl) ?_
  refine lv_iload_n hx hb dX10_tapeNumber_26 rfl (lv_at hl 0 rfl) ?_
  refine lv_ishr hx hb dX10_tapeNumber_27 ?_
  refine lv_i2b hx hb dX10_tapeNumber_28 rfl ?_
  refine va_bast hx hb hK hP hD hS 1 0 rfl rfl (vin _ _ rfl) dX10_tapeNumber_29 (fun H locs hP hD hS => ?_)
  refine lv_aload_n hx hb dX10_tapeNumber_30 rfl (lv_at hl 1 rfl) ?_
  refine lv_dup hx hb dX10_tapeNumber_31 rfl ?_
  refine va_get (D := (dC, dI)) (ci := 10) (v := .int 14) (C := RX10) (T := TX10) (N := 18) hx hb hts i10 hown hK hP 0 rfl rfl 1 (by decide) w1 (fun _ h9 => h9) rfl dX10_tapeNumber_32 ?_
  refine lv_iconst (v := 1) hx hb dX10_tapeNumber_35 (by decide) ?_
  refine lv_iadd hx hb dX10_tapeNumber_36 ?_
  refine tpv (v := .int 15) rfl ?_
  refine va_put (D := (dC, dI)) (ci := 10) (v := .int 15) (ty := tyX10 1) (C := RX10) (T := TX10) (N := 18) hx hb hts i10 tyX10 tyX10_ok nmX10 hown hK hP hD hS 0 rfl rfl 1 (by decide) w1 (fun _ h9 => h9) rfl (by decide +kernel) rfl rfl (Nat.le_of_ble_eq_true rfl) dX10_tapeNumber_37 (fun H locs hP hD hS => ?_)
  refine lv_iinc (v := 0) (lv' := [(2, .int 0), (0, .ref (r 0)), (1, .int x4)]) hx hb dX10_tapeNumber_40 hl (k := 0) rfl (by decide) (by decide) rfl (fun ls hl => ?_)
  refine lv_goto (tgt := 3) hx hb dX10_tapeNumber_43 (by decide) ?_
  refine lv_iload_n hx hb dX10_tapeNumber_3 rfl (lv_at hl 0 rfl) ?_
  refine lv_if_lt (tgt := 46) hx hb dX10_tapeNumber_4 (by decide) (fun c1 => absurd c1 (by decide)) (fun _ => ?_)
  refine lv_aload_n hx hb dX10_tapeNumber_7 rfl (lv_at hl 1 rfl) ?_
  refine va_get (D := (dC, dI)) (ci := 10) (v := .int 15) (C := RX10) (T := TX10) (N := 18) hx hb hts i10 hown hK hP 0 rfl rfl 1 (by decide) w1 (fun _ h9 => h9) rfl dX10_tapeNumber_8 ?_
  refine lv_sipush (v := 1600) hx hb dX10_tapeNumber_11 (by decide) ?_
  refine lv_icmp_ge (tgt := 40) hx hb dX10_tapeNumber_14 (by decide) (fun c1 => absurd c1 (by decide)) (fun _ => ?_)
  refine lv_aload_n hx hb dX10_tapeNumber_17 rfl (lv_at hl 1 rfl) ?_
  refine va_get (D := (dC, dI)) (ci := 10) (v := .ref (r 1)) (C := RX10) (T := TX10) (N := 18) hx hb hts i10 hown hK hP 0 rfl rfl 0 (by decide) w2 (fun _ h9 => h9) rfl dX10_tapeNumber_18 ?_
  refine lv_aload_n hx hb dX10_tapeNumber_21 rfl (lv_at hl 1 rfl) ?_
  refine va_get (D := (dC, dI)) (ci := 10) (v := .int 15) (C := RX10) (T := TX10) (N := 18) hx hb hts i10 hown hK hP 0 rfl rfl 1 (by decide) w1 (fun _ h9 => h9) rfl dX10_tapeNumber_22 ?_
  refine lv_iload_n hx hb dX10_tapeNumber_25 rfl (lv_at hl 2 rfl) ?_
  refine lv_iload_n hx hb dX10_tapeNumber_26 rfl (lv_at hl 0 rfl) ?_
  refine lv_ishr hx hb dX10_tapeNumber_27 ?_
  refine lv_i2b hx hb dX10_tapeNumber_28 rfl ?_
  refine va_bast hx hb hK hP hD hS 1 0 rfl rfl (vin _ _ rfl) dX10_tapeNumber_29 (fun H locs hP hD hS => ?_)
  refine lv_aload_n hx hb dX10_tapeNumber_30 rfl (lv_at hl 1 rfl) ?_
  refine lv_dup hx hb dX10_tapeNumber_31 rfl ?_
  refine va_get (D := (dC, dI)) (ci := 10) (v := .int 15) (C := RX10) (T := TX10) (N := 18) hx hb hts i10 hown hK hP 0 rfl rfl 1 (by decide) w1 (fun _ h9 => h9) rfl dX10_tapeNumber_32 ?_
  refine lv_iconst (v := 1) hx hb dX10_tapeNumber_35 (by decide) ?_
  refine lv_iadd hx hb dX10_tapeNumber_36 ?_
  refine tpv (v := .int 16) rfl ?_
  refine va_put (D := (dC, dI)) (ci := 10) (v := .int 16) (ty := tyX10 1) (C := RX10) (T := TX10) (N := 18) hx hb hts i10 tyX10 tyX10_ok nmX10 hown hK hP hD hS 0 rfl rfl 1 (by decide) w1 (fun _ h9 => h9) rfl (by decide +kernel) rfl rfl (Nat.le_of_ble_eq_true rfl) dX10_tapeNumber_37 (fun H locs hP hD hS => ?_)
  refine lv_iinc (v := (-8)) (lv' := [(2, .int (-8)), (0, .ref (r 0)), (1, .int x4)]) hx hb dX10_tapeNumber_40 hl (k := 0) rfl (by decide) (by decide) rfl (fun ls hl => ?_)
  refine lv_goto (tgt := 3) hx hb dX10_tapeNumber_43 (by decide) ?_
  refine lv_iload_n hx hb dX10_tapeNumber_3 rfl (lv_at hl 0 rfl) ?_
  refine lv_if_lt (tgt := 46) hx hb dX10_tapeNumber_4 (by decide) (fun _ => ?_) (fun c1 => absurd (by decide) c1)
  refine W.widen (k := 0) (n := 0) (by decide) (by decide) ?_
  exact ret_v hx hb hr hlocks hS (u := (fun _ => 0)) (hP.sub [0, 1] rfl) (hD.sub [0, 1] (by decide) rfl) dX10_tapeNumber_46

set_option maxHeartbeats 4000000 in
set_option maxRecDepth 100000 in
theorem k30_X10_tapeNumber (l : Launch) (dC : Nat → ClassId) (dI : Nat → Nat → Nat) (cB cI cJ cZ cO : ClassId) (r : Nat → Nat) (x1 : Int32) (x2 : Int32) (x3 : Int32) (x4 : Int32) (x5 : Int32) : CV l yX10_tapeNumber wsX10_tapeNumber ({ frames := 0, cells := 0, slots := 0, locals := 0 }) (dC, dI) (tyL cB cI cJ cZ cO) [.ref (r 0), .int x5] [((r 0), .inr (10, [.ref (r 1), .int 16, .ref (r 2), .ref (r 18), .ref (r 28), .ref (r 38), .ref (r 45), .ref (r 55), .ref (r 58), .ref (r 61), .ref (r 65), .ref (r 70), .ref (r 75), .int 0, .ref (r 80), .ref (r 86), .int 0, .ref (r 87)])), ((r 1), .inl (cB, 1600, .inl (upd (upd (upd (upd (upd (upd (upd (upd (upd (upd (upd (upd (upd (upd (upd (upd (fun _ => 0) 0 (vp_nar .byte ((x1 >>> (24 &&& 31))).toInt8.toInt32)) 1 (vp_nar .byte ((x1 >>> (16 &&& 31))).toInt8.toInt32)) 2 (vp_nar .byte ((x1 >>> (8 &&& 31))).toInt8.toInt32)) 3 (vp_nar .byte ((x1 >>> (0 &&& 31))).toInt8.toInt32)) 4 (vp_nar .byte ((x2 >>> (24 &&& 31))).toInt8.toInt32)) 5 (vp_nar .byte ((x2 >>> (16 &&& 31))).toInt8.toInt32)) 6 (vp_nar .byte ((x2 >>> (8 &&& 31))).toInt8.toInt32)) 7 (vp_nar .byte ((x2 >>> (0 &&& 31))).toInt8.toInt32)) 8 (vp_nar .byte ((x3 >>> (24 &&& 31))).toInt8.toInt32)) 9 (vp_nar .byte ((x3 >>> (16 &&& 31))).toInt8.toInt32)) 10 (vp_nar .byte ((x3 >>> (8 &&& 31))).toInt8.toInt32)) 11 (vp_nar .byte ((x3 >>> (0 &&& 31))).toInt8.toInt32)) 12 (vp_nar .byte ((x4 >>> (24 &&& 31))).toInt8.toInt32)) 13 (vp_nar .byte ((x4 >>> (16 &&& 31))).toInt8.toInt32)) 14 (vp_nar .byte ((x4 >>> (8 &&& 31))).toInt8.toInt32)) 15 (vp_nar .byte ((x4 >>> (0 &&& 31))).toInt8.toInt32))))] (fun u => [((r 0), .inr (10, [.ref (r 1), .int 20, .ref (r 2), .ref (r 18), .ref (r 28), .ref (r 38), .ref (r 45), .ref (r 55), .ref (r 58), .ref (r 61), .ref (r 65), .ref (r 70), .ref (r 75), .int 0, .ref (r 80), .ref (r 86), .int 0, .ref (r 87)])), ((r 1), .inl (cB, 1600, .inl (upd (upd (upd (upd (upd (upd (upd (upd (upd (upd (upd (upd (upd (upd (upd (upd (upd (upd (upd (upd (fun _ => 0) 0 (vp_nar .byte ((x1 >>> (24 &&& 31))).toInt8.toInt32)) 1 (vp_nar .byte ((x1 >>> (16 &&& 31))).toInt8.toInt32)) 2 (vp_nar .byte ((x1 >>> (8 &&& 31))).toInt8.toInt32)) 3 (vp_nar .byte ((x1 >>> (0 &&& 31))).toInt8.toInt32)) 4 (vp_nar .byte ((x2 >>> (24 &&& 31))).toInt8.toInt32)) 5 (vp_nar .byte ((x2 >>> (16 &&& 31))).toInt8.toInt32)) 6 (vp_nar .byte ((x2 >>> (8 &&& 31))).toInt8.toInt32)) 7 (vp_nar .byte ((x2 >>> (0 &&& 31))).toInt8.toInt32)) 8 (vp_nar .byte ((x3 >>> (24 &&& 31))).toInt8.toInt32)) 9 (vp_nar .byte ((x3 >>> (16 &&& 31))).toInt8.toInt32)) 10 (vp_nar .byte ((x3 >>> (8 &&& 31))).toInt8.toInt32)) 11 (vp_nar .byte ((x3 >>> (0 &&& 31))).toInt8.toInt32)) 12 (vp_nar .byte ((x4 >>> (24 &&& 31))).toInt8.toInt32)) 13 (vp_nar .byte ((x4 >>> (16 &&& 31))).toInt8.toInt32)) 14 (vp_nar .byte ((x4 >>> (8 &&& 31))).toInt8.toInt32)) 15 (vp_nar .byte ((x4 >>> (0 &&& 31))).toInt8.toInt32)) 16 (vp_nar .byte ((x5 >>> (24 &&& 31))).toInt8.toInt32)) 17 (vp_nar .byte ((x5 >>> (16 &&& 31))).toInt8.toInt32)) 18 (vp_nar .byte ((x5 >>> (8 &&& 31))).toInt8.toInt32)) 19 (vp_nar .byte ((x5 >>> (0 &&& 31))).toInt8.toInt32))))]) := by
  intro sz
  refine ct_open (cc := cX10_tapeNumber) (maxL := 3) (ret := none) (by decide) rfl (Nat.le_of_ble_eq_true rfl) ?_
  intro p e s m below meth c ls A hx hb hr hml hts hown hlocks hin hP hK hD hA hS hl
  have hl : lv_has ls 3 [(0, .ref (r 0)), (1, .int x5)] := hl
  have hown : s.vm.findClass RX10 = some m.cls := hown
  have i10 : ∀ w ∈ u_ws RX10 TX10 18, w ∈ wsX10_tapeNumber := fun _ h => List.mem_cons_of_mem _ (List.mem_append_right _ h)
  have w1 := hts (.fieldLink RX10 92 "GuildCharter" "tapeSize" "I") (List.mem_cons_of_mem _ (List.mem_append_left _ (List.mem_of_getElem? (i := 0) rfl)))
  have w2 := hts (.fieldLink RX10 9 "GuildCharter" "tape" "[B") (List.mem_cons_of_mem _ (List.mem_append_left _ (List.mem_of_getElem? (i := 1) rfl)))
  refine lv_bipush (v := 24) hx hb dX10_tapeNumber_0 (by decide) ?_
  refine lv_istore_n (lv' := [(2, .int 24), (0, .ref (r 0)), (1, .int x5)]) hx hb dX10_tapeNumber_2 rfl hl (by decide) rfl (fun ls hl => ?_)
  refine lv_iload_n hx hb dX10_tapeNumber_3 rfl (lv_at hl 0 rfl) ?_
  refine lv_if_lt (tgt := 46) hx hb dX10_tapeNumber_4 (by decide) (fun c1 => absurd c1 (by decide)) (fun _ => ?_)
  refine lv_aload_n hx hb dX10_tapeNumber_7 rfl (lv_at hl 1 rfl) ?_
  refine va_get (D := (dC, dI)) (ci := 10) (v := .int 16) (C := RX10) (T := TX10) (N := 18) hx hb hts i10 hown hK hP 0 rfl rfl 1 (by decide) w1 (fun _ h9 => h9) rfl dX10_tapeNumber_8 ?_
  refine lv_sipush (v := 1600) hx hb dX10_tapeNumber_11 (by decide) ?_
  refine lv_icmp_ge (tgt := 40) hx hb dX10_tapeNumber_14 (by decide) (fun c1 => absurd c1 (by decide)) (fun _ => ?_)
  refine lv_aload_n hx hb dX10_tapeNumber_17 rfl (lv_at hl 1 rfl) ?_
  refine va_get (D := (dC, dI)) (ci := 10) (v := .ref (r 1)) (C := RX10) (T := TX10) (N := 18) hx hb hts i10 hown hK hP 0 rfl rfl 0 (by decide) w2 (fun _ h9 => h9) rfl dX10_tapeNumber_18 ?_
  refine lv_aload_n hx hb dX10_tapeNumber_21 rfl (lv_at hl 1 rfl) ?_
  refine va_get (D := (dC, dI)) (ci := 10) (v := .int 16) (C := RX10) (T := TX10) (N := 18) hx hb hts i10 hown hK hP 0 rfl rfl 1 (by decide) w1 (fun _ h9 => h9) rfl dX10_tapeNumber_22 ?_
  refine lv_iload_n hx hb dX10_tapeNumber_25 rfl (lv_at hl 2 rfl) ?_
  refine lv_iload_n hx hb dX10_tapeNumber_26 rfl (lv_at hl 0 rfl) ?_
  refine lv_ishr hx hb dX10_tapeNumber_27 ?_
  refine lv_i2b hx hb dX10_tapeNumber_28 rfl ?_
  refine va_bast hx hb hK hP hD hS 1 0 rfl rfl (vin _ _ rfl) dX10_tapeNumber_29 (fun H locs hP hD hS => ?_)
  refine lv_aload_n hx hb dX10_tapeNumber_30 rfl (lv_at hl 1 rfl) ?_
  refine lv_dup hx hb dX10_tapeNumber_31 rfl ?_
  refine va_get (D := (dC, dI)) (ci := 10) (v := .int 16) (C := RX10) (T := TX10) (N := 18) hx hb hts i10 hown hK hP 0 rfl rfl 1 (by decide) w1 (fun _ h9 => h9) rfl dX10_tapeNumber_32 ?_
  refine lv_iconst (v := 1) hx hb dX10_tapeNumber_35 (by decide) ?_
  refine lv_iadd hx hb dX10_tapeNumber_36 ?_
  refine tpv (v := .int 17) rfl ?_
  refine va_put (D := (dC, dI)) (ci := 10) (v := .int 17) (ty := tyX10 1) (C := RX10) (T := TX10) (N := 18) hx hb hts i10 tyX10 tyX10_ok nmX10 hown hK hP hD hS 0 rfl rfl 1 (by decide) w1 (fun _ h9 => h9) rfl (by decide +kernel) rfl rfl (Nat.le_of_ble_eq_true rfl) dX10_tapeNumber_37 (fun H locs hP hD hS => ?_)
  refine lv_iinc (v := 16) (lv' := [(2, .int 16), (0, .ref (r 0)), (1, .int x5)]) hx hb dX10_tapeNumber_40 hl (k := 0) rfl (by decide) (by decide) rfl (fun ls hl => ?_)
  refine lv_goto (tgt := 3) hx hb dX10_tapeNumber_43 (by decide) ?_
  refine lv_iload_n hx hb dX10_tapeNumber_3 rfl (lv_at hl 0 rfl) ?_
  refine lv_if_lt (tgt := 46) hx hb dX10_tapeNumber_4 (by decide) (fun c1 => absurd c1 (by decide)) (fun _ => ?_)
  refine lv_aload_n hx hb dX10_tapeNumber_7 rfl (lv_at hl 1 rfl) ?_
  refine va_get (D := (dC, dI)) (ci := 10) (v := .int 17) (C := RX10) (T := TX10) (N := 18) hx hb hts i10 hown hK hP 0 rfl rfl 1 (by decide) w1 (fun _ h9 => h9) rfl dX10_tapeNumber_8 ?_
  refine lv_sipush (v := 1600) hx hb dX10_tapeNumber_11 (by decide) ?_
  refine lv_icmp_ge (tgt := 40) hx hb dX10_tapeNumber_14 (by decide) (fun c1 => absurd c1 (by decide)) (fun _ => ?_)
  refine lv_aload_n hx hb dX10_tapeNumber_17 rfl (lv_at hl 1 rfl) ?_
  refine va_get (D := (dC, dI)) (ci := 10) (v := .ref (r 1)) (C := RX10) (T := TX10) (N := 18) hx hb hts i10 hown hK hP 0 rfl rfl 0 (by decide) w2 (fun _ h9 => h9) rfl dX10_tapeNumber_18 ?_
  refine lv_aload_n hx hb dX10_tapeNumber_21 rfl (lv_at hl 1 rfl) ?_
  refine va_get (D := (dC, dI)) (ci := 10) (v := .int 17) (C := RX10) (T := TX10) (N := 18) hx hb hts i10 hown hK hP 0 rfl rfl 1 (by decide) w1 (fun _ h9 => h9) rfl dX10_tapeNumber_22 ?_
  refine lv_iload_n hx hb dX10_tapeNumber_25 rfl (lv_at hl 2 rfl) ?_
  refine lv_iload_n hx hb dX10_tapeNumber_26 rfl (lv_at hl 0 rfl) ?_
  refine lv_ishr hx hb dX10_tapeNumber_27 ?_
  refine lv_i2b hx hb dX10_tapeNumber_28 rfl ?_
  refine va_bast hx hb hK hP hD hS 1 0 rfl rfl (vin _ _ rfl) dX10_tapeNumber_29 (fun H locs hP hD hS => ?_)
  refine lv_aload_n hx hb dX10_tapeNumber_30 rfl (lv_at hl 1 rfl) ?_
  refine lv_dup hx hb dX10_tapeNumber_31 rfl ?_
  refine va_get (D := (dC, dI)) (ci := 10) (v := .int 17) (C := RX10) (T := TX10) (N := 18) hx hb hts i10 hown hK hP 0 rfl rfl 1 (by decide) w1 (fun _ h9 => h9) rfl dX10_tapeNumber_32 ?_
  refine lv_iconst (v := 1) hx hb dX10_tapeNumber_35 (by decide) ?_
  refine lv_iadd hx hb dX10_tapeNumber_36 ?_
  refine tpv (v := .int 18) rfl ?_
  refine va_put (D := (dC, dI)) (ci := 10) (v := .int 18) (ty := tyX10 1) (C := RX10) (T := TX10) (N := 18) hx hb hts i10 tyX10 tyX10_ok nmX10 hown hK hP hD hS 0 rfl rfl 1 (by decide) w1 (fun _ h9 => h9) rfl (by decide +kernel) rfl rfl (Nat.le_of_ble_eq_true rfl) dX10_tapeNumber_37 (fun H locs hP hD hS => ?_)
  refine lv_iinc (v := 8) (lv' := [(2, .int 8), (0, .ref (r 0)), (1, .int x5)]) hx hb dX10_tapeNumber_40 hl (k := 0) rfl (by decide) (by decide) rfl (fun ls hl => ?_)
  refine lv_goto (tgt := 3) hx hb dX10_tapeNumber_43 (by decide) ?_
  refine lv_iload_n hx hb dX10_tapeNumber_3 rfl (lv_at hl 0 rfl) ?_
  refine lv_if_lt (tgt := 46) hx hb dX10_tapeNumber_4 (by decide) (fun c1 => absurd c1 (by decide)) (fun _ => ?_)
  refine lv_aload_n hx hb dX10_tapeNumber_7 rfl (lv_at hl 1 rfl) ?_
  refine va_get (D := (dC, dI)) (ci := 10) (v := .int 18) (C := RX10) (T := TX10) (N := 18) hx hb hts i10 hown hK hP 0 rfl rfl 1 (by decide) w1 (fun _ h9 => h9) rfl dX10_tapeNumber_8 ?_
  refine lv_sipush (v := 1600) hx hb dX10_tapeNumber_11 (by decide) ?_
  refine lv_icmp_ge (tgt := 40) hx hb dX10_tapeNumber_14 (by decide) (fun c1 => absurd c1 (by decide)) (fun _ => ?_)
  refine lv_aload_n hx hb dX10_tapeNumber_17 rfl (lv_at hl 1 rfl) ?_
  refine va_get (D := (dC, dI)) (ci := 10) (v := .ref (r 1)) (C := RX10) (T := TX10) (N := 18) hx hb hts i10 hown hK hP 0 rfl rfl 0 (by decide) w2 (fun _ h9 => h9) rfl dX10_tapeNumber_18 ?_
  refine lv_aload_n hx hb dX10_tapeNumber_21 rfl (lv_at hl 1 rfl) ?_
  refine va_get (D := (dC, dI)) (ci := 10) (v := .int 18) (C := RX10) (T := TX10) (N := 18) hx hb hts i10 hown hK hP 0 rfl rfl 1 (by decide) w1 (fun _ h9 => h9) rfl dX10_tapeNumber_22 ?_
  refine lv_iload_n hx hb dX10_tapeNumber_25 rfl (lv_at hl 2 rfl) ?_
  refine lv_iload_n hx hb dX10_tapeNumber_26 rfl (lv_at hl 0 rfl) ?_
  refine lv_ishr hx hb dX10_tapeNumber_27 ?_
  refine lv_i2b hx hb dX10_tapeNumber_28 rfl ?_
  refine va_bast hx hb hK hP hD hS 1 0 rfl rfl (vin _ _ rfl) dX10_tapeNumber_29 (fun H locs hP hD hS => ?_)
  refine lv_aload_n hx hb dX10_tapeNumber_30 rfl (lv_at hl 1 rfl) ?_
  refine lv_dup hx hb dX10_tapeNumber_31 rfl ?_
  refine va_get (D := (dC, dI)) (ci := 10) (v := .int 18) (C := RX10) (T := TX10) (N := 18) hx hb hts i10 hown hK hP 0 rfl rfl 1 (by decide) w1 (fun _ h9 => h9) rfl dX10_tapeNumber_32 ?_
  refine lv_iconst (v := 1) hx hb dX10_tapeNumber_35 (by decide) ?_
  refine lv_iadd hx hb dX10_tapeNumber_36 ?_
  refine tpv (v := .int 19) rfl ?_
  refine va_put (D := (dC, dI)) (ci := 10) (v := .int 19) (ty := tyX10 1) (C := RX10) (T := TX10) (N := 18) hx hb hts i10 tyX10 tyX10_ok nmX10 hown hK hP hD hS 0 rfl rfl 1 (by decide) w1 (fun _ h9 => h9) rfl (by decide +kernel) rfl rfl (Nat.le_of_ble_eq_true rfl) dX10_tapeNumber_37 (fun H locs hP hD hS => ?_)
  refine lv_iinc (v := 0) (lv' := [(2, .int 0), (0, .ref (r 0)), (1, .int x5)]) hx hb dX10_tapeNumber_40 hl (k := 0) rfl (by decide) (by decide) rfl (fun ls hl => ?_)
  refine lv_goto (tgt := 3) hx hb dX10_tapeNumber_43 (by decide) ?_
  refine lv_iload_n hx hb dX10_tapeNumber_3 rfl (lv_at hl 0 rfl) ?_
  refine lv_if_lt (tgt := 46) hx hb dX10_tapeNumber_4 (by decide) (fun c1 => absurd c1 (by decide)) (fun _ => ?_)
  refine lv_aload_n hx hb dX10_tapeNumber_7 rfl (lv_at hl 1 rfl) ?_
  refine va_get (D := (dC, dI)) (ci := 10) (v := .int 19) (C := RX10) (T := TX10) (N := 18) hx hb hts i10 hown hK hP 0 rfl rfl 1 (by decide) w1 (fun _ h9 => h9) rfl dX10_tapeNumber_8 ?_
  refine lv_sipush (v := 1600) hx hb dX10_tapeNumber_11 (by decide) ?_
  refine lv_icmp_ge (tgt := 40) hx hb dX10_tapeNumber_14 (by decide) (fun c1 => absurd c1 (by decide)) (fun _ => ?_)
  refine lv_aload_n hx hb dX10_tapeNumber_17 rfl (lv_at hl 1 rfl) ?_
  refine va_get (D := (dC, dI)) (ci := 10) (v := .ref (r 1)) (C := RX10) (T := TX10) (N := 18) hx hb hts i10 hown hK hP 0 rfl rfl 0 (by decide) w2 (fun _ h9 => h9) rfl dX10_tapeNumber_18 ?_
  refine lv_aload_n hx hb dX10_tapeNumber_21 rfl (lv_at hl 1 rfl) ?_
  refine va_get (D := (dC, dI)) (ci := 10) (v := .int 19) (C := RX10) (T := TX10) (N := 18) hx hb hts i10 hown hK hP 0 rfl rfl 1 (by decide) w1 (fun _ h9 => h9) rfl dX10_tapeNumber_22 ?_
  refine lv_iload_n hx hb dX10_tapeNumber_25 rfl (lv_at hl 2 rfl) ?_
  refine lv_iload_n hx hb dX10_tapeNumber_26 rfl (lv_at hl 0 rfl) ?_
  refine lv_ishr hx hb dX10_tapeNumber_27 ?_
  refine lv_i2b hx hb dX10_tapeNumber_28 rfl ?_
  refine va_bast hx hb hK hP hD hS 1 0 rfl rfl (vin _ _ rfl) dX10_tapeNumber_29 (fun H locs hP hD hS => ?_)
  refine lv_aload_n hx hb dX10_tapeNumber_30 rfl (lv_at hl 1 rfl) ?_
  refine lv_dup hx hb dX10_tapeNumber_31 rfl ?_
  refine va_get (D := (dC, dI)) (ci := 10) (v := .int 19) (C := RX10) (T := TX10) (N := 18) hx hb hts i10 hown hK hP 0 rfl rfl 1 (by decide) w1 (fun _ h9 => h9) rfl dX10_tapeNumber_32 ?_
  refine lv_iconst (v := 1) hx hb dX10_tapeNumber_35 (by decide) ?_
  refine lv_iadd hx hb dX10_tapeNumber_36 ?_
  refine tpv (v := .int 20) rfl ?_
  refine va_put (D := (dC, dI)) (ci := 10) (v := .int 20) (ty := tyX10 1) (C := RX10) (T := TX10) (N := 18) hx hb hts i10 tyX10 tyX10_ok nmX10 hown hK hP hD hS 0 rfl rfl 1 (by decide) w1 (fun _ h9 => h9) rfl (by decide +kernel) rfl rfl (Nat.le_of_ble_eq_true rfl) dX10_tapeNumber_37 (fun H locs hP hD hS => ?_)
  refine lv_iinc (v := (-8)) (lv' := [(2, .int (-8)), (0, .ref (r 0)), (1, .int x5)]) hx hb dX10_tapeNumber_40 hl (k := 0) rfl (by decide) (by decide) rfl (fun ls hl => ?_)
  refine lv_goto (tgt := 3) hx hb dX10_tapeNumber_43 (by decide) ?_
  refine lv_iload_n hx hb dX10_tapeNumber_3 rfl (lv_at hl 0 rfl) ?_
  refine lv_if_lt (tgt := 46) hx hb dX10_tapeNumber_4 (by decide) (fun _ => ?_) (fun c1 => absurd (by decide) c1)
  refine W.widen (k := 0) (n := 0) (by decide) (by decide) ?_
  exact ret_v hx hb hr hlocks hS (u := (fun _ => 0)) (hP.sub [0, 1] rfl) (hD.sub [0, 1] (by decide) rfl) dX10_tapeNumber_46

set_option maxHeartbeats 4000000 in
set_option maxRecDepth 100000 in
theorem k31_X10_feed (l : Launch) (dC : Nat → ClassId) (dI : Nat → Nat → Nat) (cB cI cJ cZ cO : ClassId) (r : Nat → Nat) (x1 : Int32) (x2 : Int32) (x3 : Int32) (x4 : Int32) (x5 : Int32) : CI l yX10_feed wsX10_feed ({ frames := 1, cells := 0, slots := 0, locals := 22 }) (dC, dI) (tyL cB cI cJ cZ cO) [.ref (r 0), .int x1, .int x2, .int x3, .int x4, .int x5] [((r 0), .inr (10, fX r)), ((r 1), .inl (cB, 1600, .inl (fun _ => 0)))] (fun _ => []) 20 := by
  intro sz
  refine ct_open (cc := cX10_feed) (maxL := 6) (ret := (some .int)) (by decide) rfl (Nat.le_of_ble_eq_true rfl) ?_
  intro p e s m below meth c ls A hx hb hr hml hts hown hlocks hin hP hK hD hA hS hl
  have hl : lv_has ls 6 [(0, .ref (r 0)), (1, .int x1), (2, .int x2), (3, .int x3), (4, .int x4), (5, .int x5)] := hl
  have hown : s.vm.findClass RX10 = some m.cls := hown
  have i10 : ∀ w ∈ u_ws RX10 TX10 18, w ∈ wsX10_feed := fun _ h => List.mem_cons_of_mem _ (List.mem_append_right _ h)
  have w1 := hts (.fieldLink RX10 92 "GuildCharter" "tapeSize" "I") (List.mem_cons_of_mem _ (List.mem_append_left _ (List.mem_of_getElem? (i := 0) rfl)))
  refine lv_aload_n hx hb dX10_feed_0 rfl (lv_at hl 0 rfl) ?_
  refine va_get (D := (dC, dI)) (ci := 10) (v := .int 0) (C := RX10) (T := TX10) (N := 18) hx hb hts i10 hown hK hP 0 rfl rfl 1 (by decide) w1 (fun _ h9 => h9) rfl dX10_feed_1 ?_
  refine lv_bipush (v := 20) hx hb dX10_feed_4 (by decide) ?_
  refine lv_iadd hx hb dX10_feed_6 ?_
  refine tpv (v := .int 20) rfl ?_
  refine lv_sipush (v := 1600) hx hb dX10_feed_7 (by decide) ?_
  refine lv_icmp_le (tgt := 15) hx hb dX10_feed_10 (by decide) (fun _ => ?_) (fun c1 => absurd (by decide) c1)
  refine lv_aload_n hx hb dX10_feed_15 rfl (lv_at hl 0 rfl) ?_
  refine lv_iload_n hx hb dX10_feed_16 rfl (lv_at hl 1 rfl) ?_
  refine call_vV (ci := 10) (As := [.int x1]) (rest := []) (wr := []) ⟨hx, hb, hml, hown, hts⟩ (k26_X10_tapeNumber l dC dI cB cI cJ cZ cO r x1) (cwV 1 hts gX10_feed_X10_tapeNumber rfl rfl rfl (by decide +kernel) ⟨Nat.le_of_ble_eq_true rfl, Nat.le_of_ble_eq_true rfl⟩) hK hP hD hS hA [0, 1] [] rfl rfl (by decide) (by decide) (by decide) rfl rfl rfl hl.1 (Nat.le_of_ble_eq_true rfl) rfl rfl dX10_feed_17 ⟨by decide, by decide⟩ (fun u0 H locs hP hD hS => ?_)
  refine lv_aload_n hx hb dX10_feed_20 rfl (lv_at hl 0 rfl) ?_
  refine lv_iload_n hx hb dX10_feed_21 rfl (lv_at hl 2 rfl) ?_
  refine call_vV (ci := 10) (As := [.int x2]) (rest := []) (wr := []) ⟨hx, hb, hml, hown, hts⟩ (k27_X10_tapeNumber l dC dI cB cI cJ cZ cO r x1 x2) (cwV 1 hts gX10_feed_X10_tapeNumber rfl rfl rfl (by decide +kernel) ⟨Nat.le_of_ble_eq_true rfl, Nat.le_of_ble_eq_true rfl⟩) hK hP hD hS hA [0, 1] [] rfl rfl (by decide) (by decide) (by decide) rfl rfl rfl hl.1 (Nat.le_of_ble_eq_true rfl) rfl rfl dX10_feed_22 ⟨by decide, by decide⟩ (fun u1 H locs hP hD hS => ?_)
  refine lv_aload_n hx hb dX10_feed_25 rfl (lv_at hl 0 rfl) ?_
  refine lv_iload_n hx hb dX10_feed_26 rfl (lv_at hl 3 rfl) ?_
  refine call_vV (ci := 10) (As := [.int x3]) (rest := []) (wr := []) ⟨hx, hb, hml, hown, hts⟩ (k28_X10_tapeNumber l dC dI cB cI cJ cZ cO r x1 x2 x3) (cwV 1 hts gX10_feed_X10_tapeNumber rfl rfl rfl (by decide +kernel) ⟨Nat.le_of_ble_eq_true rfl, Nat.le_of_ble_eq_true rfl⟩) hK hP hD hS hA [0, 1] [] rfl rfl (by decide) (by decide) (by decide) rfl rfl rfl hl.1 (Nat.le_of_ble_eq_true rfl) rfl rfl dX10_feed_27 ⟨by decide, by decide⟩ (fun u2 H locs hP hD hS => ?_)
  refine lv_aload_n hx hb dX10_feed_30 rfl (lv_at hl 0 rfl) ?_
  refine lv_iload hx hb dX10_feed_31 (lv_at hl 4 rfl) ?_
  refine call_vV (ci := 10) (As := [.int x4]) (rest := []) (wr := []) ⟨hx, hb, hml, hown, hts⟩ (k29_X10_tapeNumber l dC dI cB cI cJ cZ cO r x1 x2 x3 x4) (cwV 1 hts gX10_feed_X10_tapeNumber rfl rfl rfl (by decide +kernel) ⟨Nat.le_of_ble_eq_true rfl, Nat.le_of_ble_eq_true rfl⟩) hK hP hD hS hA [0, 1] [] rfl rfl (by decide) (by decide) (by decide) rfl rfl rfl hl.1 (Nat.le_of_ble_eq_true rfl) rfl rfl dX10_feed_33 ⟨by decide, by decide⟩ (fun u3 H locs hP hD hS => ?_)
  refine lv_aload_n hx hb dX10_feed_36 rfl (lv_at hl 0 rfl) ?_
  refine lv_iload hx hb dX10_feed_37 (lv_at hl 5 rfl) ?_
  refine call_vV (ci := 10) (As := [.int x5]) (rest := []) (wr := []) ⟨hx, hb, hml, hown, hts⟩ (k30_X10_tapeNumber l dC dI cB cI cJ cZ cO r x1 x2 x3 x4 x5) (cwV 1 hts gX10_feed_X10_tapeNumber rfl rfl rfl (by decide +kernel) ⟨Nat.le_of_ble_eq_true rfl, Nat.le_of_ble_eq_true rfl⟩) hK hP hD hS hA [0, 1] [] rfl rfl (by decide) (by decide) (by decide) rfl rfl rfl hl.1 (Nat.le_of_ble_eq_true rfl) rfl rfl dX10_feed_39 ⟨by decide, by decide⟩ (fun u4 H locs hP hD hS => ?_)
  refine lv_aload_n hx hb dX10_feed_42 rfl (lv_at hl 0 rfl) ?_
  refine va_get (D := (dC, dI)) (ci := 10) (v := .int 20) (C := RX10) (T := TX10) (N := 18) hx hb hts i10 hown hK hP 0 rfl rfl 1 (by decide) w1 (fun _ h9 => h9) rfl dX10_feed_43 ?_
  refine W.widen (k := 0) (n := 0) (by decide) (by decide) ?_
  exact ret_i hx hb hr hlocks hS (u := (fun _ => 0)) (hP.sub [] rfl) (hD.sub [] (by decide) rfl) dX10_feed_46

set_option maxHeartbeats 4000000 in
set_option maxRecDepth 100000 in
theorem k90_X11_longOf (l : Launch) (dC : Nat → ClassId) (dI : Nat → Nat → Nat) (cB cI cJ cZ cO : ClassId) (n : Nat → Nat) : CI l yX11_longOf wsX11_longOf ({ frames := 0, cells := 0, slots := 0, locals := 0 }) (dC, dI) (tyL cB cI cJ cZ cO) [.ref (n 0)] [((n 0), .inr (11, fM n)), ((n 7), .inl (cI, 2, .inl (upd (fun _ => 0) 0 3)))] (fun u => [((n 0), .inr (11, fM n)), ((n 7), .inl (cI, 2, .inl (upd (fun _ => 0) 0 3)))]) 3 := by
  intro sz
  refine ct_open (cc := cX11_longOf) (maxL := 1) (ret := (some .int)) (by decide) rfl (Nat.le_of_ble_eq_true rfl) ?_
  intro p e s m below meth c ls A hx hb hr hml hts hown hlocks hin hP hK hD hA hS hl
  have hl : lv_has ls 1 [(0, .ref (n 0))] := hl
  have hown : s.vm.findClass RX11 = some m.cls := hown
  have i11 : ∀ w ∈ u_ws RX11 TX11 71, w ∈ wsX11_longOf := fun _ h => List.mem_cons_of_mem _ (List.mem_append_right _ h)
  have w1 := hts (.fieldLink RX11 33 "GuildCharterModel" "length" "[I") (List.mem_cons_of_mem _ (List.mem_append_left _ (List.mem_of_getElem? (i := 0) rfl)))
  have w2 := hts (.fieldLink RX11 233 "GuildCharterModel" "bank" "I") (List.mem_cons_of_mem _ (List.mem_append_left _ (List.mem_of_getElem? (i := 1) rfl)))
  refine lv_aload_n hx hb dX11_longOf_0 rfl (lv_at hl 0 rfl) ?_
  refine va_get (D := (dC, dI)) (ci := 11) (v := .ref (n 7)) (C := RX11) (T := TX11) (N := 71) hx hb hts i11 hown hK hP 0 rfl rfl 15 (by decide) w1 (fun _ h9 => h9) rfl dX11_longOf_1 ?_
  refine lv_aload_n hx hb dX11_longOf_4 rfl (lv_at hl 0 rfl) ?_
  refine va_get (D := (dC, dI)) (ci := 11) (v := .int 0) (C := RX11) (T := TX11) (N := 71) hx hb hts i11 hown hK hP 0 rfl rfl 29 (by decide) w2 (fun _ h9 => h9) rfl dX11_longOf_5 ?_
  refine va_iald hx hb hK hP 1 1 rfl rfl (vin _ _ rfl) dX11_longOf_8 ?_
  refine tpv (v := .int 3) rfl ?_
  refine W.widen (k := 0) (n := 0) (by decide) (by decide) ?_
  exact ret_i hx hb hr hlocks hS (u := (fun _ => 0)) (hP.sub [0, 1] rfl) (hD.sub [0, 1] (by decide) rfl) dX11_longOf_9

set_option maxHeartbeats 4000000 in
set_option maxRecDepth 100000 in
theorem k91_X11_isIn (l : Launch) (dC : Nat → ClassId) (dI : Nat → Nat → Nat) (cB cI cJ cZ cO : ClassId) (x1 : Int32) (h0 : x1 < 0) : CI l yX11_isIn wsX11_isIn ({ frames := 0, cells := 0, slots := 0, locals := 0 }) (dC, dI) (tyL cB cI cJ cZ cO) [.int x1, .int 0, .int 2] [] (fun _ => []) 0 := by
  intro sz
  refine ct_open (cc := cX11_isIn) (maxL := 3) (ret := (some .boolean)) (by decide) rfl (Nat.le_of_ble_eq_true rfl) ?_
  intro p e s m below meth c ls A hx hb hr hml hts hown hlocks hin hP hK hD hA hS hl
  have hl : lv_has ls 3 [(0, .int x1), (1, .int 0), (2, .int 2)] := hl
  have hown : s.vm.findClass RX11 = some m.cls := hown
  refine lv_iload_n hx hb dX11_isIn_0 rfl (lv_at hl 0 rfl) ?_
  refine lv_iload_n hx hb dX11_isIn_1 rfl (lv_at hl 1 rfl) ?_
  refine lv_icmp_lt (tgt := 14) hx hb dX11_isIn_2 (by decide) (fun _ => ?_) (fun c1 => absurd (h0) c1)
  refine lv_iconst (v := 0) hx hb dX11_isIn_14 (by decide) ?_
  refine W.widen (k := 0) (n := 0) (by decide) (by decide) ?_
  exact ret_z hx hb hr rfl hlocks hS (u := (fun _ => 0)) (hP.sub [] rfl) (hD.sub [] (by decide) rfl) dX11_isIn_15

set_option maxHeartbeats 4000000 in
set_option maxRecDepth 100000 in
theorem k92_X11_isPlace (l : Launch) (dC : Nat → ClassId) (dI : Nat → Nat → Nat) (cB cI cJ cZ cO : ClassId) (n : Nat → Nat) (x1 : Int32) (h0 : x1 < 0) : CI l yX11_isPlace wsX11_isPlace ({ frames := 1, cells := 0, slots := 0, locals := 22 }) (dC, dI) (tyL cB cI cJ cZ cO) [.ref (n 0), .int x1] [((n 0), .inr (11, fM n)), ((n 7), .inl (cI, 2, .inl (upd (fun _ => 0) 0 3)))] (fun u => [((n 0), .inr (11, fM n)), ((n 7), .inl (cI, 2, .inl (upd (fun _ => 0) 0 3)))]) 0 := by
  intro sz
  refine ct_open (cc := cX11_isPlace) (maxL := 2) (ret := (some .boolean)) (by decide) rfl (Nat.le_of_ble_eq_true rfl) ?_
  intro p e s m below meth c ls A hx hb hr hml hts hown hlocks hin hP hK hD hA hS hl
  have hl : lv_has ls 2 [(0, .ref (n 0)), (1, .int x1)] := hl
  have hown : s.vm.findClass RX11 = some m.cls := hown
  refine lv_iload_n hx hb dX11_isPlace_0 rfl (lv_at hl 1 rfl) ?_
  refine lv_iconst (v := 0) hx hb dX11_isPlace_1 (by decide) ?_
  refine lv_aload_n hx hb dX11_isPlace_2 rfl (lv_at hl 0 rfl) ?_
  refine call_iV (ci := 11) (As := []) (rest := [.int 0, .int x1]) (wr := []) ⟨hx, hb, hml, hown, hts⟩ (k90_X11_longOf l dC dI cB cI cJ cZ cO n) (cwV 0 hts gX11_isPlace_X11_longOf rfl rfl rfl (by decide +kernel) ⟨Nat.le_of_ble_eq_true rfl, Nat.le_of_ble_eq_true rfl⟩) hK hP hD hS hA [0, 1] [] rfl rfl (by decide) (by decide) (by decide) rfl rfl rfl hl.1 (Nat.le_of_ble_eq_true rfl) rfl rfl dX11_isPlace_3 ⟨by decide, by decide⟩ (fun u0 H locs hP hD hS => ?_)
  refine lv_iconst (v := 1) hx hb dX11_isPlace_6 (by decide) ?_
  refine lv_isub hx hb dX11_isPlace_7 ?_
  refine tpv (v := .int 2) rfl ?_
  refine call_iS (As := [.int x1, .int 0, .int 2]) (rest := []) (wr := [((n 0), .inr (11, fM n)), ((n 7), .inl (cI, 2, .inl (upd (fun _ => 0) 0 3)))]) ⟨hx, hb, hml, hown, hts⟩ (k91_X11_isIn l dC dI cB cI cJ cZ cO x1 h0) (va_cwS 3 hts gX11_isPlace_X11_isIn rfl rfl rfl (by decide +kernel) ⟨Nat.le_of_ble_eq_true rfl, Nat.le_of_ble_eq_true rfl⟩) hK hP hD hS hA [] [0, 1] rfl rfl (by decide) (by decide) (by decide) hl.1 (Nat.le_of_ble_eq_true rfl) rfl rfl dX11_isPlace_8 ⟨by decide, by decide⟩ (fun u1 H locs hP hD hS => ?_)
  refine W.widen (k := 0) (n := 0) (by decide) (by decide) ?_
  exact ret_z hx hb hr rfl hlocks hS (u := (fun _ => 0)) (hP.sub [0, 1] rfl) (hD.sub [0, 1] (by decide) rfl) dX11_isPlace_11

set_option maxHeartbeats 4000000 in
set_option maxRecDepth 100000 in
theorem k93_X11_turn (l : Launch) (dC : Nat → ClassId) (dI : Nat → Nat → Nat) (cB cI cJ cZ cO : ClassId) (n : Nat → Nat) (x1 : Int32) (h0 : x1 < 0) : CI l yX11_turn wsX11_turn ({ frames := 2, cells := 0, slots := 0, locals := 43 }) (dC, dI) (tyL cB cI cJ cZ cO) [.ref (n 0), .int x1] [((n 0), .inr (11, fM n)), ((n 7), .inl (cI, 2, .inl (upd (fun _ => 0) 0 3)))] (fun _ => []) (-1) := by
  intro sz
  refine ct_open (cc := cX11_turn) (maxL := 2) (ret := (some .int)) (by decide) rfl (Nat.le_of_ble_eq_true rfl) ?_
  intro p e s m below meth c ls A hx hb hr hml hts hown hlocks hin hP hK hD hA hS hl
  have hl : lv_has ls 2 [(0, .ref (n 0)), (1, .int x1)] := hl
  have hown : s.vm.findClass RX11 = some m.cls := hown
  refine lv_aload_n hx hb dX11_turn_0 rfl (lv_at hl 0 rfl) ?_
  refine lv_iload_n hx hb dX11_turn_1 rfl (lv_at hl 1 rfl) ?_
  refine call_iV (ci := 11) (As := [.int x1]) (rest := []) (wr := []) ⟨hx, hb, hml, hown, hts⟩ (k92_X11_isPlace l dC dI cB cI cJ cZ cO n x1 h0) (cwV 1 hts gX11_turn_X11_isPlace rfl rfl rfl (by decide +kernel) ⟨Nat.le_of_ble_eq_true rfl, Nat.le_of_ble_eq_true rfl⟩) hK hP hD hS hA [0, 1] [] rfl rfl (by decide) (by decide) (by decide) rfl rfl rfl hl.1 (Nat.le_of_ble_eq_true rfl) rfl rfl dX11_turn_2 ⟨by decide, by decide⟩ (fun u0 H locs hP hD hS => ?_)
  refine lv_if_eq (tgt := 17) hx hb dX11_turn_5 (by decide) (fun _ => ?_) (fun c1 => absurd (rfl) c1)
  refine lv_iconst (v := (-1)) hx hb dX11_turn_17 (by decide) ?_
  refine W.widen (k := 0) (n := 0) (by decide) (by decide) ?_
  exact ret_i hx hb hr hlocks hS (u := (fun _ => 0)) (hP.sub [] rfl) (hD.sub [] (by decide) rfl) dX11_turn_18

set_option maxHeartbeats 4000000 in
set_option maxRecDepth 100000 in
theorem k98_X11_isIn (l : Launch) (dC : Nat → ClassId) (dI : Nat → Nat → Nat) (cB cI cJ cZ cO : ClassId) : CI l yX11_isIn wsX11_isIn ({ frames := 0, cells := 0, slots := 0, locals := 0 }) (dC, dI) (tyL cB cI cJ cZ cO) [.int 0, .int 0, .int 2] [] (fun _ => []) 1 := by
  intro sz
  refine ct_open (cc := cX11_isIn) (maxL := 3) (ret := (some .boolean)) (by decide) rfl (Nat.le_of_ble_eq_true rfl) ?_
  intro p e s m below meth c ls A hx hb hr hml hts hown hlocks hin hP hK hD hA hS hl
  have hl : lv_has ls 3 [(0, .int 0), (1, .int 0), (2, .int 2)] := hl
  have hown : s.vm.findClass RX11 = some m.cls := hown
  refine lv_iload_n hx hb dX11_isIn_0 rfl (lv_at hl 0 rfl) ?_
  refine lv_iload_n hx hb dX11_isIn_1 rfl (lv_at hl 1 rfl) ?_
  refine lv_icmp_lt (tgt := 14) hx hb dX11_isIn_2 (by decide) (fun c1 => absurd c1 (by decide)) (fun _ => ?_)
  refine lv_iload_n hx hb dX11_isIn_5 rfl (lv_at hl 0 rfl) ?_
  refine lv_iload_n hx hb dX11_isIn_6 rfl (lv_at hl 2 rfl) ?_
  refine lv_icmp_gt (tgt := 14) hx hb dX11_isIn_7 (by decide) (fun c1 => absurd c1 (by decide)) (fun _ => ?_)
  refine lv_iconst (v := 1) hx hb dX11_isIn_10 (by decide) ?_
  refine lv_goto (tgt := 15) hx hb dX11_isIn_11 (by decide) ?_
  refine W.widen (k := 0) (n := 0) (by decide) (by decide) ?_
  exact ret_z hx hb hr rfl hlocks hS (u := (fun _ => 0)) (hP.sub [] rfl) (hD.sub [] (by decide) rfl) dX11_isIn_15

set_option maxHeartbeats 4000000 in
set_option maxRecDepth 100000 in
theorem k99_X11_isPlace (l : Launch) (dC : Nat → ClassId) (dI : Nat → Nat → Nat) (cB cI cJ cZ cO : ClassId) (n : Nat → Nat) : CI l yX11_isPlace wsX11_isPlace ({ frames := 1, cells := 0, slots := 0, locals := 22 }) (dC, dI) (tyL cB cI cJ cZ cO) [.ref (n 0), .int 0] [((n 0), .inr (11, fM n)), ((n 7), .inl (cI, 2, .inl (upd (fun _ => 0) 0 3)))] (fun u => [((n 0), .inr (11, fM n)), ((n 7), .inl (cI, 2, .inl (upd (fun _ => 0) 0 3)))]) 1 := by
  intro sz
  refine ct_open (cc := cX11_isPlace) (maxL := 2) (ret := (some .boolean)) (by decide) rfl (Nat.le_of_ble_eq_true rfl) ?_
  intro p e s m below meth c ls A hx hb hr hml hts hown hlocks hin hP hK hD hA hS hl
  have hl : lv_has ls 2 [(0, .ref (n 0)), (1, .int 0)] := hl
  have hown : s.vm.findClass RX11 = some m.cls := hown
  refine lv_iload_n hx hb dX11_isPlace_0 rfl (lv_at hl 1 rfl) ?_
  refine lv_iconst (v := 0) hx hb dX11_isPlace_1 (by decide) ?_
  refine lv_aload_n hx hb dX11_isPlace_2 rfl (lv_at hl 0 rfl) ?_
  refine call_iV (ci := 11) (As := []) (rest := [.int 0, .int 0]) (wr := []) ⟨hx, hb, hml, hown, hts⟩ (k90_X11_longOf l dC dI cB cI cJ cZ cO n) (cwV 0 hts gX11_isPlace_X11_longOf rfl rfl rfl (by decide +kernel) ⟨Nat.le_of_ble_eq_true rfl, Nat.le_of_ble_eq_true rfl⟩) hK hP hD hS hA [0, 1] [] rfl rfl (by decide) (by decide) (by decide) rfl rfl rfl hl.1 (Nat.le_of_ble_eq_true rfl) rfl rfl dX11_isPlace_3 ⟨by decide, by decide⟩ (fun u0 H locs hP hD hS => ?_)
  refine lv_iconst (v := 1) hx hb dX11_isPlace_6 (by decide) ?_
  refine lv_isub hx hb dX11_isPlace_7 ?_
  refine tpv (v := .int 2) rfl ?_
  refine call_iS (As := [.int 0, .int 0, .int 2]) (rest := []) (wr := [((n 0), .inr (11, fM n)), ((n 7), .inl (cI, 2, .inl (upd (fun _ => 0) 0 3)))]) ⟨hx, hb, hml, hown, hts⟩ (k98_X11_isIn l dC dI cB cI cJ cZ cO) (va_cwS 3 hts gX11_isPlace_X11_isIn rfl rfl rfl (by decide +kernel) ⟨Nat.le_of_ble_eq_true rfl, Nat.le_of_ble_eq_true rfl⟩) hK hP hD hS hA [] [0, 1] rfl rfl (by decide) (by decide) (by decide) hl.1 (Nat.le_of_ble_eq_true rfl) rfl rfl dX11_isPlace_8 ⟨by decide, by decide⟩ (fun u1 H locs hP hD hS => ?_)
  refine W.widen (k := 0) (n := 0) (by decide) (by decide) ?_
  exact ret_z hx hb hr rfl hlocks hS (u := (fun _ => 0)) (hP.sub [0, 1] rfl) (hD.sub [0, 1] (by decide) rfl) dX11_isPlace_11

set_option maxHeartbeats 4000000 in
set_option maxRecDepth 100000 in
theorem k100_X11_turn (l : Launch) (dC : Nat → ClassId) (dI : Nat → Nat → Nat) (cB cI cJ cZ cO : ClassId) (n : Nat → Nat) : CI l yX11_turn wsX11_turn ({ frames := 2, cells := 0, slots := 0, locals := 43 }) (dC, dI) (tyL cB cI cJ cZ cO) [.ref (n 0), .int 0] [((n 0), .inr (11, fM n)), ((n 7), .inl (cI, 2, .inl (upd (fun _ => 0) 0 3))), ((n 27), .inl (cI, 6, .inl (upd (upd (upd (upd (fun _ => 0) 1 1) 2 2) 4 1) 5 2)))] (fun _ => []) 0 := by
  intro sz
  refine ct_open (cc := cX11_turn) (maxL := 2) (ret := (some .int)) (by decide) rfl (Nat.le_of_ble_eq_true rfl) ?_
  intro p e s m below meth c ls A hx hb hr hml hts hown hlocks hin hP hK hD hA hS hl
  have hl : lv_has ls 2 [(0, .ref (n 0)), (1, .int 0)] := hl
  have hown : s.vm.findClass RX11 = some m.cls := hown
  have i11 : ∀ w ∈ u_ws RX11 TX11 71, w ∈ wsX11_turn := fun _ h => List.mem_cons_of_mem _ (List.mem_append_right _ h)
  have w1 := hts (.fieldLink RX11 95 "GuildCharterModel" "turnNow" "[I") (List.mem_cons_of_mem _ (List.mem_append_left _ (List.mem_of_getElem? (i := 0) rfl)))
  refine lv_aload_n hx hb dX11_turn_0 rfl (lv_at hl 0 rfl) ?_
  refine lv_iload_n hx hb dX11_turn_1 rfl (lv_at hl 1 rfl) ?_
  refine call_iV (ci := 11) (As := [.int 0]) (rest := []) (wr := [((n 27), .inl (cI, 6, .inl (upd (upd (upd (upd (fun _ => 0) 1 1) 2 2) 4 1) 5 2)))]) ⟨hx, hb, hml, hown, hts⟩ (k99_X11_isPlace l dC dI cB cI cJ cZ cO n) (cwV 1 hts gX11_turn_X11_isPlace rfl rfl rfl (by decide +kernel) ⟨Nat.le_of_ble_eq_true rfl, Nat.le_of_ble_eq_true rfl⟩) hK hP hD hS hA [0, 1] [2] rfl rfl (by decide) (by decide) (by decide) rfl rfl rfl hl.1 (Nat.le_of_ble_eq_true rfl) rfl rfl dX11_turn_2 ⟨by decide, by decide⟩ (fun u0 H locs hP hD hS => ?_)
  refine lv_if_eq (tgt := 17) hx hb dX11_turn_5 (by decide) (fun c1 => absurd c1 (by decide)) (fun _ => ?_)
  refine lv_aload_n hx hb dX11_turn_8 rfl (lv_at hl 0 rfl) ?_
  refine va_get (D := (dC, dI)) (ci := 11) (v := .ref (n 27)) (C := RX11) (T := TX11) (N := 71) hx hb hts i11 hown hK hP 1 rfl rfl 37 (by decide) w1 (fun _ h9 => h9) rfl dX11_turn_9 ?_
  refine lv_iload_n hx hb dX11_turn_12 rfl (lv_at hl 1 rfl) ?_
  refine va_iald hx hb hK hP 0 1 rfl rfl (vin _ _ rfl) dX11_turn_13 ?_
  refine tpv (v := .int 0) rfl ?_
  refine lv_goto (tgt := 18) hx hb dX11_turn_14 (by decide) ?_
  refine W.widen (k := 0) (n := 0) (by decide) (by decide) ?_
  exact ret_i hx hb hr hlocks hS (u := (fun _ => 0)) (hP.sub [] rfl) (hD.sub [] (by decide) rfl) dX11_turn_18

set_option maxHeartbeats 4000000 in
set_option maxRecDepth 100000 in
theorem k94_X4_hasPlace (l : Launch) (dC : Nat → ClassId) (dI : Nat → Nat → Nat) (cB cI cJ cZ cO : ClassId) (r : Nat → Nat) : CI l yX4_hasPlace wsX4_hasPlace ({ frames := 0, cells := 0, slots := 0, locals := 0 }) (dC, dI) (tyL cB cI cJ cZ cO) [.ref (r 18), .int 0] [((r 18), .inr (4, [.int 0, .ref (r 19), .ref (r 20), .int 0, .ref (r 21), .ref (r 22), .int 0, .ref (r 23), .ref (r 24), .int 0, .ref (r 25), .ref (r 26), .int 3, .int 0, .int 0, .ref (r 27)]))] (fun u => [((r 18), .inr (4, [.int 0, .ref (r 19), .ref (r 20), .int 0, .ref (r 21), .ref (r 22), .int 0, .ref (r 23), .ref (r 24), .int 0, .ref (r 25), .ref (r 26), .int 3, .int 0, .int 0, .ref (r 27)]))]) 1 := by
  intro sz
  refine ct_open (cc := cX4_hasPlace) (maxL := 2) (ret := (some .boolean)) (by decide) rfl (Nat.le_of_ble_eq_true rfl) ?_
  intro p e s m below meth c ls A hx hb hr hml hts hown hlocks hin hP hK hD hA hS hl
  have hl : lv_has ls 2 [(0, .ref (r 18)), (1, .int 0)] := hl
  have hown : s.vm.findClass RX4 = some m.cls := hown
  have i4 : ∀ w ∈ u_ws RX4 TX4 16, w ∈ wsX4_hasPlace := fun _ h => List.mem_cons_of_mem _ (List.mem_append_right _ h)
  have w1 := hts (.fieldLink RX4 41 "GuildCharter$Port" "length" "I") (List.mem_cons_of_mem _ (List.mem_append_left _ (List.mem_of_getElem? (i := 0) rfl)))
  refine lv_iload_n hx hb dX4_hasPlace_0 rfl (lv_at hl 1 rfl) ?_
  refine lv_if_lt (tgt := 16) hx hb dX4_hasPlace_1 (by decide) (fun c1 => absurd c1 (by decide)) (fun _ => ?_)
  refine lv_iload_n hx hb dX4_hasPlace_4 rfl (lv_at hl 1 rfl) ?_
  refine lv_aload_n hx hb dX4_hasPlace_5 rfl (lv_at hl 0 rfl) ?_
  refine va_get (D := (dC, dI)) (ci := 4) (v := .int 3) (C := RX4) (T := TX4) (N := 16) hx hb hts i4 hown hK hP 0 rfl rfl 12 (by decide) w1 (fun _ h9 => h9) rfl dX4_hasPlace_6 ?_
  refine lv_icmp_ge (tgt := 16) hx hb dX4_hasPlace_9 (by decide) (fun c1 => absurd c1 (by decide)) (fun _ => ?_)
  refine lv_iconst (v := 1) hx hb dX4_hasPlace_12 (by decide) ?_
  refine lv_goto (tgt := 17) hx hb dX4_hasPlace_13 (by decide) ?_
  refine W.widen (k := 0) (n := 0) (by decide) (by decide) ?_
  exact ret_z hx hb hr rfl hlocks hS (u := (fun _ => 0)) (hP.sub [0] rfl) (hD.sub [0] (by decide) rfl) dX4_hasPlace_17

set_option maxHeartbeats 4000000 in
set_option maxRecDepth 100000 in
theorem k95_X4_turnAt (l : Launch) (dC : Nat → ClassId) (dI : Nat → Nat → Nat) (cB cI cJ cZ cO : ClassId) (r : Nat → Nat) : CI l yX4_turnAt wsX4_turnAt ({ frames := 0, cells := 0, slots := 0, locals := 0 }) (dC, dI) (tyL cB cI cJ cZ cO) [.ref (r 18), .int 0] [((r 18), .inr (4, [.int 0, .ref (r 19), .ref (r 20), .int 0, .ref (r 21), .ref (r 22), .int 0, .ref (r 23), .ref (r 24), .int 0, .ref (r 25), .ref (r 26), .int 3, .int 0, .int 0, .ref (r 27)]))] (fun u => [((r 18), .inr (4, [.int 0, .ref (r 19), .ref (r 20), .int 0, .ref (r 21), .ref (r 22), .int 0, .ref (r 23), .ref (r 24), .int 0, .ref (r 25), .ref (r 26), .int 3, .int 0, .int 0, .ref (r 27)]))]) 0 := by
  intro sz
  refine ct_open (cc := cX4_turnAt) (maxL := 2) (ret := (some .int)) (by decide) rfl (Nat.le_of_ble_eq_true rfl) ?_
  intro p e s m below meth c ls A hx hb hr hml hts hown hlocks hin hP hK hD hA hS hl
  have hl : lv_has ls 2 [(0, .ref (r 18)), (1, .int 0)] := hl
  have hown : s.vm.findClass RX4 = some m.cls := hown
  have i4 : ∀ w ∈ u_ws RX4 TX4 16, w ∈ wsX4_turnAt := fun _ h => List.mem_cons_of_mem _ (List.mem_append_right _ h)
  have w1 := hts (.fieldLink RX4 67 "GuildCharter$Port" "turnCount" "I") (List.mem_cons_of_mem _ (List.mem_append_left _ (List.mem_of_getElem? (i := 0) rfl)))
  refine lv_aload_n hx hb dX4_turnAt_0 rfl (lv_at hl 0 rfl) ?_
  refine va_get (D := (dC, dI)) (ci := 4) (v := .int 0) (C := RX4) (T := TX4) (N := 16) hx hb hts i4 hown hK hP 0 rfl rfl 14 (by decide) w1 (fun _ h9 => h9) rfl dX4_turnAt_1 ?_
  refine lv_if_le (tgt := 21) hx hb dX4_turnAt_4 (by decide) (fun _ => ?_) (fun c1 => absurd (by decide) c1)
  refine lv_iload_n hx hb dX4_turnAt_21 rfl (lv_at hl 1 rfl) ?_
  refine lv_iconst (v := 3) hx hb dX4_turnAt_22 (by decide) ?_
  refine lv_irem hx hb dX4_turnAt_23 (by decide) ?_
  refine tpv (v := .int 0) rfl ?_
  refine W.widen (k := 0) (n := 0) (by decide) (by decide) ?_
  exact ret_i hx hb hr hlocks hS (u := (fun _ => 0)) (hP.sub [0] rfl) (hD.sub [0] (by decide) rfl) dX4_turnAt_24

set_option maxHeartbeats 4000000 in
set_option maxRecDepth 100000 in
theorem k96_X10_ownerInEarnest (l : Launch) (dC : Nat → ClassId) (dI : Nat → Nat → Nat) (cB cI cJ cZ cO : ClassId) (r : Nat → Nat) : CI l yX10_ownerInEarnest wsX10_ownerInEarnest ({ frames := 1, cells := 0, slots := 0, locals := 21 }) (dC, dI) (tyL cB cI cJ cZ cO) [.ref (r 0), .int 0] [((r 0), .inr (10, fX r)), ((r 38), .inr (0, [.ref (r 39), .int 0, .ref (r 40), .ref (r 41), .ref (r 42), .ref (r 43), .ref (r 44), .int 0, .int 0])), ((r 40), .inl (cI, 6, .inl (upd (upd (upd (upd (upd (upd (fun _ => 0) 0 (-1)) 1 (-1)) 2 (-1)) 3 (-1)) 4 (-1)) 5 (-1)))), ((r 18), .inr (4, [.int 0, .ref (r 19), .ref (r 20), .int 0, .ref (r 21), .ref (r 22), .int 0, .ref (r 23), .ref (r 24), .int 0, .ref (r 25), .ref (r 26), .int 3, .int 0, .int 0, .ref (r 27)]))] (fun u => [((r 0), .inr (10, fX r)), ((r 38), .inr (0, [.ref (r 39), .int 0, .ref (r 40), .ref (r 41), .ref (r 42), .ref (r 43), .ref (r 44), .int 0, .int 0])), ((r 40), .inl (cI, 6, .inl (upd (upd (upd (upd (upd (upd (fun _ => 0) 0 (-1)) 1 (-1)) 2 (-1)) 3 (-1)) 4 (-1)) 5 (-1)))), ((r 18), .inr (4, [.int 0, .ref (r 19), .ref (r 20), .int 0, .ref (r 21), .ref (r 22), .int 0, .ref (r 23), .ref (r 24), .int 0, .ref (r 25), .ref (r 26), .int 3, .int 0, .int 0, .ref (r 27)]))]) 0 := by
  intro sz
  refine ct_open (cc := cX10_ownerInEarnest) (maxL := 2) (ret := (some .int)) (by decide) rfl (Nat.le_of_ble_eq_true rfl) ?_
  intro p e s m below meth c ls A hx hb hr hml hts hown hlocks hin hP hK hD hA hS hl
  have hl : lv_has ls 2 [(0, .ref (r 0)), (1, .int 0)] := hl
  have hown : s.vm.findClass RX10 = some m.cls := hown
  have i10 : ∀ w ∈ u_ws RX10 TX10 18, w ∈ wsX10_ownerInEarnest := fun _ h => List.mem_cons_of_mem _ (List.mem_append_left _ (List.mem_append_left _ (List.mem_append_right _ h)))
  have w1 := hts (.fieldLink RX10 33 "GuildCharter" "earnest" "LGuildCharter$Earnest;") (List.mem_cons_of_mem _ (List.mem_append_left _ (List.mem_append_left _ (List.mem_append_left _ (List.mem_of_getElem? (i := 0) rfl)))))
  have i0 : ∀ w ∈ u_ws RX0 TX0 9, w ∈ wsX10_ownerInEarnest := fun _ h => List.mem_cons_of_mem _ (List.mem_append_left _ (List.mem_append_right _ h))
  have w3 := hts (.fieldLink RX10 164 "GuildCharter$Earnest" "sold" "[I") (List.mem_cons_of_mem _ (List.mem_append_left _ (List.mem_append_left _ (List.mem_append_left _ (List.mem_of_getElem? (i := 1) rfl)))))
  have w4 := hts (.fieldLink RX10 23 "GuildCharter" "told" "LGuildCharter$Port;") (List.mem_cons_of_mem _ (List.mem_append_left _ (List.mem_append_left _ (List.mem_append_left _ (List.mem_of_getElem? (i := 2) rfl)))))
  refine lv_aload_n hx hb dX10_ownerInEarnest_0 rfl (lv_at hl 0 rfl) ?_
  refine va_get (D := (dC, dI)) (ci := 10) (v := .ref (r 38)) (C := RX10) (T := TX10) (N := 18) hx hb hts i10 hown hK hP 0 rfl rfl 5 (by decide) w1 (fun _ h9 => h9) rfl dX10_ownerInEarnest_1 ?_
  refine va_get (D := (dC, dI)) (ci := 0) (v := .ref (r 40)) (C := RX0) (T := TX0) (N := 9) hx hb hts i0 hown hK hP 1 rfl rfl 2 (by decide) w3 (fun _ h9 => h9) rfl dX10_ownerInEarnest_4 ?_
  refine lv_iload_n hx hb dX10_ownerInEarnest_7 rfl (lv_at hl 1 rfl) ?_
  refine va_iald hx hb hK hP 2 1 rfl rfl (vin _ _ rfl) dX10_ownerInEarnest_8 ?_
  refine tpv (v := .int (-1)) rfl ?_
  refine lv_iconst (v := (-1)) hx hb dX10_ownerInEarnest_9 (by decide) ?_
  refine lv_icmp_eq (tgt := 25) hx hb dX10_ownerInEarnest_10 (by decide) (fun _ => ?_) (fun c1 => absurd (rfl) c1)
  refine lv_aload_n hx hb dX10_ownerInEarnest_25 rfl (lv_at hl 0 rfl) ?_
  refine va_get (D := (dC, dI)) (ci := 10) (v := .ref (r 18)) (C := RX10) (T := TX10) (N := 18) hx hb hts i10 hown hK hP 0 rfl rfl 3 (by decide) w4 (fun _ h9 => h9) rfl dX10_ownerInEarnest_26 ?_
  refine lv_iload_n hx hb dX10_ownerInEarnest_29 rfl (lv_at hl 1 rfl) ?_
  refine call_iV (ci := 4) (As := [.int 0]) (rest := []) (wr := [((r 0), .inr (10, fX r)), ((r 38), .inr (0, [.ref (r 39), .int 0, .ref (r 40), .ref (r 41), .ref (r 42), .ref (r 43), .ref (r 44), .int 0, .int 0])), ((r 40), .inl (cI, 6, .inl (upd (upd (upd (upd (upd (upd (fun _ => 0) 0 (-1)) 1 (-1)) 2 (-1)) 3 (-1)) 4 (-1)) 5 (-1))))]) ⟨hx, hb, hml, hown, hts⟩ (k95_X4_turnAt l dC dI cB cI cJ cZ cO r) (cwV 1 hts gX10_ownerInEarnest_X4_turnAt rfl rfl rfl (by decide +kernel) ⟨Nat.le_of_ble_eq_true rfl, Nat.le_of_ble_eq_true rfl⟩) hK hP hD hS hA [3] [0, 1, 2] rfl rfl (by decide) (by decide) (by decide) rfl rfl rfl hl.1 (Nat.le_of_ble_eq_true rfl) rfl rfl dX10_ownerInEarnest_30 ⟨by decide, by decide⟩ (fun u0 H locs hP hD hS => ?_)
  refine W.widen (k := 0) (n := 0) (by decide) (by decide) ?_
  exact ret_i hx hb hr hlocks hS (u := (fun _ => 0)) (hP.sub [0, 1, 2, 3] rfl) (hD.sub [0, 1, 2, 3] (by decide) rfl) dX10_ownerInEarnest_33

set_option maxHeartbeats 4000000 in
set_option maxRecDepth 100000 in
theorem k97_X10_turn (l : Launch) (dC : Nat → ClassId) (dI : Nat → Nat → Nat) (cB cI cJ cZ cO : ClassId) (r : Nat → Nat) : CI l yX10_turn wsX10_turn ({ frames := 2, cells := 0, slots := 0, locals := 42 }) (dC, dI) (tyL cB cI cJ cZ cO) [.ref (r 0), .int 0] [((r 0), .inr (10, fX r)), ((r 18), .inr (4, [.int 0, .ref (r 19), .ref (r 20), .int 0, .ref (r 21), .ref (r 22), .int 0, .ref (r 23), .ref (r 24), .int 0, .ref (r 25), .ref (r 26), .int 3, .int 0, .int 0, .ref (r 27)])), ((r 38), .inr (0, [.ref (r 39), .int 0, .ref (r 40), .ref (r 41), .ref (r 42), .ref (r 43), .ref (r 44), .int 0, .int 0])), ((r 40), .inl (cI, 6, .inl (upd (upd (upd (upd (upd (upd (fun _ => 0) 0 (-1)) 1 (-1)) 2 (-1)) 3 (-1)) 4 (-1)) 5 (-1))))] (fun _ => []) 0 := by
  intro sz
  refine ct_open (cc := cX10_turn) (maxL := 2) (ret := (some .int)) (by decide) rfl (Nat.le_of_ble_eq_true rfl) ?_
  intro p e s m below meth c ls A hx hb hr hml hts hown hlocks hin hP hK hD hA hS hl
  have hl : lv_has ls 2 [(0, .ref (r 0)), (1, .int 0)] := hl
  have hown : s.vm.findClass RX10 = some m.cls := hown
  have i10 : ∀ w ∈ u_ws RX10 TX10 18, w ∈ wsX10_turn := fun _ h => List.mem_cons_of_mem _ (List.mem_append_left _ (List.mem_append_left _ (List.mem_append_right _ h)))
  have w1 := hts (.fieldLink RX10 23 "GuildCharter" "told" "LGuildCharter$Port;") (List.mem_cons_of_mem _ (List.mem_append_left _ (List.mem_append_left _ (List.mem_append_left _ (List.mem_of_getElem? (i := 0) rfl)))))
  refine lv_aload_n hx hb dX10_turn_0 rfl (lv_at hl 0 rfl) ?_
  refine va_get (D := (dC, dI)) (ci := 10) (v := .ref (r 18)) (C := RX10) (T := TX10) (N := 18) hx hb hts i10 hown hK hP 0 rfl rfl 3 (by decide) w1 (fun _ h9 => h9) rfl dX10_turn_1 ?_
  refine lv_iload_n hx hb dX10_turn_4 rfl (lv_at hl 1 rfl) ?_
  refine call_iV (ci := 4) (As := [.int 0]) (rest := []) (wr := [((r 0), .inr (10, fX r)), ((r 38), .inr (0, [.ref (r 39), .int 0, .ref (r 40), .ref (r 41), .ref (r 42), .ref (r 43), .ref (r 44), .int 0, .int 0])), ((r 40), .inl (cI, 6, .inl (upd (upd (upd (upd (upd (upd (fun _ => 0) 0 (-1)) 1 (-1)) 2 (-1)) 3 (-1)) 4 (-1)) 5 (-1))))]) ⟨hx, hb, hml, hown, hts⟩ (k94_X4_hasPlace l dC dI cB cI cJ cZ cO r) (cwV 1 hts gX10_turn_X4_hasPlace rfl rfl rfl (by decide +kernel) ⟨Nat.le_of_ble_eq_true rfl, Nat.le_of_ble_eq_true rfl⟩) hK hP hD hS hA [1] [0, 2, 3] rfl rfl (by decide) (by decide) (by decide) rfl rfl rfl hl.1 (Nat.le_of_ble_eq_true rfl) rfl rfl dX10_turn_5 ⟨by decide, by decide⟩ (fun u0 H locs hP hD hS => ?_)
  refine lv_if_eq (tgt := 19) hx hb dX10_turn_8 (by decide) (fun c1 => absurd c1 (by decide)) (fun _ => ?_)
  refine lv_aload_n hx hb dX10_turn_11 rfl (lv_at hl 0 rfl) ?_
  refine lv_iload_n hx hb dX10_turn_12 rfl (lv_at hl 1 rfl) ?_
  refine call_iV (ci := 10) (As := [.int 0]) (rest := []) (wr := []) ⟨hx, hb, hml, hown, hts⟩ (k96_X10_ownerInEarnest l dC dI cB cI cJ cZ cO r) (cwV 1 hts gX10_turn_X10_ownerInEarnest rfl rfl rfl (by decide +kernel) ⟨Nat.le_of_ble_eq_true rfl, Nat.le_of_ble_eq_true rfl⟩) hK hP hD hS hA [0, 1, 2, 3] [] rfl rfl (by decide) (by decide) (by decide) rfl rfl rfl hl.1 (Nat.le_of_ble_eq_true rfl) rfl rfl dX10_turn_13 ⟨by decide, by decide⟩ (fun u1 H locs hP hD hS => ?_)
  refine lv_goto (tgt := 20) hx hb dX10_turn_16 (by decide) ?_
  refine W.widen (k := 0) (n := 0) (by decide) (by decide) ?_
  exact ret_i hx hb hr hlocks hS (u := (fun _ => 0)) (hP.sub [] rfl) (hD.sub [] (by decide) rfl) dX10_turn_20

set_option maxHeartbeats 4000000 in
set_option maxRecDepth 100000 in
theorem k130_X10_isUnwritten (l : Launch) (dC : Nat → ClassId) (dI : Nat → Nat → Nat) (cB cI cJ cZ cO : ClassId) (r : Nat → Nat) : CI l yX10_isUnwritten wsX10_isUnwritten ({ frames := 1, cells := 0, slots := 0, locals := 21 }) (dC, dI) (tyL cB cI cJ cZ cO) [.ref (r 0), .int 0] [((r 0), .inr (10, fX r)), ((r 18), .inr (4, [.int 0, .ref (r 19), .ref (r 20), .int 0, .ref (r 21), .ref (r 22), .int 0, .ref (r 23), .ref (r 24), .int 0, .ref (r 25), .ref (r 26), .int 3, .int 0, .int 0, .ref (r 27)])), ((r 38), .inr (0, [.ref (r 39), .int 0, .ref (r 40), .ref (r 41), .ref (r 42), .ref (r 43), .ref (r 44), .int 0, .int 0]))] (fun u => [((r 0), .inr (10, fX r)), ((r 18), .inr (4, [.int 0, .ref (r 19), .ref (r 20), .int 0, .ref (r 21), .ref (r 22), .int 0, .ref (r 23), .ref (r 24), .int 0, .ref (r 25), .ref (r 26), .int 3, .int 0, .int 0, .ref (r 27)])), ((r 38), .inr (0, [.ref (r 39), .int 0, .ref (r 40), .ref (r 41), .ref (r 42), .ref (r 43), .ref (r 44), .int 0, .int 0]))]) 1 := by
  intro sz
  refine ct_open (cc := cX10_isUnwritten) (maxL := 2) (ret := (some .boolean)) (by decide) rfl (Nat.le_of_ble_eq_true rfl) ?_
  intro p e s m below meth c ls A hx hb hr hml hts hown hlocks hin hP hK hD hA hS hl
  have hl : lv_has ls 2 [(0, .ref (r 0)), (1, .int 0)] := hl
  have hown : s.vm.findClass RX10 = some m.cls := hown
  have i10 : ∀ w ∈ u_ws RX10 TX10 18, w ∈ wsX10_isUnwritten := fun _ h => List.mem_cons_of_mem _ (List.mem_append_left _ (List.mem_append_left _ (List.mem_append_right _ h)))
  have w1 := hts (.fieldLink RX10 23 "GuildCharter" "told" "LGuildCharter$Port;") (List.mem_cons_of_mem _ (List.mem_append_left _ (List.mem_append_left _ (List.mem_append_left _ (List.mem_of_getElem? (i := 0) rfl)))))
  have w2 := hts (.fieldLink RX10 33 "GuildCharter" "earnest" "LGuildCharter$Earnest;") (List.mem_cons_of_mem _ (List.mem_append_left _ (List.mem_append_left _ (List.mem_append_left _ (List.mem_of_getElem? (i := 1) rfl)))))
  have i0 : ∀ w ∈ u_ws RX0 TX0 9, w ∈ wsX10_isUnwritten := fun _ h => List.mem_cons_of_mem _ (List.mem_append_left _ (List.mem_append_right _ h))
  have w4 := hts (.fieldLink RX10 177 "GuildCharter$Earnest" "size" "I") (List.mem_cons_of_mem _ (List.mem_append_left _ (List.mem_append_left _ (List.mem_append_left _ (List.mem_of_getElem? (i := 2) rfl)))))
  refine lv_aload_n hx hb dX10_isUnwritten_0 rfl (lv_at hl 0 rfl) ?_
  refine va_get (D := (dC, dI)) (ci := 10) (v := .ref (r 18)) (C := RX10) (T := TX10) (N := 18) hx hb hts i10 hown hK hP 0 rfl rfl 3 (by decide) w1 (fun _ h9 => h9) rfl dX10_isUnwritten_1 ?_
  refine lv_iload_n hx hb dX10_isUnwritten_4 rfl (lv_at hl 1 rfl) ?_
  refine call_iV (ci := 4) (As := [.int 0]) (rest := []) (wr := [((r 0), .inr (10, fX r)), ((r 38), .inr (0, [.ref (r 39), .int 0, .ref (r 40), .ref (r 41), .ref (r 42), .ref (r 43), .ref (r 44), .int 0, .int 0]))]) ⟨hx, hb, hml, hown, hts⟩ (k94_X4_hasPlace l dC dI cB cI cJ cZ cO r) (cwV 1 hts gX10_isUnwritten_X4_hasPlace rfl rfl rfl (by decide +kernel) ⟨Nat.le_of_ble_eq_true rfl, Nat.le_of_ble_eq_true rfl⟩) hK hP hD hS hA [1] [0, 2] rfl rfl (by decide) (by decide) (by decide) rfl rfl rfl hl.1 (Nat.le_of_ble_eq_true rfl) rfl rfl dX10_isUnwritten_5 ⟨by decide, by decide⟩ (fun u0 H locs hP hD hS => ?_)
  refine lv_if_eq (tgt := 26) hx hb dX10_isUnwritten_8 (by decide) (fun c1 => absurd c1 (by decide)) (fun _ => ?_)
  refine lv_iload_n hx hb dX10_isUnwritten_11 rfl (lv_at hl 1 rfl) ?_
  refine lv_aload_n hx hb dX10_isUnwritten_12 rfl (lv_at hl 0 rfl) ?_
  refine va_get (D := (dC, dI)) (ci := 10) (v := .ref (r 38)) (C := RX10) (T := TX10) (N := 18) hx hb hts i10 hown hK hP 0 rfl rfl 5 (by decide) w2 (fun _ h9 => h9) rfl dX10_isUnwritten_13 ?_
  refine va_get (D := (dC, dI)) (ci := 0) (v := .int 0) (C := RX0) (T := TX0) (N := 9) hx hb hts i0 hown hK hP 1 rfl rfl 1 (by decide) w4 (fun _ h9 => h9) rfl dX10_isUnwritten_16 ?_
  refine lv_icmp_lt (tgt := 26) hx hb dX10_isUnwritten_19 (by decide) (fun c1 => absurd c1 (by decide)) (fun _ => ?_)
  refine lv_iconst (v := 1) hx hb dX10_isUnwritten_22 (by decide) ?_
  refine lv_goto (tgt := 27) hx hb dX10_isUnwritten_23 (by decide) ?_
  refine W.widen (k := 0) (n := 0) (by decide) (by decide) ?_
  exact ret_z hx hb hr rfl hlocks hS (u := (fun _ => 0)) (hP.sub [0, 2, 1] rfl) (hD.sub [0, 2, 1] (by decide) rfl) dX10_isUnwritten_27

set_option maxHeartbeats 4000000 in
set_option maxRecDepth 100000 in
theorem k145_X10_isGuild (l : Launch) (dC : Nat → ClassId) (dI : Nat → Nat → Nat) (cB cI cJ cZ cO : ClassId) (x2 : Int32) (h0 : ¬ x2 < 0) (h1 : 3 ≤ x2) : CI l yX10_isGuild wsX10_isGuild ({ frames := 0, cells := 0, slots := 0, locals := 0 }) (dC, dI) (tyL cB cI cJ cZ cO) [.int x2] [] (fun _ => []) 0 := by
  intro sz
  refine ct_open (cc := cX10_isGuild) (maxL := 1) (ret := (some .boolean)) (by decide) rfl (Nat.le_of_ble_eq_true rfl) ?_
  intro p e s m below meth c ls A hx hb hr hml hts hown hlocks hin hP hK hD hA hS hl
  have hl : lv_has ls 1 [(0, .int x2)] := hl
  have hown : s.vm.findClass RX10 = some m.cls := hown
  refine lv_iload_n hx hb dX10_isGuild_0 rfl (lv_at hl 0 rfl) ?_
  refine lv_if_lt (tgt := 13) hx hb dX10_isGuild_1 (by decide) (fun c1 => absurd c1 (h0)) (fun _ => ?_)
  refine lv_iload_n hx hb dX10_isGuild_4 rfl (lv_at hl 0 rfl) ?_
  refine lv_iconst (v := 3) hx hb dX10_isGuild_5 (by decide) ?_
  refine lv_icmp_ge (tgt := 13) hx hb dX10_isGuild_6 (by decide) (fun _ => ?_) (fun c1 => absurd (h1) c1)
  refine lv_iconst (v := 0) hx hb dX10_isGuild_13 (by decide) ?_
  refine W.widen (k := 0) (n := 0) (by decide) (by decide) ?_
  exact ret_z hx hb hr rfl hlocks hS (u := (fun _ => 0)) (hP.sub [] rfl) (hD.sub [] (by decide) rfl) dX10_isGuild_14

set_option maxHeartbeats 4000000 in
set_option maxRecDepth 100000 in
theorem k146_X10_sell (l : Launch) (dC : Nat → ClassId) (dI : Nat → Nat → Nat) (cB cI cJ cZ cO : ClassId) (r : Nat → Nat) (x2 : Int32) (h0 : ¬ x2 < 0) (h1 : 3 ≤ x2) : CI l yX10_sell wsX10_sell ({ frames := 2, cells := 0, slots := 0, locals := 42 }) (dC, dI) (tyL cB cI cJ cZ cO) [.ref (r 0), .int 0, .int x2] [((r 0), .inr (10, fX r)), ((r 18), .inr (4, [.int 0, .ref (r 19), .ref (r 20), .int 0, .ref (r 21), .ref (r 22), .int 0, .ref (r 23), .ref (r 24), .int 0, .ref (r 25), .ref (r 26), .int 3, .int 0, .int 0, .ref (r 27)])), ((r 38), .inr (0, [.ref (r 39), .int 0, .ref (r 40), .ref (r 41), .ref (r 42), .ref (r 43), .ref (r 44), .int 0, .int 0]))] (fun _ => []) (-1) := by
  intro sz
  refine ct_open (cc := cX10_sell) (maxL := 4) (ret := (some .int)) (by decide) rfl (Nat.le_of_ble_eq_true rfl) ?_
  intro p e s m below meth c ls A hx hb hr hml hts hown hlocks hin hP hK hD hA hS hl
  have hl : lv_has ls 4 [(0, .ref (r 0)), (1, .int 0), (2, .int x2)] := hl
  have hown : s.vm.findClass RX10 = some m.cls := hown
  refine lv_aload_n hx hb dX10_sell_0 rfl (lv_at hl 0 rfl) ?_
  refine lv_iload_n hx hb dX10_sell_1 rfl (lv_at hl 1 rfl) ?_
  refine call_iV (ci := 10) (As := [.int 0]) (rest := []) (wr := []) ⟨hx, hb, hml, hown, hts⟩ (k130_X10_isUnwritten l dC dI cB cI cJ cZ cO r) (cwV 1 hts gX10_sell_X10_isUnwritten rfl rfl rfl (by decide +kernel) ⟨Nat.le_of_ble_eq_true rfl, Nat.le_of_ble_eq_true rfl⟩) hK hP hD hS hA [0, 1, 2] [] rfl rfl (by decide) (by decide) (by decide) rfl rfl rfl hl.1 (Nat.le_of_ble_eq_true rfl) rfl rfl dX10_sell_2 ⟨by decide, by decide⟩ (fun u0 H locs hP hD hS => ?_)
  refine lv_if_eq (tgt := 15) hx hb dX10_sell_5 (by decide) (fun c1 => absurd c1 (by decide)) (fun _ => ?_)
  refine lv_iload_n hx hb dX10_sell_8 rfl (lv_at hl 2 rfl) ?_
  refine call_iS (As := [.int x2]) (rest := []) (wr := [((r 0), .inr (10, fX r)), ((r 18), .inr (4, [.int 0, .ref (r 19), .ref (r 20), .int 0, .ref (r 21), .ref (r 22), .int 0, .ref (r 23), .ref (r 24), .int 0, .ref (r 25), .ref (r 26), .int 3, .int 0, .int 0, .ref (r 27)])), ((r 38), .inr (0, [.ref (r 39), .int 0, .ref (r 40), .ref (r 41), .ref (r 42), .ref (r 43), .ref (r 44), .int 0, .int 0]))]) ⟨hx, hb, hml, hown, hts⟩ (k145_X10_isGuild l dC dI cB cI cJ cZ cO x2 h0 h1) (va_cwS 1 hts gX10_sell_X10_isGuild rfl rfl rfl (by decide +kernel) ⟨Nat.le_of_ble_eq_true rfl, Nat.le_of_ble_eq_true rfl⟩) hK hP hD hS hA [] [0, 1, 2] rfl rfl (by decide) (by decide) (by decide) hl.1 (Nat.le_of_ble_eq_true rfl) rfl rfl dX10_sell_9 ⟨by decide, by decide⟩ (fun u1 H locs hP hD hS => ?_)
  refine lv_if_ne (tgt := 17) hx hb dX10_sell_12 (by decide) (fun c1 => absurd (rfl) c1) (fun _ => ?_)
  refine lv_iconst (v := (-1)) hx hb dX10_sell_15 (by decide) ?_
  refine W.widen (k := 0) (n := 0) (by decide) (by decide) ?_
  exact ret_i hx hb hr hlocks hS (u := (fun _ => 0)) (hP.sub [] rfl) (hD.sub [] (by decide) rfl) dX10_sell_16

set_option maxHeartbeats 4000000 in
set_option maxRecDepth 100000 in
theorem k147_X11_isIn (l : Launch) (dC : Nat → ClassId) (dI : Nat → Nat → Nat) (cB cI cJ cZ cO : ClassId) (x2 : Int32) (h0 : ¬ x2 < 0) (h1 : 2 < x2) : CI l yX11_isIn wsX11_isIn ({ frames := 0, cells := 0, slots := 0, locals := 0 }) (dC, dI) (tyL cB cI cJ cZ cO) [.int x2, .int 0, .int 2] [] (fun _ => []) 0 := by
  intro sz
  refine ct_open (cc := cX11_isIn) (maxL := 3) (ret := (some .boolean)) (by decide) rfl (Nat.le_of_ble_eq_true rfl) ?_
  intro p e s m below meth c ls A hx hb hr hml hts hown hlocks hin hP hK hD hA hS hl
  have hl : lv_has ls 3 [(0, .int x2), (1, .int 0), (2, .int 2)] := hl
  have hown : s.vm.findClass RX11 = some m.cls := hown
  refine lv_iload_n hx hb dX11_isIn_0 rfl (lv_at hl 0 rfl) ?_
  refine lv_iload_n hx hb dX11_isIn_1 rfl (lv_at hl 1 rfl) ?_
  refine lv_icmp_lt (tgt := 14) hx hb dX11_isIn_2 (by decide) (fun c1 => absurd c1 (h0)) (fun _ => ?_)
  refine lv_iload_n hx hb dX11_isIn_5 rfl (lv_at hl 0 rfl) ?_
  refine lv_iload_n hx hb dX11_isIn_6 rfl (lv_at hl 2 rfl) ?_
  refine lv_icmp_gt (tgt := 14) hx hb dX11_isIn_7 (by decide) (fun _ => ?_) (fun c1 => absurd (h1) c1)
  refine lv_iconst (v := 0) hx hb dX11_isIn_14 (by decide) ?_
  refine W.widen (k := 0) (n := 0) (by decide) (by decide) ?_
  exact ret_z hx hb hr rfl hlocks hS (u := (fun _ => 0)) (hP.sub [] rfl) (hD.sub [] (by decide) rfl) dX11_isIn_15

set_option maxHeartbeats 4000000 in
set_option maxRecDepth 100000 in
theorem k148_X11_isGuild (l : Launch) (dC : Nat → ClassId) (dI : Nat → Nat → Nat) (cB cI cJ cZ cO : ClassId) (x2 : Int32) (h0 : ¬ x2 < 0) (h1 : 2 < x2) : CI l yX11_isGuild wsX11_isGuild ({ frames := 1, cells := 0, slots := 0, locals := 22 }) (dC, dI) (tyL cB cI cJ cZ cO) [.int x2] [] (fun _ => []) 0 := by
  intro sz
  refine ct_open (cc := cX11_isGuild) (maxL := 1) (ret := (some .boolean)) (by decide) rfl (Nat.le_of_ble_eq_true rfl) ?_
  intro p e s m below meth c ls A hx hb hr hml hts hown hlocks hin hP hK hD hA hS hl
  have hl : lv_has ls 1 [(0, .int x2)] := hl
  have hown : s.vm.findClass RX11 = some m.cls := hown
  refine lv_iload_n hx hb dX11_isGuild_0 rfl (lv_at hl 0 rfl) ?_
  refine lv_iconst (v := 0) hx hb dX11_isGuild_1 (by decide) ?_
  refine lv_iconst (v := 2) hx hb dX11_isGuild_2 (by decide) ?_
  refine call_iS (As := [.int x2, .int 0, .int 2]) (rest := []) (wr := []) ⟨hx, hb, hml, hown, hts⟩ (k147_X11_isIn l dC dI cB cI cJ cZ cO x2 h0 h1) (va_cwS 3 hts gX11_isGuild_X11_isIn rfl rfl rfl (by decide +kernel) ⟨Nat.le_of_ble_eq_true rfl, Nat.le_of_ble_eq_true rfl⟩) hK hP hD hS hA [] [] rfl rfl (by decide) (by decide) (by decide) hl.1 (Nat.le_of_ble_eq_true rfl) rfl rfl dX11_isGuild_3 ⟨by decide, by decide⟩ (fun u0 H locs hP hD hS => ?_)
  refine W.widen (k := 0) (n := 0) (by decide) (by decide) ?_
  exact ret_z hx hb hr rfl hlocks hS (u := (fun _ => 0)) (hP.sub [] rfl) (hD.sub [] (by decide) rfl) dX11_isGuild_6

set_option maxHeartbeats 4000000 in
set_option maxRecDepth 100000 in
theorem k149_X11_sell (l : Launch) (dC : Nat → ClassId) (dI : Nat → Nat → Nat) (cB cI cJ cZ cO : ClassId) (n : Nat → Nat) (x2 : Int32) (h0 : ¬ x2 < 0) (h1 : 2 < x2) : CI l yX11_sell wsX11_sell ({ frames := 2, cells := 0, slots := 0, locals := 42 }) (dC, dI) (tyL cB cI cJ cZ cO) [.ref (n 0), .int 0, .int x2] [((n 0), .inr (11, fM n)), ((n 7), .inl (cI, 2, .inl (upd (fun _ => 0) 0 3)))] (fun _ => []) (-1) := by
  intro sz
  refine ct_open (cc := cX11_sell) (maxL := 4) (ret := (some .int)) (by decide) rfl (Nat.le_of_ble_eq_true rfl) ?_
  intro p e s m below meth c ls A hx hb hr hml hts hown hlocks hin hP hK hD hA hS hl
  have hl : lv_has ls 4 [(0, .ref (n 0)), (1, .int 0), (2, .int x2)] := hl
  have hown : s.vm.findClass RX11 = some m.cls := hown
  have i11 : ∀ w ∈ u_ws RX11 TX11 71, w ∈ wsX11_sell := fun _ h => List.mem_cons_of_mem _ (List.mem_append_right _ h)
  have w1 := hts (.fieldLink RX11 336 "GuildCharterModel" "many" "I") (List.mem_cons_of_mem _ (List.mem_append_left _ (List.mem_of_getElem? (i := 0) rfl)))
  refine lv_iload_n hx hb dX11_sell_0 rfl (lv_at hl 1 rfl) ?_
  refine lv_aload_n hx hb dX11_sell_1 rfl (lv_at hl 0 rfl) ?_
  refine va_get (D := (dC, dI)) (ci := 11) (v := .int 0) (C := RX11) (T := TX11) (N := 71) hx hb hts i11 hown hK hP 0 rfl rfl 39 (by decide) w1 (fun _ h9 => h9) rfl dX11_sell_2 ?_
  refine lv_aload_n hx hb dX11_sell_5 rfl (lv_at hl 0 rfl) ?_
  refine call_iV (ci := 11) (As := []) (rest := [.int 0, .int 0]) (wr := []) ⟨hx, hb, hml, hown, hts⟩ (k90_X11_longOf l dC dI cB cI cJ cZ cO n) (cwV 0 hts gX11_sell_X11_longOf rfl rfl rfl (by decide +kernel) ⟨Nat.le_of_ble_eq_true rfl, Nat.le_of_ble_eq_true rfl⟩) hK hP hD hS hA [0, 1] [] rfl rfl (by decide) (by decide) (by decide) rfl rfl rfl hl.1 (Nat.le_of_ble_eq_true rfl) rfl rfl dX11_sell_6 ⟨by decide, by decide⟩ (fun u0 H locs hP hD hS => ?_)
  refine lv_iconst (v := 1) hx hb dX11_sell_9 (by decide) ?_
  refine lv_isub hx hb dX11_sell_10 ?_
  refine tpv (v := .int 2) rfl ?_
  refine call_iS (As := [.int 0, .int 0, .int 2]) (rest := []) (wr := [((n 0), .inr (11, fM n)), ((n 7), .inl (cI, 2, .inl (upd (fun _ => 0) 0 3)))]) ⟨hx, hb, hml, hown, hts⟩ (k98_X11_isIn l dC dI cB cI cJ cZ cO) (va_cwS 3 hts gX11_sell_X11_isIn rfl rfl rfl (by decide +kernel) ⟨Nat.le_of_ble_eq_true rfl, Nat.le_of_ble_eq_true rfl⟩) hK hP hD hS hA [] [0, 1] rfl rfl (by decide) (by decide) (by decide) hl.1 (Nat.le_of_ble_eq_true rfl) rfl rfl dX11_sell_11 ⟨by decide, by decide⟩ (fun u1 H locs hP hD hS => ?_)
  refine lv_if_eq (tgt := 24) hx hb dX11_sell_14 (by decide) (fun c1 => absurd c1 (by decide)) (fun _ => ?_)
  refine lv_iload_n hx hb dX11_sell_17 rfl (lv_at hl 2 rfl) ?_
  refine call_iS (As := [.int x2]) (rest := []) (wr := [((n 0), .inr (11, fM n)), ((n 7), .inl (cI, 2, .inl (upd (fun _ => 0) 0 3)))]) ⟨hx, hb, hml, hown, hts⟩ (k148_X11_isGuild l dC dI cB cI cJ cZ cO x2 h0 h1) (va_cwS 1 hts gX11_sell_X11_isGuild rfl rfl rfl (by decide +kernel) ⟨Nat.le_of_ble_eq_true rfl, Nat.le_of_ble_eq_true rfl⟩) hK hP hD hS hA [] [0, 1] rfl rfl (by decide) (by decide) (by decide) hl.1 (Nat.le_of_ble_eq_true rfl) rfl rfl dX11_sell_18 ⟨by decide, by decide⟩ (fun u2 H locs hP hD hS => ?_)
  refine lv_if_ne (tgt := 26) hx hb dX11_sell_21 (by decide) (fun c1 => absurd (rfl) c1) (fun _ => ?_)
  refine lv_iconst (v := (-1)) hx hb dX11_sell_24 (by decide) ?_
  refine W.widen (k := 0) (n := 0) (by decide) (by decide) ?_
  exact ret_i hx hb hr hlocks hS (u := (fun _ => 0)) (hP.sub [] rfl) (hD.sub [] (by decide) rfl) dX11_sell_25

set_option maxHeartbeats 4000000 in
set_option maxRecDepth 100000 in
theorem k10_J7_fill_53178 (l : Launch) (dC : Nat → ClassId) (dI : Nat → Nat → Nat) (cB cI cJ cZ cO : ClassId) (a0 : Nat) : CV l yJ7_fill_53178 wsJ7_fill_53178 ({ frames := 0, cells := 0, slots := 0, locals := 0 }) (dC, dI) (tyL cB cI cJ cZ cO) [.ref a0, .int (-1)] [(a0, .inl (cI, 6, .inl (fun _ => 0)))] (fun u => [(a0, .inl (cI, 6, .inl (upd (upd (upd (upd (upd (upd (fun _ => 0) 0 (-1)) 1 (-1)) 2 (-1)) 3 (-1)) 4 (-1)) 5 (-1))))]) := by
  intro sz
  refine ct_open (cc := cJ7_fill_53178) (maxL := 4) (ret := none) (by decide) rfl (Nat.le_of_ble_eq_true rfl) ?_
  intro p e s m below meth c ls A hx hb hr hml hts hown hlocks hin hP hK hD hA hS hl
  have hl : lv_has ls 4 [(0, .ref a0), (1, .int (-1))] := hl
  have hown : s.vm.findClass RJ7 = some m.cls := hown
  refine lv_iconst (v := 0) hx hb dJ7_fill_53178_0 (by decide) ?_
  refine lv_istore_n (lv' := [(2, .int 0), (0, .ref a0), (1, .int (-1))]) hx hb dJ7_fill_53178_1 rfl hl (by decide) rfl (fun ls hl => ?_)
  refine lv_aload_n hx hb dJ7_fill_53178_2 rfl (lv_at hl 1 rfl) ?_
  refine va_alen hx hb hK hP 0 1 rfl rfl (v := 6) rfl dJ7_fill_53178_3 ?_
  refine lv_istore_n (lv' := [(3, .int 6), (2, .int 0), (0, .ref a0), (1, .int (-1))]) hx hb dJ7_fill_53178_4 rfl hl (by decide) rfl (fun ls hl => ?_)
  refine lv_iload_n hx hb dJ7_fill_53178_5 rfl (lv_at hl 1 rfl) ?_
  refine lv_iload_n hx hb dJ7_fill_53178_6 rfl (lv_at hl 0 rfl) ?_
  refine lv_icmp_ge (tgt := 20) hx hb dJ7_fill_53178_7 (by decide) (fun c1 => absurd c1 (by decide)) (fun _ => ?_)
  refine lv_aload_n hx hb dJ7_fill_53178_10 rfl (lv_at hl 2 rfl) ?_
  refine lv_iload_n hx hb dJ7_fill_53178_11 rfl (lv_at hl 1 rfl) ?_
  refine lv_iload_n hx hb dJ7_fill_53178_12 rfl (lv_at hl 3 rfl) ?_
  refine va_iast hx hb hK hP hD hS 0 1 rfl rfl (vin _ _ rfl) dJ7_fill_53178_13 (fun H locs hP hD hS => ?_)
  refine lv_iinc (v := 1) (lv' := [(2, .int 1), (3, .int 6), (0, .ref a0), (1, .int (-1))]) hx hb dJ7_fill_53178_14 hl (k := 1) rfl (by decide) (by decide) rfl (fun ls hl => ?_)
  refine lv_goto (tgt := 5) hx hb dJ7_fill_53178_17 (by decide) ?_
  refine lv_iload_n hx hb dJ7_fill_53178_5 rfl (lv_at hl 0 rfl) ?_
  refine lv_iload_n hx hb dJ7_fill_53178_6 rfl (lv_at hl 1 rfl) ?_
  refine lv_icmp_ge (tgt := 20) hx hb dJ7_fill_53178_7 (by decide) (fun c1 => absurd c1 (by decide)) (fun _ => ?_)
  refine lv_aload_n hx hb dJ7_fill_53178_10 rfl (lv_at hl 2 rfl) ?_
  refine lv_iload_n hx hb dJ7_fill_53178_11 rfl (lv_at hl 0 rfl) ?_
  refine lv_iload_n hx hb dJ7_fill_53178_12 rfl (lv_at hl 3 rfl) ?_
  refine va_iast hx hb hK hP hD hS 0 1 rfl rfl (vin _ _ rfl) dJ7_fill_53178_13 (fun H locs hP hD hS => ?_)
  refine lv_iinc (v := 2) (lv' := [(2, .int 2), (3, .int 6), (0, .ref a0), (1, .int (-1))]) hx hb dJ7_fill_53178_14 hl (k := 0) rfl (by decide) (by decide) rfl (fun ls hl => ?_)
  refine lv_goto (tgt := 5) hx hb dJ7_fill_53178_17 (by decide) ?_
  refine lv_iload_n hx hb dJ7_fill_53178_5 rfl (lv_at hl 0 rfl) ?_
  refine lv_iload_n hx hb dJ7_fill_53178_6 rfl (lv_at hl 1 rfl) ?_
  refine lv_icmp_ge (tgt := 20) hx hb dJ7_fill_53178_7 (by decide) (fun c1 => absurd c1 (by decide)) (fun _ => ?_)
  refine lv_aload_n hx hb dJ7_fill_53178_10 rfl (lv_at hl 2 rfl) ?_
  refine lv_iload_n hx hb dJ7_fill_53178_11 rfl (lv_at hl 0 rfl) ?_
  refine lv_iload_n hx hb dJ7_fill_53178_12 rfl (lv_at hl 3 rfl) ?_
  refine va_iast hx hb hK hP hD hS 0 1 rfl rfl (vin _ _ rfl) dJ7_fill_53178_13 (fun H locs hP hD hS => ?_)
  refine lv_iinc (v := 3) (lv' := [(2, .int 3), (3, .int 6), (0, .ref a0), (1, .int (-1))]) hx hb dJ7_fill_53178_14 hl (k := 0) rfl (by decide) (by decide) rfl (fun ls hl => ?_)
  refine lv_goto (tgt := 5) hx hb dJ7_fill_53178_17 (by decide) ?_
  refine lv_iload_n hx hb dJ7_fill_53178_5 rfl (lv_at hl 0 rfl) ?_
  refine lv_iload_n hx hb dJ7_fill_53178_6 rfl (lv_at hl 1 rfl) ?_
  refine lv_icmp_ge (tgt := 20) hx hb dJ7_fill_53178_7 (by decide) (fun c1 => absurd c1 (by decide)) (fun _ => ?_)
  refine lv_aload_n hx hb dJ7_fill_53178_10 rfl (lv_at hl 2 rfl) ?_
  refine lv_iload_n hx hb dJ7_fill_53178_11 rfl (lv_at hl 0 rfl) ?_
  refine lv_iload_n hx hb dJ7_fill_53178_12 rfl (lv_at hl 3 rfl) ?_
  refine va_iast hx hb hK hP hD hS 0 1 rfl rfl (vin _ _ rfl) dJ7_fill_53178_13 (fun H locs hP hD hS => ?_)
  refine lv_iinc (v := 4) (lv' := [(2, .int 4), (3, .int 6), (0, .ref a0), (1, .int (-1))]) hx hb dJ7_fill_53178_14 hl (k := 0) rfl (by decide) (by decide) rfl (fun ls hl => ?_)
  refine lv_goto (tgt := 5) hx hb dJ7_fill_53178_17 (by decide) ?_
  refine lv_iload_n hx hb dJ7_fill_53178_5 rfl (lv_at hl 0 rfl) ?_
  refine lv_iload_n hx hb dJ7_fill_53178_6 rfl (lv_at hl 1 rfl) ?_
  refine lv_icmp_ge (tgt := 20) hx hb dJ7_fill_53178_7 (by decide) (fun c1 => absurd c1 (by decide)) (fun _ => ?_)
  refine lv_aload_n hx hb dJ7_fill_53178_10 rfl (lv_at hl 2 rfl) ?_
  refine lv_iload_n hx hb dJ7_fill_53178_11 rfl (lv_at hl 0 rfl) ?_
  refine lv_iload_n hx hb dJ7_fill_53178_12 rfl (lv_at hl 3 rfl) ?_
  refine va_iast hx hb hK hP hD hS 0 1 rfl rfl (vin _ _ rfl) dJ7_fill_53178_13 (fun H locs hP hD hS => ?_)
  refine lv_iinc (v := 5) (lv' := [(2, .int 5), (3, .int 6), (0, .ref a0), (1, .int (-1))]) hx hb dJ7_fill_53178_14 hl (k := 0) rfl (by decide) (by decide) rfl (fun ls hl => ?_)
  refine lv_goto (tgt := 5) hx hb dJ7_fill_53178_17 (by decide) ?_
  refine lv_iload_n hx hb dJ7_fill_53178_5 rfl (lv_at hl 0 rfl) ?_
  refine lv_iload_n hx hb dJ7_fill_53178_6 rfl (lv_at hl 1 rfl) ?_
  refine lv_icmp_ge (tgt := 20) hx hb dJ7_fill_53178_7 (by decide) (fun c1 => absurd c1 (by decide)) (fun _ => ?_)
  refine lv_aload_n hx hb dJ7_fill_53178_10 rfl (lv_at hl 2 rfl) ?_
  refine lv_iload_n hx hb dJ7_fill_53178_11 rfl (lv_at hl 0 rfl) ?_
  refine lv_iload_n hx hb dJ7_fill_53178_12 rfl (lv_at hl 3 rfl) ?_
  refine va_iast hx hb hK hP hD hS 0 1 rfl rfl (vin _ _ rfl) dJ7_fill_53178_13 (fun H locs hP hD hS => ?_)
  refine lv_iinc (v := 6) (lv' := [(2, .int 6), (3, .int 6), (0, .ref a0), (1, .int (-1))]) hx hb dJ7_fill_53178_14 hl (k := 0) rfl (by decide) (by decide) rfl (fun ls hl => ?_)
  refine lv_goto (tgt := 5) hx hb dJ7_fill_53178_17 (by decide) ?_
  refine lv_iload_n hx hb dJ7_fill_53178_5 rfl (lv_at hl 0 rfl) ?_
  refine lv_iload_n hx hb dJ7_fill_53178_6 rfl (lv_at hl 1 rfl) ?_
  refine lv_icmp_ge (tgt := 20) hx hb dJ7_fill_53178_7 (by decide) (fun _ => ?_) (fun c1 => absurd (by decide) c1)
  refine W.widen (k := 0) (n := 0) (by decide) (by decide) ?_
  exact ret_v hx hb hr hlocks hS (u := (fun _ => 0)) (hP.sub [0] rfl) (hD.sub [0] (by decide) rfl) dJ7_fill_53178_20

set_option maxHeartbeats 4000000 in
set_option maxRecDepth 100000 in
theorem k11_X0_init (l : Launch) (dC : Nat → ClassId) (dI : Nat → Nat → Nat) (cB cI cJ cZ cO : ClassId) (a0 : Nat) : CV l yX0_init wsX0_init ({ frames := 1, cells := 6, slots := 172, locals := 23 }) (dC, dI) (tyL cB cI cJ cZ cO) [.ref a0] [(a0, .inr (0, [.null, .int 0, .null, .null, .null, .null, .null, .int 0, .int 0]))] (fun u => [(a0, .inr (0, [.ref (u 0), .int 0, .ref (u 1), .ref (u 2), .ref (u 3), .ref (u 4), .ref (u 5), .int 0, .int 0])), ((u 0), .inl (cI, 6, .inl (fun _ => 0))), ((u 1), .inl (cI, 6, .inl (upd (upd (upd (upd (upd (upd (fun _ => 0) 0 (-1)) 1 (-1)) 2 (-1)) 3 (-1)) 4 (-1)) 5 (-1)))), ((u 2), .inl (cZ, 40, .inl (fun _ => 0))), ((u 3), .inl (cI, 40, .inl (fun _ => 0))), ((u 4), .inl (cI, 40, .inl (fun _ => 0))), ((u 5), .inl (cI, 40, .inl (fun _ => 0)))]) := by
  intro sz
  refine ct_open (cc := cX0_init) (maxL := 1) (ret := none) (by decide) rfl (Nat.le_of_ble_eq_true rfl) ?_
  intro p e s m below meth c ls A hx hb hr hml hts hown hlocks hin hP hK hD hA hS hl
  have hl : lv_has ls 1 [(0, .ref a0)] := hl
  have hown : s.vm.findClass RX0 = some m.cls := hown
  have hin : meth.name = "<init>" := hin
  have w0 := hts (.methodLink RX0 3 objectInit) (List.mem_cons_of_mem _ (List.mem_append_left _ (List.mem_of_getElem? (i := 0) rfl)))
  have w1 := hts (.instanceMethod objectInit) (List.mem_cons_of_mem _ (List.mem_append_left _ (List.mem_of_getElem? (i := 1) rfl)))
  have w2 := hts (.code objectInit ⟨#[0xb1]⟩ 1 none) (List.mem_cons_of_mem _ (List.mem_append_left _ (List.mem_of_getElem? (i := 2) rfl)))
  have w3 := hts (.arrayClass .int) (List.mem_cons_of_mem _ (List.mem_append_left _ (List.mem_of_getElem? (i := 3) rfl)))
  have i0 : ∀ w ∈ u_ws RX0 TX0 9, w ∈ wsX0_init := fun _ h => List.mem_cons_of_mem _ (List.mem_append_right _ h)
  have w5 := hts (.fieldLink RX0 9 "GuildCharter$Earnest" "row" "[I") (List.mem_cons_of_mem _ (List.mem_append_left _ (List.mem_of_getElem? (i := 4) rfl)))
  have w6 := hts (.fieldLink RX0 15 "GuildCharter$Earnest" "sold" "[I") (List.mem_cons_of_mem _ (List.mem_append_left _ (List.mem_of_getElem? (i := 5) rfl)))
  have w7 := hts (.arrayClass .boolean) (List.mem_cons_of_mem _ (List.mem_append_left _ (List.mem_of_getElem? (i := 6) rfl)))
  have w8 := hts (.fieldLink RX0 18 "GuildCharter$Earnest" "sales" "[Z") (List.mem_cons_of_mem _ (List.mem_append_left _ (List.mem_of_getElem? (i := 7) rfl)))
  have w9 := hts (.fieldLink RX0 22 "GuildCharter$Earnest" "places" "[I") (List.mem_cons_of_mem _ (List.mem_append_left _ (List.mem_of_getElem? (i := 8) rfl)))
  have w10 := hts (.fieldLink RX0 25 "GuildCharter$Earnest" "befores" "[I") (List.mem_cons_of_mem _ (List.mem_append_left _ (List.mem_of_getElem? (i := 9) rfl)))
  have w11 := hts (.fieldLink RX0 28 "GuildCharter$Earnest" "afters" "[I") (List.mem_cons_of_mem _ (List.mem_append_left _ (List.mem_of_getElem? (i := 10) rfl)))
  refine lv_aload_n hx hb dX0_init_0 rfl (lv_at hl 0 rfl) ?_
  refine W.objInit hx hb hown w0 w1 w2 rfl (by rw [hml]; exact hl.1) rfl dX0_init_1 (Nat.le_of_ble_eq_true rfl) (Nat.le_of_ble_eq_true rfl) ?_
  refine W.eq (g2 := F0 m 4 ls []) rfl ?_
  refine lv_aload_n hx hb dX0_init_4 rfl (lv_at hl 0 rfl) ?_
  refine lv_bipush (v := 6) hx hb dX0_init_5 (by decide) ?_
  refine my_newa hx hb w3 (ty := .int) rfl hK hP hD hS hA 1 rfl (by decide) (N' := 6) (a0 := (6, .inl (fun _ => 0))) (fun _ => rfl) (by decide) rfl (by decide) (by decide) (by decide) dX0_init_7 (fun q0 H hP hD hS => ?_)
  refine va_putF (D := (dC, dI)) (ci := 0) (v := .ref q0) (ty := tyX0 0) (C := RX0) (T := TX0) (N := 9) hx hb hts i0 tyX0 tyX0_ok nmX0 hown hK hP hD hS 0 rfl rfl 0 (by decide) w5 (fun _ h9 => h9) rfl hin rfl (by decide +kernel) rfl rfl (Nat.le_of_ble_eq_true rfl) dX0_init_9 (fun H locs hP hD hS => ?_)
  refine lv_aload_n hx hb dX0_init_12 rfl (lv_at hl 0 rfl) ?_
  refine lv_bipush (v := 6) hx hb dX0_init_13 (by decide) ?_
  refine my_newa hx hb w3 (ty := .int) rfl hK hP hD hS hA 1 rfl (by decide) (N' := 6) (a0 := (6, .inl (fun _ => 0))) (fun _ => rfl) (by decide) rfl (by decide) (by decide) (by decide) dX0_init_15 (fun q1 H hP hD hS => ?_)
  refine va_putF (D := (dC, dI)) (ci := 0) (v := .ref q1) (ty := tyX0 2) (C := RX0) (T := TX0) (N := 9) hx hb hts i0 tyX0 tyX0_ok nmX0 hown hK hP hD hS 0 rfl rfl 2 (by decide) w6 (fun _ h9 => h9) rfl hin rfl (by decide +kernel) rfl rfl (Nat.le_of_ble_eq_true rfl) dX0_init_17 (fun H locs hP hD hS => ?_)
  refine lv_aload_n hx hb dX0_init_20 rfl (lv_at hl 0 rfl) ?_
  refine lv_bipush (v := 40) hx hb dX0_init_21 (by decide) ?_
  refine my_newa hx hb w7 (ty := .boolean) rfl hK hP hD hS hA 3 rfl (by decide) (N' := 40) (a0 := (40, .inl (fun _ => 0))) (fun _ => rfl) (by decide) rfl (by decide) (by decide) (by decide) dX0_init_23 (fun q2 H hP hD hS => ?_)
  refine va_putF (D := (dC, dI)) (ci := 0) (v := .ref q2) (ty := tyX0 3) (C := RX0) (T := TX0) (N := 9) hx hb hts i0 tyX0 tyX0_ok nmX0 hown hK hP hD hS 0 rfl rfl 3 (by decide) w8 (fun _ h9 => h9) rfl hin rfl (by decide +kernel) rfl rfl (Nat.le_of_ble_eq_true rfl) dX0_init_25 (fun H locs hP hD hS => ?_)
  refine lv_aload_n hx hb dX0_init_28 rfl (lv_at hl 0 rfl) ?_
  refine lv_bipush (v := 40) hx hb dX0_init_29 (by decide) ?_
  refine my_newa hx hb w3 (ty := .int) rfl hK hP hD hS hA 1 rfl (by decide) (N' := 40) (a0 := (40, .inl (fun _ => 0))) (fun _ => rfl) (by decide) rfl (by decide) (by decide) (by decide) dX0_init_31 (fun q3 H hP hD hS => ?_)
  refine va_putF (D := (dC, dI)) (ci := 0) (v := .ref q3) (ty := tyX0 4) (C := RX0) (T := TX0) (N := 9) hx hb hts i0 tyX0 tyX0_ok nmX0 hown hK hP hD hS 0 rfl rfl 4 (by decide) w9 (fun _ h9 => h9) rfl hin rfl (by decide +kernel) rfl rfl (Nat.le_of_ble_eq_true rfl) dX0_init_33 (fun H locs hP hD hS => ?_)
  refine lv_aload_n hx hb dX0_init_36 rfl (lv_at hl 0 rfl) ?_
  refine lv_bipush (v := 40) hx hb dX0_init_37 (by decide) ?_
  refine my_newa hx hb w3 (ty := .int) rfl hK hP hD hS hA 1 rfl (by decide) (N' := 40) (a0 := (40, .inl (fun _ => 0))) (fun _ => rfl) (by decide) rfl (by decide) (by decide) (by decide) dX0_init_39 (fun q4 H hP hD hS => ?_)
  refine va_putF (D := (dC, dI)) (ci := 0) (v := .ref q4) (ty := tyX0 5) (C := RX0) (T := TX0) (N := 9) hx hb hts i0 tyX0 tyX0_ok nmX0 hown hK hP hD hS 0 rfl rfl 5 (by decide) w10 (fun _ h9 => h9) rfl hin rfl (by decide +kernel) rfl rfl (Nat.le_of_ble_eq_true rfl) dX0_init_41 (fun H locs hP hD hS => ?_)
  refine lv_aload_n hx hb dX0_init_44 rfl (lv_at hl 0 rfl) ?_
  refine lv_bipush (v := 40) hx hb dX0_init_45 (by decide) ?_
  refine my_newa hx hb w3 (ty := .int) rfl hK hP hD hS hA 1 rfl (by decide) (N' := 40) (a0 := (40, .inl (fun _ => 0))) (fun _ => rfl) (by decide) rfl (by decide) (by decide) (by decide) dX0_init_47 (fun q5 H hP hD hS => ?_)
  refine va_putF (D := (dC, dI)) (ci := 0) (v := .ref q5) (ty := tyX0 6) (C := RX0) (T := TX0) (N := 9) hx hb hts i0 tyX0 tyX0_ok nmX0 hown hK hP hD hS 0 rfl rfl 6 (by decide) w11 (fun _ h9 => h9) rfl hin rfl (by decide +kernel) rfl rfl (Nat.le_of_ble_eq_true rfl) dX0_init_49 (fun H locs hP hD hS => ?_)
  refine lv_aload_n hx hb dX0_init_52 rfl (lv_at hl 0 rfl) ?_
  refine va_get (D := (dC, dI)) (ci := 0) (v := .ref q1) (C := RX0) (T := TX0) (N := 9) hx hb hts i0 hown hK hP 0 rfl rfl 2 (by decide) w6 (fun _ h9 => h9) rfl dX0_init_53 ?_
  refine lv_iconst (v := (-1)) hx hb dX0_init_56 (by decide) ?_
  refine call_vS (As := [.ref q1, .int (-1)]) (rest := []) (wr := [(a0, .inr (0, [.ref q0, .int 0, .ref q1, .ref q2, .ref q3, .ref q4, .ref q5, .int 0, .int 0])), (q0, .inl (cI, 6, .inl (fun _ => 0))), (q2, .inl (cZ, 40, .inl (fun _ => 0))), (q3, .inl (cI, 40, .inl (fun _ => 0))), (q4, .inl (cI, 40, .inl (fun _ => 0))), (q5, .inl (cI, 40, .inl (fun _ => 0)))]) ⟨hx, hb, hml, hown, hts⟩ (k10_J7_fill_53178 l dC dI cB cI cJ cZ cO q1) (va_cwS 2 hts gX0_init_J7_fill_53178 rfl rfl rfl (by decide +kernel) ⟨Nat.le_of_ble_eq_true rfl, Nat.le_of_ble_eq_true rfl⟩) hK hP hD hS hA [2] [0, 1, 3, 4, 5, 6] rfl rfl (by decide) (by decide) (by decide) hl.1 (Nat.le_of_ble_eq_true rfl) rfl rfl dX0_init_57 ⟨by decide, by decide⟩ (fun u0 H locs hP hD hS => ?_)
  refine W.widen (k := 6) (n := 172) (by decide) (by decide) ?_
  exact ret_v hx hb hr hlocks hS (u := (fun k => ([q0, q1, q2, q3, q4, q5] : List Nat).getD k 0)) (hP.sub [0, 1, 6, 2, 3, 4, 5] rfl) (hD.sub [0, 1, 6, 2, 3, 4, 5] (by decide) rfl) dX0_init_60

set_option maxHeartbeats 4000000 in
set_option maxRecDepth 100000 in
theorem k1_X8_packed (l : Launch) (dC : Nat → ClassId) (dI : Nat → Nat → Nat) (cB cI cJ cZ cO : ClassId) (ad av : Nat → Nat) : CLX l yX8_packed wsX8_packed ({ frames := 4, cells := 0, slots := 0, locals := 85 }) (dC, dI) (tyL cB cI cJ cZ cO) [.ref (ad 0)] [] (fun _ => []) 769604 ad av := by
  intro sz
  refine ctx_open (cc := cX8_packed) (maxL := 4) (ret := (some .long)) (by decide) rfl (Nat.le_of_ble_eq_true rfl) ?_
  intro p e s m below meth c ls A hx hb hr hml hts hown hlocks hin hP hK hD hA hS hl hE
  have hl : lv_has ls 4 [(0, .ref (ad 0))] := hl
  have hown : s.vm.findClass RX8 = some m.cls := hown
  refine lv_lconst (v := 0) hx hb dX8_packed_0 rfl ?_
  refine lv_lstore_n (lv' := [(1, .long 0), (0, .ref (ad 0))]) hx hb dX8_packed_1 rfl hl (by decide) rfl (fun ls hl => ?_)
  refine lv_iconst (v := 0) hx hb dX8_packed_2 (by decide) ?_
  refine lv_istore_n (lv' := [(3, .int 0), (1, .long 0), (0, .ref (ad 0))]) hx hb dX8_packed_3 rfl hl (by decide) rfl (fun ls hl => ?_)
  refine lv_iload_n hx hb dX8_packed_4 rfl (lv_at hl 0 rfl) ?_
  refine lv_aload_n hx hb dX8_packed_5 rfl (lv_at hl 2 rfl) ?_
  refine call_iVX (i := 0) (by decide) (As := []) (rest := [.int 0]) (wr := []) ⟨hx, hb, hml, hown, hts⟩ (kj_length l dC dI cB cI cJ cZ cO ad av 0 (by decide)) (cwV 0 hts gX8_packed_J0_length_8abf5 rfl rfl rfl (by decide +kernel) ⟨Nat.le_of_ble_eq_true rfl, Nat.le_of_ble_eq_true rfl⟩) hE hK hP hD hS hA [] rfl (by decide) hl.1 (Nat.le_of_ble_eq_true rfl) rfl rfl dX8_packed_6 ⟨by decide, by decide⟩ (fun u9 H locs hP hD hS => ?_)
  refine tpv (v := .int 4) rfl ?_
  refine lv_icmp_ge (tgt := 32) hx hb dX8_packed_9 (by decide) (fun c1 => absurd c1 (by decide)) (fun _ => ?_)
  refine lv_lload_n hx hb dX8_packed_12 rfl (lv_at hl 1 rfl) ?_
  refine lv_iconst (v := 5) hx hb dX8_packed_13 (by decide) ?_
  refine lv_lshl (v := 0) hx hb dX8_packed_14 rfl ?_
  refine lv_aload_n hx hb dX8_packed_15 rfl (lv_at hl 2 rfl) ?_
  refine lv_iload_n hx hb dX8_packed_16 rfl (lv_at hl 0 rfl) ?_
  refine call_iVX (i := 0) (by decide) (As := [.int 0]) (rest := [.long 0]) (wr := []) ⟨hx, hb, hml, hown, hts⟩ (kj_charAt l dC dI cB cI cJ cZ cO ad av 0 (by decide) 0 (by decide) (by decide) (vin _ _ rfl)) (cwV 1 hts gX8_packed_J0_charAt_5068e rfl rfl rfl (by decide +kernel) ⟨Nat.le_of_ble_eq_true rfl, Nat.le_of_ble_eq_true rfl⟩) hE hK hP hD hS hA [] rfl (by decide) hl.1 (Nat.le_of_ble_eq_true rfl) rfl rfl dX8_packed_17 ⟨by decide, by decide⟩ (fun u9 H locs hP hD hS => ?_)
  refine tpv (v := .int 119) rfl ?_
  refine lv_bipush (v := 96) hx hb dX8_packed_20 (by decide) ?_
  refine lv_isub hx hb dX8_packed_22 ?_
  refine tpv (v := .int 23) rfl ?_
  refine lv_i2l (v := 23) hx hb dX8_packed_23 rfl ?_
  refine lv_lor hx hb dX8_packed_24 ?_
  refine tpv (v := .long 23) rfl ?_
  refine lv_lstore_n (lv' := [(1, .long 23), (3, .int 0), (0, .ref (ad 0))]) hx hb dX8_packed_25 rfl hl (by decide) rfl (fun ls hl => ?_)
  refine lv_iinc (v := 1) (lv' := [(3, .int 1), (1, .long 23), (0, .ref (ad 0))]) hx hb dX8_packed_26 hl (k := 1) rfl (by decide) (by decide) rfl (fun ls hl => ?_)
  refine lv_goto (tgt := 4) hx hb dX8_packed_29 (by decide) ?_
  refine lv_iload_n hx hb dX8_packed_4 rfl (lv_at hl 0 rfl) ?_
  refine lv_aload_n hx hb dX8_packed_5 rfl (lv_at hl 2 rfl) ?_
  refine call_iVX (i := 0) (by decide) (As := []) (rest := [.int 1]) (wr := []) ⟨hx, hb, hml, hown, hts⟩ (kj_length l dC dI cB cI cJ cZ cO ad av 0 (by decide)) (cwV 0 hts gX8_packed_J0_length_8abf5 rfl rfl rfl (by decide +kernel) ⟨Nat.le_of_ble_eq_true rfl, Nat.le_of_ble_eq_true rfl⟩) hE hK hP hD hS hA [] rfl (by decide) hl.1 (Nat.le_of_ble_eq_true rfl) rfl rfl dX8_packed_6 ⟨by decide, by decide⟩ (fun u9 H locs hP hD hS => ?_)
  refine tpv (v := .int 4) rfl ?_
  refine lv_icmp_ge (tgt := 32) hx hb dX8_packed_9 (by decide) (fun c1 => absurd c1 (by decide)) (fun _ => ?_)
  refine lv_lload_n hx hb dX8_packed_12 rfl (lv_at hl 1 rfl) ?_
  refine lv_iconst (v := 5) hx hb dX8_packed_13 (by decide) ?_
  refine lv_lshl (v := 736) hx hb dX8_packed_14 rfl ?_
  refine lv_aload_n hx hb dX8_packed_15 rfl (lv_at hl 2 rfl) ?_
  refine lv_iload_n hx hb dX8_packed_16 rfl (lv_at hl 0 rfl) ?_
  refine call_iVX (i := 0) (by decide) (As := [.int 1]) (rest := [.long 736]) (wr := []) ⟨hx, hb, hml, hown, hts⟩ (kj_charAt l dC dI cB cI cJ cZ cO ad av 0 (by decide) 1 (by decide) (by decide) (vin _ _ rfl)) (cwV 1 hts gX8_packed_J0_charAt_5068e rfl rfl rfl (by decide +kernel) ⟨Nat.le_of_ble_eq_true rfl, Nat.le_of_ble_eq_true rfl⟩) hE hK hP hD hS hA [] rfl (by decide) hl.1 (Nat.le_of_ble_eq_true rfl) rfl rfl dX8_packed_17 ⟨by decide, by decide⟩ (fun u9 H locs hP hD hS => ?_)
  refine tpv (v := .int 111) rfl ?_
  refine lv_bipush (v := 96) hx hb dX8_packed_20 (by decide) ?_
  refine lv_isub hx hb dX8_packed_22 ?_
  refine tpv (v := .int 15) rfl ?_
  refine lv_i2l (v := 15) hx hb dX8_packed_23 rfl ?_
  refine lv_lor hx hb dX8_packed_24 ?_
  refine tpv (v := .long 751) rfl ?_
  refine lv_lstore_n (lv' := [(1, .long 751), (3, .int 1), (0, .ref (ad 0))]) hx hb dX8_packed_25 rfl hl (by decide) rfl (fun ls hl => ?_)
  refine lv_iinc (v := 2) (lv' := [(3, .int 2), (1, .long 751), (0, .ref (ad 0))]) hx hb dX8_packed_26 hl (k := 1) rfl (by decide) (by decide) rfl (fun ls hl => ?_)
  refine lv_goto (tgt := 4) hx hb dX8_packed_29 (by decide) ?_
  refine lv_iload_n hx hb dX8_packed_4 rfl (lv_at hl 0 rfl) ?_
  refine lv_aload_n hx hb dX8_packed_5 rfl (lv_at hl 2 rfl) ?_
  refine call_iVX (i := 0) (by decide) (As := []) (rest := [.int 2]) (wr := []) ⟨hx, hb, hml, hown, hts⟩ (kj_length l dC dI cB cI cJ cZ cO ad av 0 (by decide)) (cwV 0 hts gX8_packed_J0_length_8abf5 rfl rfl rfl (by decide +kernel) ⟨Nat.le_of_ble_eq_true rfl, Nat.le_of_ble_eq_true rfl⟩) hE hK hP hD hS hA [] rfl (by decide) hl.1 (Nat.le_of_ble_eq_true rfl) rfl rfl dX8_packed_6 ⟨by decide, by decide⟩ (fun u9 H locs hP hD hS => ?_)
  refine tpv (v := .int 4) rfl ?_
  refine lv_icmp_ge (tgt := 32) hx hb dX8_packed_9 (by decide) (fun c1 => absurd c1 (by decide)) (fun _ => ?_)
  refine lv_lload_n hx hb dX8_packed_12 rfl (lv_at hl 1 rfl) ?_
  refine lv_iconst (v := 5) hx hb dX8_packed_13 (by decide) ?_
  refine lv_lshl (v := 24032) hx hb dX8_packed_14 rfl ?_
  refine lv_aload_n hx hb dX8_packed_15 rfl (lv_at hl 2 rfl) ?_
  refine lv_iload_n hx hb dX8_packed_16 rfl (lv_at hl 0 rfl) ?_
  refine call_iVX (i := 0) (by decide) (As := [.int 2]) (rest := [.long 24032]) (wr := []) ⟨hx, hb, hml, hown, hts⟩ (kj_charAt l dC dI cB cI cJ cZ cO ad av 0 (by decide) 2 (by decide) (by decide) (vin _ _ rfl)) (cwV 1 hts gX8_packed_J0_charAt_5068e rfl rfl rfl (by decide +kernel) ⟨Nat.le_of_ble_eq_true rfl, Nat.le_of_ble_eq_true rfl⟩) hE hK hP hD hS hA [] rfl (by decide) hl.1 (Nat.le_of_ble_eq_true rfl) rfl rfl dX8_packed_17 ⟨by decide, by decide⟩ (fun u9 H locs hP hD hS => ?_)
  refine tpv (v := .int 114) rfl ?_
  refine lv_bipush (v := 96) hx hb dX8_packed_20 (by decide) ?_
  refine lv_isub hx hb dX8_packed_22 ?_
  refine tpv (v := .int 18) rfl ?_
  refine lv_i2l (v := 18) hx hb dX8_packed_23 rfl ?_
  refine lv_lor hx hb dX8_packed_24 ?_
  refine tpv (v := .long 24050) rfl ?_
  refine lv_lstore_n (lv' := [(1, .long 24050), (3, .int 2), (0, .ref (ad 0))]) hx hb dX8_packed_25 rfl hl (by decide) rfl (fun ls hl => ?_)
  refine lv_iinc (v := 3) (lv' := [(3, .int 3), (1, .long 24050), (0, .ref (ad 0))]) hx hb dX8_packed_26 hl (k := 1) rfl (by decide) (by decide) rfl (fun ls hl => ?_)
  refine lv_goto (tgt := 4) hx hb dX8_packed_29 (by decide) ?_
  refine lv_iload_n hx hb dX8_packed_4 rfl (lv_at hl 0 rfl) ?_
  refine lv_aload_n hx hb dX8_packed_5 rfl (lv_at hl 2 rfl) ?_
  refine call_iVX (i := 0) (by decide) (As := []) (rest := [.int 3]) (wr := []) ⟨hx, hb, hml, hown, hts⟩ (kj_length l dC dI cB cI cJ cZ cO ad av 0 (by decide)) (cwV 0 hts gX8_packed_J0_length_8abf5 rfl rfl rfl (by decide +kernel) ⟨Nat.le_of_ble_eq_true rfl, Nat.le_of_ble_eq_true rfl⟩) hE hK hP hD hS hA [] rfl (by decide) hl.1 (Nat.le_of_ble_eq_true rfl) rfl rfl dX8_packed_6 ⟨by decide, by decide⟩ (fun u9 H locs hP hD hS => ?_)
  refine tpv (v := .int 4) rfl ?_
  refine lv_icmp_ge (tgt := 32) hx hb dX8_packed_9 (by decide) (fun c1 => absurd c1 (by decide)) (fun _ => ?_)
  refine lv_lload_n hx hb dX8_packed_12 rfl (lv_at hl 1 rfl) ?_
  refine lv_iconst (v := 5) hx hb dX8_packed_13 (by decide) ?_
  refine lv_lshl (v := 769600) hx hb dX8_packed_14 rfl ?_
  refine lv_aload_n hx hb dX8_packed_15 rfl (lv_at hl 2 rfl) ?_
  refine lv_iload_n hx hb dX8_packed_16 rfl (lv_at hl 0 rfl) ?_
  refine call_iVX (i := 0) (by decide) (As := [.int 3]) (rest := [.long 769600]) (wr := []) ⟨hx, hb, hml, hown, hts⟩ (kj_charAt l dC dI cB cI cJ cZ cO ad av 0 (by decide) 3 (by decide) (by decide) (vin _ _ rfl)) (cwV 1 hts gX8_packed_J0_charAt_5068e rfl rfl rfl (by decide +kernel) ⟨Nat.le_of_ble_eq_true rfl, Nat.le_of_ble_eq_true rfl⟩) hE hK hP hD hS hA [] rfl (by decide) hl.1 (Nat.le_of_ble_eq_true rfl) rfl rfl dX8_packed_17 ⟨by decide, by decide⟩ (fun u9 H locs hP hD hS => ?_)
  refine tpv (v := .int 100) rfl ?_
  refine lv_bipush (v := 96) hx hb dX8_packed_20 (by decide) ?_
  refine lv_isub hx hb dX8_packed_22 ?_
  refine tpv (v := .int 4) rfl ?_
  refine lv_i2l (v := 4) hx hb dX8_packed_23 rfl ?_
  refine lv_lor hx hb dX8_packed_24 ?_
  refine tpv (v := .long 769604) rfl ?_
  refine lv_lstore_n (lv' := [(1, .long 769604), (3, .int 3), (0, .ref (ad 0))]) hx hb dX8_packed_25 rfl hl (by decide) rfl (fun ls hl => ?_)
  refine lv_iinc (v := 4) (lv' := [(3, .int 4), (1, .long 769604), (0, .ref (ad 0))]) hx hb dX8_packed_26 hl (k := 1) rfl (by decide) (by decide) rfl (fun ls hl => ?_)
  refine lv_goto (tgt := 4) hx hb dX8_packed_29 (by decide) ?_
  refine lv_iload_n hx hb dX8_packed_4 rfl (lv_at hl 0 rfl) ?_
  refine lv_aload_n hx hb dX8_packed_5 rfl (lv_at hl 2 rfl) ?_
  refine call_iVX (i := 0) (by decide) (As := []) (rest := [.int 4]) (wr := []) ⟨hx, hb, hml, hown, hts⟩ (kj_length l dC dI cB cI cJ cZ cO ad av 0 (by decide)) (cwV 0 hts gX8_packed_J0_length_8abf5 rfl rfl rfl (by decide +kernel) ⟨Nat.le_of_ble_eq_true rfl, Nat.le_of_ble_eq_true rfl⟩) hE hK hP hD hS hA [] rfl (by decide) hl.1 (Nat.le_of_ble_eq_true rfl) rfl rfl dX8_packed_6 ⟨by decide, by decide⟩ (fun u9 H locs hP hD hS => ?_)
  refine tpv (v := .int 4) rfl ?_
  refine lv_icmp_ge (tgt := 32) hx hb dX8_packed_9 (by decide) (fun _ => ?_) (fun c1 => absurd (by decide) c1)
  refine lv_lload_n hx hb dX8_packed_32 rfl (lv_at hl 1 rfl) ?_
  refine W.widen (k := 0) (n := 0) (by decide) (by decide) ?_
  exact ret_l hx hb hr hlocks hS (u := (fun _ => 0)) (hP.sub [] rfl) (hD.sub [] (by decide) rfl) dX8_packed_33

set_option maxHeartbeats 4000000 in
set_option maxRecDepth 100000 in
theorem k2_X8_packed (l : Launch) (dC : Nat → ClassId) (dI : Nat → Nat → Nat) (cB cI cJ cZ cO : ClassId) (ad av : Nat → Nat) : CLX l yX8_packed wsX8_packed ({ frames := 4, cells := 0, slots := 0, locals := 85 }) (dC, dI) (tyL cB cI cJ cZ cO) [.ref (ad 1)] [] (fun _ => []) 525618 ad av := by
  intro sz
  refine ctx_open (cc := cX8_packed) (maxL := 4) (ret := (some .long)) (by decide) rfl (Nat.le_of_ble_eq_true rfl) ?_
  intro p e s m below meth c ls A hx hb hr hml hts hown hlocks hin hP hK hD hA hS hl hE
  have hl : lv_has ls 4 [(0, .ref (ad 1))] := hl
  have hown : s.vm.findClass RX8 = some m.cls := hown
  refine lv_lconst (v := 0) hx hb dX8_packed_0 rfl ?_
  refine lv_lstore_n (lv' := [(1, .long 0), (0, .ref (ad 1))]) hx hb dX8_packed_1 rfl hl (by decide) rfl (fun ls hl => ?_)
  refine lv_iconst (v := 0) hx hb dX8_packed_2 (by decide) ?_
  refine lv_istore_n (lv' := [(3, .int 0), (1, .long 0), (0, .ref (ad 1))]) hx hb dX8_packed_3 rfl hl (by decide) rfl (fun ls hl => ?_)
  refine lv_iload_n hx hb dX8_packed_4 rfl (lv_at hl 0 rfl) ?_
  refine lv_aload_n hx hb dX8_packed_5 rfl (lv_at hl 2 rfl) ?_
  refine call_iVX (i := 1) (by decide) (As := []) (rest := [.int 0]) (wr := []) ⟨hx, hb, hml, hown, hts⟩ (kj_length l dC dI cB cI cJ cZ cO ad av 1 (by decide)) (cwV 0 hts gX8_packed_J0_length_8abf5 rfl rfl rfl (by decide +kernel) ⟨Nat.le_of_ble_eq_true rfl, Nat.le_of_ble_eq_true rfl⟩) hE hK hP hD hS hA [] rfl (by decide) hl.1 (Nat.le_of_ble_eq_true rfl) rfl rfl dX8_packed_6 ⟨by decide, by decide⟩ (fun u9 H locs hP hD hS => ?_)
  refine tpv (v := .int 4) rfl ?_
  refine lv_icmp_ge (tgt := 32) hx hb dX8_packed_9 (by decide) (fun c1 => absurd c1 (by decide)) (fun _ => ?_)
  refine lv_lload_n hx hb dX8_packed_12 rfl (lv_at hl 1 rfl) ?_
  refine lv_iconst (v := 5) hx hb dX8_packed_13 (by decide) ?_
  refine lv_lshl (v := 0) hx hb dX8_packed_14 rfl ?_
  refine lv_aload_n hx hb dX8_packed_15 rfl (lv_at hl 2 rfl) ?_
  refine lv_iload_n hx hb dX8_packed_16 rfl (lv_at hl 0 rfl) ?_
  refine call_iVX (i := 1) (by decide) (As := [.int 0]) (rest := [.long 0]) (wr := []) ⟨hx, hb, hml, hown, hts⟩ (kj_charAt l dC dI cB cI cJ cZ cO ad av 1 (by decide) 0 (by decide) (by decide) (vin _ _ rfl)) (cwV 1 hts gX8_packed_J0_charAt_5068e rfl rfl rfl (by decide +kernel) ⟨Nat.le_of_ble_eq_true rfl, Nat.le_of_ble_eq_true rfl⟩) hE hK hP hD hS hA [] rfl (by decide) hl.1 (Nat.le_of_ble_eq_true rfl) rfl rfl dX8_packed_17 ⟨by decide, by decide⟩ (fun u9 H locs hP hD hS => ?_)
  refine tpv (v := .int 112) rfl ?_
  refine lv_bipush (v := 96) hx hb dX8_packed_20 (by decide) ?_
  refine lv_isub hx hb dX8_packed_22 ?_
  refine tpv (v := .int 16) rfl ?_
  refine lv_i2l (v := 16) hx hb dX8_packed_23 rfl ?_
  refine lv_lor hx hb dX8_packed_24 ?_
  refine tpv (v := .long 16) rfl ?_
  refine lv_lstore_n (lv' := [(1, .long 16), (3, .int 0), (0, .ref (ad 1))]) hx hb dX8_packed_25 rfl hl (by decide) rfl (fun ls hl => ?_)
  refine lv_iinc (v := 1) (lv' := [(3, .int 1), (1, .long 16), (0, .ref (ad 1))]) hx hb dX8_packed_26 hl (k := 1) rfl (by decide) (by decide) rfl (fun ls hl => ?_)
  refine lv_goto (tgt := 4) hx hb dX8_packed_29 (by decide) ?_
  refine lv_iload_n hx hb dX8_packed_4 rfl (lv_at hl 0 rfl) ?_
  refine lv_aload_n hx hb dX8_packed_5 rfl (lv_at hl 2 rfl) ?_
  refine call_iVX (i := 1) (by decide) (As := []) (rest := [.int 1]) (wr := []) ⟨hx, hb, hml, hown, hts⟩ (kj_length l dC dI cB cI cJ cZ cO ad av 1 (by decide)) (cwV 0 hts gX8_packed_J0_length_8abf5 rfl rfl rfl (by decide +kernel) ⟨Nat.le_of_ble_eq_true rfl, Nat.le_of_ble_eq_true rfl⟩) hE hK hP hD hS hA [] rfl (by decide) hl.1 (Nat.le_of_ble_eq_true rfl) rfl rfl dX8_packed_6 ⟨by decide, by decide⟩ (fun u9 H locs hP hD hS => ?_)
  refine tpv (v := .int 4) rfl ?_
  refine lv_icmp_ge (tgt := 32) hx hb dX8_packed_9 (by decide) (fun c1 => absurd c1 (by decide)) (fun _ => ?_)
  refine lv_lload_n hx hb dX8_packed_12 rfl (lv_at hl 1 rfl) ?_
  refine lv_iconst (v := 5) hx hb dX8_packed_13 (by decide) ?_
  refine lv_lshl (v := 512) hx hb dX8_packed_14 rfl ?_
  refine lv_aload_n hx hb dX8_packed_15 rfl (lv_at hl 2 rfl) ?_
  refine lv_iload_n hx hb dX8_packed_16 rfl (lv_at hl 0 rfl) ?_
  refine call_iVX (i := 1) (by decide) (As := [.int 1]) (rest := [.long 512]) (wr := []) ⟨hx, hb, hml, hown, hts⟩ (kj_charAt l dC dI cB cI cJ cZ cO ad av 1 (by decide) 1 (by decide) (by decide) (vin _ _ rfl)) (cwV 1 hts gX8_packed_J0_charAt_5068e rfl rfl rfl (by decide +kernel) ⟨Nat.le_of_ble_eq_true rfl, Nat.le_of_ble_eq_true rfl⟩) hE hK hP hD hS hA [] rfl (by decide) hl.1 (Nat.le_of_ble_eq_true rfl) rfl rfl dX8_packed_17 ⟨by decide, by decide⟩ (fun u9 H locs hP hD hS => ?_)
  refine tpv (v := .int 97) rfl ?_
  refine lv_bipush (v := 96) hx hb dX8_packed_20 (by decide) ?_
  refine lv_isub hx hb dX8_packed_22 ?_
  refine tpv (v := .int 1) rfl ?_
  refine lv_i2l (v := 1) hx hb dX8_packed_23 rfl ?_
  refine lv_lor hx hb dX8_packed_24 ?_
  refine tpv (v := .long 513) rfl ?_
  refine lv_lstore_n (lv' := [(1, .long 513), (3, .int 1), (0, .ref (ad 1))]) hx hb dX8_packed_25 rfl hl (by decide) rfl (fun ls hl => ?_)
  refine lv_iinc (v := 2) (lv' := [(3, .int 2), (1, .long 513), (0, .ref (ad 1))]) hx hb dX8_packed_26 hl (k := 1) rfl (by decide) (by decide) rfl (fun ls hl => ?_)
  refine lv_goto (tgt := 4) hx hb dX8_packed_29 (by decide) ?_
  refine lv_iload_n hx hb dX8_packed_4 rfl (lv_at hl 0 rfl) ?_
  refine lv_aload_n hx hb dX8_packed_5 rfl (lv_at hl 2 rfl) ?_
  refine call_iVX (i := 1) (by decide) (As := []) (rest := [.int 2]) (wr := []) ⟨hx, hb, hml, hown, hts⟩ (kj_length l dC dI cB cI cJ cZ cO ad av 1 (by decide)) (cwV 0 hts gX8_packed_J0_length_8abf5 rfl rfl rfl (by decide +kernel) ⟨Nat.le_of_ble_eq_true rfl, Nat.le_of_ble_eq_true rfl⟩) hE hK hP hD hS hA [] rfl (by decide) hl.1 (Nat.le_of_ble_eq_true rfl) rfl rfl dX8_packed_6 ⟨by decide, by decide⟩ (fun u9 H locs hP hD hS => ?_)
  refine tpv (v := .int 4) rfl ?_
  refine lv_icmp_ge (tgt := 32) hx hb dX8_packed_9 (by decide) (fun c1 => absurd c1 (by decide)) (fun _ => ?_)
  refine lv_lload_n hx hb dX8_packed_12 rfl (lv_at hl 1 rfl) ?_
  refine lv_iconst (v := 5) hx hb dX8_packed_13 (by decide) ?_
  refine lv_lshl (v := 16416) hx hb dX8_packed_14 rfl ?_
  refine lv_aload_n hx hb dX8_packed_15 rfl (lv_at hl 2 rfl) ?_
  refine lv_iload_n hx hb dX8_packed_16 rfl (lv_at hl 0 rfl) ?_
  refine call_iVX (i := 1) (by decide) (As := [.int 2]) (rest := [.long 16416]) (wr := []) ⟨hx, hb, hml, hown, hts⟩ (kj_charAt l dC dI cB cI cJ cZ cO ad av 1 (by decide) 2 (by decide) (by decide) (vin _ _ rfl)) (cwV 1 hts gX8_packed_J0_charAt_5068e rfl rfl rfl (by decide +kernel) ⟨Nat.le_of_ble_eq_true rfl, Nat.le_of_ble_eq_true rfl⟩) hE hK hP hD hS hA [] rfl (by decide) hl.1 (Nat.le_of_ble_eq_true rfl) rfl rfl dX8_packed_17 ⟨by decide, by decide⟩ (fun u9 H locs hP hD hS => ?_)
  refine tpv (v := .int 105) rfl ?_
  refine lv_bipush (v := 96) hx hb dX8_packed_20 (by decide) ?_
  refine lv_isub hx hb dX8_packed_22 ?_
  refine tpv (v := .int 9) rfl ?_
  refine lv_i2l (v := 9) hx hb dX8_packed_23 rfl ?_
  refine lv_lor hx hb dX8_packed_24 ?_
  refine tpv (v := .long 16425) rfl ?_
  refine lv_lstore_n (lv' := [(1, .long 16425), (3, .int 2), (0, .ref (ad 1))]) hx hb dX8_packed_25 rfl hl (by decide) rfl (fun ls hl => ?_)
  refine lv_iinc (v := 3) (lv' := [(3, .int 3), (1, .long 16425), (0, .ref (ad 1))]) hx hb dX8_packed_26 hl (k := 1) rfl (by decide) (by decide) rfl (fun ls hl => ?_)
  refine lv_goto (tgt := 4) hx hb dX8_packed_29 (by decide) ?_
  refine lv_iload_n hx hb dX8_packed_4 rfl (lv_at hl 0 rfl) ?_
  refine lv_aload_n hx hb dX8_packed_5 rfl (lv_at hl 2 rfl) ?_
  refine call_iVX (i := 1) (by decide) (As := []) (rest := [.int 3]) (wr := []) ⟨hx, hb, hml, hown, hts⟩ (kj_length l dC dI cB cI cJ cZ cO ad av 1 (by decide)) (cwV 0 hts gX8_packed_J0_length_8abf5 rfl rfl rfl (by decide +kernel) ⟨Nat.le_of_ble_eq_true rfl, Nat.le_of_ble_eq_true rfl⟩) hE hK hP hD hS hA [] rfl (by decide) hl.1 (Nat.le_of_ble_eq_true rfl) rfl rfl dX8_packed_6 ⟨by decide, by decide⟩ (fun u9 H locs hP hD hS => ?_)
  refine tpv (v := .int 4) rfl ?_
  refine lv_icmp_ge (tgt := 32) hx hb dX8_packed_9 (by decide) (fun c1 => absurd c1 (by decide)) (fun _ => ?_)
  refine lv_lload_n hx hb dX8_packed_12 rfl (lv_at hl 1 rfl) ?_
  refine lv_iconst (v := 5) hx hb dX8_packed_13 (by decide) ?_
  refine lv_lshl (v := 525600) hx hb dX8_packed_14 rfl ?_
  refine lv_aload_n hx hb dX8_packed_15 rfl (lv_at hl 2 rfl) ?_
  refine lv_iload_n hx hb dX8_packed_16 rfl (lv_at hl 0 rfl) ?_
  refine call_iVX (i := 1) (by decide) (As := [.int 3]) (rest := [.long 525600]) (wr := []) ⟨hx, hb, hml, hown, hts⟩ (kj_charAt l dC dI cB cI cJ cZ cO ad av 1 (by decide) 3 (by decide) (by decide) (vin _ _ rfl)) (cwV 1 hts gX8_packed_J0_charAt_5068e rfl rfl rfl (by decide +kernel) ⟨Nat.le_of_ble_eq_true rfl, Nat.le_of_ble_eq_true rfl⟩) hE hK hP hD hS hA [] rfl (by decide) hl.1 (Nat.le_of_ble_eq_true rfl) rfl rfl dX8_packed_17 ⟨by decide, by decide⟩ (fun u9 H locs hP hD hS => ?_)
  refine tpv (v := .int 114) rfl ?_
  refine lv_bipush (v := 96) hx hb dX8_packed_20 (by decide) ?_
  refine lv_isub hx hb dX8_packed_22 ?_
  refine tpv (v := .int 18) rfl ?_
  refine lv_i2l (v := 18) hx hb dX8_packed_23 rfl ?_
  refine lv_lor hx hb dX8_packed_24 ?_
  refine tpv (v := .long 525618) rfl ?_
  refine lv_lstore_n (lv' := [(1, .long 525618), (3, .int 3), (0, .ref (ad 1))]) hx hb dX8_packed_25 rfl hl (by decide) rfl (fun ls hl => ?_)
  refine lv_iinc (v := 4) (lv' := [(3, .int 4), (1, .long 525618), (0, .ref (ad 1))]) hx hb dX8_packed_26 hl (k := 1) rfl (by decide) (by decide) rfl (fun ls hl => ?_)
  refine lv_goto (tgt := 4) hx hb dX8_packed_29 (by decide) ?_
  refine lv_iload_n hx hb dX8_packed_4 rfl (lv_at hl 0 rfl) ?_
  refine lv_aload_n hx hb dX8_packed_5 rfl (lv_at hl 2 rfl) ?_
  refine call_iVX (i := 1) (by decide) (As := []) (rest := [.int 4]) (wr := []) ⟨hx, hb, hml, hown, hts⟩ (kj_length l dC dI cB cI cJ cZ cO ad av 1 (by decide)) (cwV 0 hts gX8_packed_J0_length_8abf5 rfl rfl rfl (by decide +kernel) ⟨Nat.le_of_ble_eq_true rfl, Nat.le_of_ble_eq_true rfl⟩) hE hK hP hD hS hA [] rfl (by decide) hl.1 (Nat.le_of_ble_eq_true rfl) rfl rfl dX8_packed_6 ⟨by decide, by decide⟩ (fun u9 H locs hP hD hS => ?_)
  refine tpv (v := .int 4) rfl ?_
  refine lv_icmp_ge (tgt := 32) hx hb dX8_packed_9 (by decide) (fun _ => ?_) (fun c1 => absurd (by decide) c1)
  refine lv_lload_n hx hb dX8_packed_32 rfl (lv_at hl 1 rfl) ?_
  refine W.widen (k := 0) (n := 0) (by decide) (by decide) ?_
  exact ret_l hx hb hr hlocks hS (u := (fun _ => 0)) (hP.sub [] rfl) (hD.sub [] (by decide) rfl) dX8_packed_33

set_option maxHeartbeats 4000000 in
set_option maxRecDepth 100000 in
theorem k3_X8_packed (l : Launch) (dC : Nat → ClassId) (dI : Nat → Nat → Nat) (cB cI cJ cZ cO : ClassId) (ad av : Nat → Nat) : CLX l yX8_packed wsX8_packed ({ frames := 4, cells := 0, slots := 0, locals := 85 }) (dC, dI) (tyL cB cI cJ cZ cO) [.ref (ad 2)] [] (fun _ => []) 611717 ad av := by
  intro sz
  refine ctx_open (cc := cX8_packed) (maxL := 4) (ret := (some .long)) (by decide) rfl (Nat.le_of_ble_eq_true rfl) ?_
  intro p e s m below meth c ls A hx hb hr hml hts hown hlocks hin hP hK hD hA hS hl hE
  have hl : lv_has ls 4 [(0, .ref (ad 2))] := hl
  have hown : s.vm.findClass RX8 = some m.cls := hown
  refine lv_lconst (v := 0) hx hb dX8_packed_0 rfl ?_
  refine lv_lstore_n (lv' := [(1, .long 0), (0, .ref (ad 2))]) hx hb dX8_packed_1 rfl hl (by decide) rfl (fun ls hl => ?_)
  refine lv_iconst (v := 0) hx hb dX8_packed_2 (by decide) ?_
  refine lv_istore_n (lv' := [(3, .int 0), (1, .long 0), (0, .ref (ad 2))]) hx hb dX8_packed_3 rfl hl (by decide) rfl (fun ls hl => ?_)
  refine lv_iload_n hx hb dX8_packed_4 rfl (lv_at hl 0 rfl) ?_
  refine lv_aload_n hx hb dX8_packed_5 rfl (lv_at hl 2 rfl) ?_
  refine call_iVX (i := 2) (by decide) (As := []) (rest := [.int 0]) (wr := []) ⟨hx, hb, hml, hown, hts⟩ (kj_length l dC dI cB cI cJ cZ cO ad av 2 (by decide)) (cwV 0 hts gX8_packed_J0_length_8abf5 rfl rfl rfl (by decide +kernel) ⟨Nat.le_of_ble_eq_true rfl, Nat.le_of_ble_eq_true rfl⟩) hE hK hP hD hS hA [] rfl (by decide) hl.1 (Nat.le_of_ble_eq_true rfl) rfl rfl dX8_packed_6 ⟨by decide, by decide⟩ (fun u9 H locs hP hD hS => ?_)
  refine tpv (v := .int 4) rfl ?_
  refine lv_icmp_ge (tgt := 32) hx hb dX8_packed_9 (by decide) (fun c1 => absurd c1 (by decide)) (fun _ => ?_)
  refine lv_lload_n hx hb dX8_packed_12 rfl (lv_at hl 1 rfl) ?_
  refine lv_iconst (v := 5) hx hb dX8_packed_13 (by decide) ?_
  refine lv_lshl (v := 0) hx hb dX8_packed_14 rfl ?_
  refine lv_aload_n hx hb dX8_packed_15 rfl (lv_at hl 2 rfl) ?_
  refine lv_iload_n hx hb dX8_packed_16 rfl (lv_at hl 0 rfl) ?_
  refine call_iVX (i := 2) (by decide) (As := [.int 0]) (rest := [.long 0]) (wr := []) ⟨hx, hb, hml, hown, hts⟩ (kj_charAt l dC dI cB cI cJ cZ cO ad av 2 (by decide) 0 (by decide) (by decide) (vin _ _ rfl)) (cwV 1 hts gX8_packed_J0_charAt_5068e rfl rfl rfl (by decide +kernel) ⟨Nat.le_of_ble_eq_true rfl, Nat.le_of_ble_eq_true rfl⟩) hE hK hP hD hS hA [] rfl (by decide) hl.1 (Nat.le_of_ble_eq_true rfl) rfl rfl dX8_packed_17 ⟨by decide, by decide⟩ (fun u9 H locs hP hD hS => ?_)
  refine tpv (v := .int 114) rfl ?_
  refine lv_bipush (v := 96) hx hb dX8_packed_20 (by decide) ?_
  refine lv_isub hx hb dX8_packed_22 ?_
  refine tpv (v := .int 18) rfl ?_
  refine lv_i2l (v := 18) hx hb dX8_packed_23 rfl ?_
  refine lv_lor hx hb dX8_packed_24 ?_
  refine tpv (v := .long 18) rfl ?_
  refine lv_lstore_n (lv' := [(1, .long 18), (3, .int 0), (0, .ref (ad 2))]) hx hb dX8_packed_25 rfl hl (by decide) rfl (fun ls hl => ?_)
  refine lv_iinc (v := 1) (lv' := [(3, .int 1), (1, .long 18), (0, .ref (ad 2))]) hx hb dX8_packed_26 hl (k := 1) rfl (by decide) (by decide) rfl (fun ls hl => ?_)
  refine lv_goto (tgt := 4) hx hb dX8_packed_29 (by decide) ?_
  refine lv_iload_n hx hb dX8_packed_4 rfl (lv_at hl 0 rfl) ?_
  refine lv_aload_n hx hb dX8_packed_5 rfl (lv_at hl 2 rfl) ?_
  refine call_iVX (i := 2) (by decide) (As := []) (rest := [.int 1]) (wr := []) ⟨hx, hb, hml, hown, hts⟩ (kj_length l dC dI cB cI cJ cZ cO ad av 2 (by decide)) (cwV 0 hts gX8_packed_J0_length_8abf5 rfl rfl rfl (by decide +kernel) ⟨Nat.le_of_ble_eq_true rfl, Nat.le_of_ble_eq_true rfl⟩) hE hK hP hD hS hA [] rfl (by decide) hl.1 (Nat.le_of_ble_eq_true rfl) rfl rfl dX8_packed_6 ⟨by decide, by decide⟩ (fun u9 H locs hP hD hS => ?_)
  refine tpv (v := .int 4) rfl ?_
  refine lv_icmp_ge (tgt := 32) hx hb dX8_packed_9 (by decide) (fun c1 => absurd c1 (by decide)) (fun _ => ?_)
  refine lv_lload_n hx hb dX8_packed_12 rfl (lv_at hl 1 rfl) ?_
  refine lv_iconst (v := 5) hx hb dX8_packed_13 (by decide) ?_
  refine lv_lshl (v := 576) hx hb dX8_packed_14 rfl ?_
  refine lv_aload_n hx hb dX8_packed_15 rfl (lv_at hl 2 rfl) ?_
  refine lv_iload_n hx hb dX8_packed_16 rfl (lv_at hl 0 rfl) ?_
  refine call_iVX (i := 2) (by decide) (As := [.int 1]) (rest := [.long 576]) (wr := []) ⟨hx, hb, hml, hown, hts⟩ (kj_charAt l dC dI cB cI cJ cZ cO ad av 2 (by decide) 1 (by decide) (by decide) (vin _ _ rfl)) (cwV 1 hts gX8_packed_J0_charAt_5068e rfl rfl rfl (by decide +kernel) ⟨Nat.le_of_ble_eq_true rfl, Nat.le_of_ble_eq_true rfl⟩) hE hK hP hD hS hA [] rfl (by decide) hl.1 (Nat.le_of_ble_eq_true rfl) rfl rfl dX8_packed_17 ⟨by decide, by decide⟩ (fun u9 H locs hP hD hS => ?_)
  refine tpv (v := .int 117) rfl ?_
  refine lv_bipush (v := 96) hx hb dX8_packed_20 (by decide) ?_
  refine lv_isub hx hb dX8_packed_22 ?_
  refine tpv (v := .int 21) rfl ?_
  refine lv_i2l (v := 21) hx hb dX8_packed_23 rfl ?_
  refine lv_lor hx hb dX8_packed_24 ?_
  refine tpv (v := .long 597) rfl ?_
  refine lv_lstore_n (lv' := [(1, .long 597), (3, .int 1), (0, .ref (ad 2))]) hx hb dX8_packed_25 rfl hl (by decide) rfl (fun ls hl => ?_)
  refine lv_iinc (v := 2) (lv' := [(3, .int 2), (1, .long 597), (0, .ref (ad 2))]) hx hb dX8_packed_26 hl (k := 1) rfl (by decide) (by decide) rfl (fun ls hl => ?_)
  refine lv_goto (tgt := 4) hx hb dX8_packed_29 (by decide) ?_
  refine lv_iload_n hx hb dX8_packed_4 rfl (lv_at hl 0 rfl) ?_
  refine lv_aload_n hx hb dX8_packed_5 rfl (lv_at hl 2 rfl) ?_
  refine call_iVX (i := 2) (by decide) (As := []) (rest := [.int 2]) (wr := []) ⟨hx, hb, hml, hown, hts⟩ (kj_length l dC dI cB cI cJ cZ cO ad av 2 (by decide)) (cwV 0 hts gX8_packed_J0_length_8abf5 rfl rfl rfl (by decide +kernel) ⟨Nat.le_of_ble_eq_true rfl, Nat.le_of_ble_eq_true rfl⟩) hE hK hP hD hS hA [] rfl (by decide) hl.1 (Nat.le_of_ble_eq_true rfl) rfl rfl dX8_packed_6 ⟨by decide, by decide⟩ (fun u9 H locs hP hD hS => ?_)
  refine tpv (v := .int 4) rfl ?_
  refine lv_icmp_ge (tgt := 32) hx hb dX8_packed_9 (by decide) (fun c1 => absurd c1 (by decide)) (fun _ => ?_)
  refine lv_lload_n hx hb dX8_packed_12 rfl (lv_at hl 1 rfl) ?_
  refine lv_iconst (v := 5) hx hb dX8_packed_13 (by decide) ?_
  refine lv_lshl (v := 19104) hx hb dX8_packed_14 rfl ?_
  refine lv_aload_n hx hb dX8_packed_15 rfl (lv_at hl 2 rfl) ?_
  refine lv_iload_n hx hb dX8_packed_16 rfl (lv_at hl 0 rfl) ?_
  refine call_iVX (i := 2) (by decide) (As := [.int 2]) (rest := [.long 19104]) (wr := []) ⟨hx, hb, hml, hown, hts⟩ (kj_charAt l dC dI cB cI cJ cZ cO ad av 2 (by decide) 2 (by decide) (by decide) (vin _ _ rfl)) (cwV 1 hts gX8_packed_J0_charAt_5068e rfl rfl rfl (by decide +kernel) ⟨Nat.le_of_ble_eq_true rfl, Nat.le_of_ble_eq_true rfl⟩) hE hK hP hD hS hA [] rfl (by decide) hl.1 (Nat.le_of_ble_eq_true rfl) rfl rfl dX8_packed_17 ⟨by decide, by decide⟩ (fun u9 H locs hP hD hS => ?_)
  refine tpv (v := .int 108) rfl ?_
  refine lv_bipush (v := 96) hx hb dX8_packed_20 (by decide) ?_
  refine lv_isub hx hb dX8_packed_22 ?_
  refine tpv (v := .int 12) rfl ?_
  refine lv_i2l (v := 12) hx hb dX8_packed_23 rfl ?_
  refine lv_lor hx hb dX8_packed_24 ?_
  refine tpv (v := .long 19116) rfl ?_
  refine lv_lstore_n (lv' := [(1, .long 19116), (3, .int 2), (0, .ref (ad 2))]) hx hb dX8_packed_25 rfl hl (by decide) rfl (fun ls hl => ?_)
  refine lv_iinc (v := 3) (lv' := [(3, .int 3), (1, .long 19116), (0, .ref (ad 2))]) hx hb dX8_packed_26 hl (k := 1) rfl (by decide) (by decide) rfl (fun ls hl => ?_)
  refine lv_goto (tgt := 4) hx hb dX8_packed_29 (by decide) ?_
  refine lv_iload_n hx hb dX8_packed_4 rfl (lv_at hl 0 rfl) ?_
  refine lv_aload_n hx hb dX8_packed_5 rfl (lv_at hl 2 rfl) ?_
  refine call_iVX (i := 2) (by decide) (As := []) (rest := [.int 3]) (wr := []) ⟨hx, hb, hml, hown, hts⟩ (kj_length l dC dI cB cI cJ cZ cO ad av 2 (by decide)) (cwV 0 hts gX8_packed_J0_length_8abf5 rfl rfl rfl (by decide +kernel) ⟨Nat.le_of_ble_eq_true rfl, Nat.le_of_ble_eq_true rfl⟩) hE hK hP hD hS hA [] rfl (by decide) hl.1 (Nat.le_of_ble_eq_true rfl) rfl rfl dX8_packed_6 ⟨by decide, by decide⟩ (fun u9 H locs hP hD hS => ?_)
  refine tpv (v := .int 4) rfl ?_
  refine lv_icmp_ge (tgt := 32) hx hb dX8_packed_9 (by decide) (fun c1 => absurd c1 (by decide)) (fun _ => ?_)
  refine lv_lload_n hx hb dX8_packed_12 rfl (lv_at hl 1 rfl) ?_
  refine lv_iconst (v := 5) hx hb dX8_packed_13 (by decide) ?_
  refine lv_lshl (v := 611712) hx hb dX8_packed_14 rfl ?_
  refine lv_aload_n hx hb dX8_packed_15 rfl (lv_at hl 2 rfl) ?_
  refine lv_iload_n hx hb dX8_packed_16 rfl (lv_at hl 0 rfl) ?_
  refine call_iVX (i := 2) (by decide) (As := [.int 3]) (rest := [.long 611712]) (wr := []) ⟨hx, hb, hml, hown, hts⟩ (kj_charAt l dC dI cB cI cJ cZ cO ad av 2 (by decide) 3 (by decide) (by decide) (vin _ _ rfl)) (cwV 1 hts gX8_packed_J0_charAt_5068e rfl rfl rfl (by decide +kernel) ⟨Nat.le_of_ble_eq_true rfl, Nat.le_of_ble_eq_true rfl⟩) hE hK hP hD hS hA [] rfl (by decide) hl.1 (Nat.le_of_ble_eq_true rfl) rfl rfl dX8_packed_17 ⟨by decide, by decide⟩ (fun u9 H locs hP hD hS => ?_)
  refine tpv (v := .int 101) rfl ?_
  refine lv_bipush (v := 96) hx hb dX8_packed_20 (by decide) ?_
  refine lv_isub hx hb dX8_packed_22 ?_
  refine tpv (v := .int 5) rfl ?_
  refine lv_i2l (v := 5) hx hb dX8_packed_23 rfl ?_
  refine lv_lor hx hb dX8_packed_24 ?_
  refine tpv (v := .long 611717) rfl ?_
  refine lv_lstore_n (lv' := [(1, .long 611717), (3, .int 3), (0, .ref (ad 2))]) hx hb dX8_packed_25 rfl hl (by decide) rfl (fun ls hl => ?_)
  refine lv_iinc (v := 4) (lv' := [(3, .int 4), (1, .long 611717), (0, .ref (ad 2))]) hx hb dX8_packed_26 hl (k := 1) rfl (by decide) (by decide) rfl (fun ls hl => ?_)
  refine lv_goto (tgt := 4) hx hb dX8_packed_29 (by decide) ?_
  refine lv_iload_n hx hb dX8_packed_4 rfl (lv_at hl 0 rfl) ?_
  refine lv_aload_n hx hb dX8_packed_5 rfl (lv_at hl 2 rfl) ?_
  refine call_iVX (i := 2) (by decide) (As := []) (rest := [.int 4]) (wr := []) ⟨hx, hb, hml, hown, hts⟩ (kj_length l dC dI cB cI cJ cZ cO ad av 2 (by decide)) (cwV 0 hts gX8_packed_J0_length_8abf5 rfl rfl rfl (by decide +kernel) ⟨Nat.le_of_ble_eq_true rfl, Nat.le_of_ble_eq_true rfl⟩) hE hK hP hD hS hA [] rfl (by decide) hl.1 (Nat.le_of_ble_eq_true rfl) rfl rfl dX8_packed_6 ⟨by decide, by decide⟩ (fun u9 H locs hP hD hS => ?_)
  refine tpv (v := .int 4) rfl ?_
  refine lv_icmp_ge (tgt := 32) hx hb dX8_packed_9 (by decide) (fun _ => ?_) (fun c1 => absurd (by decide) c1)
  refine lv_lload_n hx hb dX8_packed_32 rfl (lv_at hl 1 rfl) ?_
  refine W.widen (k := 0) (n := 0) (by decide) (by decide) ?_
  exact ret_l hx hb hr hlocks hS (u := (fun _ => 0)) (hP.sub [] rfl) (hD.sub [] (by decide) rfl) dX8_packed_33

set_option maxHeartbeats 4000000 in
set_option maxRecDepth 100000 in
theorem k4_X8_packed (l : Launch) (dC : Nat → ClassId) (dI : Nat → Nat → Nat) (cB cI cJ cZ cO : ClassId) (ad av : Nat → Nat) : CLX l yX8_packed wsX8_packed ({ frames := 4, cells := 0, slots := 0, locals := 85 }) (dC, dI) (tyL cB cI cJ cZ cO) [.ref (ad 3)] [] (fun _ => []) 498 ad av := by
  intro sz
  refine ctx_open (cc := cX8_packed) (maxL := 4) (ret := (some .long)) (by decide) rfl (Nat.le_of_ble_eq_true rfl) ?_
  intro p e s m below meth c ls A hx hb hr hml hts hown hlocks hin hP hK hD hA hS hl hE
  have hl : lv_has ls 4 [(0, .ref (ad 3))] := hl
  have hown : s.vm.findClass RX8 = some m.cls := hown
  refine lv_lconst (v := 0) hx hb dX8_packed_0 rfl ?_
  refine lv_lstore_n (lv' := [(1, .long 0), (0, .ref (ad 3))]) hx hb dX8_packed_1 rfl hl (by decide) rfl (fun ls hl => ?_)
  refine lv_iconst (v := 0) hx hb dX8_packed_2 (by decide) ?_
  refine lv_istore_n (lv' := [(3, .int 0), (1, .long 0), (0, .ref (ad 3))]) hx hb dX8_packed_3 rfl hl (by decide) rfl (fun ls hl => ?_)
  refine lv_iload_n hx hb dX8_packed_4 rfl (lv_at hl 0 rfl) ?_
  refine lv_aload_n hx hb dX8_packed_5 rfl (lv_at hl 2 rfl) ?_
  refine call_iVX (i := 3) (by decide) (As := []) (rest := [.int 0]) (wr := []) ⟨hx, hb, hml, hown, hts⟩ (kj_length l dC dI cB cI cJ cZ cO ad av 3 (by decide)) (cwV 0 hts gX8_packed_J0_length_8abf5 rfl rfl rfl (by decide +kernel) ⟨Nat.le_of_ble_eq_true rfl, Nat.le_of_ble_eq_true rfl⟩) hE hK hP hD hS hA [] rfl (by decide) hl.1 (Nat.le_of_ble_eq_true rfl) rfl rfl dX8_packed_6 ⟨by decide, by decide⟩ (fun u9 H locs hP hD hS => ?_)
  refine tpv (v := .int 2) rfl ?_
  refine lv_icmp_ge (tgt := 32) hx hb dX8_packed_9 (by decide) (fun c1 => absurd c1 (by decide)) (fun _ => ?_)
  refine lv_lload_n hx hb dX8_packed_12 rfl (lv_at hl 1 rfl) ?_
  refine lv_iconst (v := 5) hx hb dX8_packed_13 (by decide) ?_
  refine lv_lshl (v := 0) hx hb dX8_packed_14 rfl ?_
  refine lv_aload_n hx hb dX8_packed_15 rfl (lv_at hl 2 rfl) ?_
  refine lv_iload_n hx hb dX8_packed_16 rfl (lv_at hl 0 rfl) ?_
  refine call_iVX (i := 3) (by decide) (As := [.int 0]) (rest := [.long 0]) (wr := []) ⟨hx, hb, hml, hown, hts⟩ (kj_charAt l dC dI cB cI cJ cZ cO ad av 3 (by decide) 0 (by decide) (by decide) (vin _ _ rfl)) (cwV 1 hts gX8_packed_J0_charAt_5068e rfl rfl rfl (by decide +kernel) ⟨Nat.le_of_ble_eq_true rfl, Nat.le_of_ble_eq_true rfl⟩) hE hK hP hD hS hA [] rfl (by decide) hl.1 (Nat.le_of_ble_eq_true rfl) rfl rfl dX8_packed_17 ⟨by decide, by decide⟩ (fun u9 H locs hP hD hS => ?_)
  refine tpv (v := .int 111) rfl ?_
  refine lv_bipush (v := 96) hx hb dX8_packed_20 (by decide) ?_
  refine lv_isub hx hb dX8_packed_22 ?_
  refine tpv (v := .int 15) rfl ?_
  refine lv_i2l (v := 15) hx hb dX8_packed_23 rfl ?_
  refine lv_lor hx hb dX8_packed_24 ?_
  refine tpv (v := .long 15) rfl ?_
  refine lv_lstore_n (lv' := [(1, .long 15), (3, .int 0), (0, .ref (ad 3))]) hx hb dX8_packed_25 rfl hl (by decide) rfl (fun ls hl => ?_)
  refine lv_iinc (v := 1) (lv' := [(3, .int 1), (1, .long 15), (0, .ref (ad 3))]) hx hb dX8_packed_26 hl (k := 1) rfl (by decide) (by decide) rfl (fun ls hl => ?_)
  refine lv_goto (tgt := 4) hx hb dX8_packed_29 (by decide) ?_
  refine lv_iload_n hx hb dX8_packed_4 rfl (lv_at hl 0 rfl) ?_
  refine lv_aload_n hx hb dX8_packed_5 rfl (lv_at hl 2 rfl) ?_
  refine call_iVX (i := 3) (by decide) (As := []) (rest := [.int 1]) (wr := []) ⟨hx, hb, hml, hown, hts⟩ (kj_length l dC dI cB cI cJ cZ cO ad av 3 (by decide)) (cwV 0 hts gX8_packed_J0_length_8abf5 rfl rfl rfl (by decide +kernel) ⟨Nat.le_of_ble_eq_true rfl, Nat.le_of_ble_eq_true rfl⟩) hE hK hP hD hS hA [] rfl (by decide) hl.1 (Nat.le_of_ble_eq_true rfl) rfl rfl dX8_packed_6 ⟨by decide, by decide⟩ (fun u9 H locs hP hD hS => ?_)
  refine tpv (v := .int 2) rfl ?_
  refine lv_icmp_ge (tgt := 32) hx hb dX8_packed_9 (by decide) (fun c1 => absurd c1 (by decide)) (fun _ => ?_)
  refine lv_lload_n hx hb dX8_packed_12 rfl (lv_at hl 1 rfl) ?_
  refine lv_iconst (v := 5) hx hb dX8_packed_13 (by decide) ?_
  refine lv_lshl (v := 480) hx hb dX8_packed_14 rfl ?_
  refine lv_aload_n hx hb dX8_packed_15 rfl (lv_at hl 2 rfl) ?_
  refine lv_iload_n hx hb dX8_packed_16 rfl (lv_at hl 0 rfl) ?_
  refine call_iVX (i := 3) (by decide) (As := [.int 1]) (rest := [.long 480]) (wr := []) ⟨hx, hb, hml, hown, hts⟩ (kj_charAt l dC dI cB cI cJ cZ cO ad av 3 (by decide) 1 (by decide) (by decide) (vin _ _ rfl)) (cwV 1 hts gX8_packed_J0_charAt_5068e rfl rfl rfl (by decide +kernel) ⟨Nat.le_of_ble_eq_true rfl, Nat.le_of_ble_eq_true rfl⟩) hE hK hP hD hS hA [] rfl (by decide) hl.1 (Nat.le_of_ble_eq_true rfl) rfl rfl dX8_packed_17 ⟨by decide, by decide⟩ (fun u9 H locs hP hD hS => ?_)
  refine tpv (v := .int 114) rfl ?_
  refine lv_bipush (v := 96) hx hb dX8_packed_20 (by decide) ?_
  refine lv_isub hx hb dX8_packed_22 ?_
  refine tpv (v := .int 18) rfl ?_
  refine lv_i2l (v := 18) hx hb dX8_packed_23 rfl ?_
  refine lv_lor hx hb dX8_packed_24 ?_
  refine tpv (v := .long 498) rfl ?_
  refine lv_lstore_n (lv' := [(1, .long 498), (3, .int 1), (0, .ref (ad 3))]) hx hb dX8_packed_25 rfl hl (by decide) rfl (fun ls hl => ?_)
  refine lv_iinc (v := 2) (lv' := [(3, .int 2), (1, .long 498), (0, .ref (ad 3))]) hx hb dX8_packed_26 hl (k := 1) rfl (by decide) (by decide) rfl (fun ls hl => ?_)
  refine lv_goto (tgt := 4) hx hb dX8_packed_29 (by decide) ?_
  refine lv_iload_n hx hb dX8_packed_4 rfl (lv_at hl 0 rfl) ?_
  refine lv_aload_n hx hb dX8_packed_5 rfl (lv_at hl 2 rfl) ?_
  refine call_iVX (i := 3) (by decide) (As := []) (rest := [.int 2]) (wr := []) ⟨hx, hb, hml, hown, hts⟩ (kj_length l dC dI cB cI cJ cZ cO ad av 3 (by decide)) (cwV 0 hts gX8_packed_J0_length_8abf5 rfl rfl rfl (by decide +kernel) ⟨Nat.le_of_ble_eq_true rfl, Nat.le_of_ble_eq_true rfl⟩) hE hK hP hD hS hA [] rfl (by decide) hl.1 (Nat.le_of_ble_eq_true rfl) rfl rfl dX8_packed_6 ⟨by decide, by decide⟩ (fun u9 H locs hP hD hS => ?_)
  refine tpv (v := .int 2) rfl ?_
  refine lv_icmp_ge (tgt := 32) hx hb dX8_packed_9 (by decide) (fun _ => ?_) (fun c1 => absurd (by decide) c1)
  refine lv_lload_n hx hb dX8_packed_32 rfl (lv_at hl 1 rfl) ?_
  refine W.widen (k := 0) (n := 0) (by decide) (by decide) ?_
  exact ret_l hx hb hr hlocks hS (u := (fun _ => 0)) (hP.sub [] rfl) (hD.sub [] (by decide) rfl) dX8_packed_33

set_option maxHeartbeats 4000000 in
set_option maxRecDepth 100000 in
theorem k5_X8_packed (l : Launch) (dC : Nat → ClassId) (dI : Nat → Nat → Nat) (cB cI cJ cZ cO : ClassId) (ad av : Nat → Nat) : CLX l yX8_packed wsX8_packed ({ frames := 4, cells := 0, slots := 0, locals := 85 }) (dC, dI) (tyL cB cI cJ cZ cO) [.ref (ad 4)] [] (fun _ => []) 408362632 ad av := by
  intro sz
  refine ctx_open (cc := cX8_packed) (maxL := 4) (ret := (some .long)) (by decide) rfl (Nat.le_of_ble_eq_true rfl) ?_
  intro p e s m below meth c ls A hx hb hr hml hts hown hlocks hin hP hK hD hA hS hl hE
  have hl : lv_has ls 4 [(0, .ref (ad 4))] := hl
  have hown : s.vm.findClass RX8 = some m.cls := hown
  refine lv_lconst (v := 0) hx hb dX8_packed_0 rfl ?_
  refine lv_lstore_n (lv' := [(1, .long 0), (0, .ref (ad 4))]) hx hb dX8_packed_1 rfl hl (by decide) rfl (fun ls hl => ?_)
  refine lv_iconst (v := 0) hx hb dX8_packed_2 (by decide) ?_
  refine lv_istore_n (lv' := [(3, .int 0), (1, .long 0), (0, .ref (ad 4))]) hx hb dX8_packed_3 rfl hl (by decide) rfl (fun ls hl => ?_)
  refine lv_iload_n hx hb dX8_packed_4 rfl (lv_at hl 0 rfl) ?_
  refine lv_aload_n hx hb dX8_packed_5 rfl (lv_at hl 2 rfl) ?_
  refine call_iVX (i := 4) (by decide) (As := []) (rest := [.int 0]) (wr := []) ⟨hx, hb, hml, hown, hts⟩ (kj_length l dC dI cB cI cJ cZ cO ad av 4 (by decide)) (cwV 0 hts gX8_packed_J0_length_8abf5 rfl rfl rfl (by decide +kernel) ⟨Nat.le_of_ble_eq_true rfl, Nat.le_of_ble_eq_true rfl⟩) hE hK hP hD hS hA [] rfl (by decide) hl.1 (Nat.le_of_ble_eq_true rfl) rfl rfl dX8_packed_6 ⟨by decide, by decide⟩ (fun u9 H locs hP hD hS => ?_)
  refine tpv (v := .int 6) rfl ?_
  refine lv_icmp_ge (tgt := 32) hx hb dX8_packed_9 (by decide) (fun c1 => absurd c1 (by decide)) (fun _ => ?_)
  refine lv_lload_n hx hb dX8_packed_12 rfl (lv_at hl 1 rfl) ?_
  refine lv_iconst (v := 5) hx hb dX8_packed_13 (by decide) ?_
  refine lv_lshl (v := 0) hx hb dX8_packed_14 rfl ?_
  refine lv_aload_n hx hb dX8_packed_15 rfl (lv_at hl 2 rfl) ?_
  refine lv_iload_n hx hb dX8_packed_16 rfl (lv_at hl 0 rfl) ?_
  refine call_iVX (i := 4) (by decide) (As := [.int 0]) (rest := [.long 0]) (wr := []) ⟨hx, hb, hml, hown, hts⟩ (kj_charAt l dC dI cB cI cJ cZ cO ad av 4 (by decide) 0 (by decide) (by decide) (vin _ _ rfl)) (cwV 1 hts gX8_packed_J0_charAt_5068e rfl rfl rfl (by decide +kernel) ⟨Nat.le_of_ble_eq_true rfl, Nat.le_of_ble_eq_true rfl⟩) hE hK hP hD hS hA [] rfl (by decide) hl.1 (Nat.le_of_ble_eq_true rfl) rfl rfl dX8_packed_17 ⟨by decide, by decide⟩ (fun u9 H locs hP hD hS => ?_)
  refine tpv (v := .int 108) rfl ?_
  refine lv_bipush (v := 96) hx hb dX8_packed_20 (by decide) ?_
  refine lv_isub hx hb dX8_packed_22 ?_
  refine tpv (v := .int 12) rfl ?_
  refine lv_i2l (v := 12) hx hb dX8_packed_23 rfl ?_
  refine lv_lor hx hb dX8_packed_24 ?_
  refine tpv (v := .long 12) rfl ?_
  refine lv_lstore_n (lv' := [(1, .long 12), (3, .int 0), (0, .ref (ad 4))]) hx hb dX8_packed_25 rfl hl (by decide) rfl (fun ls hl => ?_)
  refine lv_iinc (v := 1) (lv' := [(3, .int 1), (1, .long 12), (0, .ref (ad 4))]) hx hb dX8_packed_26 hl (k := 1) rfl (by decide) (by decide) rfl (fun ls hl => ?_)
  refine lv_goto (tgt := 4) hx hb dX8_packed_29 (by decide) ?_
  refine lv_iload_n hx hb dX8_packed_4 rfl (lv_at hl 0 rfl) ?_
  refine lv_aload_n hx hb dX8_packed_5 rfl (lv_at hl 2 rfl) ?_
  refine call_iVX (i := 4) (by decide) (As := []) (rest := [.int 1]) (wr := []) ⟨hx, hb, hml, hown, hts⟩ (kj_length l dC dI cB cI cJ cZ cO ad av 4 (by decide)) (cwV 0 hts gX8_packed_J0_length_8abf5 rfl rfl rfl (by decide +kernel) ⟨Nat.le_of_ble_eq_true rfl, Nat.le_of_ble_eq_true rfl⟩) hE hK hP hD hS hA [] rfl (by decide) hl.1 (Nat.le_of_ble_eq_true rfl) rfl rfl dX8_packed_6 ⟨by decide, by decide⟩ (fun u9 H locs hP hD hS => ?_)
  refine tpv (v := .int 6) rfl ?_
  refine lv_icmp_ge (tgt := 32) hx hb dX8_packed_9 (by decide) (fun c1 => absurd c1 (by decide)) (fun _ => ?_)
  refine lv_lload_n hx hb dX8_packed_12 rfl (lv_at hl 1 rfl) ?_
  refine lv_iconst (v := 5) hx hb dX8_packed_13 (by decide) ?_
  refine lv_lshl (v := 384) hx hb dX8_packed_14 rfl ?_
  refine lv_aload_n hx hb dX8_packed_15 rfl (lv_at hl 2 rfl) ?_
  refine lv_iload_n hx hb dX8_packed_16 rfl (lv_at hl 0 rfl) ?_
  refine call_iVX (i := 4) (by decide) (As := [.int 1]) (rest := [.long 384]) (wr := []) ⟨hx, hb, hml, hown, hts⟩ (kj_charAt l dC dI cB cI cJ cZ cO ad av 4 (by decide) 1 (by decide) (by decide) (vin _ _ rfl)) (cwV 1 hts gX8_packed_J0_charAt_5068e rfl rfl rfl (by decide +kernel) ⟨Nat.le_of_ble_eq_true rfl, Nat.le_of_ble_eq_true rfl⟩) hE hK hP hD hS hA [] rfl (by decide) hl.1 (Nat.le_of_ble_eq_true rfl) rfl rfl dX8_packed_17 ⟨by decide, by decide⟩ (fun u9 H locs hP hD hS => ?_)
  refine tpv (v := .int 101) rfl ?_
  refine lv_bipush (v := 96) hx hb dX8_packed_20 (by decide) ?_
  refine lv_isub hx hb dX8_packed_22 ?_
  refine tpv (v := .int 5) rfl ?_
  refine lv_i2l (v := 5) hx hb dX8_packed_23 rfl ?_
  refine lv_lor hx hb dX8_packed_24 ?_
  refine tpv (v := .long 389) rfl ?_
  refine lv_lstore_n (lv' := [(1, .long 389), (3, .int 1), (0, .ref (ad 4))]) hx hb dX8_packed_25 rfl hl (by decide) rfl (fun ls hl => ?_)
  refine lv_iinc (v := 2) (lv' := [(3, .int 2), (1, .long 389), (0, .ref (ad 4))]) hx hb dX8_packed_26 hl (k := 1) rfl (by decide) (by decide) rfl (fun ls hl => ?_)
  refine lv_goto (tgt := 4) hx hb dX8_packed_29 (by decide) ?_
  refine lv_iload_n hx hb dX8_packed_4 rfl (lv_at hl 0 rfl) ?_
  refine lv_aload_n hx hb dX8_packed_5 rfl (lv_at hl 2 rfl) ?_
  refine call_iVX (i := 4) (by decide) (As := []) (rest := [.int 2]) (wr := []) ⟨hx, hb, hml, hown, hts⟩ (kj_length l dC dI cB cI cJ cZ cO ad av 4 (by decide)) (cwV 0 hts gX8_packed_J0_length_8abf5 rfl rfl rfl (by decide +kernel) ⟨Nat.le_of_ble_eq_true rfl, Nat.le_of_ble_eq_true rfl⟩) hE hK hP hD hS hA [] rfl (by decide) hl.1 (Nat.le_of_ble_eq_true rfl) rfl rfl dX8_packed_6 ⟨by decide, by decide⟩ (fun u9 H locs hP hD hS => ?_)
  refine tpv (v := .int 6) rfl ?_
  refine lv_icmp_ge (tgt := 32) hx hb dX8_packed_9 (by decide) (fun c1 => absurd c1 (by decide)) (fun _ => ?_)
  refine lv_lload_n hx hb dX8_packed_12 rfl (lv_at hl 1 rfl) ?_
  refine lv_iconst (v := 5) hx hb dX8_packed_13 (by decide) ?_
  refine lv_lshl (v := 12448) hx hb dX8_packed_14 rfl ?_
  refine lv_aload_n hx hb dX8_packed_15 rfl (lv_at hl 2 rfl) ?_
  refine lv_iload_n hx hb dX8_packed_16 rfl (lv_at hl 0 rfl) ?_
  refine call_iVX (i := 4) (by decide) (As := [.int 2]) (rest := [.long 12448]) (wr := []) ⟨hx, hb, hml, hown, hts⟩ (kj_charAt l dC dI cB cI cJ cZ cO ad av 4 (by decide) 2 (by decide) (by decide) (vin _ _ rfl)) (cwV 1 hts gX8_packed_J0_charAt_5068e rfl rfl rfl (by decide +kernel) ⟨Nat.le_of_ble_eq_true rfl, Nat.le_of_ble_eq_true rfl⟩) hE hK hP hD hS hA [] rfl (by decide) hl.1 (Nat.le_of_ble_eq_true rfl) rfl rfl dX8_packed_17 ⟨by decide, by decide⟩ (fun u9 H locs hP hD hS => ?_)
  refine tpv (v := .int 110) rfl ?_
  refine lv_bipush (v := 96) hx hb dX8_packed_20 (by decide) ?_
  refine lv_isub hx hb dX8_packed_22 ?_
  refine tpv (v := .int 14) rfl ?_
  refine lv_i2l (v := 14) hx hb dX8_packed_23 rfl ?_
  refine lv_lor hx hb dX8_packed_24 ?_
  refine tpv (v := .long 12462) rfl ?_
  refine lv_lstore_n (lv' := [(1, .long 12462), (3, .int 2), (0, .ref (ad 4))]) hx hb dX8_packed_25 rfl hl (by decide) rfl (fun ls hl => ?_)
  refine lv_iinc (v := 3) (lv' := [(3, .int 3), (1, .long 12462), (0, .ref (ad 4))]) hx hb dX8_packed_26 hl (k := 1) rfl (by decide) (by decide) rfl (fun ls hl => ?_)
  refine lv_goto (tgt := 4) hx hb dX8_packed_29 (by decide) ?_
  refine lv_iload_n hx hb dX8_packed_4 rfl (lv_at hl 0 rfl) ?_
  refine lv_aload_n hx hb dX8_packed_5 rfl (lv_at hl 2 rfl) ?_
  refine call_iVX (i := 4) (by decide) (As := []) (rest := [.int 3]) (wr := []) ⟨hx, hb, hml, hown, hts⟩ (kj_length l dC dI cB cI cJ cZ cO ad av 4 (by decide)) (cwV 0 hts gX8_packed_J0_length_8abf5 rfl rfl rfl (by decide +kernel) ⟨Nat.le_of_ble_eq_true rfl, Nat.le_of_ble_eq_true rfl⟩) hE hK hP hD hS hA [] rfl (by decide) hl.1 (Nat.le_of_ble_eq_true rfl) rfl rfl dX8_packed_6 ⟨by decide, by decide⟩ (fun u9 H locs hP hD hS => ?_)
  refine tpv (v := .int 6) rfl ?_
  refine lv_icmp_ge (tgt := 32) hx hb dX8_packed_9 (by decide) (fun c1 => absurd c1 (by decide)) (fun _ => ?_)
  refine lv_lload_n hx hb dX8_packed_12 rfl (lv_at hl 1 rfl) ?_
  refine lv_iconst (v := 5) hx hb dX8_packed_13 (by decide) ?_
  refine lv_lshl (v := 398784) hx hb dX8_packed_14 rfl ?_
  refine lv_aload_n hx hb dX8_packed_15 rfl (lv_at hl 2 rfl) ?_
  refine lv_iload_n hx hb dX8_packed_16 rfl (lv_at hl 0 rfl) ?_
  refine call_iVX (i := 4) (by decide) (As := [.int 3]) (rest := [.long 398784]) (wr := []) ⟨hx, hb, hml, hown, hts⟩ (kj_charAt l dC dI cB cI cJ cZ cO ad av 4 (by decide) 3 (by decide) (by decide) (vin _ _ rfl)) (cwV 1 hts gX8_packed_J0_charAt_5068e rfl rfl rfl (by decide +kernel) ⟨Nat.le_of_ble_eq_true rfl, Nat.le_of_ble_eq_true rfl⟩) hE hK hP hD hS hA [] rfl (by decide) hl.1 (Nat.le_of_ble_eq_true rfl) rfl rfl dX8_packed_17 ⟨by decide, by decide⟩ (fun u9 H locs hP hD hS => ?_)
  refine tpv (v := .int 103) rfl ?_
  refine lv_bipush (v := 96) hx hb dX8_packed_20 (by decide) ?_
  refine lv_isub hx hb dX8_packed_22 ?_
  refine tpv (v := .int 7) rfl ?_
  refine lv_i2l (v := 7) hx hb dX8_packed_23 rfl ?_
  refine lv_lor hx hb dX8_packed_24 ?_
  refine tpv (v := .long 398791) rfl ?_
  refine lv_lstore_n (lv' := [(1, .long 398791), (3, .int 3), (0, .ref (ad 4))]) hx hb dX8_packed_25 rfl hl (by decide) rfl (fun ls hl => ?_)
  refine lv_iinc (v := 4) (lv' := [(3, .int 4), (1, .long 398791), (0, .ref (ad 4))]) hx hb dX8_packed_26 hl (k := 1) rfl (by decide) (by decide) rfl (fun ls hl => ?_)
  refine lv_goto (tgt := 4) hx hb dX8_packed_29 (by decide) ?_
  refine lv_iload_n hx hb dX8_packed_4 rfl (lv_at hl 0 rfl) ?_
  refine lv_aload_n hx hb dX8_packed_5 rfl (lv_at hl 2 rfl) ?_
  refine call_iVX (i := 4) (by decide) (As := []) (rest := [.int 4]) (wr := []) ⟨hx, hb, hml, hown, hts⟩ (kj_length l dC dI cB cI cJ cZ cO ad av 4 (by decide)) (cwV 0 hts gX8_packed_J0_length_8abf5 rfl rfl rfl (by decide +kernel) ⟨Nat.le_of_ble_eq_true rfl, Nat.le_of_ble_eq_true rfl⟩) hE hK hP hD hS hA [] rfl (by decide) hl.1 (Nat.le_of_ble_eq_true rfl) rfl rfl dX8_packed_6 ⟨by decide, by decide⟩ (fun u9 H locs hP hD hS => ?_)
  refine tpv (v := .int 6) rfl ?_
  refine lv_icmp_ge (tgt := 32) hx hb dX8_packed_9 (by decide) (fun c1 => absurd c1 (by decide)) (fun _ => ?_)
  refine lv_lload_n hx hb dX8_packed_12 rfl (lv_at hl 1 rfl) ?_
  refine lv_iconst (v := 5) hx hb dX8_packed_13 (by decide) ?_
  refine lv_lshl (v := 12761312) hx hb dX8_packed_14 rfl ?_
  refine lv_aload_n hx hb dX8_packed_15 rfl (lv_at hl 2 rfl) ?_
  refine lv_iload_n hx hb dX8_packed_16 rfl (lv_at hl 0 rfl) ?_
  refine call_iVX (i := 4) (by decide) (As := [.int 4]) (rest := [.long 12761312]) (wr := []) ⟨hx, hb, hml, hown, hts⟩ (kj_charAt l dC dI cB cI cJ cZ cO ad av 4 (by decide) 4 (by decide) (by decide) (vin _ _ rfl)) (cwV 1 hts gX8_packed_J0_charAt_5068e rfl rfl rfl (by decide +kernel) ⟨Nat.le_of_ble_eq_true rfl, Nat.le_of_ble_eq_true rfl⟩) hE hK hP hD hS hA [] rfl (by decide) hl.1 (Nat.le_of_ble_eq_true rfl) rfl rfl dX8_packed_17 ⟨by decide, by decide⟩ (fun u9 H locs hP hD hS => ?_)
  refine tpv (v := .int 116) rfl ?_
  refine lv_bipush (v := 96) hx hb dX8_packed_20 (by decide) ?_
  refine lv_isub hx hb dX8_packed_22 ?_
  refine tpv (v := .int 20) rfl ?_
  refine lv_i2l (v := 20) hx hb dX8_packed_23 rfl ?_
  refine lv_lor hx hb dX8_packed_24 ?_
  refine tpv (v := .long 12761332) rfl ?_
  refine lv_lstore_n (lv' := [(1, .long 12761332), (3, .int 4), (0, .ref (ad 4))]) hx hb dX8_packed_25 rfl hl (by decide) rfl (fun ls hl => ?_)
  refine lv_iinc (v := 5) (lv' := [(3, .int 5), (1, .long 12761332), (0, .ref (ad 4))]) hx hb dX8_packed_26 hl (k := 1) rfl (by decide) (by decide) rfl (fun ls hl => ?_)
  refine lv_goto (tgt := 4) hx hb dX8_packed_29 (by decide) ?_
  refine lv_iload_n hx hb dX8_packed_4 rfl (lv_at hl 0 rfl) ?_
  refine lv_aload_n hx hb dX8_packed_5 rfl (lv_at hl 2 rfl) ?_
  refine call_iVX (i := 4) (by decide) (As := []) (rest := [.int 5]) (wr := []) ⟨hx, hb, hml, hown, hts⟩ (kj_length l dC dI cB cI cJ cZ cO ad av 4 (by decide)) (cwV 0 hts gX8_packed_J0_length_8abf5 rfl rfl rfl (by decide +kernel) ⟨Nat.le_of_ble_eq_true rfl, Nat.le_of_ble_eq_true rfl⟩) hE hK hP hD hS hA [] rfl (by decide) hl.1 (Nat.le_of_ble_eq_true rfl) rfl rfl dX8_packed_6 ⟨by decide, by decide⟩ (fun u9 H locs hP hD hS => ?_)
  refine tpv (v := .int 6) rfl ?_
  refine lv_icmp_ge (tgt := 32) hx hb dX8_packed_9 (by decide) (fun c1 => absurd c1 (by decide)) (fun _ => ?_)
  refine lv_lload_n hx hb dX8_packed_12 rfl (lv_at hl 1 rfl) ?_
  refine lv_iconst (v := 5) hx hb dX8_packed_13 (by decide) ?_
  refine lv_lshl (v := 408362624) hx hb dX8_packed_14 rfl ?_
  refine lv_aload_n hx hb dX8_packed_15 rfl (lv_at hl 2 rfl) ?_
  refine lv_iload_n hx hb dX8_packed_16 rfl (lv_at hl 0 rfl) ?_
  refine call_iVX (i := 4) (by decide) (As := [.int 5]) (rest := [.long 408362624]) (wr := []) ⟨hx, hb, hml, hown, hts⟩ (kj_charAt l dC dI cB cI cJ cZ cO ad av 4 (by decide) 5 (by decide) (by decide) (vin _ _ rfl)) (cwV 1 hts gX8_packed_J0_charAt_5068e rfl rfl rfl (by decide +kernel) ⟨Nat.le_of_ble_eq_true rfl, Nat.le_of_ble_eq_true rfl⟩) hE hK hP hD hS hA [] rfl (by decide) hl.1 (Nat.le_of_ble_eq_true rfl) rfl rfl dX8_packed_17 ⟨by decide, by decide⟩ (fun u9 H locs hP hD hS => ?_)
  refine tpv (v := .int 104) rfl ?_
  refine lv_bipush (v := 96) hx hb dX8_packed_20 (by decide) ?_
  refine lv_isub hx hb dX8_packed_22 ?_
  refine tpv (v := .int 8) rfl ?_
  refine lv_i2l (v := 8) hx hb dX8_packed_23 rfl ?_
  refine lv_lor hx hb dX8_packed_24 ?_
  refine tpv (v := .long 408362632) rfl ?_
  refine lv_lstore_n (lv' := [(1, .long 408362632), (3, .int 5), (0, .ref (ad 4))]) hx hb dX8_packed_25 rfl hl (by decide) rfl (fun ls hl => ?_)
  refine lv_iinc (v := 6) (lv' := [(3, .int 6), (1, .long 408362632), (0, .ref (ad 4))]) hx hb dX8_packed_26 hl (k := 1) rfl (by decide) (by decide) rfl (fun ls hl => ?_)
  refine lv_goto (tgt := 4) hx hb dX8_packed_29 (by decide) ?_
  refine lv_iload_n hx hb dX8_packed_4 rfl (lv_at hl 0 rfl) ?_
  refine lv_aload_n hx hb dX8_packed_5 rfl (lv_at hl 2 rfl) ?_
  refine call_iVX (i := 4) (by decide) (As := []) (rest := [.int 6]) (wr := []) ⟨hx, hb, hml, hown, hts⟩ (kj_length l dC dI cB cI cJ cZ cO ad av 4 (by decide)) (cwV 0 hts gX8_packed_J0_length_8abf5 rfl rfl rfl (by decide +kernel) ⟨Nat.le_of_ble_eq_true rfl, Nat.le_of_ble_eq_true rfl⟩) hE hK hP hD hS hA [] rfl (by decide) hl.1 (Nat.le_of_ble_eq_true rfl) rfl rfl dX8_packed_6 ⟨by decide, by decide⟩ (fun u9 H locs hP hD hS => ?_)
  refine tpv (v := .int 6) rfl ?_
  refine lv_icmp_ge (tgt := 32) hx hb dX8_packed_9 (by decide) (fun _ => ?_) (fun c1 => absurd (by decide) c1)
  refine lv_lload_n hx hb dX8_packed_32 rfl (lv_at hl 1 rfl) ?_
  refine W.widen (k := 0) (n := 0) (by decide) (by decide) ?_
  exact ret_l hx hb hr hlocks hS (u := (fun _ => 0)) (hP.sub [] rfl) (hD.sub [] (by decide) rfl) dX8_packed_33

set_option maxHeartbeats 4000000 in
set_option maxRecDepth 100000 in
theorem k6_X8_packed (l : Launch) (dC : Nat → ClassId) (dI : Nat → Nat → Nat) (cB cI cJ cZ cO : ClassId) (ad av : Nat → Nat) : CLX l yX8_packed wsX8_packed ({ frames := 4, cells := 0, slots := 0, locals := 85 }) (dC, dI) (tyL cB cI cJ cZ cO) [.ref (ad 5)] [] (fun _ => []) 21678547 ad av := by
  intro sz
  refine ctx_open (cc := cX8_packed) (maxL := 4) (ret := (some .long)) (by decide) rfl (Nat.le_of_ble_eq_true rfl) ?_
  intro p e s m below meth c ls A hx hb hr hml hts hown hlocks hin hP hK hD hA hS hl hE
  have hl : lv_has ls 4 [(0, .ref (ad 5))] := hl
  have hown : s.vm.findClass RX8 = some m.cls := hown
  refine lv_lconst (v := 0) hx hb dX8_packed_0 rfl ?_
  refine lv_lstore_n (lv' := [(1, .long 0), (0, .ref (ad 5))]) hx hb dX8_packed_1 rfl hl (by decide) rfl (fun ls hl => ?_)
  refine lv_iconst (v := 0) hx hb dX8_packed_2 (by decide) ?_
  refine lv_istore_n (lv' := [(3, .int 0), (1, .long 0), (0, .ref (ad 5))]) hx hb dX8_packed_3 rfl hl (by decide) rfl (fun ls hl => ?_)
  refine lv_iload_n hx hb dX8_packed_4 rfl (lv_at hl 0 rfl) ?_
  refine lv_aload_n hx hb dX8_packed_5 rfl (lv_at hl 2 rfl) ?_
  refine call_iVX (i := 5) (by decide) (As := []) (rest := [.int 0]) (wr := []) ⟨hx, hb, hml, hown, hts⟩ (kj_length l dC dI cB cI cJ cZ cO ad av 5 (by decide)) (cwV 0 hts gX8_packed_J0_length_8abf5 rfl rfl rfl (by decide +kernel) ⟨Nat.le_of_ble_eq_true rfl, Nat.le_of_ble_eq_true rfl⟩) hE hK hP hD hS hA [] rfl (by decide) hl.1 (Nat.le_of_ble_eq_true rfl) rfl rfl dX8_packed_6 ⟨by decide, by decide⟩ (fun u9 H locs hP hD hS => ?_)
  refine tpv (v := .int 5) rfl ?_
  refine lv_icmp_ge (tgt := 32) hx hb dX8_packed_9 (by decide) (fun c1 => absurd c1 (by decide)) (fun _ => ?_)
  refine lv_lload_n hx hb dX8_packed_12 rfl (lv_at hl 1 rfl) ?_
  refine lv_iconst (v := 5) hx hb dX8_packed_13 (by decide) ?_
  refine lv_lshl (v := 0) hx hb dX8_packed_14 rfl ?_
  refine lv_aload_n hx hb dX8_packed_15 rfl (lv_at hl 2 rfl) ?_
  refine lv_iload_n hx hb dX8_packed_16 rfl (lv_at hl 0 rfl) ?_
  refine call_iVX (i := 5) (by decide) (As := [.int 0]) (rest := [.long 0]) (wr := []) ⟨hx, hb, hml, hown, hts⟩ (kj_charAt l dC dI cB cI cJ cZ cO ad av 5 (by decide) 0 (by decide) (by decide) (vin _ _ rfl)) (cwV 1 hts gX8_packed_J0_charAt_5068e rfl rfl rfl (by decide +kernel) ⟨Nat.le_of_ble_eq_true rfl, Nat.le_of_ble_eq_true rfl⟩) hE hK hP hD hS hA [] rfl (by decide) hl.1 (Nat.le_of_ble_eq_true rfl) rfl rfl dX8_packed_17 ⟨by decide, by decide⟩ (fun u9 H locs hP hD hS => ?_)
  refine tpv (v := .int 116) rfl ?_
  refine lv_bipush (v := 96) hx hb dX8_packed_20 (by decide) ?_
  refine lv_isub hx hb dX8_packed_22 ?_
  refine tpv (v := .int 20) rfl ?_
  refine lv_i2l (v := 20) hx hb dX8_packed_23 rfl ?_
  refine lv_lor hx hb dX8_packed_24 ?_
  refine tpv (v := .long 20) rfl ?_
  refine lv_lstore_n (lv' := [(1, .long 20), (3, .int 0), (0, .ref (ad 5))]) hx hb dX8_packed_25 rfl hl (by decide) rfl (fun ls hl => ?_)
  refine lv_iinc (v := 1) (lv' := [(3, .int 1), (1, .long 20), (0, .ref (ad 5))]) hx hb dX8_packed_26 hl (k := 1) rfl (by decide) (by decide) rfl (fun ls hl => ?_)
  refine lv_goto (tgt := 4) hx hb dX8_packed_29 (by decide) ?_
  refine lv_iload_n hx hb dX8_packed_4 rfl (lv_at hl 0 rfl) ?_
  refine lv_aload_n hx hb dX8_packed_5 rfl (lv_at hl 2 rfl) ?_
  refine call_iVX (i := 5) (by decide) (As := []) (rest := [.int 1]) (wr := []) ⟨hx, hb, hml, hown, hts⟩ (kj_length l dC dI cB cI cJ cZ cO ad av 5 (by decide)) (cwV 0 hts gX8_packed_J0_length_8abf5 rfl rfl rfl (by decide +kernel) ⟨Nat.le_of_ble_eq_true rfl, Nat.le_of_ble_eq_true rfl⟩) hE hK hP hD hS hA [] rfl (by decide) hl.1 (Nat.le_of_ble_eq_true rfl) rfl rfl dX8_packed_6 ⟨by decide, by decide⟩ (fun u9 H locs hP hD hS => ?_)
  refine tpv (v := .int 5) rfl ?_
  refine lv_icmp_ge (tgt := 32) hx hb dX8_packed_9 (by decide) (fun c1 => absurd c1 (by decide)) (fun _ => ?_)
  refine lv_lload_n hx hb dX8_packed_12 rfl (lv_at hl 1 rfl) ?_
  refine lv_iconst (v := 5) hx hb dX8_packed_13 (by decide) ?_
  refine lv_lshl (v := 640) hx hb dX8_packed_14 rfl ?_
  refine lv_aload_n hx hb dX8_packed_15 rfl (lv_at hl 2 rfl) ?_
  refine lv_iload_n hx hb dX8_packed_16 rfl (lv_at hl 0 rfl) ?_
  refine call_iVX (i := 5) (by decide) (As := [.int 1]) (rest := [.long 640]) (wr := []) ⟨hx, hb, hml, hown, hts⟩ (kj_charAt l dC dI cB cI cJ cZ cO ad av 5 (by decide) 1 (by decide) (by decide) (vin _ _ rfl)) (cwV 1 hts gX8_packed_J0_charAt_5068e rfl rfl rfl (by decide +kernel) ⟨Nat.le_of_ble_eq_true rfl, Nat.le_of_ble_eq_true rfl⟩) hE hK hP hD hS hA [] rfl (by decide) hl.1 (Nat.le_of_ble_eq_true rfl) rfl rfl dX8_packed_17 ⟨by decide, by decide⟩ (fun u9 H locs hP hD hS => ?_)
  refine tpv (v := .int 117) rfl ?_
  refine lv_bipush (v := 96) hx hb dX8_packed_20 (by decide) ?_
  refine lv_isub hx hb dX8_packed_22 ?_
  refine tpv (v := .int 21) rfl ?_
  refine lv_i2l (v := 21) hx hb dX8_packed_23 rfl ?_
  refine lv_lor hx hb dX8_packed_24 ?_
  refine tpv (v := .long 661) rfl ?_
  refine lv_lstore_n (lv' := [(1, .long 661), (3, .int 1), (0, .ref (ad 5))]) hx hb dX8_packed_25 rfl hl (by decide) rfl (fun ls hl => ?_)
  refine lv_iinc (v := 2) (lv' := [(3, .int 2), (1, .long 661), (0, .ref (ad 5))]) hx hb dX8_packed_26 hl (k := 1) rfl (by decide) (by decide) rfl (fun ls hl => ?_)
  refine lv_goto (tgt := 4) hx hb dX8_packed_29 (by decide) ?_
  refine lv_iload_n hx hb dX8_packed_4 rfl (lv_at hl 0 rfl) ?_
  refine lv_aload_n hx hb dX8_packed_5 rfl (lv_at hl 2 rfl) ?_
  refine call_iVX (i := 5) (by decide) (As := []) (rest := [.int 2]) (wr := []) ⟨hx, hb, hml, hown, hts⟩ (kj_length l dC dI cB cI cJ cZ cO ad av 5 (by decide)) (cwV 0 hts gX8_packed_J0_length_8abf5 rfl rfl rfl (by decide +kernel) ⟨Nat.le_of_ble_eq_true rfl, Nat.le_of_ble_eq_true rfl⟩) hE hK hP hD hS hA [] rfl (by decide) hl.1 (Nat.le_of_ble_eq_true rfl) rfl rfl dX8_packed_6 ⟨by decide, by decide⟩ (fun u9 H locs hP hD hS => ?_)
  refine tpv (v := .int 5) rfl ?_
  refine lv_icmp_ge (tgt := 32) hx hb dX8_packed_9 (by decide) (fun c1 => absurd c1 (by decide)) (fun _ => ?_)
  refine lv_lload_n hx hb dX8_packed_12 rfl (lv_at hl 1 rfl) ?_
  refine lv_iconst (v := 5) hx hb dX8_packed_13 (by decide) ?_
  refine lv_lshl (v := 21152) hx hb dX8_packed_14 rfl ?_
  refine lv_aload_n hx hb dX8_packed_15 rfl (lv_at hl 2 rfl) ?_
  refine lv_iload_n hx hb dX8_packed_16 rfl (lv_at hl 0 rfl) ?_
  refine call_iVX (i := 5) (by decide) (As := [.int 2]) (rest := [.long 21152]) (wr := []) ⟨hx, hb, hml, hown, hts⟩ (kj_charAt l dC dI cB cI cJ cZ cO ad av 5 (by decide) 2 (by decide) (by decide) (vin _ _ rfl)) (cwV 1 hts gX8_packed_J0_charAt_5068e rfl rfl rfl (by decide +kernel) ⟨Nat.le_of_ble_eq_true rfl, Nat.le_of_ble_eq_true rfl⟩) hE hK hP hD hS hA [] rfl (by decide) hl.1 (Nat.le_of_ble_eq_true rfl) rfl rfl dX8_packed_17 ⟨by decide, by decide⟩ (fun u9 H locs hP hD hS => ?_)
  refine tpv (v := .int 114) rfl ?_
  refine lv_bipush (v := 96) hx hb dX8_packed_20 (by decide) ?_
  refine lv_isub hx hb dX8_packed_22 ?_
  refine tpv (v := .int 18) rfl ?_
  refine lv_i2l (v := 18) hx hb dX8_packed_23 rfl ?_
  refine lv_lor hx hb dX8_packed_24 ?_
  refine tpv (v := .long 21170) rfl ?_
  refine lv_lstore_n (lv' := [(1, .long 21170), (3, .int 2), (0, .ref (ad 5))]) hx hb dX8_packed_25 rfl hl (by decide) rfl (fun ls hl => ?_)
  refine lv_iinc (v := 3) (lv' := [(3, .int 3), (1, .long 21170), (0, .ref (ad 5))]) hx hb dX8_packed_26 hl (k := 1) rfl (by decide) (by decide) rfl (fun ls hl => ?_)
  refine lv_goto (tgt := 4) hx hb dX8_packed_29 (by decide) ?_
  refine lv_iload_n hx hb dX8_packed_4 rfl (lv_at hl 0 rfl) ?_
  refine lv_aload_n hx hb dX8_packed_5 rfl (lv_at hl 2 rfl) ?_
  refine call_iVX (i := 5) (by decide) (As := []) (rest := [.int 3]) (wr := []) ⟨hx, hb, hml, hown, hts⟩ (kj_length l dC dI cB cI cJ cZ cO ad av 5 (by decide)) (cwV 0 hts gX8_packed_J0_length_8abf5 rfl rfl rfl (by decide +kernel) ⟨Nat.le_of_ble_eq_true rfl, Nat.le_of_ble_eq_true rfl⟩) hE hK hP hD hS hA [] rfl (by decide) hl.1 (Nat.le_of_ble_eq_true rfl) rfl rfl dX8_packed_6 ⟨by decide, by decide⟩ (fun u9 H locs hP hD hS => ?_)
  refine tpv (v := .int 5) rfl ?_
  refine lv_icmp_ge (tgt := 32) hx hb dX8_packed_9 (by decide) (fun c1 => absurd c1 (by decide)) (fun _ => ?_)
  refine lv_lload_n hx hb dX8_packed_12 rfl (lv_at hl 1 rfl) ?_
  refine lv_iconst (v := 5) hx hb dX8_packed_13 (by decide) ?_
  refine lv_lshl (v := 677440) hx hb dX8_packed_14 rfl ?_
  refine lv_aload_n hx hb dX8_packed_15 rfl (lv_at hl 2 rfl) ?_
  refine lv_iload_n hx hb dX8_packed_16 rfl (lv_at hl 0 rfl) ?_
  refine call_iVX (i := 5) (by decide) (As := [.int 3]) (rest := [.long 677440]) (wr := []) ⟨hx, hb, hml, hown, hts⟩ (kj_charAt l dC dI cB cI cJ cZ cO ad av 5 (by decide) 3 (by decide) (by decide) (vin _ _ rfl)) (cwV 1 hts gX8_packed_J0_charAt_5068e rfl rfl rfl (by decide +kernel) ⟨Nat.le_of_ble_eq_true rfl, Nat.le_of_ble_eq_true rfl⟩) hE hK hP hD hS hA [] rfl (by decide) hl.1 (Nat.le_of_ble_eq_true rfl) rfl rfl dX8_packed_17 ⟨by decide, by decide⟩ (fun u9 H locs hP hD hS => ?_)
  refine tpv (v := .int 110) rfl ?_
  refine lv_bipush (v := 96) hx hb dX8_packed_20 (by decide) ?_
  refine lv_isub hx hb dX8_packed_22 ?_
  refine tpv (v := .int 14) rfl ?_
  refine lv_i2l (v := 14) hx hb dX8_packed_23 rfl ?_
  refine lv_lor hx hb dX8_packed_24 ?_
  refine tpv (v := .long 677454) rfl ?_
  refine lv_lstore_n (lv' := [(1, .long 677454), (3, .int 3), (0, .ref (ad 5))]) hx hb dX8_packed_25 rfl hl (by decide) rfl (fun ls hl => ?_)
  refine lv_iinc (v := 4) (lv' := [(3, .int 4), (1, .long 677454), (0, .ref (ad 5))]) hx hb dX8_packed_26 hl (k := 1) rfl (by decide) (by decide) rfl (fun ls hl => ?_)
  refine lv_goto (tgt := 4) hx hb dX8_packed_29 (by decide) ?_
  refine lv_iload_n hx hb dX8_packed_4 rfl (lv_at hl 0 rfl) ?_
  refine lv_aload_n hx hb dX8_packed_5 rfl (lv_at hl 2 rfl) ?_
  refine call_iVX (i := 5) (by decide) (As := []) (rest := [.int 4]) (wr := []) ⟨hx, hb, hml, hown, hts⟩ (kj_length l dC dI cB cI cJ cZ cO ad av 5 (by decide)) (cwV 0 hts gX8_packed_J0_length_8abf5 rfl rfl rfl (by decide +kernel) ⟨Nat.le_of_ble_eq_true rfl, Nat.le_of_ble_eq_true rfl⟩) hE hK hP hD hS hA [] rfl (by decide) hl.1 (Nat.le_of_ble_eq_true rfl) rfl rfl dX8_packed_6 ⟨by decide, by decide⟩ (fun u9 H locs hP hD hS => ?_)
  refine tpv (v := .int 5) rfl ?_
  refine lv_icmp_ge (tgt := 32) hx hb dX8_packed_9 (by decide) (fun c1 => absurd c1 (by decide)) (fun _ => ?_)
  refine lv_lload_n hx hb dX8_packed_12 rfl (lv_at hl 1 rfl) ?_
  refine lv_iconst (v := 5) hx hb dX8_packed_13 (by decide) ?_
  refine lv_lshl (v := 21678528) hx hb dX8_packed_14 rfl ?_
  refine lv_aload_n hx hb dX8_packed_15 rfl (lv_at hl 2 rfl) ?_
  refine lv_iload_n hx hb dX8_packed_16 rfl (lv_at hl 0 rfl) ?_
  refine call_iVX (i := 5) (by decide) (As := [.int 4]) (rest := [.long 21678528]) (wr := []) ⟨hx, hb, hml, hown, hts⟩ (kj_charAt l dC dI cB cI cJ cZ cO ad av 5 (by decide) 4 (by decide) (by decide) (vin _ _ rfl)) (cwV 1 hts gX8_packed_J0_charAt_5068e rfl rfl rfl (by decide +kernel) ⟨Nat.le_of_ble_eq_true rfl, Nat.le_of_ble_eq_true rfl⟩) hE hK hP hD hS hA [] rfl (by decide) hl.1 (Nat.le_of_ble_eq_true rfl) rfl rfl dX8_packed_17 ⟨by decide, by decide⟩ (fun u9 H locs hP hD hS => ?_)
  refine tpv (v := .int 115) rfl ?_
  refine lv_bipush (v := 96) hx hb dX8_packed_20 (by decide) ?_
  refine lv_isub hx hb dX8_packed_22 ?_
  refine tpv (v := .int 19) rfl ?_
  refine lv_i2l (v := 19) hx hb dX8_packed_23 rfl ?_
  refine lv_lor hx hb dX8_packed_24 ?_
  refine tpv (v := .long 21678547) rfl ?_
  refine lv_lstore_n (lv' := [(1, .long 21678547), (3, .int 4), (0, .ref (ad 5))]) hx hb dX8_packed_25 rfl hl (by decide) rfl (fun ls hl => ?_)
  refine lv_iinc (v := 5) (lv' := [(3, .int 5), (1, .long 21678547), (0, .ref (ad 5))]) hx hb dX8_packed_26 hl (k := 1) rfl (by decide) (by decide) rfl (fun ls hl => ?_)
  refine lv_goto (tgt := 4) hx hb dX8_packed_29 (by decide) ?_
  refine lv_iload_n hx hb dX8_packed_4 rfl (lv_at hl 0 rfl) ?_
  refine lv_aload_n hx hb dX8_packed_5 rfl (lv_at hl 2 rfl) ?_
  refine call_iVX (i := 5) (by decide) (As := []) (rest := [.int 5]) (wr := []) ⟨hx, hb, hml, hown, hts⟩ (kj_length l dC dI cB cI cJ cZ cO ad av 5 (by decide)) (cwV 0 hts gX8_packed_J0_length_8abf5 rfl rfl rfl (by decide +kernel) ⟨Nat.le_of_ble_eq_true rfl, Nat.le_of_ble_eq_true rfl⟩) hE hK hP hD hS hA [] rfl (by decide) hl.1 (Nat.le_of_ble_eq_true rfl) rfl rfl dX8_packed_6 ⟨by decide, by decide⟩ (fun u9 H locs hP hD hS => ?_)
  refine tpv (v := .int 5) rfl ?_
  refine lv_icmp_ge (tgt := 32) hx hb dX8_packed_9 (by decide) (fun _ => ?_) (fun c1 => absurd (by decide) c1)
  refine lv_lload_n hx hb dX8_packed_32 rfl (lv_at hl 1 rfl) ?_
  refine W.widen (k := 0) (n := 0) (by decide) (by decide) ?_
  exact ret_l hx hb hr hlocks hS (u := (fun _ => 0)) (hP.sub [] rfl) (hD.sub [] (by decide) rfl) dX8_packed_33

set_option maxHeartbeats 4000000 in
set_option maxRecDepth 100000 in
theorem k7_X8_init (l : Launch) (dC : Nat → ClassId) (dI : Nat → Nat → Nat) (cB cI cJ cZ cO : ClassId) (ad av : Nat → Nat) (a0 : Nat) : CVX l yX8_init wsX8_init ({ frames := 5, cells := 2, slots := 6, locals := 108 }) (dC, dI) (tyL cB cI cJ cZ cO) [.ref a0] [(a0, .inr (8, [.null, .null, .int 0, .int 0, .int 0, .int 0, .long 0, .int 0, .int 0, .int 0]))] (fun u => [(a0, .inr (8, [.ref (u 0), .ref (u 1), .int 0, .int 0, .int 0, .int 0, .long 0, .int 0, .int 0, .int (-1)])), ((u 0), .inl (cJ, 6, .inr (.inl (vp_updL (vp_updL (vp_updL (vp_updL (vp_updL (vp_updL (fun _ => 0) 0 769604) 1 525618) 2 611717) 3 498) 4 408362632) 5 21678547)))), ((u 1), .inl (cB, 0, .inl (fun _ => 0)))]) ad av := by
  intro sz
  refine ctx_open (cc := cX8_init) (maxL := 1) (ret := none) (by decide) rfl (Nat.le_of_ble_eq_true rfl) ?_
  intro p e s m below meth c ls A hx hb hr hml hts hown hlocks hin hP hK hD hA hS hl hE
  have hl : lv_has ls 1 [(0, .ref a0)] := hl
  have hown : s.vm.findClass RX8 = some m.cls := hown
  have hin : meth.name = "<init>" := hin
  have w0 := hts (.methodLink RX8 3 objectInit) (List.mem_cons_of_mem _ (List.mem_append_left _ (List.mem_append_left _ (List.mem_of_getElem? (i := 0) rfl))))
  have w1 := hts (.instanceMethod objectInit) (List.mem_cons_of_mem _ (List.mem_append_left _ (List.mem_append_left _ (List.mem_of_getElem? (i := 1) rfl))))
  have w2 := hts (.code objectInit ⟨#[0xb1]⟩ 1 none) (List.mem_cons_of_mem _ (List.mem_append_left _ (List.mem_append_left _ (List.mem_of_getElem? (i := 2) rfl))))
  have w3 := hts (.arrayClass .long) (List.mem_cons_of_mem _ (List.mem_append_left _ (List.mem_append_left _ (List.mem_of_getElem? (i := 3) rfl))))
  have i8 : ∀ w ∈ u_ws RX8 TX8 10, w ∈ wsX8_init := fun _ h => List.mem_cons_of_mem _ (List.mem_append_right _ h)
  have w5 := hts (.fieldLink RX8 27 "GuildCharter$Tokens" "keyNames" "[J") (List.mem_cons_of_mem _ (List.mem_append_left _ (List.mem_append_left _ (List.mem_of_getElem? (i := 4) rfl))))
  have w6 := hts (.arrayClass .byte) (List.mem_cons_of_mem _ (List.mem_append_left _ (List.mem_append_left _ (List.mem_of_getElem? (i := 5) rfl))))
  have w7 := hts (.fieldLink RX8 31 "GuildCharter$Tokens" "text" "[B") (List.mem_cons_of_mem _ (List.mem_append_left _ (List.mem_append_left _ (List.mem_of_getElem? (i := 6) rfl))))
  have w8 := hts (.fieldLink RX8 35 "GuildCharter$Tokens" "faultPlace" "I") (List.mem_cons_of_mem _ (List.mem_append_left _ (List.mem_append_left _ (List.mem_of_getElem? (i := 7) rfl))))
  refine lv_aload_n hx hb dX8_init_0 rfl (lv_at hl 0 rfl) ?_
  refine W.objInit hx hb hown w0 w1 w2 rfl (by rw [hml]; exact hl.1) rfl dX8_init_1 (Nat.le_of_ble_eq_true rfl) (Nat.le_of_ble_eq_true rfl) ?_
  refine W.eq (g2 := F0 m 4 ls []) rfl ?_
  refine lv_aload_n hx hb dX8_init_4 rfl (lv_at hl 0 rfl) ?_
  refine lv_bipush (v := 6) hx hb dX8_init_5 (by decide) ?_
  refine my_newa hx hb w3 (ty := .long) rfl hK hP hD hS hA 2 rfl (by decide) (N' := 6) (a0 := (6, .inr (.inl (fun _ => 0)))) (fun _ => rfl) (by decide) rfl (by decide) (by decide) (by decide) dX8_init_7 (fun q0 H hP hD hS => ?_)
  refine lv_dup hx hb dX8_init_9 rfl ?_
  refine lv_iconst (v := 0) hx hb dX8_init_10 (by decide) ?_
  refine va_ldcS hx hb hown (hE.2.2.1 0 (by decide)) dX8_init_11 ?_
  refine call_lSX (As := [.ref (ad 0)]) (rest := [.int 0, .ref q0, .ref q0, .ref a0]) (wr := [(a0, .inr (8, [.null, .null, .int 0, .int 0, .int 0, .int 0, .long 0, .int 0, .int 0, .int 0])), (q0, .inl (cJ, 6, .inr (.inl (fun _ => 0))))]) ⟨hx, hb, hml, hown, hts⟩ (k1_X8_packed l dC dI cB cI cJ cZ cO ad av) (va_cwS 1 hts gX8_init_X8_packed rfl rfl rfl (by decide +kernel) ⟨Nat.le_of_ble_eq_true rfl, Nat.le_of_ble_eq_true rfl⟩) hE hK hP hD hS hA [] [0, 1] rfl rfl (by decide) (by decide) (by decide) hl.1 (Nat.le_of_ble_eq_true rfl) rfl rfl dX8_init_13 ⟨by decide, by decide⟩ (fun u0 H locs hP hD hS => ?_)
  refine va_last hx hb hK hP hD hS 1 2 rfl rfl (vin _ _ rfl) dX8_init_16 (fun H locs hP hD hS => ?_)
  refine lv_dup hx hb dX8_init_17 rfl ?_
  refine lv_iconst (v := 1) hx hb dX8_init_18 (by decide) ?_
  refine va_ldcS hx hb hown (hE.2.2.1 1 (by decide)) dX8_init_19 ?_
  refine call_lSX (As := [.ref (ad 1)]) (rest := [.int 1, .ref q0, .ref q0, .ref a0]) (wr := [(a0, .inr (8, [.null, .null, .int 0, .int 0, .int 0, .int 0, .long 0, .int 0, .int 0, .int 0])), (q0, .inl (cJ, 6, .inr (.inl (vp_updL (fun _ => 0) 0 769604))))]) ⟨hx, hb, hml, hown, hts⟩ (k2_X8_packed l dC dI cB cI cJ cZ cO ad av) (va_cwS 1 hts gX8_init_X8_packed rfl rfl rfl (by decide +kernel) ⟨Nat.le_of_ble_eq_true rfl, Nat.le_of_ble_eq_true rfl⟩) hE hK hP hD hS hA [] [0, 1] rfl rfl (by decide) (by decide) (by decide) hl.1 (Nat.le_of_ble_eq_true rfl) rfl rfl dX8_init_21 ⟨by decide, by decide⟩ (fun u1 H locs hP hD hS => ?_)
  refine va_last hx hb hK hP hD hS 1 2 rfl rfl (vin _ _ rfl) dX8_init_24 (fun H locs hP hD hS => ?_)
  refine lv_dup hx hb dX8_init_25 rfl ?_
  refine lv_iconst (v := 2) hx hb dX8_init_26 (by decide) ?_
  refine va_ldcS hx hb hown (hE.2.2.1 2 (by decide)) dX8_init_27 ?_
  refine call_lSX (As := [.ref (ad 2)]) (rest := [.int 2, .ref q0, .ref q0, .ref a0]) (wr := [(a0, .inr (8, [.null, .null, .int 0, .int 0, .int 0, .int 0, .long 0, .int 0, .int 0, .int 0])), (q0, .inl (cJ, 6, .inr (.inl (vp_updL (vp_updL (fun _ => 0) 0 769604) 1 525618))))]) ⟨hx, hb, hml, hown, hts⟩ (k3_X8_packed l dC dI cB cI cJ cZ cO ad av) (va_cwS 1 hts gX8_init_X8_packed rfl rfl rfl (by decide +kernel) ⟨Nat.le_of_ble_eq_true rfl, Nat.le_of_ble_eq_true rfl⟩) hE hK hP hD hS hA [] [0, 1] rfl rfl (by decide) (by decide) (by decide) hl.1 (Nat.le_of_ble_eq_true rfl) rfl rfl dX8_init_29 ⟨by decide, by decide⟩ (fun u2 H locs hP hD hS => ?_)
  refine va_last hx hb hK hP hD hS 1 2 rfl rfl (vin _ _ rfl) dX8_init_32 (fun H locs hP hD hS => ?_)
  refine lv_dup hx hb dX8_init_33 rfl ?_
  refine lv_iconst (v := 3) hx hb dX8_init_34 (by decide) ?_
  refine va_ldcS hx hb hown (hE.2.2.1 3 (by decide)) dX8_init_35 ?_
  refine call_lSX (As := [.ref (ad 3)]) (rest := [.int 3, .ref q0, .ref q0, .ref a0]) (wr := [(a0, .inr (8, [.null, .null, .int 0, .int 0, .int 0, .int 0, .long 0, .int 0, .int 0, .int 0])), (q0, .inl (cJ, 6, .inr (.inl (vp_updL (vp_updL (vp_updL (fun _ => 0) 0 769604) 1 525618) 2 611717))))]) ⟨hx, hb, hml, hown, hts⟩ (k4_X8_packed l dC dI cB cI cJ cZ cO ad av) (va_cwS 1 hts gX8_init_X8_packed rfl rfl rfl (by decide +kernel) ⟨Nat.le_of_ble_eq_true rfl, Nat.le_of_ble_eq_true rfl⟩) hE hK hP hD hS hA [] [0, 1] rfl rfl (by decide) (by decide) (by decide) hl.1 (Nat.le_of_ble_eq_true rfl) rfl rfl dX8_init_37 ⟨by decide, by decide⟩ (fun u3 H locs hP hD hS => ?_)
  refine va_last hx hb hK hP hD hS 1 2 rfl rfl (vin _ _ rfl) dX8_init_40 (fun H locs hP hD hS => ?_)
  refine lv_dup hx hb dX8_init_41 rfl ?_
  refine lv_iconst (v := 4) hx hb dX8_init_42 (by decide) ?_
  refine va_ldcS hx hb hown (hE.2.2.1 4 (by decide)) dX8_init_43 ?_
  refine call_lSX (As := [.ref (ad 4)]) (rest := [.int 4, .ref q0, .ref q0, .ref a0]) (wr := [(a0, .inr (8, [.null, .null, .int 0, .int 0, .int 0, .int 0, .long 0, .int 0, .int 0, .int 0])), (q0, .inl (cJ, 6, .inr (.inl (vp_updL (vp_updL (vp_updL (vp_updL (fun _ => 0) 0 769604) 1 525618) 2 611717) 3 498))))]) ⟨hx, hb, hml, hown, hts⟩ (k5_X8_packed l dC dI cB cI cJ cZ cO ad av) (va_cwS 1 hts gX8_init_X8_packed rfl rfl rfl (by decide +kernel) ⟨Nat.le_of_ble_eq_true rfl, Nat.le_of_ble_eq_true rfl⟩) hE hK hP hD hS hA [] [0, 1] rfl rfl (by decide) (by decide) (by decide) hl.1 (Nat.le_of_ble_eq_true rfl) rfl rfl dX8_init_45 ⟨by decide, by decide⟩ (fun u4 H locs hP hD hS => ?_)
  refine va_last hx hb hK hP hD hS 1 2 rfl rfl (vin _ _ rfl) dX8_init_48 (fun H locs hP hD hS => ?_)
  refine lv_dup hx hb dX8_init_49 rfl ?_
  refine lv_iconst (v := 5) hx hb dX8_init_50 (by decide) ?_
  refine va_ldcS hx hb hown (hE.2.2.1 5 (by decide)) dX8_init_51 ?_
  refine call_lSX (As := [.ref (ad 5)]) (rest := [.int 5, .ref q0, .ref q0, .ref a0]) (wr := [(a0, .inr (8, [.null, .null, .int 0, .int 0, .int 0, .int 0, .long 0, .int 0, .int 0, .int 0])), (q0, .inl (cJ, 6, .inr (.inl (vp_updL (vp_updL (vp_updL (vp_updL (vp_updL (fun _ => 0) 0 769604) 1 525618) 2 611717) 3 498) 4 408362632))))]) ⟨hx, hb, hml, hown, hts⟩ (k6_X8_packed l dC dI cB cI cJ cZ cO ad av) (va_cwS 1 hts gX8_init_X8_packed rfl rfl rfl (by decide +kernel) ⟨Nat.le_of_ble_eq_true rfl, Nat.le_of_ble_eq_true rfl⟩) hE hK hP hD hS hA [] [0, 1] rfl rfl (by decide) (by decide) (by decide) hl.1 (Nat.le_of_ble_eq_true rfl) rfl rfl dX8_init_53 ⟨by decide, by decide⟩ (fun u5 H locs hP hD hS => ?_)
  refine va_last hx hb hK hP hD hS 1 2 rfl rfl (vin _ _ rfl) dX8_init_56 (fun H locs hP hD hS => ?_)
  refine va_putF (D := (dC, dI)) (ci := 8) (v := .ref q0) (ty := tyX8 0) (C := RX8) (T := TX8) (N := 10) hx hb hts i8 tyX8 tyX8_ok nmX8 hown hK hP hD hS 0 rfl rfl 0 (by decide) w5 (fun _ h9 => h9) rfl hin rfl (by decide +kernel) rfl rfl (Nat.le_of_ble_eq_true rfl) dX8_init_57 (fun H locs hP hD hS => ?_)
  refine lv_aload_n hx hb dX8_init_60 rfl (lv_at hl 0 rfl) ?_
  refine lv_iconst (v := 0) hx hb dX8_init_61 (by decide) ?_
  refine my_newa hx hb w6 (ty := .byte) rfl hK hP hD hS hA 0 rfl (by decide) (N' := 0) (a0 := (0, .inl (fun _ => 0))) (fun _ => rfl) (by decide) rfl (by decide) (by decide) (by decide) dX8_init_62 (fun q1 H hP hD hS => ?_)
  refine va_put (D := (dC, dI)) (ci := 8) (v := .ref q1) (ty := tyX8 1) (C := RX8) (T := TX8) (N := 10) hx hb hts i8 tyX8 tyX8_ok nmX8 hown hK hP hD hS 0 rfl rfl 1 (by decide) w7 (fun _ h9 => h9) rfl (by decide +kernel) rfl rfl (Nat.le_of_ble_eq_true rfl) dX8_init_64 (fun H locs hP hD hS => ?_)
  refine lv_aload_n hx hb dX8_init_67 rfl (lv_at hl 0 rfl) ?_
  refine lv_iconst (v := (-1)) hx hb dX8_init_68 (by decide) ?_
  refine va_put (D := (dC, dI)) (ci := 8) (v := .int (-1)) (ty := tyX8 9) (C := RX8) (T := TX8) (N := 10) hx hb hts i8 tyX8 tyX8_ok nmX8 hown hK hP hD hS 0 rfl rfl 9 (by decide) w8 (fun _ h9 => h9) rfl (by decide +kernel) rfl rfl (Nat.le_of_ble_eq_true rfl) dX8_init_69 (fun H locs hP hD hS => ?_)
  refine W.widen (k := 2) (n := 6) (by decide) (by decide) ?_
  exact ret_v hx hb hr hlocks hS (u := (fun k => ([q0, q1] : List Nat).getD k 0)) (hP.sub [0, 1, 2] rfl) (hD.sub [0, 1, 2] (by decide) rfl) dX8_init_72
