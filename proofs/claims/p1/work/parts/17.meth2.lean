set_option maxHeartbeats 4000000 in
set_option maxRecDepth 100000 in
theorem k40_X4_empty (l : Launch) (dC : Nat → ClassId) (dI : Nat → Nat → Nat) (cB cI cJ cZ cO : ClassId) (r : Nat → Nat) : CV l yX4_empty wsX4_empty ({ frames := 1, cells := 0, slots := 0, locals := 23 }) (dC, dI) (tyL cB cI cJ cZ cO) [.ref (r 28)] [((r 28), .inr (4, [.int 0, .ref (r 29), .ref (r 30), .int 0, .ref (r 31), .ref (r 32), .int 0, .ref (r 33), .ref (r 34), .int 0, .ref (r 35), .ref (r 36), .int 3, .int 0, .int 0, .ref (r 37)])), ((r 32), .inl (cI, 192, .inl (fun _ => 0))), ((r 31), .inl (cZ, 64, .inl (fun _ => 0))), ((r 34), .inl (cI, 9, .inl (fun _ => 0)))] (fun u => [((r 28), .inr (4, [.int 0, .ref (r 29), .ref (r 30), .int 0, .ref (r 31), .ref (r 32), .int 0, .ref (r 33), .ref (r 34), .int 0, .ref (r 35), .ref (r 36), .int 3, .int 0, .int 0, .ref (r 37)])), ((r 32), .inl (cI, 192, .inl (fun _ => 0))), ((r 31), .inl (cZ, 64, .inl (fun _ => 0))), ((r 34), .inl (cI, 9, .inl (fun _ => 0)))]) := by
  intro sz
  refine ct_open (cc := cX4_empty) (maxL := 2) (ret := none) (by decide) rfl (Nat.le_of_ble_eq_true rfl) ?_
  intro p e s m below meth c ls A hx hb hr hml hts hown hlocks hin hP hK hD hA hS hl
  have hl : lv_has ls 2 [(0, .ref (r 28))] := hl
  have hown : s.vm.findClass RX4 = some m.cls := hown
  have i4 : ∀ w ∈ u_ws RX4 TX4 16, w ∈ wsX4_empty := fun _ h => List.mem_cons_of_mem _ (List.mem_append_right _ h)
  have w1 := hts (.fieldLink RX4 45 "GuildCharter$Port" "words" "I") (List.mem_cons_of_mem _ (List.mem_append_left _ (List.mem_of_getElem? (i := 0) rfl)))
  have w2 := hts (.fieldLink RX4 48 "GuildCharter$Port" "pairs" "I") (List.mem_cons_of_mem _ (List.mem_append_left _ (List.mem_of_getElem? (i := 1) rfl)))
  have w3 := hts (.fieldLink RX4 23 "GuildCharter$Port" "pairWorths" "[I") (List.mem_cons_of_mem _ (List.mem_append_left _ (List.mem_of_getElem? (i := 2) rfl)))
  have w4 := hts (.fieldLink RX4 19 "GuildCharter$Port" "paired" "[Z") (List.mem_cons_of_mem _ (List.mem_append_left _ (List.mem_of_getElem? (i := 3) rfl)))
  have w5 := hts (.fieldLink RX4 57 "GuildCharter$Port" "rules" "I") (List.mem_cons_of_mem _ (List.mem_append_left _ (List.mem_of_getElem? (i := 4) rfl)))
  have w6 := hts (.fieldLink RX4 29 "GuildCharter$Port" "firstAlts" "[I") (List.mem_cons_of_mem _ (List.mem_append_left _ (List.mem_of_getElem? (i := 5) rfl)))
  have w7 := hts (.fieldLink RX4 60 "GuildCharter$Port" "alts" "I") (List.mem_cons_of_mem _ (List.mem_append_left _ (List.mem_of_getElem? (i := 6) rfl)))
  have w8 := hts (.fieldLink RX4 41 "GuildCharter$Port" "length" "I") (List.mem_cons_of_mem _ (List.mem_append_left _ (List.mem_of_getElem? (i := 7) rfl)))
  have w9 := hts (.fieldLink RX4 63 "GuildCharter$Port" "lengthTold" "Z") (List.mem_cons_of_mem _ (List.mem_append_left _ (List.mem_of_getElem? (i := 8) rfl)))
  have w10 := hts (.fieldLink RX4 67 "GuildCharter$Port" "turnCount" "I") (List.mem_cons_of_mem _ (List.mem_append_left _ (List.mem_of_getElem? (i := 9) rfl)))
  refine lv_aload_n hx hb dX4_empty_0 rfl (lv_at hl 0 rfl) ?_
  refine lv_iconst (v := 0) hx hb dX4_empty_1 z8 ?_
  refine va_put (D := (dC, dI)) (ci := 4) (v := .int 0) (ty := tyX4 0) (C := RX4) (T := TX4) (N := 16) hx hb hts i4 tyX4 tyX4_ok nmX4 hown hK hP hD hS 0 rfl rfl 0 (nlt rfl) w1 (fun _ h9 => h9) rfl (tyX4_ok 0 (nlt rfl)) rfl rfl (nlt rfl) dX4_empty_2 (fun H locs hP hD hS => ?_)
  refine lv_aload_n hx hb dX4_empty_5 rfl (lv_at hl 0 rfl) ?_
  refine lv_iconst (v := 0) hx hb dX4_empty_6 z8 ?_
  refine va_put (D := (dC, dI)) (ci := 4) (v := .int 0) (ty := tyX4 3) (C := RX4) (T := TX4) (N := 16) hx hb hts i4 tyX4 tyX4_ok nmX4 hown hK hP hD hS 0 rfl rfl 3 (nlt rfl) w2 (fun _ h9 => h9) rfl (tyX4_ok 3 (nlt rfl)) rfl rfl (nlt rfl) dX4_empty_7 (fun H locs hP hD hS => ?_)
  refine lv_aload_n hx hb dX4_empty_10 rfl (lv_at hl 0 rfl) ?_
  refine va_get (D := (dC, dI)) (ci := 4) (v := .ref (r 32)) (C := RX4) (T := TX4) (N := 16) hx hb hts i4 hown hK hP 0 rfl rfl 5 (nlt rfl) w3 (fun _ h9 => h9) rfl dX4_empty_11 ?_
  refine lv_iconst (v := 0) hx hb dX4_empty_14 z8 ?_
  refine call_vS (As := [.ref (r 32), .int 0]) (rest := []) (wr := [((r 28), .inr (4, [.int 0, .ref (r 29), .ref (r 30), .int 0, .ref (r 31), .ref (r 32), .int 0, .ref (r 33), .ref (r 34), .int 0, .ref (r 35), .ref (r 36), .int 3, .int 0, .int 0, .ref (r 37)])), ((r 31), .inl (cZ, 64, .inl (fun _ => 0))), ((r 34), .inl (cI, 9, .inl (fun _ => 0)))]) ⟨hx, hb, hml, hown, hts⟩ (k39_J7_fill_53178 l dC dI cB cI cJ cZ cO r) (va_cwS 2 hts gX4_empty_J7_fill_53178 rfl rfl rfl z164 ⟨Nat.le_of_ble_eq_true rfl, Nat.le_of_ble_eq_true rfl⟩) hK hP hD hS hA [1] [0, 2, 3] rfl rfl (by decide +kernel) (by decide +kernel) (by decide +kernel) hl.1 (Nat.le_of_ble_eq_true rfl) rfl rfl dX4_empty_15 ⟨by decide +kernel, by decide +kernel⟩ (fun u0 H locs hP hD hS => ?_)
  refine lv_iconst (v := 0) hx hb dX4_empty_18 z8 ?_
  refine lv_istore_n (lv' := [(1, .int 0), (0, .ref (r 28))]) hx hb dX4_empty_19 rfl hl (nlt rfl) rfl (fun ls hl => ?_)
  refine lv_iload_n hx hb dX4_empty_20 rfl (lv_at hl 0 rfl) ?_
  refine lv_aload_n hx hb dX4_empty_21 rfl (lv_at hl 1 rfl) ?_
  refine va_get (D := (dC, dI)) (ci := 4) (v := .ref (r 31)) (C := RX4) (T := TX4) (N := 16) hx hb hts i4 hown hK hP 0 rfl rfl 4 (nlt rfl) w4 (fun _ h9 => h9) rfl dX4_empty_22 ?_
  refine va_alen hx hb hK hP 1 3 rfl rfl (v := 64) rfl dX4_empty_25 ?_
  refine lv_icmp_ge (tgt := 42) hx hb dX4_empty_26 z1197 (fun c1 => absurd c1 (z252)) (fun _ => ?_)
  refine lv_aload_n hx hb dX4_empty_29 rfl (lv_at hl 1 rfl) ?_
  refine va_get (D := (dC, dI)) (ci := 4) (v := .ref (r 31)) (C := RX4) (T := TX4) (N := 16) hx hb hts i4 hown hK hP 0 rfl rfl 4 (nlt rfl) w4 (fun _ h9 => h9) rfl dX4_empty_30 ?_
  refine lv_iload_n hx hb dX4_empty_33 rfl (lv_at hl 0 rfl) ?_
  refine lv_iconst (v := 0) hx hb dX4_empty_34 z8 ?_
  refine my_zastS hx hb hK hP hD hS 1 3 rfl rfl z1198 z249 rfl dX4_empty_35 (fun H locs hP hD hS => ?_)
  refine lv_iinc (v := 1) (lv' := [(1, .int 1), (0, .ref (r 28))]) hx hb dX4_empty_36 hl (k := 0) rfl z17 (nlt rfl) rfl (fun ls hl => ?_)
  refine lv_goto (tgt := 20) hx hb dX4_empty_39 z1199 ?_
  refine lv_iload_n hx hb dX4_empty_20 rfl (lv_at hl 0 rfl) ?_
  refine lv_aload_n hx hb dX4_empty_21 rfl (lv_at hl 1 rfl) ?_
  refine va_get (D := (dC, dI)) (ci := 4) (v := .ref (r 31)) (C := RX4) (T := TX4) (N := 16) hx hb hts i4 hown hK hP 0 rfl rfl 4 (nlt rfl) w4 (fun _ h9 => h9) rfl dX4_empty_22 ?_
  refine va_alen hx hb hK hP 1 3 rfl rfl (v := 64) rfl dX4_empty_25 ?_
  refine lv_icmp_ge (tgt := 42) hx hb dX4_empty_26 z1197 (fun c1 => absurd c1 (z256)) (fun _ => ?_)
  refine lv_aload_n hx hb dX4_empty_29 rfl (lv_at hl 1 rfl) ?_
  refine va_get (D := (dC, dI)) (ci := 4) (v := .ref (r 31)) (C := RX4) (T := TX4) (N := 16) hx hb hts i4 hown hK hP 0 rfl rfl 4 (nlt rfl) w4 (fun _ h9 => h9) rfl dX4_empty_30 ?_
  refine lv_iload_n hx hb dX4_empty_33 rfl (lv_at hl 0 rfl) ?_
  refine lv_iconst (v := 0) hx hb dX4_empty_34 z8 ?_
  refine my_zastS hx hb hK hP hD hS 1 3 rfl rfl z1200 z249 rfl dX4_empty_35 (fun H locs hP hD hS => ?_)
  refine lv_iinc (v := 2) (lv' := [(1, .int 2), (0, .ref (r 28))]) hx hb dX4_empty_36 hl (k := 0) rfl z24 (nlt rfl) rfl (fun ls hl => ?_)
  refine lv_goto (tgt := 20) hx hb dX4_empty_39 z1199 ?_
  refine lv_iload_n hx hb dX4_empty_20 rfl (lv_at hl 0 rfl) ?_
  refine lv_aload_n hx hb dX4_empty_21 rfl (lv_at hl 1 rfl) ?_
  refine va_get (D := (dC, dI)) (ci := 4) (v := .ref (r 31)) (C := RX4) (T := TX4) (N := 16) hx hb hts i4 hown hK hP 0 rfl rfl 4 (nlt rfl) w4 (fun _ h9 => h9) rfl dX4_empty_22 ?_
  refine va_alen hx hb hK hP 1 3 rfl rfl (v := 64) rfl dX4_empty_25 ?_
  refine lv_icmp_ge (tgt := 42) hx hb dX4_empty_26 z1197 (fun c1 => absurd c1 (z258)) (fun _ => ?_)
  refine lv_aload_n hx hb dX4_empty_29 rfl (lv_at hl 1 rfl) ?_
  refine va_get (D := (dC, dI)) (ci := 4) (v := .ref (r 31)) (C := RX4) (T := TX4) (N := 16) hx hb hts i4 hown hK hP 0 rfl rfl 4 (nlt rfl) w4 (fun _ h9 => h9) rfl dX4_empty_30 ?_
  refine lv_iload_n hx hb dX4_empty_33 rfl (lv_at hl 0 rfl) ?_
  refine lv_iconst (v := 0) hx hb dX4_empty_34 z8 ?_
  refine my_zastS hx hb hK hP hD hS 1 3 rfl rfl z1201 z249 rfl dX4_empty_35 (fun H locs hP hD hS => ?_)
  refine lv_iinc (v := 3) (lv' := [(1, .int 3), (0, .ref (r 28))]) hx hb dX4_empty_36 hl (k := 0) rfl z30 (nlt rfl) rfl (fun ls hl => ?_)
  refine lv_goto (tgt := 20) hx hb dX4_empty_39 z1199 ?_
  refine lv_iload_n hx hb dX4_empty_20 rfl (lv_at hl 0 rfl) ?_
  refine lv_aload_n hx hb dX4_empty_21 rfl (lv_at hl 1 rfl) ?_
  refine va_get (D := (dC, dI)) (ci := 4) (v := .ref (r 31)) (C := RX4) (T := TX4) (N := 16) hx hb hts i4 hown hK hP 0 rfl rfl 4 (nlt rfl) w4 (fun _ h9 => h9) rfl dX4_empty_22 ?_
  refine va_alen hx hb hK hP 1 3 rfl rfl (v := 64) rfl dX4_empty_25 ?_
  refine lv_icmp_ge (tgt := 42) hx hb dX4_empty_26 z1197 (fun c1 => absurd c1 (z260)) (fun _ => ?_)
  refine lv_aload_n hx hb dX4_empty_29 rfl (lv_at hl 1 rfl) ?_
  refine va_get (D := (dC, dI)) (ci := 4) (v := .ref (r 31)) (C := RX4) (T := TX4) (N := 16) hx hb hts i4 hown hK hP 0 rfl rfl 4 (nlt rfl) w4 (fun _ h9 => h9) rfl dX4_empty_30 ?_
  refine lv_iload_n hx hb dX4_empty_33 rfl (lv_at hl 0 rfl) ?_
  refine lv_iconst (v := 0) hx hb dX4_empty_34 z8 ?_
  refine my_zastS hx hb hK hP hD hS 1 3 rfl rfl z1202 z249 rfl dX4_empty_35 (fun H locs hP hD hS => ?_)
  refine lv_iinc (v := 4) (lv' := [(1, .int 4), (0, .ref (r 28))]) hx hb dX4_empty_36 hl (k := 0) rfl z36 (nlt rfl) rfl (fun ls hl => ?_)
  refine lv_goto (tgt := 20) hx hb dX4_empty_39 z1199 ?_
  refine lv_iload_n hx hb dX4_empty_20 rfl (lv_at hl 0 rfl) ?_
  refine lv_aload_n hx hb dX4_empty_21 rfl (lv_at hl 1 rfl) ?_
  refine va_get (D := (dC, dI)) (ci := 4) (v := .ref (r 31)) (C := RX4) (T := TX4) (N := 16) hx hb hts i4 hown hK hP 0 rfl rfl 4 (nlt rfl) w4 (fun _ h9 => h9) rfl dX4_empty_22 ?_
  refine va_alen hx hb hK hP 1 3 rfl rfl (v := 64) rfl dX4_empty_25 ?_
  refine lv_icmp_ge (tgt := 42) hx hb dX4_empty_26 z1197 (fun c1 => absurd c1 (z262)) (fun _ => ?_)
  refine lv_aload_n hx hb dX4_empty_29 rfl (lv_at hl 1 rfl) ?_
  refine va_get (D := (dC, dI)) (ci := 4) (v := .ref (r 31)) (C := RX4) (T := TX4) (N := 16) hx hb hts i4 hown hK hP 0 rfl rfl 4 (nlt rfl) w4 (fun _ h9 => h9) rfl dX4_empty_30 ?_
  refine lv_iload_n hx hb dX4_empty_33 rfl (lv_at hl 0 rfl) ?_
  refine lv_iconst (v := 0) hx hb dX4_empty_34 z8 ?_
  refine my_zastS hx hb hK hP hD hS 1 3 rfl rfl z1203 z249 rfl dX4_empty_35 (fun H locs hP hD hS => ?_)
  refine lv_iinc (v := 5) (lv' := [(1, .int 5), (0, .ref (r 28))]) hx hb dX4_empty_36 hl (k := 0) rfl z98 (nlt rfl) rfl (fun ls hl => ?_)
  refine lv_goto (tgt := 20) hx hb dX4_empty_39 z1199 ?_
  refine lv_iload_n hx hb dX4_empty_20 rfl (lv_at hl 0 rfl) ?_
  refine lv_aload_n hx hb dX4_empty_21 rfl (lv_at hl 1 rfl) ?_
  refine va_get (D := (dC, dI)) (ci := 4) (v := .ref (r 31)) (C := RX4) (T := TX4) (N := 16) hx hb hts i4 hown hK hP 0 rfl rfl 4 (nlt rfl) w4 (fun _ h9 => h9) rfl dX4_empty_22 ?_
  refine va_alen hx hb hK hP 1 3 rfl rfl (v := 64) rfl dX4_empty_25 ?_
  refine lv_icmp_ge (tgt := 42) hx hb dX4_empty_26 z1197 (fun c1 => absurd c1 (z264)) (fun _ => ?_)
  refine lv_aload_n hx hb dX4_empty_29 rfl (lv_at hl 1 rfl) ?_
  refine va_get (D := (dC, dI)) (ci := 4) (v := .ref (r 31)) (C := RX4) (T := TX4) (N := 16) hx hb hts i4 hown hK hP 0 rfl rfl 4 (nlt rfl) w4 (fun _ h9 => h9) rfl dX4_empty_30 ?_
  refine lv_iload_n hx hb dX4_empty_33 rfl (lv_at hl 0 rfl) ?_
  refine lv_iconst (v := 0) hx hb dX4_empty_34 z8 ?_
  refine my_zastS hx hb hK hP hD hS 1 3 rfl rfl z1204 z249 rfl dX4_empty_35 (fun H locs hP hD hS => ?_)
  refine lv_iinc (v := 6) (lv' := [(1, .int 6), (0, .ref (r 28))]) hx hb dX4_empty_36 hl (k := 0) rfl z104 (nlt rfl) rfl (fun ls hl => ?_)
  refine lv_goto (tgt := 20) hx hb dX4_empty_39 z1199 ?_
  refine lv_iload_n hx hb dX4_empty_20 rfl (lv_at hl 0 rfl) ?_
  refine lv_aload_n hx hb dX4_empty_21 rfl (lv_at hl 1 rfl) ?_
  refine va_get (D := (dC, dI)) (ci := 4) (v := .ref (r 31)) (C := RX4) (T := TX4) (N := 16) hx hb hts i4 hown hK hP 0 rfl rfl 4 (nlt rfl) w4 (fun _ h9 => h9) rfl dX4_empty_22 ?_
  refine va_alen hx hb hK hP 1 3 rfl rfl (v := 64) rfl dX4_empty_25 ?_
  refine lv_icmp_ge (tgt := 42) hx hb dX4_empty_26 z1197 (fun c1 => absurd c1 (z266)) (fun _ => ?_)
  refine lv_aload_n hx hb dX4_empty_29 rfl (lv_at hl 1 rfl) ?_
  refine va_get (D := (dC, dI)) (ci := 4) (v := .ref (r 31)) (C := RX4) (T := TX4) (N := 16) hx hb hts i4 hown hK hP 0 rfl rfl 4 (nlt rfl) w4 (fun _ h9 => h9) rfl dX4_empty_30 ?_
  refine lv_iload_n hx hb dX4_empty_33 rfl (lv_at hl 0 rfl) ?_
  refine lv_iconst (v := 0) hx hb dX4_empty_34 z8 ?_
  refine my_zastS hx hb hK hP hD hS 1 3 rfl rfl z1205 z249 rfl dX4_empty_35 (fun H locs hP hD hS => ?_)
  refine lv_iinc (v := 7) (lv' := [(1, .int 7), (0, .ref (r 28))]) hx hb dX4_empty_36 hl (k := 0) rfl z268 (nlt rfl) rfl (fun ls hl => ?_)
  refine lv_goto (tgt := 20) hx hb dX4_empty_39 z1199 ?_
  refine lv_iload_n hx hb dX4_empty_20 rfl (lv_at hl 0 rfl) ?_
  refine lv_aload_n hx hb dX4_empty_21 rfl (lv_at hl 1 rfl) ?_
  refine va_get (D := (dC, dI)) (ci := 4) (v := .ref (r 31)) (C := RX4) (T := TX4) (N := 16) hx hb hts i4 hown hK hP 0 rfl rfl 4 (nlt rfl) w4 (fun _ h9 => h9) rfl dX4_empty_22 ?_
  refine va_alen hx hb hK hP 1 3 rfl rfl (v := 64) rfl dX4_empty_25 ?_
  refine lv_icmp_ge (tgt := 42) hx hb dX4_empty_26 z1197 (fun c1 => absurd c1 (z269)) (fun _ => ?_)
  refine lv_aload_n hx hb dX4_empty_29 rfl (lv_at hl 1 rfl) ?_
  refine va_get (D := (dC, dI)) (ci := 4) (v := .ref (r 31)) (C := RX4) (T := TX4) (N := 16) hx hb hts i4 hown hK hP 0 rfl rfl 4 (nlt rfl) w4 (fun _ h9 => h9) rfl dX4_empty_30 ?_
  refine lv_iload_n hx hb dX4_empty_33 rfl (lv_at hl 0 rfl) ?_
  refine lv_iconst (v := 0) hx hb dX4_empty_34 z8 ?_
  refine my_zastS hx hb hK hP hD hS 1 3 rfl rfl z1206 z249 rfl dX4_empty_35 (fun H locs hP hD hS => ?_)
  refine lv_iinc (v := 8) (lv' := [(1, .int 8), (0, .ref (r 28))]) hx hb dX4_empty_36 hl (k := 0) rfl z271 (nlt rfl) rfl (fun ls hl => ?_)
  refine lv_goto (tgt := 20) hx hb dX4_empty_39 z1199 ?_
  refine lv_iload_n hx hb dX4_empty_20 rfl (lv_at hl 0 rfl) ?_
  refine lv_aload_n hx hb dX4_empty_21 rfl (lv_at hl 1 rfl) ?_
  refine va_get (D := (dC, dI)) (ci := 4) (v := .ref (r 31)) (C := RX4) (T := TX4) (N := 16) hx hb hts i4 hown hK hP 0 rfl rfl 4 (nlt rfl) w4 (fun _ h9 => h9) rfl dX4_empty_22 ?_
  refine va_alen hx hb hK hP 1 3 rfl rfl (v := 64) rfl dX4_empty_25 ?_
  refine lv_icmp_ge (tgt := 42) hx hb dX4_empty_26 z1197 (fun c1 => absurd c1 (z272)) (fun _ => ?_)
  refine lv_aload_n hx hb dX4_empty_29 rfl (lv_at hl 1 rfl) ?_
  refine va_get (D := (dC, dI)) (ci := 4) (v := .ref (r 31)) (C := RX4) (T := TX4) (N := 16) hx hb hts i4 hown hK hP 0 rfl rfl 4 (nlt rfl) w4 (fun _ h9 => h9) rfl dX4_empty_30 ?_
  refine lv_iload_n hx hb dX4_empty_33 rfl (lv_at hl 0 rfl) ?_
  refine lv_iconst (v := 0) hx hb dX4_empty_34 z8 ?_
  refine my_zastS hx hb hK hP hD hS 1 3 rfl rfl z1207 z249 rfl dX4_empty_35 (fun H locs hP hD hS => ?_)
  refine lv_iinc (v := 9) (lv' := [(1, .int 9), (0, .ref (r 28))]) hx hb dX4_empty_36 hl (k := 0) rfl z274 (nlt rfl) rfl (fun ls hl => ?_)
  refine lv_goto (tgt := 20) hx hb dX4_empty_39 z1199 ?_
  refine lv_iload_n hx hb dX4_empty_20 rfl (lv_at hl 0 rfl) ?_
  refine lv_aload_n hx hb dX4_empty_21 rfl (lv_at hl 1 rfl) ?_
  refine va_get (D := (dC, dI)) (ci := 4) (v := .ref (r 31)) (C := RX4) (T := TX4) (N := 16) hx hb hts i4 hown hK hP 0 rfl rfl 4 (nlt rfl) w4 (fun _ h9 => h9) rfl dX4_empty_22 ?_
  refine va_alen hx hb hK hP 1 3 rfl rfl (v := 64) rfl dX4_empty_25 ?_
  refine lv_icmp_ge (tgt := 42) hx hb dX4_empty_26 z1197 (fun c1 => absurd c1 (z275)) (fun _ => ?_)
  refine lv_aload_n hx hb dX4_empty_29 rfl (lv_at hl 1 rfl) ?_
  refine va_get (D := (dC, dI)) (ci := 4) (v := .ref (r 31)) (C := RX4) (T := TX4) (N := 16) hx hb hts i4 hown hK hP 0 rfl rfl 4 (nlt rfl) w4 (fun _ h9 => h9) rfl dX4_empty_30 ?_
  refine lv_iload_n hx hb dX4_empty_33 rfl (lv_at hl 0 rfl) ?_
  refine lv_iconst (v := 0) hx hb dX4_empty_34 z8 ?_
  refine my_zastS hx hb hK hP hD hS 1 3 rfl rfl z1208 z249 rfl dX4_empty_35 (fun H locs hP hD hS => ?_)
  refine lv_iinc (v := 10) (lv' := [(1, .int 10), (0, .ref (r 28))]) hx hb dX4_empty_36 hl (k := 0) rfl z277 (nlt rfl) rfl (fun ls hl => ?_)
  refine lv_goto (tgt := 20) hx hb dX4_empty_39 z1199 ?_
  refine lv_iload_n hx hb dX4_empty_20 rfl (lv_at hl 0 rfl) ?_
  refine lv_aload_n hx hb dX4_empty_21 rfl (lv_at hl 1 rfl) ?_
  refine va_get (D := (dC, dI)) (ci := 4) (v := .ref (r 31)) (C := RX4) (T := TX4) (N := 16) hx hb hts i4 hown hK hP 0 rfl rfl 4 (nlt rfl) w4 (fun _ h9 => h9) rfl dX4_empty_22 ?_
  refine va_alen hx hb hK hP 1 3 rfl rfl (v := 64) rfl dX4_empty_25 ?_
  refine lv_icmp_ge (tgt := 42) hx hb dX4_empty_26 z1197 (fun c1 => absurd c1 (z278)) (fun _ => ?_)
  refine lv_aload_n hx hb dX4_empty_29 rfl (lv_at hl 1 rfl) ?_
  refine va_get (D := (dC, dI)) (ci := 4) (v := .ref (r 31)) (C := RX4) (T := TX4) (N := 16) hx hb hts i4 hown hK hP 0 rfl rfl 4 (nlt rfl) w4 (fun _ h9 => h9) rfl dX4_empty_30 ?_
  refine lv_iload_n hx hb dX4_empty_33 rfl (lv_at hl 0 rfl) ?_
  refine lv_iconst (v := 0) hx hb dX4_empty_34 z8 ?_
  refine my_zastS hx hb hK hP hD hS 1 3 rfl rfl z1209 z249 rfl dX4_empty_35 (fun H locs hP hD hS => ?_)
  refine lv_iinc (v := 11) (lv' := [(1, .int 11), (0, .ref (r 28))]) hx hb dX4_empty_36 hl (k := 0) rfl z280 (nlt rfl) rfl (fun ls hl => ?_)
  refine lv_goto (tgt := 20) hx hb dX4_empty_39 z1199 ?_
  refine lv_iload_n hx hb dX4_empty_20 rfl (lv_at hl 0 rfl) ?_
  refine lv_aload_n hx hb dX4_empty_21 rfl (lv_at hl 1 rfl) ?_
  refine va_get (D := (dC, dI)) (ci := 4) (v := .ref (r 31)) (C := RX4) (T := TX4) (N := 16) hx hb hts i4 hown hK hP 0 rfl rfl 4 (nlt rfl) w4 (fun _ h9 => h9) rfl dX4_empty_22 ?_
  refine va_alen hx hb hK hP 1 3 rfl rfl (v := 64) rfl dX4_empty_25 ?_
  refine lv_icmp_ge (tgt := 42) hx hb dX4_empty_26 z1197 (fun c1 => absurd c1 (z281)) (fun _ => ?_)
  refine lv_aload_n hx hb dX4_empty_29 rfl (lv_at hl 1 rfl) ?_
  refine va_get (D := (dC, dI)) (ci := 4) (v := .ref (r 31)) (C := RX4) (T := TX4) (N := 16) hx hb hts i4 hown hK hP 0 rfl rfl 4 (nlt rfl) w4 (fun _ h9 => h9) rfl dX4_empty_30 ?_
  refine lv_iload_n hx hb dX4_empty_33 rfl (lv_at hl 0 rfl) ?_
  refine lv_iconst (v := 0) hx hb dX4_empty_34 z8 ?_
  refine my_zastS hx hb hK hP hD hS 1 3 rfl rfl z1210 z249 rfl dX4_empty_35 (fun H locs hP hD hS => ?_)
  refine lv_iinc (v := 12) (lv' := [(1, .int 12), (0, .ref (r 28))]) hx hb dX4_empty_36 hl (k := 0) rfl z283 (nlt rfl) rfl (fun ls hl => ?_)
  refine lv_goto (tgt := 20) hx hb dX4_empty_39 z1199 ?_
  refine lv_iload_n hx hb dX4_empty_20 rfl (lv_at hl 0 rfl) ?_
  refine lv_aload_n hx hb dX4_empty_21 rfl (lv_at hl 1 rfl) ?_
  refine va_get (D := (dC, dI)) (ci := 4) (v := .ref (r 31)) (C := RX4) (T := TX4) (N := 16) hx hb hts i4 hown hK hP 0 rfl rfl 4 (nlt rfl) w4 (fun _ h9 => h9) rfl dX4_empty_22 ?_
  refine va_alen hx hb hK hP 1 3 rfl rfl (v := 64) rfl dX4_empty_25 ?_
  refine lv_icmp_ge (tgt := 42) hx hb dX4_empty_26 z1197 (fun c1 => absurd c1 (z284)) (fun _ => ?_)
  refine lv_aload_n hx hb dX4_empty_29 rfl (lv_at hl 1 rfl) ?_
  refine va_get (D := (dC, dI)) (ci := 4) (v := .ref (r 31)) (C := RX4) (T := TX4) (N := 16) hx hb hts i4 hown hK hP 0 rfl rfl 4 (nlt rfl) w4 (fun _ h9 => h9) rfl dX4_empty_30 ?_
  refine lv_iload_n hx hb dX4_empty_33 rfl (lv_at hl 0 rfl) ?_
  refine lv_iconst (v := 0) hx hb dX4_empty_34 z8 ?_
  refine my_zastS hx hb hK hP hD hS 1 3 rfl rfl z1211 z249 rfl dX4_empty_35 (fun H locs hP hD hS => ?_)
  refine lv_iinc (v := 13) (lv' := [(1, .int 13), (0, .ref (r 28))]) hx hb dX4_empty_36 hl (k := 0) rfl z286 (nlt rfl) rfl (fun ls hl => ?_)
  refine lv_goto (tgt := 20) hx hb dX4_empty_39 z1199 ?_
  refine lv_iload_n hx hb dX4_empty_20 rfl (lv_at hl 0 rfl) ?_
  refine lv_aload_n hx hb dX4_empty_21 rfl (lv_at hl 1 rfl) ?_
  refine va_get (D := (dC, dI)) (ci := 4) (v := .ref (r 31)) (C := RX4) (T := TX4) (N := 16) hx hb hts i4 hown hK hP 0 rfl rfl 4 (nlt rfl) w4 (fun _ h9 => h9) rfl dX4_empty_22 ?_
  refine va_alen hx hb hK hP 1 3 rfl rfl (v := 64) rfl dX4_empty_25 ?_
  refine lv_icmp_ge (tgt := 42) hx hb dX4_empty_26 z1197 (fun c1 => absurd c1 (z287)) (fun _ => ?_)
  refine lv_aload_n hx hb dX4_empty_29 rfl (lv_at hl 1 rfl) ?_
  refine va_get (D := (dC, dI)) (ci := 4) (v := .ref (r 31)) (C := RX4) (T := TX4) (N := 16) hx hb hts i4 hown hK hP 0 rfl rfl 4 (nlt rfl) w4 (fun _ h9 => h9) rfl dX4_empty_30 ?_
  refine lv_iload_n hx hb dX4_empty_33 rfl (lv_at hl 0 rfl) ?_
  refine lv_iconst (v := 0) hx hb dX4_empty_34 z8 ?_
  refine my_zastS hx hb hK hP hD hS 1 3 rfl rfl z1212 z249 rfl dX4_empty_35 (fun H locs hP hD hS => ?_)
  refine lv_iinc (v := 14) (lv' := [(1, .int 14), (0, .ref (r 28))]) hx hb dX4_empty_36 hl (k := 0) rfl z289 (nlt rfl) rfl (fun ls hl => ?_)
  refine lv_goto (tgt := 20) hx hb dX4_empty_39 z1199 ?_
  refine lv_iload_n hx hb dX4_empty_20 rfl (lv_at hl 0 rfl) ?_
  refine lv_aload_n hx hb dX4_empty_21 rfl (lv_at hl 1 rfl) ?_
  refine va_get (D := (dC, dI)) (ci := 4) (v := .ref (r 31)) (C := RX4) (T := TX4) (N := 16) hx hb hts i4 hown hK hP 0 rfl rfl 4 (nlt rfl) w4 (fun _ h9 => h9) rfl dX4_empty_22 ?_
  refine va_alen hx hb hK hP 1 3 rfl rfl (v := 64) rfl dX4_empty_25 ?_
  refine lv_icmp_ge (tgt := 42) hx hb dX4_empty_26 z1197 (fun c1 => absurd c1 (z290)) (fun _ => ?_)
  refine lv_aload_n hx hb dX4_empty_29 rfl (lv_at hl 1 rfl) ?_
  refine va_get (D := (dC, dI)) (ci := 4) (v := .ref (r 31)) (C := RX4) (T := TX4) (N := 16) hx hb hts i4 hown hK hP 0 rfl rfl 4 (nlt rfl) w4 (fun _ h9 => h9) rfl dX4_empty_30 ?_
  refine lv_iload_n hx hb dX4_empty_33 rfl (lv_at hl 0 rfl) ?_
  refine lv_iconst (v := 0) hx hb dX4_empty_34 z8 ?_
  refine my_zastS hx hb hK hP hD hS 1 3 rfl rfl z1213 z249 rfl dX4_empty_35 (fun H locs hP hD hS => ?_)
  refine lv_iinc (v := 15) (lv' := [(1, .int 15), (0, .ref (r 28))]) hx hb dX4_empty_36 hl (k := 0) rfl z292 (nlt rfl) rfl (fun ls hl => ?_)
  refine lv_goto (tgt := 20) hx hb dX4_empty_39 z1199 ?_
  refine lv_iload_n hx hb dX4_empty_20 rfl (lv_at hl 0 rfl) ?_
  refine lv_aload_n hx hb dX4_empty_21 rfl (lv_at hl 1 rfl) ?_
  refine va_get (D := (dC, dI)) (ci := 4) (v := .ref (r 31)) (C := RX4) (T := TX4) (N := 16) hx hb hts i4 hown hK hP 0 rfl rfl 4 (nlt rfl) w4 (fun _ h9 => h9) rfl dX4_empty_22 ?_
  refine va_alen hx hb hK hP 1 3 rfl rfl (v := 64) rfl dX4_empty_25 ?_
  refine lv_icmp_ge (tgt := 42) hx hb dX4_empty_26 z1197 (fun c1 => absurd c1 (z293)) (fun _ => ?_)
  refine lv_aload_n hx hb dX4_empty_29 rfl (lv_at hl 1 rfl) ?_
  refine va_get (D := (dC, dI)) (ci := 4) (v := .ref (r 31)) (C := RX4) (T := TX4) (N := 16) hx hb hts i4 hown hK hP 0 rfl rfl 4 (nlt rfl) w4 (fun _ h9 => h9) rfl dX4_empty_30 ?_
  refine lv_iload_n hx hb dX4_empty_33 rfl (lv_at hl 0 rfl) ?_
  refine lv_iconst (v := 0) hx hb dX4_empty_34 z8 ?_
  refine my_zastS hx hb hK hP hD hS 1 3 rfl rfl z1214 z249 rfl dX4_empty_35 (fun H locs hP hD hS => ?_)
  refine lv_iinc (v := 16) (lv' := [(1, .int 16), (0, .ref (r 28))]) hx hb dX4_empty_36 hl (k := 0) rfl z295 (nlt rfl) rfl (fun ls hl => ?_)
  refine lv_goto (tgt := 20) hx hb dX4_empty_39 z1199 ?_
  refine lv_iload_n hx hb dX4_empty_20 rfl (lv_at hl 0 rfl) ?_
  refine lv_aload_n hx hb dX4_empty_21 rfl (lv_at hl 1 rfl) ?_
  refine va_get (D := (dC, dI)) (ci := 4) (v := .ref (r 31)) (C := RX4) (T := TX4) (N := 16) hx hb hts i4 hown hK hP 0 rfl rfl 4 (nlt rfl) w4 (fun _ h9 => h9) rfl dX4_empty_22 ?_
  refine va_alen hx hb hK hP 1 3 rfl rfl (v := 64) rfl dX4_empty_25 ?_
  refine lv_icmp_ge (tgt := 42) hx hb dX4_empty_26 z1197 (fun c1 => absurd c1 (z296)) (fun _ => ?_)
  refine lv_aload_n hx hb dX4_empty_29 rfl (lv_at hl 1 rfl) ?_
  refine va_get (D := (dC, dI)) (ci := 4) (v := .ref (r 31)) (C := RX4) (T := TX4) (N := 16) hx hb hts i4 hown hK hP 0 rfl rfl 4 (nlt rfl) w4 (fun _ h9 => h9) rfl dX4_empty_30 ?_
  refine lv_iload_n hx hb dX4_empty_33 rfl (lv_at hl 0 rfl) ?_
  refine lv_iconst (v := 0) hx hb dX4_empty_34 z8 ?_
  refine my_zastS hx hb hK hP hD hS 1 3 rfl rfl z1215 z249 rfl dX4_empty_35 (fun H locs hP hD hS => ?_)
  refine lv_iinc (v := 17) (lv' := [(1, .int 17), (0, .ref (r 28))]) hx hb dX4_empty_36 hl (k := 0) rfl z298 (nlt rfl) rfl (fun ls hl => ?_)
  refine lv_goto (tgt := 20) hx hb dX4_empty_39 z1199 ?_
  refine lv_iload_n hx hb dX4_empty_20 rfl (lv_at hl 0 rfl) ?_
  refine lv_aload_n hx hb dX4_empty_21 rfl (lv_at hl 1 rfl) ?_
  refine va_get (D := (dC, dI)) (ci := 4) (v := .ref (r 31)) (C := RX4) (T := TX4) (N := 16) hx hb hts i4 hown hK hP 0 rfl rfl 4 (nlt rfl) w4 (fun _ h9 => h9) rfl dX4_empty_22 ?_
  refine va_alen hx hb hK hP 1 3 rfl rfl (v := 64) rfl dX4_empty_25 ?_
  refine lv_icmp_ge (tgt := 42) hx hb dX4_empty_26 z1197 (fun c1 => absurd c1 (z299)) (fun _ => ?_)
  refine lv_aload_n hx hb dX4_empty_29 rfl (lv_at hl 1 rfl) ?_
  refine va_get (D := (dC, dI)) (ci := 4) (v := .ref (r 31)) (C := RX4) (T := TX4) (N := 16) hx hb hts i4 hown hK hP 0 rfl rfl 4 (nlt rfl) w4 (fun _ h9 => h9) rfl dX4_empty_30 ?_
  refine lv_iload_n hx hb dX4_empty_33 rfl (lv_at hl 0 rfl) ?_
  refine lv_iconst (v := 0) hx hb dX4_empty_34 z8 ?_
  refine my_zastS hx hb hK hP hD hS 1 3 rfl rfl z1216 z249 rfl dX4_empty_35 (fun H locs hP hD hS => ?_)
  refine lv_iinc (v := 18) (lv' := [(1, .int 18), (0, .ref (r 28))]) hx hb dX4_empty_36 hl (k := 0) rfl z301 (nlt rfl) rfl (fun ls hl => ?_)
  refine lv_goto (tgt := 20) hx hb dX4_empty_39 z1199 ?_
  refine lv_iload_n hx hb dX4_empty_20 rfl (lv_at hl 0 rfl) ?_
  refine lv_aload_n hx hb dX4_empty_21 rfl (lv_at hl 1 rfl) ?_
  refine va_get (D := (dC, dI)) (ci := 4) (v := .ref (r 31)) (C := RX4) (T := TX4) (N := 16) hx hb hts i4 hown hK hP 0 rfl rfl 4 (nlt rfl) w4 (fun _ h9 => h9) rfl dX4_empty_22 ?_
  refine va_alen hx hb hK hP 1 3 rfl rfl (v := 64) rfl dX4_empty_25 ?_
  refine lv_icmp_ge (tgt := 42) hx hb dX4_empty_26 z1197 (fun c1 => absurd c1 (z302)) (fun _ => ?_)
  refine lv_aload_n hx hb dX4_empty_29 rfl (lv_at hl 1 rfl) ?_
  refine va_get (D := (dC, dI)) (ci := 4) (v := .ref (r 31)) (C := RX4) (T := TX4) (N := 16) hx hb hts i4 hown hK hP 0 rfl rfl 4 (nlt rfl) w4 (fun _ h9 => h9) rfl dX4_empty_30 ?_
  refine lv_iload_n hx hb dX4_empty_33 rfl (lv_at hl 0 rfl) ?_
  refine lv_iconst (v := 0) hx hb dX4_empty_34 z8 ?_
  refine my_zastS hx hb hK hP hD hS 1 3 rfl rfl z1217 z249 rfl dX4_empty_35 (fun H locs hP hD hS => ?_)
  refine lv_iinc (v := 19) (lv' := [(1, .int 19), (0, .ref (r 28))]) hx hb dX4_empty_36 hl (k := 0) rfl z304 (nlt rfl) rfl (fun ls hl => ?_)
  refine lv_goto (tgt := 20) hx hb dX4_empty_39 z1199 ?_
  refine lv_iload_n hx hb dX4_empty_20 rfl (lv_at hl 0 rfl) ?_
  refine lv_aload_n hx hb dX4_empty_21 rfl (lv_at hl 1 rfl) ?_
  refine va_get (D := (dC, dI)) (ci := 4) (v := .ref (r 31)) (C := RX4) (T := TX4) (N := 16) hx hb hts i4 hown hK hP 0 rfl rfl 4 (nlt rfl) w4 (fun _ h9 => h9) rfl dX4_empty_22 ?_
  refine va_alen hx hb hK hP 1 3 rfl rfl (v := 64) rfl dX4_empty_25 ?_
  refine lv_icmp_ge (tgt := 42) hx hb dX4_empty_26 z1197 (fun c1 => absurd c1 (z305)) (fun _ => ?_)
  refine lv_aload_n hx hb dX4_empty_29 rfl (lv_at hl 1 rfl) ?_
  refine va_get (D := (dC, dI)) (ci := 4) (v := .ref (r 31)) (C := RX4) (T := TX4) (N := 16) hx hb hts i4 hown hK hP 0 rfl rfl 4 (nlt rfl) w4 (fun _ h9 => h9) rfl dX4_empty_30 ?_
  refine lv_iload_n hx hb dX4_empty_33 rfl (lv_at hl 0 rfl) ?_
  refine lv_iconst (v := 0) hx hb dX4_empty_34 z8 ?_
  refine my_zastS hx hb hK hP hD hS 1 3 rfl rfl z1218 z249 rfl dX4_empty_35 (fun H locs hP hD hS => ?_)
  refine lv_iinc (v := 20) (lv' := [(1, .int 20), (0, .ref (r 28))]) hx hb dX4_empty_36 hl (k := 0) rfl z307 (nlt rfl) rfl (fun ls hl => ?_)
  refine lv_goto (tgt := 20) hx hb dX4_empty_39 z1199 ?_
  refine lv_iload_n hx hb dX4_empty_20 rfl (lv_at hl 0 rfl) ?_
  refine lv_aload_n hx hb dX4_empty_21 rfl (lv_at hl 1 rfl) ?_
  refine va_get (D := (dC, dI)) (ci := 4) (v := .ref (r 31)) (C := RX4) (T := TX4) (N := 16) hx hb hts i4 hown hK hP 0 rfl rfl 4 (nlt rfl) w4 (fun _ h9 => h9) rfl dX4_empty_22 ?_
  refine va_alen hx hb hK hP 1 3 rfl rfl (v := 64) rfl dX4_empty_25 ?_
  refine lv_icmp_ge (tgt := 42) hx hb dX4_empty_26 z1197 (fun c1 => absurd c1 (z308)) (fun _ => ?_)
  refine lv_aload_n hx hb dX4_empty_29 rfl (lv_at hl 1 rfl) ?_
  refine va_get (D := (dC, dI)) (ci := 4) (v := .ref (r 31)) (C := RX4) (T := TX4) (N := 16) hx hb hts i4 hown hK hP 0 rfl rfl 4 (nlt rfl) w4 (fun _ h9 => h9) rfl dX4_empty_30 ?_
  refine lv_iload_n hx hb dX4_empty_33 rfl (lv_at hl 0 rfl) ?_
  refine lv_iconst (v := 0) hx hb dX4_empty_34 z8 ?_
  refine my_zastS hx hb hK hP hD hS 1 3 rfl rfl z1219 z249 rfl dX4_empty_35 (fun H locs hP hD hS => ?_)
  refine lv_iinc (v := 21) (lv' := [(1, .int 21), (0, .ref (r 28))]) hx hb dX4_empty_36 hl (k := 0) rfl z310 (nlt rfl) rfl (fun ls hl => ?_)
  refine lv_goto (tgt := 20) hx hb dX4_empty_39 z1199 ?_
  refine lv_iload_n hx hb dX4_empty_20 rfl (lv_at hl 0 rfl) ?_
  refine lv_aload_n hx hb dX4_empty_21 rfl (lv_at hl 1 rfl) ?_
  refine va_get (D := (dC, dI)) (ci := 4) (v := .ref (r 31)) (C := RX4) (T := TX4) (N := 16) hx hb hts i4 hown hK hP 0 rfl rfl 4 (nlt rfl) w4 (fun _ h9 => h9) rfl dX4_empty_22 ?_
  refine va_alen hx hb hK hP 1 3 rfl rfl (v := 64) rfl dX4_empty_25 ?_
  refine lv_icmp_ge (tgt := 42) hx hb dX4_empty_26 z1197 (fun c1 => absurd c1 (z311)) (fun _ => ?_)
  refine lv_aload_n hx hb dX4_empty_29 rfl (lv_at hl 1 rfl) ?_
  refine va_get (D := (dC, dI)) (ci := 4) (v := .ref (r 31)) (C := RX4) (T := TX4) (N := 16) hx hb hts i4 hown hK hP 0 rfl rfl 4 (nlt rfl) w4 (fun _ h9 => h9) rfl dX4_empty_30 ?_
  refine lv_iload_n hx hb dX4_empty_33 rfl (lv_at hl 0 rfl) ?_
  refine lv_iconst (v := 0) hx hb dX4_empty_34 z8 ?_
  refine my_zastS hx hb hK hP hD hS 1 3 rfl rfl z1220 z249 rfl dX4_empty_35 (fun H locs hP hD hS => ?_)
  refine lv_iinc (v := 22) (lv' := [(1, .int 22), (0, .ref (r 28))]) hx hb dX4_empty_36 hl (k := 0) rfl z313 (nlt rfl) rfl (fun ls hl => ?_)
  refine lv_goto (tgt := 20) hx hb dX4_empty_39 z1199 ?_
  refine lv_iload_n hx hb dX4_empty_20 rfl (lv_at hl 0 rfl) ?_
  refine lv_aload_n hx hb dX4_empty_21 rfl (lv_at hl 1 rfl) ?_
  refine va_get (D := (dC, dI)) (ci := 4) (v := .ref (r 31)) (C := RX4) (T := TX4) (N := 16) hx hb hts i4 hown hK hP 0 rfl rfl 4 (nlt rfl) w4 (fun _ h9 => h9) rfl dX4_empty_22 ?_
  refine va_alen hx hb hK hP 1 3 rfl rfl (v := 64) rfl dX4_empty_25 ?_
  refine lv_icmp_ge (tgt := 42) hx hb dX4_empty_26 z1197 (fun c1 => absurd c1 (z314)) (fun _ => ?_)
  refine lv_aload_n hx hb dX4_empty_29 rfl (lv_at hl 1 rfl) ?_
  refine va_get (D := (dC, dI)) (ci := 4) (v := .ref (r 31)) (C := RX4) (T := TX4) (N := 16) hx hb hts i4 hown hK hP 0 rfl rfl 4 (nlt rfl) w4 (fun _ h9 => h9) rfl dX4_empty_30 ?_
  refine lv_iload_n hx hb dX4_empty_33 rfl (lv_at hl 0 rfl) ?_
  refine lv_iconst (v := 0) hx hb dX4_empty_34 z8 ?_
  refine my_zastS hx hb hK hP hD hS 1 3 rfl rfl z1221 z249 rfl dX4_empty_35 (fun H locs hP hD hS => ?_)
  refine lv_iinc (v := 23) (lv' := [(1, .int 23), (0, .ref (r 28))]) hx hb dX4_empty_36 hl (k := 0) rfl z316 (nlt rfl) rfl (fun ls hl => ?_)
  refine lv_goto (tgt := 20) hx hb dX4_empty_39 z1199 ?_
  refine lv_iload_n hx hb dX4_empty_20 rfl (lv_at hl 0 rfl) ?_
  refine lv_aload_n hx hb dX4_empty_21 rfl (lv_at hl 1 rfl) ?_
  refine va_get (D := (dC, dI)) (ci := 4) (v := .ref (r 31)) (C := RX4) (T := TX4) (N := 16) hx hb hts i4 hown hK hP 0 rfl rfl 4 (nlt rfl) w4 (fun _ h9 => h9) rfl dX4_empty_22 ?_
  refine va_alen hx hb hK hP 1 3 rfl rfl (v := 64) rfl dX4_empty_25 ?_
  refine lv_icmp_ge (tgt := 42) hx hb dX4_empty_26 z1197 (fun c1 => absurd c1 (z317)) (fun _ => ?_)
  refine lv_aload_n hx hb dX4_empty_29 rfl (lv_at hl 1 rfl) ?_
  refine va_get (D := (dC, dI)) (ci := 4) (v := .ref (r 31)) (C := RX4) (T := TX4) (N := 16) hx hb hts i4 hown hK hP 0 rfl rfl 4 (nlt rfl) w4 (fun _ h9 => h9) rfl dX4_empty_30 ?_
  refine lv_iload_n hx hb dX4_empty_33 rfl (lv_at hl 0 rfl) ?_
  refine lv_iconst (v := 0) hx hb dX4_empty_34 z8 ?_
  refine my_zastS hx hb hK hP hD hS 1 3 rfl rfl z1222 z249 rfl dX4_empty_35 (fun H locs hP hD hS => ?_)
  refine lv_iinc (v := 24) (lv' := [(1, .int 24), (0, .ref (r 28))]) hx hb dX4_empty_36 hl (k := 0) rfl z319 (nlt rfl) rfl (fun ls hl => ?_)
  refine lv_goto (tgt := 20) hx hb dX4_empty_39 z1199 ?_
  refine lv_iload_n hx hb dX4_empty_20 rfl (lv_at hl 0 rfl) ?_
  refine lv_aload_n hx hb dX4_empty_21 rfl (lv_at hl 1 rfl) ?_
  refine va_get (D := (dC, dI)) (ci := 4) (v := .ref (r 31)) (C := RX4) (T := TX4) (N := 16) hx hb hts i4 hown hK hP 0 rfl rfl 4 (nlt rfl) w4 (fun _ h9 => h9) rfl dX4_empty_22 ?_
  refine va_alen hx hb hK hP 1 3 rfl rfl (v := 64) rfl dX4_empty_25 ?_
  refine lv_icmp_ge (tgt := 42) hx hb dX4_empty_26 z1197 (fun c1 => absurd c1 (z320)) (fun _ => ?_)
  refine lv_aload_n hx hb dX4_empty_29 rfl (lv_at hl 1 rfl) ?_
  refine va_get (D := (dC, dI)) (ci := 4) (v := .ref (r 31)) (C := RX4) (T := TX4) (N := 16) hx hb hts i4 hown hK hP 0 rfl rfl 4 (nlt rfl) w4 (fun _ h9 => h9) rfl dX4_empty_30 ?_
  refine lv_iload_n hx hb dX4_empty_33 rfl (lv_at hl 0 rfl) ?_
  refine lv_iconst (v := 0) hx hb dX4_empty_34 z8 ?_
  refine my_zastS hx hb hK hP hD hS 1 3 rfl rfl z1223 z249 rfl dX4_empty_35 (fun H locs hP hD hS => ?_)
  refine lv_iinc (v := 25) (lv' := [(1, .int 25), (0, .ref (r 28))]) hx hb dX4_empty_36 hl (k := 0) rfl z322 (nlt rfl) rfl (fun ls hl => ?_)
  refine lv_goto (tgt := 20) hx hb dX4_empty_39 z1199 ?_
  refine lv_iload_n hx hb dX4_empty_20 rfl (lv_at hl 0 rfl) ?_
  refine lv_aload_n hx hb dX4_empty_21 rfl (lv_at hl 1 rfl) ?_
  refine va_get (D := (dC, dI)) (ci := 4) (v := .ref (r 31)) (C := RX4) (T := TX4) (N := 16) hx hb hts i4 hown hK hP 0 rfl rfl 4 (nlt rfl) w4 (fun _ h9 => h9) rfl dX4_empty_22 ?_
  refine va_alen hx hb hK hP 1 3 rfl rfl (v := 64) rfl dX4_empty_25 ?_
  refine lv_icmp_ge (tgt := 42) hx hb dX4_empty_26 z1197 (fun c1 => absurd c1 (z323)) (fun _ => ?_)
  refine lv_aload_n hx hb dX4_empty_29 rfl (lv_at hl 1 rfl) ?_
  refine va_get (D := (dC, dI)) (ci := 4) (v := .ref (r 31)) (C := RX4) (T := TX4) (N := 16) hx hb hts i4 hown hK hP 0 rfl rfl 4 (nlt rfl) w4 (fun _ h9 => h9) rfl dX4_empty_30 ?_
  refine lv_iload_n hx hb dX4_empty_33 rfl (lv_at hl 0 rfl) ?_
  refine lv_iconst (v := 0) hx hb dX4_empty_34 z8 ?_
  refine my_zastS hx hb hK hP hD hS 1 3 rfl rfl z1224 z249 rfl dX4_empty_35 (fun H locs hP hD hS => ?_)
  refine lv_iinc (v := 26) (lv' := [(1, .int 26), (0, .ref (r 28))]) hx hb dX4_empty_36 hl (k := 0) rfl z325 (nlt rfl) rfl (fun ls hl => ?_)
  refine lv_goto (tgt := 20) hx hb dX4_empty_39 z1199 ?_
  refine lv_iload_n hx hb dX4_empty_20 rfl (lv_at hl 0 rfl) ?_
  refine lv_aload_n hx hb dX4_empty_21 rfl (lv_at hl 1 rfl) ?_
  refine va_get (D := (dC, dI)) (ci := 4) (v := .ref (r 31)) (C := RX4) (T := TX4) (N := 16) hx hb hts i4 hown hK hP 0 rfl rfl 4 (nlt rfl) w4 (fun _ h9 => h9) rfl dX4_empty_22 ?_
  refine va_alen hx hb hK hP 1 3 rfl rfl (v := 64) rfl dX4_empty_25 ?_
  refine lv_icmp_ge (tgt := 42) hx hb dX4_empty_26 z1197 (fun c1 => absurd c1 (z326)) (fun _ => ?_)
  refine lv_aload_n hx hb dX4_empty_29 rfl (lv_at hl 1 rfl) ?_
  refine va_get (D := (dC, dI)) (ci := 4) (v := .ref (r 31)) (C := RX4) (T := TX4) (N := 16) hx hb hts i4 hown hK hP 0 rfl rfl 4 (nlt rfl) w4 (fun _ h9 => h9) rfl dX4_empty_30 ?_
  refine lv_iload_n hx hb dX4_empty_33 rfl (lv_at hl 0 rfl) ?_
  refine lv_iconst (v := 0) hx hb dX4_empty_34 z8 ?_
  refine my_zastS hx hb hK hP hD hS 1 3 rfl rfl z1225 z249 rfl dX4_empty_35 (fun H locs hP hD hS => ?_)
  refine lv_iinc (v := 27) (lv' := [(1, .int 27), (0, .ref (r 28))]) hx hb dX4_empty_36 hl (k := 0) rfl z328 (nlt rfl) rfl (fun ls hl => ?_)
  refine lv_goto (tgt := 20) hx hb dX4_empty_39 z1199 ?_
  refine lv_iload_n hx hb dX4_empty_20 rfl (lv_at hl 0 rfl) ?_
  refine lv_aload_n hx hb dX4_empty_21 rfl (lv_at hl 1 rfl) ?_
  refine va_get (D := (dC, dI)) (ci := 4) (v := .ref (r 31)) (C := RX4) (T := TX4) (N := 16) hx hb hts i4 hown hK hP 0 rfl rfl 4 (nlt rfl) w4 (fun _ h9 => h9) rfl dX4_empty_22 ?_
  refine va_alen hx hb hK hP 1 3 rfl rfl (v := 64) rfl dX4_empty_25 ?_
  refine lv_icmp_ge (tgt := 42) hx hb dX4_empty_26 z1197 (fun c1 => absurd c1 (z329)) (fun _ => ?_)
  refine lv_aload_n hx hb dX4_empty_29 rfl (lv_at hl 1 rfl) ?_
  refine va_get (D := (dC, dI)) (ci := 4) (v := .ref (r 31)) (C := RX4) (T := TX4) (N := 16) hx hb hts i4 hown hK hP 0 rfl rfl 4 (nlt rfl) w4 (fun _ h9 => h9) rfl dX4_empty_30 ?_
  refine lv_iload_n hx hb dX4_empty_33 rfl (lv_at hl 0 rfl) ?_
  refine lv_iconst (v := 0) hx hb dX4_empty_34 z8 ?_
  refine my_zastS hx hb hK hP hD hS 1 3 rfl rfl z1226 z249 rfl dX4_empty_35 (fun H locs hP hD hS => ?_)
  refine lv_iinc (v := 28) (lv' := [(1, .int 28), (0, .ref (r 28))]) hx hb dX4_empty_36 hl (k := 0) rfl z331 (nlt rfl) rfl (fun ls hl => ?_)
  refine lv_goto (tgt := 20) hx hb dX4_empty_39 z1199 ?_
  refine lv_iload_n hx hb dX4_empty_20 rfl (lv_at hl 0 rfl) ?_
  refine lv_aload_n hx hb dX4_empty_21 rfl (lv_at hl 1 rfl) ?_
  refine va_get (D := (dC, dI)) (ci := 4) (v := .ref (r 31)) (C := RX4) (T := TX4) (N := 16) hx hb hts i4 hown hK hP 0 rfl rfl 4 (nlt rfl) w4 (fun _ h9 => h9) rfl dX4_empty_22 ?_
  refine va_alen hx hb hK hP 1 3 rfl rfl (v := 64) rfl dX4_empty_25 ?_
  refine lv_icmp_ge (tgt := 42) hx hb dX4_empty_26 z1197 (fun c1 => absurd c1 (z332)) (fun _ => ?_)
  refine lv_aload_n hx hb dX4_empty_29 rfl (lv_at hl 1 rfl) ?_
  refine va_get (D := (dC, dI)) (ci := 4) (v := .ref (r 31)) (C := RX4) (T := TX4) (N := 16) hx hb hts i4 hown hK hP 0 rfl rfl 4 (nlt rfl) w4 (fun _ h9 => h9) rfl dX4_empty_30 ?_
  refine lv_iload_n hx hb dX4_empty_33 rfl (lv_at hl 0 rfl) ?_
  refine lv_iconst (v := 0) hx hb dX4_empty_34 z8 ?_
  refine my_zastS hx hb hK hP hD hS 1 3 rfl rfl z1227 z249 rfl dX4_empty_35 (fun H locs hP hD hS => ?_)
  refine lv_iinc (v := 29) (lv' := [(1, .int 29), (0, .ref (r 28))]) hx hb dX4_empty_36 hl (k := 0) rfl z334 (nlt rfl) rfl (fun ls hl => ?_)
  refine lv_goto (tgt := 20) hx hb dX4_empty_39 z1199 ?_
  refine lv_iload_n hx hb dX4_empty_20 rfl (lv_at hl 0 rfl) ?_
  refine lv_aload_n hx hb dX4_empty_21 rfl (lv_at hl 1 rfl) ?_
  refine va_get (D := (dC, dI)) (ci := 4) (v := .ref (r 31)) (C := RX4) (T := TX4) (N := 16) hx hb hts i4 hown hK hP 0 rfl rfl 4 (nlt rfl) w4 (fun _ h9 => h9) rfl dX4_empty_22 ?_
  refine va_alen hx hb hK hP 1 3 rfl rfl (v := 64) rfl dX4_empty_25 ?_
  refine lv_icmp_ge (tgt := 42) hx hb dX4_empty_26 z1197 (fun c1 => absurd c1 (z335)) (fun _ => ?_)
  refine lv_aload_n hx hb dX4_empty_29 rfl (lv_at hl 1 rfl) ?_
  refine va_get (D := (dC, dI)) (ci := 4) (v := .ref (r 31)) (C := RX4) (T := TX4) (N := 16) hx hb hts i4 hown hK hP 0 rfl rfl 4 (nlt rfl) w4 (fun _ h9 => h9) rfl dX4_empty_30 ?_
  refine lv_iload_n hx hb dX4_empty_33 rfl (lv_at hl 0 rfl) ?_
  refine lv_iconst (v := 0) hx hb dX4_empty_34 z8 ?_
  refine my_zastS hx hb hK hP hD hS 1 3 rfl rfl z1228 z249 rfl dX4_empty_35 (fun H locs hP hD hS => ?_)
  refine lv_iinc (v := 30) (lv' := [(1, .int 30), (0, .ref (r 28))]) hx hb dX4_empty_36 hl (k := 0) rfl z337 (nlt rfl) rfl (fun ls hl => ?_)
  refine lv_goto (tgt := 20) hx hb dX4_empty_39 z1199 ?_
  refine lv_iload_n hx hb dX4_empty_20 rfl (lv_at hl 0 rfl) ?_
  refine lv_aload_n hx hb dX4_empty_21 rfl (lv_at hl 1 rfl) ?_
  refine va_get (D := (dC, dI)) (ci := 4) (v := .ref (r 31)) (C := RX4) (T := TX4) (N := 16) hx hb hts i4 hown hK hP 0 rfl rfl 4 (nlt rfl) w4 (fun _ h9 => h9) rfl dX4_empty_22 ?_
  refine va_alen hx hb hK hP 1 3 rfl rfl (v := 64) rfl dX4_empty_25 ?_
  refine lv_icmp_ge (tgt := 42) hx hb dX4_empty_26 z1197 (fun c1 => absurd c1 (z338)) (fun _ => ?_)
  refine lv_aload_n hx hb dX4_empty_29 rfl (lv_at hl 1 rfl) ?_
  refine va_get (D := (dC, dI)) (ci := 4) (v := .ref (r 31)) (C := RX4) (T := TX4) (N := 16) hx hb hts i4 hown hK hP 0 rfl rfl 4 (nlt rfl) w4 (fun _ h9 => h9) rfl dX4_empty_30 ?_
  refine lv_iload_n hx hb dX4_empty_33 rfl (lv_at hl 0 rfl) ?_
  refine lv_iconst (v := 0) hx hb dX4_empty_34 z8 ?_
  refine my_zastS hx hb hK hP hD hS 1 3 rfl rfl z1229 z249 rfl dX4_empty_35 (fun H locs hP hD hS => ?_)
  refine lv_iinc (v := 31) (lv' := [(1, .int 31), (0, .ref (r 28))]) hx hb dX4_empty_36 hl (k := 0) rfl z340 (nlt rfl) rfl (fun ls hl => ?_)
  refine lv_goto (tgt := 20) hx hb dX4_empty_39 z1199 ?_
  refine lv_iload_n hx hb dX4_empty_20 rfl (lv_at hl 0 rfl) ?_
  refine lv_aload_n hx hb dX4_empty_21 rfl (lv_at hl 1 rfl) ?_
  refine va_get (D := (dC, dI)) (ci := 4) (v := .ref (r 31)) (C := RX4) (T := TX4) (N := 16) hx hb hts i4 hown hK hP 0 rfl rfl 4 (nlt rfl) w4 (fun _ h9 => h9) rfl dX4_empty_22 ?_
  refine va_alen hx hb hK hP 1 3 rfl rfl (v := 64) rfl dX4_empty_25 ?_
  refine lv_icmp_ge (tgt := 42) hx hb dX4_empty_26 z1197 (fun c1 => absurd c1 (z341)) (fun _ => ?_)
  refine lv_aload_n hx hb dX4_empty_29 rfl (lv_at hl 1 rfl) ?_
  refine va_get (D := (dC, dI)) (ci := 4) (v := .ref (r 31)) (C := RX4) (T := TX4) (N := 16) hx hb hts i4 hown hK hP 0 rfl rfl 4 (nlt rfl) w4 (fun _ h9 => h9) rfl dX4_empty_30 ?_
  refine lv_iload_n hx hb dX4_empty_33 rfl (lv_at hl 0 rfl) ?_
  refine lv_iconst (v := 0) hx hb dX4_empty_34 z8 ?_
  refine my_zastS hx hb hK hP hD hS 1 3 rfl rfl z1230 z249 rfl dX4_empty_35 (fun H locs hP hD hS => ?_)
  refine lv_iinc (v := 32) (lv' := [(1, .int 32), (0, .ref (r 28))]) hx hb dX4_empty_36 hl (k := 0) rfl z343 (nlt rfl) rfl (fun ls hl => ?_)
  refine lv_goto (tgt := 20) hx hb dX4_empty_39 z1199 ?_
  refine lv_iload_n hx hb dX4_empty_20 rfl (lv_at hl 0 rfl) ?_
  refine lv_aload_n hx hb dX4_empty_21 rfl (lv_at hl 1 rfl) ?_
  refine va_get (D := (dC, dI)) (ci := 4) (v := .ref (r 31)) (C := RX4) (T := TX4) (N := 16) hx hb hts i4 hown hK hP 0 rfl rfl 4 (nlt rfl) w4 (fun _ h9 => h9) rfl dX4_empty_22 ?_
  refine va_alen hx hb hK hP 1 3 rfl rfl (v := 64) rfl dX4_empty_25 ?_
  refine lv_icmp_ge (tgt := 42) hx hb dX4_empty_26 z1197 (fun c1 => absurd c1 (z344)) (fun _ => ?_)
  refine lv_aload_n hx hb dX4_empty_29 rfl (lv_at hl 1 rfl) ?_
  refine va_get (D := (dC, dI)) (ci := 4) (v := .ref (r 31)) (C := RX4) (T := TX4) (N := 16) hx hb hts i4 hown hK hP 0 rfl rfl 4 (nlt rfl) w4 (fun _ h9 => h9) rfl dX4_empty_30 ?_
  refine lv_iload_n hx hb dX4_empty_33 rfl (lv_at hl 0 rfl) ?_
  refine lv_iconst (v := 0) hx hb dX4_empty_34 z8 ?_
  refine my_zastS hx hb hK hP hD hS 1 3 rfl rfl z1231 z249 rfl dX4_empty_35 (fun H locs hP hD hS => ?_)
  refine lv_iinc (v := 33) (lv' := [(1, .int 33), (0, .ref (r 28))]) hx hb dX4_empty_36 hl (k := 0) rfl z346 (nlt rfl) rfl (fun ls hl => ?_)
  refine lv_goto (tgt := 20) hx hb dX4_empty_39 z1199 ?_
  refine lv_iload_n hx hb dX4_empty_20 rfl (lv_at hl 0 rfl) ?_
  refine lv_aload_n hx hb dX4_empty_21 rfl (lv_at hl 1 rfl) ?_
  refine va_get (D := (dC, dI)) (ci := 4) (v := .ref (r 31)) (C := RX4) (T := TX4) (N := 16) hx hb hts i4 hown hK hP 0 rfl rfl 4 (nlt rfl) w4 (fun _ h9 => h9) rfl dX4_empty_22 ?_
  refine va_alen hx hb hK hP 1 3 rfl rfl (v := 64) rfl dX4_empty_25 ?_
  refine lv_icmp_ge (tgt := 42) hx hb dX4_empty_26 z1197 (fun c1 => absurd c1 (z347)) (fun _ => ?_)
  refine lv_aload_n hx hb dX4_empty_29 rfl (lv_at hl 1 rfl) ?_
  refine va_get (D := (dC, dI)) (ci := 4) (v := .ref (r 31)) (C := RX4) (T := TX4) (N := 16) hx hb hts i4 hown hK hP 0 rfl rfl 4 (nlt rfl) w4 (fun _ h9 => h9) rfl dX4_empty_30 ?_
  refine lv_iload_n hx hb dX4_empty_33 rfl (lv_at hl 0 rfl) ?_
  refine lv_iconst (v := 0) hx hb dX4_empty_34 z8 ?_
  refine my_zastS hx hb hK hP hD hS 1 3 rfl rfl z1232 z249 rfl dX4_empty_35 (fun H locs hP hD hS => ?_)
  refine lv_iinc (v := 34) (lv' := [(1, .int 34), (0, .ref (r 28))]) hx hb dX4_empty_36 hl (k := 0) rfl z349 (nlt rfl) rfl (fun ls hl => ?_)
  refine lv_goto (tgt := 20) hx hb dX4_empty_39 z1199 ?_
  refine lv_iload_n hx hb dX4_empty_20 rfl (lv_at hl 0 rfl) ?_
  refine lv_aload_n hx hb dX4_empty_21 rfl (lv_at hl 1 rfl) ?_
  refine va_get (D := (dC, dI)) (ci := 4) (v := .ref (r 31)) (C := RX4) (T := TX4) (N := 16) hx hb hts i4 hown hK hP 0 rfl rfl 4 (nlt rfl) w4 (fun _ h9 => h9) rfl dX4_empty_22 ?_
  refine va_alen hx hb hK hP 1 3 rfl rfl (v := 64) rfl dX4_empty_25 ?_
  refine lv_icmp_ge (tgt := 42) hx hb dX4_empty_26 z1197 (fun c1 => absurd c1 (z350)) (fun _ => ?_)
  refine lv_aload_n hx hb dX4_empty_29 rfl (lv_at hl 1 rfl) ?_
  refine va_get (D := (dC, dI)) (ci := 4) (v := .ref (r 31)) (C := RX4) (T := TX4) (N := 16) hx hb hts i4 hown hK hP 0 rfl rfl 4 (nlt rfl) w4 (fun _ h9 => h9) rfl dX4_empty_30 ?_
  refine lv_iload_n hx hb dX4_empty_33 rfl (lv_at hl 0 rfl) ?_
  refine lv_iconst (v := 0) hx hb dX4_empty_34 z8 ?_
  refine my_zastS hx hb hK hP hD hS 1 3 rfl rfl z1233 z249 rfl dX4_empty_35 (fun H locs hP hD hS => ?_)
  refine lv_iinc (v := 35) (lv' := [(1, .int 35), (0, .ref (r 28))]) hx hb dX4_empty_36 hl (k := 0) rfl z352 (nlt rfl) rfl (fun ls hl => ?_)
  refine lv_goto (tgt := 20) hx hb dX4_empty_39 z1199 ?_
  refine lv_iload_n hx hb dX4_empty_20 rfl (lv_at hl 0 rfl) ?_
  refine lv_aload_n hx hb dX4_empty_21 rfl (lv_at hl 1 rfl) ?_
  refine va_get (D := (dC, dI)) (ci := 4) (v := .ref (r 31)) (C := RX4) (T := TX4) (N := 16) hx hb hts i4 hown hK hP 0 rfl rfl 4 (nlt rfl) w4 (fun _ h9 => h9) rfl dX4_empty_22 ?_
  refine va_alen hx hb hK hP 1 3 rfl rfl (v := 64) rfl dX4_empty_25 ?_
  refine lv_icmp_ge (tgt := 42) hx hb dX4_empty_26 z1197 (fun c1 => absurd c1 (z353)) (fun _ => ?_)
  refine lv_aload_n hx hb dX4_empty_29 rfl (lv_at hl 1 rfl) ?_
  refine va_get (D := (dC, dI)) (ci := 4) (v := .ref (r 31)) (C := RX4) (T := TX4) (N := 16) hx hb hts i4 hown hK hP 0 rfl rfl 4 (nlt rfl) w4 (fun _ h9 => h9) rfl dX4_empty_30 ?_
  refine lv_iload_n hx hb dX4_empty_33 rfl (lv_at hl 0 rfl) ?_
  refine lv_iconst (v := 0) hx hb dX4_empty_34 z8 ?_
  refine my_zastS hx hb hK hP hD hS 1 3 rfl rfl z1234 z249 rfl dX4_empty_35 (fun H locs hP hD hS => ?_)
  refine lv_iinc (v := 36) (lv' := [(1, .int 36), (0, .ref (r 28))]) hx hb dX4_empty_36 hl (k := 0) rfl z355 (nlt rfl) rfl (fun ls hl => ?_)
  refine lv_goto (tgt := 20) hx hb dX4_empty_39 z1199 ?_
  refine lv_iload_n hx hb dX4_empty_20 rfl (lv_at hl 0 rfl) ?_
  refine lv_aload_n hx hb dX4_empty_21 rfl (lv_at hl 1 rfl) ?_
  refine va_get (D := (dC, dI)) (ci := 4) (v := .ref (r 31)) (C := RX4) (T := TX4) (N := 16) hx hb hts i4 hown hK hP 0 rfl rfl 4 (nlt rfl) w4 (fun _ h9 => h9) rfl dX4_empty_22 ?_
  refine va_alen hx hb hK hP 1 3 rfl rfl (v := 64) rfl dX4_empty_25 ?_
  refine lv_icmp_ge (tgt := 42) hx hb dX4_empty_26 z1197 (fun c1 => absurd c1 (z356)) (fun _ => ?_)
  refine lv_aload_n hx hb dX4_empty_29 rfl (lv_at hl 1 rfl) ?_
  refine va_get (D := (dC, dI)) (ci := 4) (v := .ref (r 31)) (C := RX4) (T := TX4) (N := 16) hx hb hts i4 hown hK hP 0 rfl rfl 4 (nlt rfl) w4 (fun _ h9 => h9) rfl dX4_empty_30 ?_
  refine lv_iload_n hx hb dX4_empty_33 rfl (lv_at hl 0 rfl) ?_
  refine lv_iconst (v := 0) hx hb dX4_empty_34 z8 ?_
  refine my_zastS hx hb hK hP hD hS 1 3 rfl rfl z1235 z249 rfl dX4_empty_35 (fun H locs hP hD hS => ?_)
  refine lv_iinc (v := 37) (lv' := [(1, .int 37), (0, .ref (r 28))]) hx hb dX4_empty_36 hl (k := 0) rfl z358 (nlt rfl) rfl (fun ls hl => ?_)
  refine lv_goto (tgt := 20) hx hb dX4_empty_39 z1199 ?_
  refine lv_iload_n hx hb dX4_empty_20 rfl (lv_at hl 0 rfl) ?_
  refine lv_aload_n hx hb dX4_empty_21 rfl (lv_at hl 1 rfl) ?_
  refine va_get (D := (dC, dI)) (ci := 4) (v := .ref (r 31)) (C := RX4) (T := TX4) (N := 16) hx hb hts i4 hown hK hP 0 rfl rfl 4 (nlt rfl) w4 (fun _ h9 => h9) rfl dX4_empty_22 ?_
  refine va_alen hx hb hK hP 1 3 rfl rfl (v := 64) rfl dX4_empty_25 ?_
  refine lv_icmp_ge (tgt := 42) hx hb dX4_empty_26 z1197 (fun c1 => absurd c1 (z359)) (fun _ => ?_)
  refine lv_aload_n hx hb dX4_empty_29 rfl (lv_at hl 1 rfl) ?_
  refine va_get (D := (dC, dI)) (ci := 4) (v := .ref (r 31)) (C := RX4) (T := TX4) (N := 16) hx hb hts i4 hown hK hP 0 rfl rfl 4 (nlt rfl) w4 (fun _ h9 => h9) rfl dX4_empty_30 ?_
  refine lv_iload_n hx hb dX4_empty_33 rfl (lv_at hl 0 rfl) ?_
  refine lv_iconst (v := 0) hx hb dX4_empty_34 z8 ?_
  refine my_zastS hx hb hK hP hD hS 1 3 rfl rfl z1236 z249 rfl dX4_empty_35 (fun H locs hP hD hS => ?_)
  refine lv_iinc (v := 38) (lv' := [(1, .int 38), (0, .ref (r 28))]) hx hb dX4_empty_36 hl (k := 0) rfl z361 (nlt rfl) rfl (fun ls hl => ?_)
  refine lv_goto (tgt := 20) hx hb dX4_empty_39 z1199 ?_
  refine lv_iload_n hx hb dX4_empty_20 rfl (lv_at hl 0 rfl) ?_
  refine lv_aload_n hx hb dX4_empty_21 rfl (lv_at hl 1 rfl) ?_
  refine va_get (D := (dC, dI)) (ci := 4) (v := .ref (r 31)) (C := RX4) (T := TX4) (N := 16) hx hb hts i4 hown hK hP 0 rfl rfl 4 (nlt rfl) w4 (fun _ h9 => h9) rfl dX4_empty_22 ?_
  refine va_alen hx hb hK hP 1 3 rfl rfl (v := 64) rfl dX4_empty_25 ?_
  refine lv_icmp_ge (tgt := 42) hx hb dX4_empty_26 z1197 (fun c1 => absurd c1 (z362)) (fun _ => ?_)
  refine lv_aload_n hx hb dX4_empty_29 rfl (lv_at hl 1 rfl) ?_
  refine va_get (D := (dC, dI)) (ci := 4) (v := .ref (r 31)) (C := RX4) (T := TX4) (N := 16) hx hb hts i4 hown hK hP 0 rfl rfl 4 (nlt rfl) w4 (fun _ h9 => h9) rfl dX4_empty_30 ?_
  refine lv_iload_n hx hb dX4_empty_33 rfl (lv_at hl 0 rfl) ?_
  refine lv_iconst (v := 0) hx hb dX4_empty_34 z8 ?_
  refine my_zastS hx hb hK hP hD hS 1 3 rfl rfl z1237 z249 rfl dX4_empty_35 (fun H locs hP hD hS => ?_)
  refine lv_iinc (v := 39) (lv' := [(1, .int 39), (0, .ref (r 28))]) hx hb dX4_empty_36 hl (k := 0) rfl z364 (nlt rfl) rfl (fun ls hl => ?_)
  refine lv_goto (tgt := 20) hx hb dX4_empty_39 z1199 ?_
  refine lv_iload_n hx hb dX4_empty_20 rfl (lv_at hl 0 rfl) ?_
  refine lv_aload_n hx hb dX4_empty_21 rfl (lv_at hl 1 rfl) ?_
  refine va_get (D := (dC, dI)) (ci := 4) (v := .ref (r 31)) (C := RX4) (T := TX4) (N := 16) hx hb hts i4 hown hK hP 0 rfl rfl 4 (nlt rfl) w4 (fun _ h9 => h9) rfl dX4_empty_22 ?_
  refine va_alen hx hb hK hP 1 3 rfl rfl (v := 64) rfl dX4_empty_25 ?_
  refine lv_icmp_ge (tgt := 42) hx hb dX4_empty_26 z1197 (fun c1 => absurd c1 (z365)) (fun _ => ?_)
  refine lv_aload_n hx hb dX4_empty_29 rfl (lv_at hl 1 rfl) ?_
  refine va_get (D := (dC, dI)) (ci := 4) (v := .ref (r 31)) (C := RX4) (T := TX4) (N := 16) hx hb hts i4 hown hK hP 0 rfl rfl 4 (nlt rfl) w4 (fun _ h9 => h9) rfl dX4_empty_30 ?_
  refine lv_iload_n hx hb dX4_empty_33 rfl (lv_at hl 0 rfl) ?_
  refine lv_iconst (v := 0) hx hb dX4_empty_34 z8 ?_
  refine my_zastS hx hb hK hP hD hS 1 3 rfl rfl z1238 z249 rfl dX4_empty_35 (fun H locs hP hD hS => ?_)
  refine lv_iinc (v := 40) (lv' := [(1, .int 40), (0, .ref (r 28))]) hx hb dX4_empty_36 hl (k := 0) rfl z367 (nlt rfl) rfl (fun ls hl => ?_)
  refine lv_goto (tgt := 20) hx hb dX4_empty_39 z1199 ?_
  refine lv_iload_n hx hb dX4_empty_20 rfl (lv_at hl 0 rfl) ?_
  refine lv_aload_n hx hb dX4_empty_21 rfl (lv_at hl 1 rfl) ?_
  refine va_get (D := (dC, dI)) (ci := 4) (v := .ref (r 31)) (C := RX4) (T := TX4) (N := 16) hx hb hts i4 hown hK hP 0 rfl rfl 4 (nlt rfl) w4 (fun _ h9 => h9) rfl dX4_empty_22 ?_
  refine va_alen hx hb hK hP 1 3 rfl rfl (v := 64) rfl dX4_empty_25 ?_
  refine lv_icmp_ge (tgt := 42) hx hb dX4_empty_26 z1197 (fun c1 => absurd c1 (z368)) (fun _ => ?_)
  refine lv_aload_n hx hb dX4_empty_29 rfl (lv_at hl 1 rfl) ?_
  refine va_get (D := (dC, dI)) (ci := 4) (v := .ref (r 31)) (C := RX4) (T := TX4) (N := 16) hx hb hts i4 hown hK hP 0 rfl rfl 4 (nlt rfl) w4 (fun _ h9 => h9) rfl dX4_empty_30 ?_
  refine lv_iload_n hx hb dX4_empty_33 rfl (lv_at hl 0 rfl) ?_
  refine lv_iconst (v := 0) hx hb dX4_empty_34 z8 ?_
  refine my_zastS hx hb hK hP hD hS 1 3 rfl rfl z1239 z249 rfl dX4_empty_35 (fun H locs hP hD hS => ?_)
  refine lv_iinc (v := 41) (lv' := [(1, .int 41), (0, .ref (r 28))]) hx hb dX4_empty_36 hl (k := 0) rfl z370 (nlt rfl) rfl (fun ls hl => ?_)
  refine lv_goto (tgt := 20) hx hb dX4_empty_39 z1199 ?_
  refine lv_iload_n hx hb dX4_empty_20 rfl (lv_at hl 0 rfl) ?_
  refine lv_aload_n hx hb dX4_empty_21 rfl (lv_at hl 1 rfl) ?_
  refine va_get (D := (dC, dI)) (ci := 4) (v := .ref (r 31)) (C := RX4) (T := TX4) (N := 16) hx hb hts i4 hown hK hP 0 rfl rfl 4 (nlt rfl) w4 (fun _ h9 => h9) rfl dX4_empty_22 ?_
  refine va_alen hx hb hK hP 1 3 rfl rfl (v := 64) rfl dX4_empty_25 ?_
  refine lv_icmp_ge (tgt := 42) hx hb dX4_empty_26 z1197 (fun c1 => absurd c1 (z371)) (fun _ => ?_)
  refine lv_aload_n hx hb dX4_empty_29 rfl (lv_at hl 1 rfl) ?_
  refine va_get (D := (dC, dI)) (ci := 4) (v := .ref (r 31)) (C := RX4) (T := TX4) (N := 16) hx hb hts i4 hown hK hP 0 rfl rfl 4 (nlt rfl) w4 (fun _ h9 => h9) rfl dX4_empty_30 ?_
  refine lv_iload_n hx hb dX4_empty_33 rfl (lv_at hl 0 rfl) ?_
  refine lv_iconst (v := 0) hx hb dX4_empty_34 z8 ?_
  refine my_zastS hx hb hK hP hD hS 1 3 rfl rfl z1240 z249 rfl dX4_empty_35 (fun H locs hP hD hS => ?_)
  refine lv_iinc (v := 42) (lv' := [(1, .int 42), (0, .ref (r 28))]) hx hb dX4_empty_36 hl (k := 0) rfl z373 (nlt rfl) rfl (fun ls hl => ?_)
  refine lv_goto (tgt := 20) hx hb dX4_empty_39 z1199 ?_
  refine lv_iload_n hx hb dX4_empty_20 rfl (lv_at hl 0 rfl) ?_
  refine lv_aload_n hx hb dX4_empty_21 rfl (lv_at hl 1 rfl) ?_
  refine va_get (D := (dC, dI)) (ci := 4) (v := .ref (r 31)) (C := RX4) (T := TX4) (N := 16) hx hb hts i4 hown hK hP 0 rfl rfl 4 (nlt rfl) w4 (fun _ h9 => h9) rfl dX4_empty_22 ?_
  refine va_alen hx hb hK hP 1 3 rfl rfl (v := 64) rfl dX4_empty_25 ?_
  refine lv_icmp_ge (tgt := 42) hx hb dX4_empty_26 z1197 (fun c1 => absurd c1 (z374)) (fun _ => ?_)
  refine lv_aload_n hx hb dX4_empty_29 rfl (lv_at hl 1 rfl) ?_
  refine va_get (D := (dC, dI)) (ci := 4) (v := .ref (r 31)) (C := RX4) (T := TX4) (N := 16) hx hb hts i4 hown hK hP 0 rfl rfl 4 (nlt rfl) w4 (fun _ h9 => h9) rfl dX4_empty_30 ?_
  refine lv_iload_n hx hb dX4_empty_33 rfl (lv_at hl 0 rfl) ?_
  refine lv_iconst (v := 0) hx hb dX4_empty_34 z8 ?_
  refine my_zastS hx hb hK hP hD hS 1 3 rfl rfl z1241 z249 rfl dX4_empty_35 (fun H locs hP hD hS => ?_)
  refine lv_iinc (v := 43) (lv' := [(1, .int 43), (0, .ref (r 28))]) hx hb dX4_empty_36 hl (k := 0) rfl z376 (nlt rfl) rfl (fun ls hl => ?_)
  refine lv_goto (tgt := 20) hx hb dX4_empty_39 z1199 ?_
  refine lv_iload_n hx hb dX4_empty_20 rfl (lv_at hl 0 rfl) ?_
  refine lv_aload_n hx hb dX4_empty_21 rfl (lv_at hl 1 rfl) ?_
  refine va_get (D := (dC, dI)) (ci := 4) (v := .ref (r 31)) (C := RX4) (T := TX4) (N := 16) hx hb hts i4 hown hK hP 0 rfl rfl 4 (nlt rfl) w4 (fun _ h9 => h9) rfl dX4_empty_22 ?_
  refine va_alen hx hb hK hP 1 3 rfl rfl (v := 64) rfl dX4_empty_25 ?_
  refine lv_icmp_ge (tgt := 42) hx hb dX4_empty_26 z1197 (fun c1 => absurd c1 (z377)) (fun _ => ?_)
  refine lv_aload_n hx hb dX4_empty_29 rfl (lv_at hl 1 rfl) ?_
  refine va_get (D := (dC, dI)) (ci := 4) (v := .ref (r 31)) (C := RX4) (T := TX4) (N := 16) hx hb hts i4 hown hK hP 0 rfl rfl 4 (nlt rfl) w4 (fun _ h9 => h9) rfl dX4_empty_30 ?_
  refine lv_iload_n hx hb dX4_empty_33 rfl (lv_at hl 0 rfl) ?_
  refine lv_iconst (v := 0) hx hb dX4_empty_34 z8 ?_
  refine my_zastS hx hb hK hP hD hS 1 3 rfl rfl z1242 z249 rfl dX4_empty_35 (fun H locs hP hD hS => ?_)
  refine lv_iinc (v := 44) (lv' := [(1, .int 44), (0, .ref (r 28))]) hx hb dX4_empty_36 hl (k := 0) rfl z379 (nlt rfl) rfl (fun ls hl => ?_)
  refine lv_goto (tgt := 20) hx hb dX4_empty_39 z1199 ?_
  refine lv_iload_n hx hb dX4_empty_20 rfl (lv_at hl 0 rfl) ?_
  refine lv_aload_n hx hb dX4_empty_21 rfl (lv_at hl 1 rfl) ?_
  refine va_get (D := (dC, dI)) (ci := 4) (v := .ref (r 31)) (C := RX4) (T := TX4) (N := 16) hx hb hts i4 hown hK hP 0 rfl rfl 4 (nlt rfl) w4 (fun _ h9 => h9) rfl dX4_empty_22 ?_
  refine va_alen hx hb hK hP 1 3 rfl rfl (v := 64) rfl dX4_empty_25 ?_
  refine lv_icmp_ge (tgt := 42) hx hb dX4_empty_26 z1197 (fun c1 => absurd c1 (z380)) (fun _ => ?_)
  refine lv_aload_n hx hb dX4_empty_29 rfl (lv_at hl 1 rfl) ?_
  refine va_get (D := (dC, dI)) (ci := 4) (v := .ref (r 31)) (C := RX4) (T := TX4) (N := 16) hx hb hts i4 hown hK hP 0 rfl rfl 4 (nlt rfl) w4 (fun _ h9 => h9) rfl dX4_empty_30 ?_
  refine lv_iload_n hx hb dX4_empty_33 rfl (lv_at hl 0 rfl) ?_
  refine lv_iconst (v := 0) hx hb dX4_empty_34 z8 ?_
  refine my_zastS hx hb hK hP hD hS 1 3 rfl rfl z1243 z249 rfl dX4_empty_35 (fun H locs hP hD hS => ?_)
  refine lv_iinc (v := 45) (lv' := [(1, .int 45), (0, .ref (r 28))]) hx hb dX4_empty_36 hl (k := 0) rfl z382 (nlt rfl) rfl (fun ls hl => ?_)
  refine lv_goto (tgt := 20) hx hb dX4_empty_39 z1199 ?_
  refine lv_iload_n hx hb dX4_empty_20 rfl (lv_at hl 0 rfl) ?_
  refine lv_aload_n hx hb dX4_empty_21 rfl (lv_at hl 1 rfl) ?_
  refine va_get (D := (dC, dI)) (ci := 4) (v := .ref (r 31)) (C := RX4) (T := TX4) (N := 16) hx hb hts i4 hown hK hP 0 rfl rfl 4 (nlt rfl) w4 (fun _ h9 => h9) rfl dX4_empty_22 ?_
  refine va_alen hx hb hK hP 1 3 rfl rfl (v := 64) rfl dX4_empty_25 ?_
  refine lv_icmp_ge (tgt := 42) hx hb dX4_empty_26 z1197 (fun c1 => absurd c1 (z383)) (fun _ => ?_)
  refine lv_aload_n hx hb dX4_empty_29 rfl (lv_at hl 1 rfl) ?_
  refine va_get (D := (dC, dI)) (ci := 4) (v := .ref (r 31)) (C := RX4) (T := TX4) (N := 16) hx hb hts i4 hown hK hP 0 rfl rfl 4 (nlt rfl) w4 (fun _ h9 => h9) rfl dX4_empty_30 ?_
  refine lv_iload_n hx hb dX4_empty_33 rfl (lv_at hl 0 rfl) ?_
  refine lv_iconst (v := 0) hx hb dX4_empty_34 z8 ?_
  refine my_zastS hx hb hK hP hD hS 1 3 rfl rfl z1244 z249 rfl dX4_empty_35 (fun H locs hP hD hS => ?_)
  refine lv_iinc (v := 46) (lv' := [(1, .int 46), (0, .ref (r 28))]) hx hb dX4_empty_36 hl (k := 0) rfl z385 (nlt rfl) rfl (fun ls hl => ?_)
  refine lv_goto (tgt := 20) hx hb dX4_empty_39 z1199 ?_
  refine lv_iload_n hx hb dX4_empty_20 rfl (lv_at hl 0 rfl) ?_
  refine lv_aload_n hx hb dX4_empty_21 rfl (lv_at hl 1 rfl) ?_
  refine va_get (D := (dC, dI)) (ci := 4) (v := .ref (r 31)) (C := RX4) (T := TX4) (N := 16) hx hb hts i4 hown hK hP 0 rfl rfl 4 (nlt rfl) w4 (fun _ h9 => h9) rfl dX4_empty_22 ?_
  refine va_alen hx hb hK hP 1 3 rfl rfl (v := 64) rfl dX4_empty_25 ?_
  refine lv_icmp_ge (tgt := 42) hx hb dX4_empty_26 z1197 (fun c1 => absurd c1 (z386)) (fun _ => ?_)
  refine lv_aload_n hx hb dX4_empty_29 rfl (lv_at hl 1 rfl) ?_
  refine va_get (D := (dC, dI)) (ci := 4) (v := .ref (r 31)) (C := RX4) (T := TX4) (N := 16) hx hb hts i4 hown hK hP 0 rfl rfl 4 (nlt rfl) w4 (fun _ h9 => h9) rfl dX4_empty_30 ?_
  refine lv_iload_n hx hb dX4_empty_33 rfl (lv_at hl 0 rfl) ?_
  refine lv_iconst (v := 0) hx hb dX4_empty_34 z8 ?_
  refine my_zastS hx hb hK hP hD hS 1 3 rfl rfl z1245 z249 rfl dX4_empty_35 (fun H locs hP hD hS => ?_)
  refine lv_iinc (v := 47) (lv' := [(1, .int 47), (0, .ref (r 28))]) hx hb dX4_empty_36 hl (k := 0) rfl z388 (nlt rfl) rfl (fun ls hl => ?_)
  refine lv_goto (tgt := 20) hx hb dX4_empty_39 z1199 ?_
  refine lv_iload_n hx hb dX4_empty_20 rfl (lv_at hl 0 rfl) ?_
  refine lv_aload_n hx hb dX4_empty_21 rfl (lv_at hl 1 rfl) ?_
  refine va_get (D := (dC, dI)) (ci := 4) (v := .ref (r 31)) (C := RX4) (T := TX4) (N := 16) hx hb hts i4 hown hK hP 0 rfl rfl 4 (nlt rfl) w4 (fun _ h9 => h9) rfl dX4_empty_22 ?_
  refine va_alen hx hb hK hP 1 3 rfl rfl (v := 64) rfl dX4_empty_25 ?_
  refine lv_icmp_ge (tgt := 42) hx hb dX4_empty_26 z1197 (fun c1 => absurd c1 (z389)) (fun _ => ?_)
  refine lv_aload_n hx hb dX4_empty_29 rfl (lv_at hl 1 rfl) ?_
  refine va_get (D := (dC, dI)) (ci := 4) (v := .ref (r 31)) (C := RX4) (T := TX4) (N := 16) hx hb hts i4 hown hK hP 0 rfl rfl 4 (nlt rfl) w4 (fun _ h9 => h9) rfl dX4_empty_30 ?_
  refine lv_iload_n hx hb dX4_empty_33 rfl (lv_at hl 0 rfl) ?_
  refine lv_iconst (v := 0) hx hb dX4_empty_34 z8 ?_
  refine my_zastS hx hb hK hP hD hS 1 3 rfl rfl z1246 z249 rfl dX4_empty_35 (fun H locs hP hD hS => ?_)
  refine lv_iinc (v := 48) (lv' := [(1, .int 48), (0, .ref (r 28))]) hx hb dX4_empty_36 hl (k := 0) rfl z391 (nlt rfl) rfl (fun ls hl => ?_)
  refine lv_goto (tgt := 20) hx hb dX4_empty_39 z1199 ?_
  refine lv_iload_n hx hb dX4_empty_20 rfl (lv_at hl 0 rfl) ?_
  refine lv_aload_n hx hb dX4_empty_21 rfl (lv_at hl 1 rfl) ?_
  refine va_get (D := (dC, dI)) (ci := 4) (v := .ref (r 31)) (C := RX4) (T := TX4) (N := 16) hx hb hts i4 hown hK hP 0 rfl rfl 4 (nlt rfl) w4 (fun _ h9 => h9) rfl dX4_empty_22 ?_
  refine va_alen hx hb hK hP 1 3 rfl rfl (v := 64) rfl dX4_empty_25 ?_
  refine lv_icmp_ge (tgt := 42) hx hb dX4_empty_26 z1197 (fun c1 => absurd c1 (z392)) (fun _ => ?_)
  refine lv_aload_n hx hb dX4_empty_29 rfl (lv_at hl 1 rfl) ?_
  refine va_get (D := (dC, dI)) (ci := 4) (v := .ref (r 31)) (C := RX4) (T := TX4) (N := 16) hx hb hts i4 hown hK hP 0 rfl rfl 4 (nlt rfl) w4 (fun _ h9 => h9) rfl dX4_empty_30 ?_
  refine lv_iload_n hx hb dX4_empty_33 rfl (lv_at hl 0 rfl) ?_
  refine lv_iconst (v := 0) hx hb dX4_empty_34 z8 ?_
  refine my_zastS hx hb hK hP hD hS 1 3 rfl rfl z1247 z249 rfl dX4_empty_35 (fun H locs hP hD hS => ?_)
  refine lv_iinc (v := 49) (lv' := [(1, .int 49), (0, .ref (r 28))]) hx hb dX4_empty_36 hl (k := 0) rfl z394 (nlt rfl) rfl (fun ls hl => ?_)
  refine lv_goto (tgt := 20) hx hb dX4_empty_39 z1199 ?_
  refine lv_iload_n hx hb dX4_empty_20 rfl (lv_at hl 0 rfl) ?_
  refine lv_aload_n hx hb dX4_empty_21 rfl (lv_at hl 1 rfl) ?_
  refine va_get (D := (dC, dI)) (ci := 4) (v := .ref (r 31)) (C := RX4) (T := TX4) (N := 16) hx hb hts i4 hown hK hP 0 rfl rfl 4 (nlt rfl) w4 (fun _ h9 => h9) rfl dX4_empty_22 ?_
  refine va_alen hx hb hK hP 1 3 rfl rfl (v := 64) rfl dX4_empty_25 ?_
  refine lv_icmp_ge (tgt := 42) hx hb dX4_empty_26 z1197 (fun c1 => absurd c1 (z395)) (fun _ => ?_)
  refine lv_aload_n hx hb dX4_empty_29 rfl (lv_at hl 1 rfl) ?_
  refine va_get (D := (dC, dI)) (ci := 4) (v := .ref (r 31)) (C := RX4) (T := TX4) (N := 16) hx hb hts i4 hown hK hP 0 rfl rfl 4 (nlt rfl) w4 (fun _ h9 => h9) rfl dX4_empty_30 ?_
  refine lv_iload_n hx hb dX4_empty_33 rfl (lv_at hl 0 rfl) ?_
  refine lv_iconst (v := 0) hx hb dX4_empty_34 z8 ?_
  refine my_zastS hx hb hK hP hD hS 1 3 rfl rfl z1248 z249 rfl dX4_empty_35 (fun H locs hP hD hS => ?_)
  refine lv_iinc (v := 50) (lv' := [(1, .int 50), (0, .ref (r 28))]) hx hb dX4_empty_36 hl (k := 0) rfl z397 (nlt rfl) rfl (fun ls hl => ?_)
  refine lv_goto (tgt := 20) hx hb dX4_empty_39 z1199 ?_
  refine lv_iload_n hx hb dX4_empty_20 rfl (lv_at hl 0 rfl) ?_
  refine lv_aload_n hx hb dX4_empty_21 rfl (lv_at hl 1 rfl) ?_
  refine va_get (D := (dC, dI)) (ci := 4) (v := .ref (r 31)) (C := RX4) (T := TX4) (N := 16) hx hb hts i4 hown hK hP 0 rfl rfl 4 (nlt rfl) w4 (fun _ h9 => h9) rfl dX4_empty_22 ?_
  refine va_alen hx hb hK hP 1 3 rfl rfl (v := 64) rfl dX4_empty_25 ?_
  refine lv_icmp_ge (tgt := 42) hx hb dX4_empty_26 z1197 (fun c1 => absurd c1 (z398)) (fun _ => ?_)
  refine lv_aload_n hx hb dX4_empty_29 rfl (lv_at hl 1 rfl) ?_
  refine va_get (D := (dC, dI)) (ci := 4) (v := .ref (r 31)) (C := RX4) (T := TX4) (N := 16) hx hb hts i4 hown hK hP 0 rfl rfl 4 (nlt rfl) w4 (fun _ h9 => h9) rfl dX4_empty_30 ?_
  refine lv_iload_n hx hb dX4_empty_33 rfl (lv_at hl 0 rfl) ?_
  refine lv_iconst (v := 0) hx hb dX4_empty_34 z8 ?_
  refine my_zastS hx hb hK hP hD hS 1 3 rfl rfl z1249 z249 rfl dX4_empty_35 (fun H locs hP hD hS => ?_)
  refine lv_iinc (v := 51) (lv' := [(1, .int 51), (0, .ref (r 28))]) hx hb dX4_empty_36 hl (k := 0) rfl z400 (nlt rfl) rfl (fun ls hl => ?_)
  refine lv_goto (tgt := 20) hx hb dX4_empty_39 z1199 ?_
  refine lv_iload_n hx hb dX4_empty_20 rfl (lv_at hl 0 rfl) ?_
  refine lv_aload_n hx hb dX4_empty_21 rfl (lv_at hl 1 rfl) ?_
  refine va_get (D := (dC, dI)) (ci := 4) (v := .ref (r 31)) (C := RX4) (T := TX4) (N := 16) hx hb hts i4 hown hK hP 0 rfl rfl 4 (nlt rfl) w4 (fun _ h9 => h9) rfl dX4_empty_22 ?_
  refine va_alen hx hb hK hP 1 3 rfl rfl (v := 64) rfl dX4_empty_25 ?_
  refine lv_icmp_ge (tgt := 42) hx hb dX4_empty_26 z1197 (fun c1 => absurd c1 (z401)) (fun _ => ?_)
  refine lv_aload_n hx hb dX4_empty_29 rfl (lv_at hl 1 rfl) ?_
  refine va_get (D := (dC, dI)) (ci := 4) (v := .ref (r 31)) (C := RX4) (T := TX4) (N := 16) hx hb hts i4 hown hK hP 0 rfl rfl 4 (nlt rfl) w4 (fun _ h9 => h9) rfl dX4_empty_30 ?_
  refine lv_iload_n hx hb dX4_empty_33 rfl (lv_at hl 0 rfl) ?_
  refine lv_iconst (v := 0) hx hb dX4_empty_34 z8 ?_
  refine my_zastS hx hb hK hP hD hS 1 3 rfl rfl z1250 z249 rfl dX4_empty_35 (fun H locs hP hD hS => ?_)
  refine lv_iinc (v := 52) (lv' := [(1, .int 52), (0, .ref (r 28))]) hx hb dX4_empty_36 hl (k := 0) rfl z403 (nlt rfl) rfl (fun ls hl => ?_)
  refine lv_goto (tgt := 20) hx hb dX4_empty_39 z1199 ?_
  refine lv_iload_n hx hb dX4_empty_20 rfl (lv_at hl 0 rfl) ?_
  refine lv_aload_n hx hb dX4_empty_21 rfl (lv_at hl 1 rfl) ?_
  refine va_get (D := (dC, dI)) (ci := 4) (v := .ref (r 31)) (C := RX4) (T := TX4) (N := 16) hx hb hts i4 hown hK hP 0 rfl rfl 4 (nlt rfl) w4 (fun _ h9 => h9) rfl dX4_empty_22 ?_
  refine va_alen hx hb hK hP 1 3 rfl rfl (v := 64) rfl dX4_empty_25 ?_
  refine lv_icmp_ge (tgt := 42) hx hb dX4_empty_26 z1197 (fun c1 => absurd c1 (z404)) (fun _ => ?_)
  refine lv_aload_n hx hb dX4_empty_29 rfl (lv_at hl 1 rfl) ?_
  refine va_get (D := (dC, dI)) (ci := 4) (v := .ref (r 31)) (C := RX4) (T := TX4) (N := 16) hx hb hts i4 hown hK hP 0 rfl rfl 4 (nlt rfl) w4 (fun _ h9 => h9) rfl dX4_empty_30 ?_
  refine lv_iload_n hx hb dX4_empty_33 rfl (lv_at hl 0 rfl) ?_
  refine lv_iconst (v := 0) hx hb dX4_empty_34 z8 ?_
  refine my_zastS hx hb hK hP hD hS 1 3 rfl rfl z1251 z249 rfl dX4_empty_35 (fun H locs hP hD hS => ?_)
  refine lv_iinc (v := 53) (lv' := [(1, .int 53), (0, .ref (r 28))]) hx hb dX4_empty_36 hl (k := 0) rfl z406 (nlt rfl) rfl (fun ls hl => ?_)
  refine lv_goto (tgt := 20) hx hb dX4_empty_39 z1199 ?_
  refine lv_iload_n hx hb dX4_empty_20 rfl (lv_at hl 0 rfl) ?_
  refine lv_aload_n hx hb dX4_empty_21 rfl (lv_at hl 1 rfl) ?_
  refine va_get (D := (dC, dI)) (ci := 4) (v := .ref (r 31)) (C := RX4) (T := TX4) (N := 16) hx hb hts i4 hown hK hP 0 rfl rfl 4 (nlt rfl) w4 (fun _ h9 => h9) rfl dX4_empty_22 ?_
  refine va_alen hx hb hK hP 1 3 rfl rfl (v := 64) rfl dX4_empty_25 ?_
  refine lv_icmp_ge (tgt := 42) hx hb dX4_empty_26 z1197 (fun c1 => absurd c1 (z407)) (fun _ => ?_)
  refine lv_aload_n hx hb dX4_empty_29 rfl (lv_at hl 1 rfl) ?_
  refine va_get (D := (dC, dI)) (ci := 4) (v := .ref (r 31)) (C := RX4) (T := TX4) (N := 16) hx hb hts i4 hown hK hP 0 rfl rfl 4 (nlt rfl) w4 (fun _ h9 => h9) rfl dX4_empty_30 ?_
  refine lv_iload_n hx hb dX4_empty_33 rfl (lv_at hl 0 rfl) ?_
  refine lv_iconst (v := 0) hx hb dX4_empty_34 z8 ?_
  refine my_zastS hx hb hK hP hD hS 1 3 rfl rfl z1252 z249 rfl dX4_empty_35 (fun H locs hP hD hS => ?_)
  refine lv_iinc (v := 54) (lv' := [(1, .int 54), (0, .ref (r 28))]) hx hb dX4_empty_36 hl (k := 0) rfl z409 (nlt rfl) rfl (fun ls hl => ?_)
  refine lv_goto (tgt := 20) hx hb dX4_empty_39 z1199 ?_
  refine lv_iload_n hx hb dX4_empty_20 rfl (lv_at hl 0 rfl) ?_
  refine lv_aload_n hx hb dX4_empty_21 rfl (lv_at hl 1 rfl) ?_
  refine va_get (D := (dC, dI)) (ci := 4) (v := .ref (r 31)) (C := RX4) (T := TX4) (N := 16) hx hb hts i4 hown hK hP 0 rfl rfl 4 (nlt rfl) w4 (fun _ h9 => h9) rfl dX4_empty_22 ?_
  refine va_alen hx hb hK hP 1 3 rfl rfl (v := 64) rfl dX4_empty_25 ?_
  refine lv_icmp_ge (tgt := 42) hx hb dX4_empty_26 z1197 (fun c1 => absurd c1 (z410)) (fun _ => ?_)
  refine lv_aload_n hx hb dX4_empty_29 rfl (lv_at hl 1 rfl) ?_
  refine va_get (D := (dC, dI)) (ci := 4) (v := .ref (r 31)) (C := RX4) (T := TX4) (N := 16) hx hb hts i4 hown hK hP 0 rfl rfl 4 (nlt rfl) w4 (fun _ h9 => h9) rfl dX4_empty_30 ?_
  refine lv_iload_n hx hb dX4_empty_33 rfl (lv_at hl 0 rfl) ?_
  refine lv_iconst (v := 0) hx hb dX4_empty_34 z8 ?_
  refine my_zastS hx hb hK hP hD hS 1 3 rfl rfl z1253 z249 rfl dX4_empty_35 (fun H locs hP hD hS => ?_)
  refine lv_iinc (v := 55) (lv' := [(1, .int 55), (0, .ref (r 28))]) hx hb dX4_empty_36 hl (k := 0) rfl z412 (nlt rfl) rfl (fun ls hl => ?_)
  refine lv_goto (tgt := 20) hx hb dX4_empty_39 z1199 ?_
  refine lv_iload_n hx hb dX4_empty_20 rfl (lv_at hl 0 rfl) ?_
  refine lv_aload_n hx hb dX4_empty_21 rfl (lv_at hl 1 rfl) ?_
  refine va_get (D := (dC, dI)) (ci := 4) (v := .ref (r 31)) (C := RX4) (T := TX4) (N := 16) hx hb hts i4 hown hK hP 0 rfl rfl 4 (nlt rfl) w4 (fun _ h9 => h9) rfl dX4_empty_22 ?_
  refine va_alen hx hb hK hP 1 3 rfl rfl (v := 64) rfl dX4_empty_25 ?_
  refine lv_icmp_ge (tgt := 42) hx hb dX4_empty_26 z1197 (fun c1 => absurd c1 (z413)) (fun _ => ?_)
  refine lv_aload_n hx hb dX4_empty_29 rfl (lv_at hl 1 rfl) ?_
  refine va_get (D := (dC, dI)) (ci := 4) (v := .ref (r 31)) (C := RX4) (T := TX4) (N := 16) hx hb hts i4 hown hK hP 0 rfl rfl 4 (nlt rfl) w4 (fun _ h9 => h9) rfl dX4_empty_30 ?_
  refine lv_iload_n hx hb dX4_empty_33 rfl (lv_at hl 0 rfl) ?_
  refine lv_iconst (v := 0) hx hb dX4_empty_34 z8 ?_
  refine my_zastS hx hb hK hP hD hS 1 3 rfl rfl z1254 z249 rfl dX4_empty_35 (fun H locs hP hD hS => ?_)
  refine lv_iinc (v := 56) (lv' := [(1, .int 56), (0, .ref (r 28))]) hx hb dX4_empty_36 hl (k := 0) rfl z415 (nlt rfl) rfl (fun ls hl => ?_)
  refine lv_goto (tgt := 20) hx hb dX4_empty_39 z1199 ?_
  refine lv_iload_n hx hb dX4_empty_20 rfl (lv_at hl 0 rfl) ?_
  refine lv_aload_n hx hb dX4_empty_21 rfl (lv_at hl 1 rfl) ?_
  refine va_get (D := (dC, dI)) (ci := 4) (v := .ref (r 31)) (C := RX4) (T := TX4) (N := 16) hx hb hts i4 hown hK hP 0 rfl rfl 4 (nlt rfl) w4 (fun _ h9 => h9) rfl dX4_empty_22 ?_
  refine va_alen hx hb hK hP 1 3 rfl rfl (v := 64) rfl dX4_empty_25 ?_
  refine lv_icmp_ge (tgt := 42) hx hb dX4_empty_26 z1197 (fun c1 => absurd c1 (z416)) (fun _ => ?_)
  refine lv_aload_n hx hb dX4_empty_29 rfl (lv_at hl 1 rfl) ?_
  refine va_get (D := (dC, dI)) (ci := 4) (v := .ref (r 31)) (C := RX4) (T := TX4) (N := 16) hx hb hts i4 hown hK hP 0 rfl rfl 4 (nlt rfl) w4 (fun _ h9 => h9) rfl dX4_empty_30 ?_
  refine lv_iload_n hx hb dX4_empty_33 rfl (lv_at hl 0 rfl) ?_
  refine lv_iconst (v := 0) hx hb dX4_empty_34 z8 ?_
  refine my_zastS hx hb hK hP hD hS 1 3 rfl rfl z1255 z249 rfl dX4_empty_35 (fun H locs hP hD hS => ?_)
  refine lv_iinc (v := 57) (lv' := [(1, .int 57), (0, .ref (r 28))]) hx hb dX4_empty_36 hl (k := 0) rfl z418 (nlt rfl) rfl (fun ls hl => ?_)
  refine lv_goto (tgt := 20) hx hb dX4_empty_39 z1199 ?_
  refine lv_iload_n hx hb dX4_empty_20 rfl (lv_at hl 0 rfl) ?_
  refine lv_aload_n hx hb dX4_empty_21 rfl (lv_at hl 1 rfl) ?_
  refine va_get (D := (dC, dI)) (ci := 4) (v := .ref (r 31)) (C := RX4) (T := TX4) (N := 16) hx hb hts i4 hown hK hP 0 rfl rfl 4 (nlt rfl) w4 (fun _ h9 => h9) rfl dX4_empty_22 ?_
  refine va_alen hx hb hK hP 1 3 rfl rfl (v := 64) rfl dX4_empty_25 ?_
  refine lv_icmp_ge (tgt := 42) hx hb dX4_empty_26 z1197 (fun c1 => absurd c1 (z419)) (fun _ => ?_)
  refine lv_aload_n hx hb dX4_empty_29 rfl (lv_at hl 1 rfl) ?_
  refine va_get (D := (dC, dI)) (ci := 4) (v := .ref (r 31)) (C := RX4) (T := TX4) (N := 16) hx hb hts i4 hown hK hP 0 rfl rfl 4 (nlt rfl) w4 (fun _ h9 => h9) rfl dX4_empty_30 ?_
  refine lv_iload_n hx hb dX4_empty_33 rfl (lv_at hl 0 rfl) ?_
  refine lv_iconst (v := 0) hx hb dX4_empty_34 z8 ?_
  refine my_zastS hx hb hK hP hD hS 1 3 rfl rfl z1256 z249 rfl dX4_empty_35 (fun H locs hP hD hS => ?_)
  refine lv_iinc (v := 58) (lv' := [(1, .int 58), (0, .ref (r 28))]) hx hb dX4_empty_36 hl (k := 0) rfl z421 (nlt rfl) rfl (fun ls hl => ?_)
  refine lv_goto (tgt := 20) hx hb dX4_empty_39 z1199 ?_
  refine lv_iload_n hx hb dX4_empty_20 rfl (lv_at hl 0 rfl) ?_
  refine lv_aload_n hx hb dX4_empty_21 rfl (lv_at hl 1 rfl) ?_
  refine va_get (D := (dC, dI)) (ci := 4) (v := .ref (r 31)) (C := RX4) (T := TX4) (N := 16) hx hb hts i4 hown hK hP 0 rfl rfl 4 (nlt rfl) w4 (fun _ h9 => h9) rfl dX4_empty_22 ?_
  refine va_alen hx hb hK hP 1 3 rfl rfl (v := 64) rfl dX4_empty_25 ?_
  refine lv_icmp_ge (tgt := 42) hx hb dX4_empty_26 z1197 (fun c1 => absurd c1 (z422)) (fun _ => ?_)
  refine lv_aload_n hx hb dX4_empty_29 rfl (lv_at hl 1 rfl) ?_
  refine va_get (D := (dC, dI)) (ci := 4) (v := .ref (r 31)) (C := RX4) (T := TX4) (N := 16) hx hb hts i4 hown hK hP 0 rfl rfl 4 (nlt rfl) w4 (fun _ h9 => h9) rfl dX4_empty_30 ?_
  refine lv_iload_n hx hb dX4_empty_33 rfl (lv_at hl 0 rfl) ?_
  refine lv_iconst (v := 0) hx hb dX4_empty_34 z8 ?_
  refine my_zastS hx hb hK hP hD hS 1 3 rfl rfl z1257 z249 rfl dX4_empty_35 (fun H locs hP hD hS => ?_)
  refine lv_iinc (v := 59) (lv' := [(1, .int 59), (0, .ref (r 28))]) hx hb dX4_empty_36 hl (k := 0) rfl z424 (nlt rfl) rfl (fun ls hl => ?_)
  refine lv_goto (tgt := 20) hx hb dX4_empty_39 z1199 ?_
  refine lv_iload_n hx hb dX4_empty_20 rfl (lv_at hl 0 rfl) ?_
  refine lv_aload_n hx hb dX4_empty_21 rfl (lv_at hl 1 rfl) ?_
  refine va_get (D := (dC, dI)) (ci := 4) (v := .ref (r 31)) (C := RX4) (T := TX4) (N := 16) hx hb hts i4 hown hK hP 0 rfl rfl 4 (nlt rfl) w4 (fun _ h9 => h9) rfl dX4_empty_22 ?_
  refine va_alen hx hb hK hP 1 3 rfl rfl (v := 64) rfl dX4_empty_25 ?_
  refine lv_icmp_ge (tgt := 42) hx hb dX4_empty_26 z1197 (fun c1 => absurd c1 (z425)) (fun _ => ?_)
  refine lv_aload_n hx hb dX4_empty_29 rfl (lv_at hl 1 rfl) ?_
  refine va_get (D := (dC, dI)) (ci := 4) (v := .ref (r 31)) (C := RX4) (T := TX4) (N := 16) hx hb hts i4 hown hK hP 0 rfl rfl 4 (nlt rfl) w4 (fun _ h9 => h9) rfl dX4_empty_30 ?_
  refine lv_iload_n hx hb dX4_empty_33 rfl (lv_at hl 0 rfl) ?_
  refine lv_iconst (v := 0) hx hb dX4_empty_34 z8 ?_
  refine my_zastS hx hb hK hP hD hS 1 3 rfl rfl z1258 z249 rfl dX4_empty_35 (fun H locs hP hD hS => ?_)
  refine lv_iinc (v := 60) (lv' := [(1, .int 60), (0, .ref (r 28))]) hx hb dX4_empty_36 hl (k := 0) rfl z427 (nlt rfl) rfl (fun ls hl => ?_)
  refine lv_goto (tgt := 20) hx hb dX4_empty_39 z1199 ?_
  refine lv_iload_n hx hb dX4_empty_20 rfl (lv_at hl 0 rfl) ?_
  refine lv_aload_n hx hb dX4_empty_21 rfl (lv_at hl 1 rfl) ?_
  refine va_get (D := (dC, dI)) (ci := 4) (v := .ref (r 31)) (C := RX4) (T := TX4) (N := 16) hx hb hts i4 hown hK hP 0 rfl rfl 4 (nlt rfl) w4 (fun _ h9 => h9) rfl dX4_empty_22 ?_
  refine va_alen hx hb hK hP 1 3 rfl rfl (v := 64) rfl dX4_empty_25 ?_
  refine lv_icmp_ge (tgt := 42) hx hb dX4_empty_26 z1197 (fun c1 => absurd c1 (z428)) (fun _ => ?_)
  refine lv_aload_n hx hb dX4_empty_29 rfl (lv_at hl 1 rfl) ?_
  refine va_get (D := (dC, dI)) (ci := 4) (v := .ref (r 31)) (C := RX4) (T := TX4) (N := 16) hx hb hts i4 hown hK hP 0 rfl rfl 4 (nlt rfl) w4 (fun _ h9 => h9) rfl dX4_empty_30 ?_
  refine lv_iload_n hx hb dX4_empty_33 rfl (lv_at hl 0 rfl) ?_
  refine lv_iconst (v := 0) hx hb dX4_empty_34 z8 ?_
  refine my_zastS hx hb hK hP hD hS 1 3 rfl rfl z1259 z249 rfl dX4_empty_35 (fun H locs hP hD hS => ?_)
  refine lv_iinc (v := 61) (lv' := [(1, .int 61), (0, .ref (r 28))]) hx hb dX4_empty_36 hl (k := 0) rfl z430 (nlt rfl) rfl (fun ls hl => ?_)
  refine lv_goto (tgt := 20) hx hb dX4_empty_39 z1199 ?_
  refine lv_iload_n hx hb dX4_empty_20 rfl (lv_at hl 0 rfl) ?_
  refine lv_aload_n hx hb dX4_empty_21 rfl (lv_at hl 1 rfl) ?_
  refine va_get (D := (dC, dI)) (ci := 4) (v := .ref (r 31)) (C := RX4) (T := TX4) (N := 16) hx hb hts i4 hown hK hP 0 rfl rfl 4 (nlt rfl) w4 (fun _ h9 => h9) rfl dX4_empty_22 ?_
  refine va_alen hx hb hK hP 1 3 rfl rfl (v := 64) rfl dX4_empty_25 ?_
  refine lv_icmp_ge (tgt := 42) hx hb dX4_empty_26 z1197 (fun c1 => absurd c1 (z431)) (fun _ => ?_)
  refine lv_aload_n hx hb dX4_empty_29 rfl (lv_at hl 1 rfl) ?_
  refine va_get (D := (dC, dI)) (ci := 4) (v := .ref (r 31)) (C := RX4) (T := TX4) (N := 16) hx hb hts i4 hown hK hP 0 rfl rfl 4 (nlt rfl) w4 (fun _ h9 => h9) rfl dX4_empty_30 ?_
  refine lv_iload_n hx hb dX4_empty_33 rfl (lv_at hl 0 rfl) ?_
  refine lv_iconst (v := 0) hx hb dX4_empty_34 z8 ?_
  refine my_zastS hx hb hK hP hD hS 1 3 rfl rfl z1260 z249 rfl dX4_empty_35 (fun H locs hP hD hS => ?_)
  refine lv_iinc (v := 62) (lv' := [(1, .int 62), (0, .ref (r 28))]) hx hb dX4_empty_36 hl (k := 0) rfl z433 (nlt rfl) rfl (fun ls hl => ?_)
  refine lv_goto (tgt := 20) hx hb dX4_empty_39 z1199 ?_
  refine lv_iload_n hx hb dX4_empty_20 rfl (lv_at hl 0 rfl) ?_
  refine lv_aload_n hx hb dX4_empty_21 rfl (lv_at hl 1 rfl) ?_
  refine va_get (D := (dC, dI)) (ci := 4) (v := .ref (r 31)) (C := RX4) (T := TX4) (N := 16) hx hb hts i4 hown hK hP 0 rfl rfl 4 (nlt rfl) w4 (fun _ h9 => h9) rfl dX4_empty_22 ?_
  refine va_alen hx hb hK hP 1 3 rfl rfl (v := 64) rfl dX4_empty_25 ?_
  refine lv_icmp_ge (tgt := 42) hx hb dX4_empty_26 z1197 (fun c1 => absurd c1 (z434)) (fun _ => ?_)
  refine lv_aload_n hx hb dX4_empty_29 rfl (lv_at hl 1 rfl) ?_
  refine va_get (D := (dC, dI)) (ci := 4) (v := .ref (r 31)) (C := RX4) (T := TX4) (N := 16) hx hb hts i4 hown hK hP 0 rfl rfl 4 (nlt rfl) w4 (fun _ h9 => h9) rfl dX4_empty_30 ?_
  refine lv_iload_n hx hb dX4_empty_33 rfl (lv_at hl 0 rfl) ?_
  refine lv_iconst (v := 0) hx hb dX4_empty_34 z8 ?_
  refine my_zastS hx hb hK hP hD hS 1 3 rfl rfl z1261 z249 rfl dX4_empty_35 (fun H locs hP hD hS => ?_)
  refine lv_iinc (v := 63) (lv' := [(1, .int 63), (0, .ref (r 28))]) hx hb dX4_empty_36 hl (k := 0) rfl z436 (nlt rfl) rfl (fun ls hl => ?_)
  refine lv_goto (tgt := 20) hx hb dX4_empty_39 z1199 ?_
  refine lv_iload_n hx hb dX4_empty_20 rfl (lv_at hl 0 rfl) ?_
  refine lv_aload_n hx hb dX4_empty_21 rfl (lv_at hl 1 rfl) ?_
  refine va_get (D := (dC, dI)) (ci := 4) (v := .ref (r 31)) (C := RX4) (T := TX4) (N := 16) hx hb hts i4 hown hK hP 0 rfl rfl 4 (nlt rfl) w4 (fun _ h9 => h9) rfl dX4_empty_22 ?_
  refine va_alen hx hb hK hP 1 3 rfl rfl (v := 64) rfl dX4_empty_25 ?_
  refine lv_icmp_ge (tgt := 42) hx hb dX4_empty_26 z1197 (fun c1 => absurd c1 (z437)) (fun _ => ?_)
  refine lv_aload_n hx hb dX4_empty_29 rfl (lv_at hl 1 rfl) ?_
  refine va_get (D := (dC, dI)) (ci := 4) (v := .ref (r 31)) (C := RX4) (T := TX4) (N := 16) hx hb hts i4 hown hK hP 0 rfl rfl 4 (nlt rfl) w4 (fun _ h9 => h9) rfl dX4_empty_30 ?_
  refine lv_iload_n hx hb dX4_empty_33 rfl (lv_at hl 0 rfl) ?_
  refine lv_iconst (v := 0) hx hb dX4_empty_34 z8 ?_
  refine my_zastS hx hb hK hP hD hS 1 3 rfl rfl z1262 z249 rfl dX4_empty_35 (fun H locs hP hD hS => ?_)
  refine lv_iinc (v := 64) (lv' := [(1, .int 64), (0, .ref (r 28))]) hx hb dX4_empty_36 hl (k := 0) rfl z439 (nlt rfl) rfl (fun ls hl => ?_)
  refine lv_goto (tgt := 20) hx hb dX4_empty_39 z1199 ?_
  refine lv_iload_n hx hb dX4_empty_20 rfl (lv_at hl 0 rfl) ?_
  refine lv_aload_n hx hb dX4_empty_21 rfl (lv_at hl 1 rfl) ?_
  refine va_get (D := (dC, dI)) (ci := 4) (v := .ref (r 31)) (C := RX4) (T := TX4) (N := 16) hx hb hts i4 hown hK hP 0 rfl rfl 4 (nlt rfl) w4 (fun _ h9 => h9) rfl dX4_empty_22 ?_
  refine va_alen hx hb hK hP 1 3 rfl rfl (v := 64) rfl dX4_empty_25 ?_
  refine lv_icmp_ge (tgt := 42) hx hb dX4_empty_26 z1197 (fun _ => ?_) (fun c1 => absurd (z440) c1)
  refine lv_aload_n hx hb dX4_empty_42 rfl (lv_at hl 1 rfl) ?_
  refine lv_iconst (v := 0) hx hb dX4_empty_43 z8 ?_
  refine va_put (D := (dC, dI)) (ci := 4) (v := .int 0) (ty := tyX4 6) (C := RX4) (T := TX4) (N := 16) hx hb hts i4 tyX4 tyX4_ok nmX4 hown hK hP hD hS 0 rfl rfl 6 (nlt rfl) w5 (fun _ h9 => h9) rfl (tyX4_ok 6 (nlt rfl)) rfl rfl (nlt rfl) dX4_empty_44 (fun H locs hP hD hS => ?_)
  refine lv_aload_n hx hb dX4_empty_47 rfl (lv_at hl 1 rfl) ?_
  refine va_get (D := (dC, dI)) (ci := 4) (v := .ref (r 34)) (C := RX4) (T := TX4) (N := 16) hx hb hts i4 hown hK hP 0 rfl rfl 8 (nlt rfl) w6 (fun _ h9 => h9) rfl dX4_empty_48 ?_
  refine lv_iconst (v := 0) hx hb dX4_empty_51 z8 ?_
  refine lv_iconst (v := 0) hx hb dX4_empty_52 z8 ?_
  refine my_iastS hx hb hK hP hD hS 2 1 rfl rfl z1263 rfl dX4_empty_53 (fun H locs hP hD hS => ?_)
  refine lv_aload_n hx hb dX4_empty_54 rfl (lv_at hl 1 rfl) ?_
  refine lv_iconst (v := 0) hx hb dX4_empty_55 z8 ?_
  refine va_put (D := (dC, dI)) (ci := 4) (v := .int 0) (ty := tyX4 9) (C := RX4) (T := TX4) (N := 16) hx hb hts i4 tyX4 tyX4_ok nmX4 hown hK hP hD hS 0 rfl rfl 9 (nlt rfl) w7 (fun _ h9 => h9) rfl (tyX4_ok 9 (nlt rfl)) rfl rfl (nlt rfl) dX4_empty_56 (fun H locs hP hD hS => ?_)
  refine lv_aload_n hx hb dX4_empty_59 rfl (lv_at hl 1 rfl) ?_
  refine lv_iconst (v := 3) hx hb dX4_empty_60 z69 ?_
  refine va_put (D := (dC, dI)) (ci := 4) (v := .int 3) (ty := tyX4 12) (C := RX4) (T := TX4) (N := 16) hx hb hts i4 tyX4 tyX4_ok nmX4 hown hK hP hD hS 0 rfl rfl 12 (nlt rfl) w8 (fun _ h9 => h9) rfl (tyX4_ok 12 (nlt rfl)) rfl rfl (nlt rfl) dX4_empty_61 (fun H locs hP hD hS => ?_)
  refine lv_aload_n hx hb dX4_empty_64 rfl (lv_at hl 1 rfl) ?_
  refine lv_iconst (v := 0) hx hb dX4_empty_65 z8 ?_
  refine va_put (D := (dC, dI)) (ci := 4) (v := .int 0) (ty := tyX4 13) (C := RX4) (T := TX4) (N := 16) hx hb hts i4 tyX4 tyX4_ok nmX4 hown hK hP hD hS 0 rfl rfl 13 (nlt rfl) w9 (fun _ h9 => h9) rfl (tyX4_ok 13 (nlt rfl)) rfl rfl (nlt rfl) dX4_empty_66 (fun H locs hP hD hS => ?_)
  refine lv_aload_n hx hb dX4_empty_69 rfl (lv_at hl 1 rfl) ?_
  refine lv_iconst (v := 0) hx hb dX4_empty_70 z8 ?_
  refine va_put (D := (dC, dI)) (ci := 4) (v := .int 0) (ty := tyX4 14) (C := RX4) (T := TX4) (N := 16) hx hb hts i4 tyX4 tyX4_ok nmX4 hown hK hP hD hS 0 rfl rfl 14 (nlt rfl) w10 (fun _ h9 => h9) rfl (tyX4_ok 14 (nlt rfl)) rfl rfl (nlt rfl) dX4_empty_71 (fun H locs hP hD hS => ?_)
  refine W.widen (k := 0) (n := 0) (by decide +kernel) (by decide +kernel) ?_
  exact ret_v hx hb hr hlocks hS (u := (fun _ => 0)) (hP.sub [0, 3, 1, 2] rfl) (hD.sub [0, 3, 1, 2] (by decide +kernel) rfl) dX4_empty_74
