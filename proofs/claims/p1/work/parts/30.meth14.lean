set_option maxHeartbeats 4000000 in
set_option maxRecDepth 100000 in
theorem k383_X10_image (l : Launch) (dC : Nat → ClassId) (dI : Nat → Nat → Nat) (cB cI cJ cZ cO : ClassId) (r : Nat → Nat) : CI l yX10_image wsX10_image ({ frames := 2, cells := 0, slots := 0, locals := 81 }) (dC, dI) (tyL cB cI cJ cZ cO) [.ref (r 0), .int 0] [((r 0), .inr (10, fX r)), ((r 45), .inl (cO, 3, .inr (.inr (.inr (.inr (va_up (va_up (va_up (fun _ => none) 0 (some (r 46))) 1 (some (r 49))) 2 (some (r 52)))))))), ((r 46), .inr (1, [.int 0, .ref (r 47), .int 0, .ref (r 48)])), ((r 38), .inr (0, [.ref (r 39), .int 0, .ref (r 40), .ref (r 41), .ref (r 42), .ref (r 43), .ref (r 44), .int 0, .int 0])), ((r 39), .inl (cI, 6, .inl (fun _ => 0))), ((r 47), .inl (cI, 6, .inl (fun _ => 0))), ((r 40), .inl (cI, 6, .inl (upd (upd (upd (upd (upd (upd (fun _ => 0) 0 (-1)) 1 (-1)) 2 (-1)) 3 (-1)) 4 (-1)) 5 (-1)))), ((r 48), .inl (cI, 6, .inl (fun _ => 0)))] (fun _ => []) 0 := by
  intro sz
  refine ct_open (cc := cX10_image) (maxL := 2) (ret := (some .int)) (by decide) rfl (Nat.le_of_ble_eq_true rfl) ?_
  intro p e s m below meth c ls A hx hb hr hml hts hown hlocks hin hP hK hD hA hS hl
  have hl : lv_has ls 2 [(0, .ref (r 0)), (1, .int 0)] := hl
  have hown : s.vm.findClass RX10 = some m.cls := hown
  have i10 : ∀ w ∈ u_ws RX10 TX10 18, w ∈ wsX10_image := fun _ h => List.mem_cons_of_mem _ (List.mem_append_left _ (List.mem_append_left _ (List.mem_append_right _ h)))
  have w1 := hts (.fieldLink RX10 40 "GuildCharter" "boxes" "[LGuildCharter$Image;") (List.mem_cons_of_mem _ (List.mem_append_left _ (List.mem_append_left _ (List.mem_append_left _ (List.mem_of_getElem? (i := 0) rfl)))))
  have w2 := hts (.fieldLink RX10 33 "GuildCharter" "earnest" "LGuildCharter$Earnest;") (List.mem_cons_of_mem _ (List.mem_append_left _ (List.mem_append_left _ (List.mem_append_left _ (List.mem_of_getElem? (i := 1) rfl)))))
  have i0 : ∀ w ∈ u_ws RX0 TX0 9, w ∈ wsX10_image := fun _ h => List.mem_cons_of_mem _ (List.mem_append_left _ (List.mem_append_right _ h))
  have w4 := hts (.fieldLink RX10 177 "GuildCharter$Earnest" "size" "I") (List.mem_cons_of_mem _ (List.mem_append_left _ (List.mem_append_left _ (List.mem_append_left _ (List.mem_of_getElem? (i := 2) rfl)))))
  refine lv_iload_n hx hb dX10_image_0 rfl (lv_at hl 1 rfl) ?_
  refine lv_if_lt (tgt := 9) hx hb dX10_image_1 z891 (fun c1 => absurd c1 (z125)) (fun _ => ?_)
  refine lv_iload_n hx hb dX10_image_4 rfl (lv_at hl 1 rfl) ?_
  refine lv_iconst (v := 3) hx hb dX10_image_5 z69 ?_
  refine lv_icmp_lt (tgt := 11) hx hb dX10_image_6 z892 (fun _ => ?_) (fun c1 => absurd (z893) c1)
  refine lv_aload_n hx hb dX10_image_11 rfl (lv_at hl 0 rfl) ?_
  refine va_get (D := (dC, dI)) (ci := 10) (v := .ref (r 45)) (C := RX10) (T := TX10) (N := 18) hx hb hts i10 hown hK hP 0 rfl rfl 6 (nlt rfl) w1 (fun _ h9 => h9) rfl dX10_image_12 ?_
  refine lv_iload_n hx hb dX10_image_15 rfl (lv_at hl 1 rfl) ?_
  refine my_aldq (v := (r 46)) hx hb hK hP 1 4 rfl rfl z165 rfl dX10_image_16 ?_
  refine lv_aload_n hx hb dX10_image_17 rfl (lv_at hl 0 rfl) ?_
  refine va_get (D := (dC, dI)) (ci := 10) (v := .ref (r 38)) (C := RX10) (T := TX10) (N := 18) hx hb hts i10 hown hK hP 0 rfl rfl 5 (nlt rfl) w2 (fun _ h9 => h9) rfl dX10_image_18 ?_
  refine call_vV (ci := 1) (As := [.ref (r 38)]) (rest := []) (wr := [((r 0), .inr (10, fX r)), ((r 45), .inl (cO, 3, .inr (.inr (.inr (.inr (va_up (va_up (va_up (fun _ => none) 0 (some (r 46))) 1 (some (r 49))) 2 (some (r 52))))))))]) ⟨hx, hb, hml, hown, hts⟩ (k382_X1_keep l dC dI cB cI cJ cZ cO r) (cwV 1 hts gX10_image_X1_keep rfl rfl rfl ⟨rfl, z894⟩ ⟨Nat.le_of_ble_eq_true rfl, Nat.le_of_ble_eq_true rfl⟩) hK hP hD hS hA [2, 3, 4, 5, 6, 7] [0, 1] rfl rfl (by decide +kernel) (by decide +kernel) (by decide +kernel) rfl rfl rfl hl.1 (Nat.le_of_ble_eq_true rfl) rfl rfl dX10_image_21 ⟨by decide +kernel, by decide +kernel⟩ (fun u0 H locs hP hD hS => ?_)
  refine lv_aload_n hx hb dX10_image_24 rfl (lv_at hl 0 rfl) ?_
  refine va_get (D := (dC, dI)) (ci := 10) (v := .ref (r 38)) (C := RX10) (T := TX10) (N := 18) hx hb hts i10 hown hK hP 0 rfl rfl 5 (nlt rfl) w2 (fun _ h9 => h9) rfl dX10_image_25 ?_
  refine va_get (D := (dC, dI)) (ci := 0) (v := .int 0) (C := RX0) (T := TX0) (N := 9) hx hb hts i0 hown hK hP 3 rfl rfl 1 (nlt rfl) w4 (fun _ h9 => h9) rfl dX10_image_28 ?_
  refine W.widen (k := 0) (n := 0) (by decide +kernel) (by decide +kernel) ?_
  exact ret_i hx hb hr hlocks hS (u := (fun _ => 0)) (hP.sub [] rfl) (hD.sub [] (by decide +kernel) rfl) dX10_image_31

set_option maxHeartbeats 4000000 in
set_option maxRecDepth 100000 in
theorem k384_X11_image (l : Launch) (dC : Nat → ClassId) (dI : Nat → Nat → Nat) (cB cI cJ cZ cO : ClassId) (n : Nat → Nat) : CI l yX11_image wsX11_image ({ frames := 1, cells := 0, slots := 0, locals := 22 }) (dC, dI) (tyL cB cI cJ cZ cO) [.ref (n 0), .int 0] [((n 0), .inr (11, fM n)), ((n 26), .inl (cI, 6, .inl (fun _ => 0))), ((n 45), .inl (cI, 18, .inl (fun _ => 0))), ((n 27), .inl (cI, 6, .inl (upd (upd (upd (upd (fun _ => 0) 1 1) 2 2) 4 1) 5 2))), ((n 46), .inl (cI, 18, .inl (fun _ => 0))), ((n 44), .inl (cI, 3, .inl (upd (upd (upd (fun _ => 0) 0 (-1)) 1 (-1)) 2 (-1))))] (fun _ => []) 0 := by
  intro sz
  refine ct_open (cc := cX11_image) (maxL := 3) (ret := (some .int)) (by decide) rfl (Nat.le_of_ble_eq_true rfl) ?_
  intro p e s m below meth c ls A hx hb hr hml hts hown hlocks hin hP hK hD hA hS hl
  have hl : lv_has ls 3 [(0, .ref (n 0)), (1, .int 0)] := hl
  have hown : s.vm.findClass RX11 = some m.cls := hown
  have i11 : ∀ w ∈ u_ws RX11 TX11 71, w ∈ wsX11_image := fun _ h => List.mem_cons_of_mem _ (List.mem_append_right _ h)
  have w1 := hts (.fieldLink RX11 152 "GuildCharterModel" "boxRow" "[I") (List.mem_cons_of_mem _ (List.mem_append_left _ (List.mem_of_getElem? (i := 0) rfl)))
  have w2 := hts (.fieldLink RX11 92 "GuildCharterModel" "row" "[I") (List.mem_cons_of_mem _ (List.mem_append_left _ (List.mem_of_getElem? (i := 1) rfl)))
  have w3 := hts (.fieldLink RX11 155 "GuildCharterModel" "boxTurn" "[I") (List.mem_cons_of_mem _ (List.mem_append_left _ (List.mem_of_getElem? (i := 2) rfl)))
  have w4 := hts (.fieldLink RX11 95 "GuildCharterModel" "turnNow" "[I") (List.mem_cons_of_mem _ (List.mem_append_left _ (List.mem_of_getElem? (i := 3) rfl)))
  have w5 := hts (.fieldLink RX11 149 "GuildCharterModel" "boxMany" "[I") (List.mem_cons_of_mem _ (List.mem_append_left _ (List.mem_of_getElem? (i := 4) rfl)))
  have w6 := hts (.fieldLink RX11 336 "GuildCharterModel" "many" "I") (List.mem_cons_of_mem _ (List.mem_append_left _ (List.mem_of_getElem? (i := 5) rfl)))
  refine lv_iload_n hx hb dX11_image_0 rfl (lv_at hl 1 rfl) ?_
  refine lv_iconst (v := 0) hx hb dX11_image_1 z8 ?_
  refine lv_iconst (v := 2) hx hb dX11_image_2 z54 ?_
  refine call_iS (As := [.int 0, .int 0, .int 2]) (rest := []) (wr := [((n 0), .inr (11, fM n)), ((n 26), .inl (cI, 6, .inl (fun _ => 0))), ((n 45), .inl (cI, 18, .inl (fun _ => 0))), ((n 27), .inl (cI, 6, .inl (upd (upd (upd (upd (fun _ => 0) 1 1) 2 2) 4 1) 5 2))), ((n 46), .inl (cI, 18, .inl (fun _ => 0))), ((n 44), .inl (cI, 3, .inl (upd (upd (upd (fun _ => 0) 0 (-1)) 1 (-1)) 2 (-1))))]) ⟨hx, hb, hml, hown, hts⟩ (k98_X11_isIn l dC dI cB cI cJ cZ cO) (va_cwS 3 hts gX11_image_X11_isIn rfl rfl rfl z587 ⟨Nat.le_of_ble_eq_true rfl, Nat.le_of_ble_eq_true rfl⟩) hK hP hD hS hA [] [0, 1, 2, 3, 4, 5] rfl rfl (by decide +kernel) (by decide +kernel) (by decide +kernel) hl.1 (Nat.le_of_ble_eq_true rfl) rfl rfl dX11_image_3 ⟨by decide +kernel, by decide +kernel⟩ (fun u0 H locs hP hD hS => ?_)
  refine lv_if_ne (tgt := 11) hx hb dX11_image_6 z892 (fun _ => ?_) (fun c1 => absurd c1 (z525))
  refine lv_iconst (v := 0) hx hb dX11_image_11 z8 ?_
  refine lv_istore_n (lv' := [(2, .int 0), (0, .ref (n 0)), (1, .int 0)]) hx hb dX11_image_12 rfl hl (nlt rfl) rfl (fun ls hl => ?_)
  refine lv_iload_n hx hb dX11_image_13 rfl (lv_at hl 0 rfl) ?_
  refine lv_bipush (v := 6) hx hb dX11_image_14 z4 ?_
  refine lv_icmp_ge (tgt := 59) hx hb dX11_image_16 z895 (fun c1 => absurd c1 (z78)) (fun _ => ?_)
  refine lv_aload_n hx hb dX11_image_19 rfl (lv_at hl 1 rfl) ?_
  refine va_get (D := (dC, dI)) (ci := 11) (v := .ref (n 45)) (C := RX11) (T := TX11) (N := 71) hx hb hts i11 hown hK hP 0 rfl rfl 69 (nlt rfl) w1 (fun _ h9 => h9) rfl dX11_image_20 ?_
  refine lv_bipush (v := 6) hx hb dX11_image_23 z4 ?_
  refine lv_iload_n hx hb dX11_image_25 rfl (lv_at hl 2 rfl) ?_
  refine lv_imul hx hb dX11_image_26 ?_
  refine tpi z896 ?_
  refine lv_iload_n hx hb dX11_image_27 rfl (lv_at hl 0 rfl) ?_
  refine lv_iadd hx hb dX11_image_28 ?_
  refine tpi z350 ?_
  refine lv_aload_n hx hb dX11_image_29 rfl (lv_at hl 1 rfl) ?_
  refine va_get (D := (dC, dI)) (ci := 11) (v := .ref (n 26)) (C := RX11) (T := TX11) (N := 71) hx hb hts i11 hown hK hP 0 rfl rfl 36 (nlt rfl) w2 (fun _ h9 => h9) rfl dX11_image_30 ?_
  refine lv_iload_n hx hb dX11_image_33 rfl (lv_at hl 0 rfl) ?_
  refine my_iald (v := 0) hx hb hK hP 1 1 rfl rfl z38 rfl dX11_image_34 ?_
  refine my_iastS hx hb hK hP hD hS 2 1 rfl rfl z897 rfl dX11_image_35 (fun H locs hP hD hS => ?_)
  refine lv_aload_n hx hb dX11_image_36 rfl (lv_at hl 1 rfl) ?_
  refine va_get (D := (dC, dI)) (ci := 11) (v := .ref (n 46)) (C := RX11) (T := TX11) (N := 71) hx hb hts i11 hown hK hP 0 rfl rfl 70 (nlt rfl) w3 (fun _ h9 => h9) rfl dX11_image_37 ?_
  refine lv_bipush (v := 6) hx hb dX11_image_40 z4 ?_
  refine lv_iload_n hx hb dX11_image_42 rfl (lv_at hl 2 rfl) ?_
  refine lv_imul hx hb dX11_image_43 ?_
  refine tpi z896 ?_
  refine lv_iload_n hx hb dX11_image_44 rfl (lv_at hl 0 rfl) ?_
  refine lv_iadd hx hb dX11_image_45 ?_
  refine tpi z350 ?_
  refine lv_aload_n hx hb dX11_image_46 rfl (lv_at hl 1 rfl) ?_
  refine va_get (D := (dC, dI)) (ci := 11) (v := .ref (n 27)) (C := RX11) (T := TX11) (N := 71) hx hb hts i11 hown hK hP 0 rfl rfl 37 (nlt rfl) w4 (fun _ h9 => h9) rfl dX11_image_47 ?_
  refine lv_iload_n hx hb dX11_image_50 rfl (lv_at hl 0 rfl) ?_
  refine my_iald (v := 0) hx hb hK hP 3 1 rfl rfl z38 rfl dX11_image_51 ?_
  refine my_iastS hx hb hK hP hD hS 4 1 rfl rfl z897 rfl dX11_image_52 (fun H locs hP hD hS => ?_)
  refine lv_iinc (v := 1) (lv' := [(2, .int 1), (0, .ref (n 0)), (1, .int 0)]) hx hb dX11_image_53 hl (k := 0) rfl z17 (nlt rfl) rfl (fun ls hl => ?_)
  refine lv_goto (tgt := 13) hx hb dX11_image_56 z898 ?_
  refine lv_iload_n hx hb dX11_image_13 rfl (lv_at hl 0 rfl) ?_
  refine lv_bipush (v := 6) hx hb dX11_image_14 z4 ?_
  refine lv_icmp_ge (tgt := 59) hx hb dX11_image_16 z895 (fun c1 => absurd c1 (z80)) (fun _ => ?_)
  refine lv_aload_n hx hb dX11_image_19 rfl (lv_at hl 1 rfl) ?_
  refine va_get (D := (dC, dI)) (ci := 11) (v := .ref (n 45)) (C := RX11) (T := TX11) (N := 71) hx hb hts i11 hown hK hP 0 rfl rfl 69 (nlt rfl) w1 (fun _ h9 => h9) rfl dX11_image_20 ?_
  refine lv_bipush (v := 6) hx hb dX11_image_23 z4 ?_
  refine lv_iload_n hx hb dX11_image_25 rfl (lv_at hl 2 rfl) ?_
  refine lv_imul hx hb dX11_image_26 ?_
  refine tpi z896 ?_
  refine lv_iload_n hx hb dX11_image_27 rfl (lv_at hl 0 rfl) ?_
  refine lv_iadd hx hb dX11_image_28 ?_
  refine tpi z281 ?_
  refine lv_aload_n hx hb dX11_image_29 rfl (lv_at hl 1 rfl) ?_
  refine va_get (D := (dC, dI)) (ci := 11) (v := .ref (n 26)) (C := RX11) (T := TX11) (N := 71) hx hb hts i11 hown hK hP 0 rfl rfl 36 (nlt rfl) w2 (fun _ h9 => h9) rfl dX11_image_30 ?_
  refine lv_iload_n hx hb dX11_image_33 rfl (lv_at hl 0 rfl) ?_
  refine my_iald (v := 0) hx hb hK hP 1 1 rfl rfl z53 rfl dX11_image_34 ?_
  refine my_iastS hx hb hK hP hD hS 2 1 rfl rfl z899 rfl dX11_image_35 (fun H locs hP hD hS => ?_)
  refine lv_aload_n hx hb dX11_image_36 rfl (lv_at hl 1 rfl) ?_
  refine va_get (D := (dC, dI)) (ci := 11) (v := .ref (n 46)) (C := RX11) (T := TX11) (N := 71) hx hb hts i11 hown hK hP 0 rfl rfl 70 (nlt rfl) w3 (fun _ h9 => h9) rfl dX11_image_37 ?_
  refine lv_bipush (v := 6) hx hb dX11_image_40 z4 ?_
  refine lv_iload_n hx hb dX11_image_42 rfl (lv_at hl 2 rfl) ?_
  refine lv_imul hx hb dX11_image_43 ?_
  refine tpi z896 ?_
  refine lv_iload_n hx hb dX11_image_44 rfl (lv_at hl 0 rfl) ?_
  refine lv_iadd hx hb dX11_image_45 ?_
  refine tpi z281 ?_
  refine lv_aload_n hx hb dX11_image_46 rfl (lv_at hl 1 rfl) ?_
  refine va_get (D := (dC, dI)) (ci := 11) (v := .ref (n 27)) (C := RX11) (T := TX11) (N := 71) hx hb hts i11 hown hK hP 0 rfl rfl 37 (nlt rfl) w4 (fun _ h9 => h9) rfl dX11_image_47 ?_
  refine lv_iload_n hx hb dX11_image_50 rfl (lv_at hl 0 rfl) ?_
  refine my_iald (v := 1) hx hb hK hP 3 1 rfl rfl z53 rfl dX11_image_51 ?_
  refine my_iast hx hb hK hP hD hS 4 1 rfl rfl z899 dX11_image_52 (fun H locs hP hD hS => ?_)
  refine lv_iinc (v := 2) (lv' := [(2, .int 2), (0, .ref (n 0)), (1, .int 0)]) hx hb dX11_image_53 hl (k := 0) rfl z24 (nlt rfl) rfl (fun ls hl => ?_)
  refine lv_goto (tgt := 13) hx hb dX11_image_56 z898 ?_
  refine lv_iload_n hx hb dX11_image_13 rfl (lv_at hl 0 rfl) ?_
  refine lv_bipush (v := 6) hx hb dX11_image_14 z4 ?_
  refine lv_icmp_ge (tgt := 59) hx hb dX11_image_16 z895 (fun c1 => absurd c1 (z83)) (fun _ => ?_)
  refine lv_aload_n hx hb dX11_image_19 rfl (lv_at hl 1 rfl) ?_
  refine va_get (D := (dC, dI)) (ci := 11) (v := .ref (n 45)) (C := RX11) (T := TX11) (N := 71) hx hb hts i11 hown hK hP 0 rfl rfl 69 (nlt rfl) w1 (fun _ h9 => h9) rfl dX11_image_20 ?_
  refine lv_bipush (v := 6) hx hb dX11_image_23 z4 ?_
  refine lv_iload_n hx hb dX11_image_25 rfl (lv_at hl 2 rfl) ?_
  refine lv_imul hx hb dX11_image_26 ?_
  refine tpi z896 ?_
  refine lv_iload_n hx hb dX11_image_27 rfl (lv_at hl 0 rfl) ?_
  refine lv_iadd hx hb dX11_image_28 ?_
  refine tpi z362 ?_
  refine lv_aload_n hx hb dX11_image_29 rfl (lv_at hl 1 rfl) ?_
  refine va_get (D := (dC, dI)) (ci := 11) (v := .ref (n 26)) (C := RX11) (T := TX11) (N := 71) hx hb hts i11 hown hK hP 0 rfl rfl 36 (nlt rfl) w2 (fun _ h9 => h9) rfl dX11_image_30 ?_
  refine lv_iload_n hx hb dX11_image_33 rfl (lv_at hl 0 rfl) ?_
  refine my_iald (v := 0) hx hb hK hP 1 1 rfl rfl z68 rfl dX11_image_34 ?_
  refine my_iastS hx hb hK hP hD hS 2 1 rfl rfl z900 rfl dX11_image_35 (fun H locs hP hD hS => ?_)
  refine lv_aload_n hx hb dX11_image_36 rfl (lv_at hl 1 rfl) ?_
  refine va_get (D := (dC, dI)) (ci := 11) (v := .ref (n 46)) (C := RX11) (T := TX11) (N := 71) hx hb hts i11 hown hK hP 0 rfl rfl 70 (nlt rfl) w3 (fun _ h9 => h9) rfl dX11_image_37 ?_
  refine lv_bipush (v := 6) hx hb dX11_image_40 z4 ?_
  refine lv_iload_n hx hb dX11_image_42 rfl (lv_at hl 2 rfl) ?_
  refine lv_imul hx hb dX11_image_43 ?_
  refine tpi z896 ?_
  refine lv_iload_n hx hb dX11_image_44 rfl (lv_at hl 0 rfl) ?_
  refine lv_iadd hx hb dX11_image_45 ?_
  refine tpi z362 ?_
  refine lv_aload_n hx hb dX11_image_46 rfl (lv_at hl 1 rfl) ?_
  refine va_get (D := (dC, dI)) (ci := 11) (v := .ref (n 27)) (C := RX11) (T := TX11) (N := 71) hx hb hts i11 hown hK hP 0 rfl rfl 37 (nlt rfl) w4 (fun _ h9 => h9) rfl dX11_image_47 ?_
  refine lv_iload_n hx hb dX11_image_50 rfl (lv_at hl 0 rfl) ?_
  refine my_iald (v := 2) hx hb hK hP 3 1 rfl rfl z68 rfl dX11_image_51 ?_
  refine my_iast hx hb hK hP hD hS 4 1 rfl rfl z900 dX11_image_52 (fun H locs hP hD hS => ?_)
  refine lv_iinc (v := 3) (lv' := [(2, .int 3), (0, .ref (n 0)), (1, .int 0)]) hx hb dX11_image_53 hl (k := 0) rfl z30 (nlt rfl) rfl (fun ls hl => ?_)
  refine lv_goto (tgt := 13) hx hb dX11_image_56 z898 ?_
  refine lv_iload_n hx hb dX11_image_13 rfl (lv_at hl 0 rfl) ?_
  refine lv_bipush (v := 6) hx hb dX11_image_14 z4 ?_
  refine lv_icmp_ge (tgt := 59) hx hb dX11_image_16 z895 (fun c1 => absurd c1 (z88)) (fun _ => ?_)
  refine lv_aload_n hx hb dX11_image_19 rfl (lv_at hl 1 rfl) ?_
  refine va_get (D := (dC, dI)) (ci := 11) (v := .ref (n 45)) (C := RX11) (T := TX11) (N := 71) hx hb hts i11 hown hK hP 0 rfl rfl 69 (nlt rfl) w1 (fun _ h9 => h9) rfl dX11_image_20 ?_
  refine lv_bipush (v := 6) hx hb dX11_image_23 z4 ?_
  refine lv_iload_n hx hb dX11_image_25 rfl (lv_at hl 2 rfl) ?_
  refine lv_imul hx hb dX11_image_26 ?_
  refine tpi z896 ?_
  refine lv_iload_n hx hb dX11_image_27 rfl (lv_at hl 0 rfl) ?_
  refine lv_iadd hx hb dX11_image_28 ?_
  refine tpi z368 ?_
  refine lv_aload_n hx hb dX11_image_29 rfl (lv_at hl 1 rfl) ?_
  refine va_get (D := (dC, dI)) (ci := 11) (v := .ref (n 26)) (C := RX11) (T := TX11) (N := 71) hx hb hts i11 hown hK hP 0 rfl rfl 36 (nlt rfl) w2 (fun _ h9 => h9) rfl dX11_image_30 ?_
  refine lv_iload_n hx hb dX11_image_33 rfl (lv_at hl 0 rfl) ?_
  refine my_iald (v := 0) hx hb hK hP 1 1 rfl rfl z76 rfl dX11_image_34 ?_
  refine my_iastS hx hb hK hP hD hS 2 1 rfl rfl z901 rfl dX11_image_35 (fun H locs hP hD hS => ?_)
  refine lv_aload_n hx hb dX11_image_36 rfl (lv_at hl 1 rfl) ?_
  refine va_get (D := (dC, dI)) (ci := 11) (v := .ref (n 46)) (C := RX11) (T := TX11) (N := 71) hx hb hts i11 hown hK hP 0 rfl rfl 70 (nlt rfl) w3 (fun _ h9 => h9) rfl dX11_image_37 ?_
  refine lv_bipush (v := 6) hx hb dX11_image_40 z4 ?_
  refine lv_iload_n hx hb dX11_image_42 rfl (lv_at hl 2 rfl) ?_
  refine lv_imul hx hb dX11_image_43 ?_
  refine tpi z896 ?_
  refine lv_iload_n hx hb dX11_image_44 rfl (lv_at hl 0 rfl) ?_
  refine lv_iadd hx hb dX11_image_45 ?_
  refine tpi z368 ?_
  refine lv_aload_n hx hb dX11_image_46 rfl (lv_at hl 1 rfl) ?_
  refine va_get (D := (dC, dI)) (ci := 11) (v := .ref (n 27)) (C := RX11) (T := TX11) (N := 71) hx hb hts i11 hown hK hP 0 rfl rfl 37 (nlt rfl) w4 (fun _ h9 => h9) rfl dX11_image_47 ?_
  refine lv_iload_n hx hb dX11_image_50 rfl (lv_at hl 0 rfl) ?_
  refine my_iald (v := 0) hx hb hK hP 3 1 rfl rfl z76 rfl dX11_image_51 ?_
  refine my_iastS hx hb hK hP hD hS 4 1 rfl rfl z901 rfl dX11_image_52 (fun H locs hP hD hS => ?_)
  refine lv_iinc (v := 4) (lv' := [(2, .int 4), (0, .ref (n 0)), (1, .int 0)]) hx hb dX11_image_53 hl (k := 0) rfl z36 (nlt rfl) rfl (fun ls hl => ?_)
  refine lv_goto (tgt := 13) hx hb dX11_image_56 z898 ?_
  refine lv_iload_n hx hb dX11_image_13 rfl (lv_at hl 0 rfl) ?_
  refine lv_bipush (v := 6) hx hb dX11_image_14 z4 ?_
  refine lv_icmp_ge (tgt := 59) hx hb dX11_image_16 z895 (fun c1 => absurd c1 (z93)) (fun _ => ?_)
  refine lv_aload_n hx hb dX11_image_19 rfl (lv_at hl 1 rfl) ?_
  refine va_get (D := (dC, dI)) (ci := 11) (v := .ref (n 45)) (C := RX11) (T := TX11) (N := 71) hx hb hts i11 hown hK hP 0 rfl rfl 69 (nlt rfl) w1 (fun _ h9 => h9) rfl dX11_image_20 ?_
  refine lv_bipush (v := 6) hx hb dX11_image_23 z4 ?_
  refine lv_iload_n hx hb dX11_image_25 rfl (lv_at hl 2 rfl) ?_
  refine lv_imul hx hb dX11_image_26 ?_
  refine tpi z896 ?_
  refine lv_iload_n hx hb dX11_image_27 rfl (lv_at hl 0 rfl) ?_
  refine lv_iadd hx hb dX11_image_28 ?_
  refine tpi z377 ?_
  refine lv_aload_n hx hb dX11_image_29 rfl (lv_at hl 1 rfl) ?_
  refine va_get (D := (dC, dI)) (ci := 11) (v := .ref (n 26)) (C := RX11) (T := TX11) (N := 71) hx hb hts i11 hown hK hP 0 rfl rfl 36 (nlt rfl) w2 (fun _ h9 => h9) rfl dX11_image_30 ?_
  refine lv_iload_n hx hb dX11_image_33 rfl (lv_at hl 0 rfl) ?_
  refine my_iald (v := 0) hx hb hK hP 1 1 rfl rfl z106 rfl dX11_image_34 ?_
  refine my_iastS hx hb hK hP hD hS 2 1 rfl rfl z902 rfl dX11_image_35 (fun H locs hP hD hS => ?_)
  refine lv_aload_n hx hb dX11_image_36 rfl (lv_at hl 1 rfl) ?_
  refine va_get (D := (dC, dI)) (ci := 11) (v := .ref (n 46)) (C := RX11) (T := TX11) (N := 71) hx hb hts i11 hown hK hP 0 rfl rfl 70 (nlt rfl) w3 (fun _ h9 => h9) rfl dX11_image_37 ?_
  refine lv_bipush (v := 6) hx hb dX11_image_40 z4 ?_
  refine lv_iload_n hx hb dX11_image_42 rfl (lv_at hl 2 rfl) ?_
  refine lv_imul hx hb dX11_image_43 ?_
  refine tpi z896 ?_
  refine lv_iload_n hx hb dX11_image_44 rfl (lv_at hl 0 rfl) ?_
  refine lv_iadd hx hb dX11_image_45 ?_
  refine tpi z377 ?_
  refine lv_aload_n hx hb dX11_image_46 rfl (lv_at hl 1 rfl) ?_
  refine va_get (D := (dC, dI)) (ci := 11) (v := .ref (n 27)) (C := RX11) (T := TX11) (N := 71) hx hb hts i11 hown hK hP 0 rfl rfl 37 (nlt rfl) w4 (fun _ h9 => h9) rfl dX11_image_47 ?_
  refine lv_iload_n hx hb dX11_image_50 rfl (lv_at hl 0 rfl) ?_
  refine my_iald (v := 1) hx hb hK hP 3 1 rfl rfl z106 rfl dX11_image_51 ?_
  refine my_iast hx hb hK hP hD hS 4 1 rfl rfl z902 dX11_image_52 (fun H locs hP hD hS => ?_)
  have hP : va_P (dC, dI) vwCl [((n 0), .inr (11, fM n)), ((n 26), .inl (cI, 6, .inl (fun _ => 0))), ((n 45), .inl (cI, 18, .inl (fun _ => 0))), ((n 27), .inl (cI, 6, .inl (upd (upd (upd (upd (fun _ => 0) 1 1) 2 2) 4 1) 5 2))), ((n 46), .inl (cI, 18, .inl (upd (upd (upd (fun _ => 0) 1 1) 2 2) 4 1))), ((n 44), .inl (cI, 3, .inl (upd (upd (upd (fun _ => 0) 0 (-1)) 1 (-1)) 2 (-1))))] H := hP
  have hD : va_D A [((n 0), .inr (11, fM n)), ((n 26), .inl (cI, 6, .inl (fun _ => 0))), ((n 45), .inl (cI, 18, .inl (fun _ => 0))), ((n 27), .inl (cI, 6, .inl (upd (upd (upd (upd (fun _ => 0) 1 1) 2 2) 4 1) 5 2))), ((n 46), .inl (cI, 18, .inl (upd (upd (upd (fun _ => 0) 1 1) 2 2) 4 1))), ((n 44), .inl (cI, 3, .inl (upd (upd (upd (fun _ => 0) 0 (-1)) 1 (-1)) 2 (-1))))] := hD
  refine lv_iinc (v := 5) (lv' := [(2, .int 5), (0, .ref (n 0)), (1, .int 0)]) hx hb dX11_image_53 hl (k := 0) rfl z98 (nlt rfl) rfl (fun ls hl => ?_)
  refine lv_goto (tgt := 13) hx hb dX11_image_56 z898 ?_
  refine lv_iload_n hx hb dX11_image_13 rfl (lv_at hl 0 rfl) ?_
  refine lv_bipush (v := 6) hx hb dX11_image_14 z4 ?_
  refine lv_icmp_ge (tgt := 59) hx hb dX11_image_16 z895 (fun c1 => absurd c1 (z99)) (fun _ => ?_)
  refine lv_aload_n hx hb dX11_image_19 rfl (lv_at hl 1 rfl) ?_
  refine va_get (D := (dC, dI)) (ci := 11) (v := .ref (n 45)) (C := RX11) (T := TX11) (N := 71) hx hb hts i11 hown hK hP 0 rfl rfl 69 (nlt rfl) w1 (fun _ h9 => h9) rfl dX11_image_20 ?_
  refine lv_bipush (v := 6) hx hb dX11_image_23 z4 ?_
  refine lv_iload_n hx hb dX11_image_25 rfl (lv_at hl 2 rfl) ?_
  refine lv_imul hx hb dX11_image_26 ?_
  refine tpi z896 ?_
  refine lv_iload_n hx hb dX11_image_27 rfl (lv_at hl 0 rfl) ?_
  refine lv_iadd hx hb dX11_image_28 ?_
  refine tpi z383 ?_
  refine lv_aload_n hx hb dX11_image_29 rfl (lv_at hl 1 rfl) ?_
  refine va_get (D := (dC, dI)) (ci := 11) (v := .ref (n 26)) (C := RX11) (T := TX11) (N := 71) hx hb hts i11 hown hK hP 0 rfl rfl 36 (nlt rfl) w2 (fun _ h9 => h9) rfl dX11_image_30 ?_
  refine lv_iload_n hx hb dX11_image_33 rfl (lv_at hl 0 rfl) ?_
  refine my_iald (v := 0) hx hb hK hP 1 1 rfl rfl z124 rfl dX11_image_34 ?_
  refine my_iastS hx hb hK hP hD hS 2 1 rfl rfl z903 rfl dX11_image_35 (fun H locs hP hD hS => ?_)
  refine lv_aload_n hx hb dX11_image_36 rfl (lv_at hl 1 rfl) ?_
  refine va_get (D := (dC, dI)) (ci := 11) (v := .ref (n 46)) (C := RX11) (T := TX11) (N := 71) hx hb hts i11 hown hK hP 0 rfl rfl 70 (nlt rfl) w3 (fun _ h9 => h9) rfl dX11_image_37 ?_
  refine lv_bipush (v := 6) hx hb dX11_image_40 z4 ?_
  refine lv_iload_n hx hb dX11_image_42 rfl (lv_at hl 2 rfl) ?_
  refine lv_imul hx hb dX11_image_43 ?_
  refine tpi z896 ?_
  refine lv_iload_n hx hb dX11_image_44 rfl (lv_at hl 0 rfl) ?_
  refine lv_iadd hx hb dX11_image_45 ?_
  refine tpi z383 ?_
  refine lv_aload_n hx hb dX11_image_46 rfl (lv_at hl 1 rfl) ?_
  refine va_get (D := (dC, dI)) (ci := 11) (v := .ref (n 27)) (C := RX11) (T := TX11) (N := 71) hx hb hts i11 hown hK hP 0 rfl rfl 37 (nlt rfl) w4 (fun _ h9 => h9) rfl dX11_image_47 ?_
  refine lv_iload_n hx hb dX11_image_50 rfl (lv_at hl 0 rfl) ?_
  refine my_iald (v := 2) hx hb hK hP 3 1 rfl rfl z124 rfl dX11_image_51 ?_
  refine my_iast hx hb hK hP hD hS 4 1 rfl rfl z903 dX11_image_52 (fun H locs hP hD hS => ?_)
  refine lv_iinc (v := 6) (lv' := [(2, .int 6), (0, .ref (n 0)), (1, .int 0)]) hx hb dX11_image_53 hl (k := 0) rfl z104 (nlt rfl) rfl (fun ls hl => ?_)
  refine lv_goto (tgt := 13) hx hb dX11_image_56 z898 ?_
  refine lv_iload_n hx hb dX11_image_13 rfl (lv_at hl 0 rfl) ?_
  refine lv_bipush (v := 6) hx hb dX11_image_14 z4 ?_
  refine lv_icmp_ge (tgt := 59) hx hb dX11_image_16 z895 (fun _ => ?_) (fun c1 => absurd (z105) c1)
  refine lv_aload_n hx hb dX11_image_59 rfl (lv_at hl 1 rfl) ?_
  refine va_get (D := (dC, dI)) (ci := 11) (v := .ref (n 44)) (C := RX11) (T := TX11) (N := 71) hx hb hts i11 hown hK hP 0 rfl rfl 68 (nlt rfl) w5 (fun _ h9 => h9) rfl dX11_image_60 ?_
  refine lv_iload_n hx hb dX11_image_63 rfl (lv_at hl 2 rfl) ?_
  refine lv_aload_n hx hb dX11_image_64 rfl (lv_at hl 1 rfl) ?_
  refine va_get (D := (dC, dI)) (ci := 11) (v := .int 0) (C := RX11) (T := TX11) (N := 71) hx hb hts i11 hown hK hP 0 rfl rfl 39 (nlt rfl) w6 (fun _ h9 => h9) rfl dX11_image_65 ?_
  refine my_iast hx hb hK hP hD hS 5 1 rfl rfl z165 dX11_image_68 (fun H locs hP hD hS => ?_)
  refine lv_aload_n hx hb dX11_image_69 rfl (lv_at hl 1 rfl) ?_
  refine va_get (D := (dC, dI)) (ci := 11) (v := .int 0) (C := RX11) (T := TX11) (N := 71) hx hb hts i11 hown hK hP 0 rfl rfl 39 (nlt rfl) w6 (fun _ h9 => h9) rfl dX11_image_70 ?_
  refine W.widen (k := 0) (n := 0) (by decide +kernel) (by decide +kernel) ?_
  exact ret_i hx hb hr hlocks hS (u := (fun _ => 0)) (hP.sub [] rfl) (hD.sub [] (by decide +kernel) rfl) dX11_image_73

set_option maxHeartbeats 4000000 in
set_option maxRecDepth 100000 in
theorem k385_X1_keep (l : Launch) (dC : Nat → ClassId) (dI : Nat → Nat → Nat) (cB cI cJ cZ cO : ClassId) (r : Nat → Nat) : CV l yX1_keep wsX1_keep ({ frames := 1, cells := 0, slots := 0, locals := 60 }) (dC, dI) (tyL cB cI cJ cZ cO) [.ref (r 49), .ref (r 38)] [((r 49), .inr (1, [.int 0, .ref (r 50), .int 0, .ref (r 51)])), ((r 38), .inr (0, [.ref (r 39), .int 0, .ref (r 40), .ref (r 41), .ref (r 42), .ref (r 43), .ref (r 44), .int 0, .int 0])), ((r 39), .inl (cI, 6, .inl (fun _ => 0))), ((r 50), .inl (cI, 6, .inl (fun _ => 0))), ((r 40), .inl (cI, 6, .inl (upd (upd (upd (upd (upd (upd (fun _ => 0) 0 (-1)) 1 (-1)) 2 (-1)) 3 (-1)) 4 (-1)) 5 (-1)))), ((r 51), .inl (cI, 6, .inl (fun _ => 0)))] (fun u => [((r 49), .inr (1, [.int 1, .ref (r 50), .int 0, .ref (r 51)])), ((r 38), .inr (0, [.ref (r 39), .int 0, .ref (r 40), .ref (r 41), .ref (r 42), .ref (r 43), .ref (r 44), .int 0, .int 0])), ((r 39), .inl (cI, 6, .inl (fun _ => 0))), ((r 50), .inl (cI, 6, .inl (va_cpy (fun _ => 0) (fun _ => 0) 0 0 6))), ((r 40), .inl (cI, 6, .inl (upd (upd (upd (upd (upd (upd (fun _ => 0) 0 (-1)) 1 (-1)) 2 (-1)) 3 (-1)) 4 (-1)) 5 (-1)))), ((r 51), .inl (cI, 6, .inl (va_cpy (upd (upd (upd (upd (upd (upd (fun _ => 0) 0 (-1)) 1 (-1)) 2 (-1)) 3 (-1)) 4 (-1)) 5 (-1)) (fun _ => 0) 0 0 6)))]) := by
  intro sz
  refine ct_open (cc := cX1_keep) (maxL := 2) (ret := none) (by decide) rfl (Nat.le_of_ble_eq_true rfl) ?_
  intro p e s m below meth c ls A hx hb hr hml hts hown hlocks hin hP hK hD hA hS hl
  have hl : lv_has ls 2 [(0, .ref (r 49)), (1, .ref (r 38))] := hl
  have hown : s.vm.findClass RX1 = some m.cls := hown
  have i1 : ∀ w ∈ u_ws RX1 TX1 4, w ∈ wsX1_keep := fun _ h => List.mem_cons_of_mem _ (List.mem_append_left _ (List.mem_append_right _ h))
  have w1 := hts (.fieldLink RX1 18 "GuildCharter$Image" "full" "Z") (List.mem_cons_of_mem _ (List.mem_append_left _ (List.mem_append_left _ (List.mem_of_getElem? (i := 0) rfl))))
  have i0 : ∀ w ∈ u_ws RX0 TX0 9, w ∈ wsX1_keep := fun _ h => List.mem_cons_of_mem _ (List.mem_append_right _ h)
  have w3 := hts (.fieldLink RX1 22 "GuildCharter$Earnest" "size" "I") (List.mem_cons_of_mem _ (List.mem_append_left _ (List.mem_append_left _ (List.mem_of_getElem? (i := 1) rfl))))
  have w4 := hts (.fieldLink RX1 28 "GuildCharter$Image" "size" "I") (List.mem_cons_of_mem _ (List.mem_append_left _ (List.mem_append_left _ (List.mem_of_getElem? (i := 2) rfl))))
  have w5 := hts (.fieldLink RX1 29 "GuildCharter$Earnest" "row" "[I") (List.mem_cons_of_mem _ (List.mem_append_left _ (List.mem_append_left _ (List.mem_of_getElem? (i := 3) rfl))))
  have w6 := hts (.fieldLink RX1 9 "GuildCharter$Image" "row" "[I") (List.mem_cons_of_mem _ (List.mem_append_left _ (List.mem_append_left _ (List.mem_of_getElem? (i := 4) rfl))))
  have w7 := hts (.methodLink RX1 30 arraycopyName) (List.mem_cons_of_mem _ (List.mem_append_left _ (List.mem_append_left _ (List.mem_of_getElem? (i := 5) rfl))))
  have w8 := hts (.native arraycopyName) (List.mem_cons_of_mem _ (List.mem_append_left _ (List.mem_append_left _ (List.mem_of_getElem? (i := 6) rfl))))
  have w9 := hts (.static arraycopyName) (List.mem_cons_of_mem _ (List.mem_append_left _ (List.mem_append_left _ (List.mem_of_getElem? (i := 7) rfl))))
  have w10 := hts (.initialized "java/lang/System") (List.mem_cons_of_mem _ (List.mem_append_left _ (List.mem_append_left _ (List.mem_of_getElem? (i := 8) rfl))))
  have w11 := hts (.fieldLink RX1 36 "GuildCharter$Earnest" "sold" "[I") (List.mem_cons_of_mem _ (List.mem_append_left _ (List.mem_append_left _ (List.mem_of_getElem? (i := 9) rfl))))
  have w12 := hts (.fieldLink RX1 15 "GuildCharter$Image" "sold" "[I") (List.mem_cons_of_mem _ (List.mem_append_left _ (List.mem_append_left _ (List.mem_of_getElem? (i := 10) rfl))))
  refine lv_aload_n hx hb dX1_keep_0 rfl (lv_at hl 0 rfl) ?_
  refine lv_iconst (v := 1) hx hb dX1_keep_1 z39 ?_
  refine va_put (D := (dC, dI)) (ci := 1) (v := .int 1) (ty := tyX1 0) (C := RX1) (T := TX1) (N := 4) hx hb hts i1 tyX1 tyX1_ok nmX1 hown hK hP hD hS 0 rfl rfl 0 (nlt rfl) w1 (fun _ h9 => h9) rfl (tyX1_ok 0 (nlt rfl)) rfl rfl (nlt rfl) dX1_keep_2 (fun H locs hP hD hS => ?_)
  refine lv_aload_n hx hb dX1_keep_5 rfl (lv_at hl 0 rfl) ?_
  refine lv_aload_n hx hb dX1_keep_6 rfl (lv_at hl 1 rfl) ?_
  refine va_get (D := (dC, dI)) (ci := 0) (v := .int 0) (C := RX0) (T := TX0) (N := 9) hx hb hts i0 hown hK hP 1 rfl rfl 1 (nlt rfl) w3 (fun _ h9 => h9) rfl dX1_keep_7 ?_
  refine va_put (D := (dC, dI)) (ci := 1) (v := .int 0) (ty := tyX1 2) (C := RX1) (T := TX1) (N := 4) hx hb hts i1 tyX1 tyX1_ok nmX1 hown hK hP hD hS 0 rfl rfl 2 (nlt rfl) w4 (fun _ h9 => h9) rfl (tyX1_ok 2 (nlt rfl)) rfl rfl (nlt rfl) dX1_keep_10 (fun H locs hP hD hS => ?_)
  refine lv_aload_n hx hb dX1_keep_13 rfl (lv_at hl 1 rfl) ?_
  refine va_get (D := (dC, dI)) (ci := 0) (v := .ref (r 39)) (C := RX0) (T := TX0) (N := 9) hx hb hts i0 hown hK hP 1 rfl rfl 0 (nlt rfl) w5 (fun _ h9 => h9) rfl dX1_keep_14 ?_
  refine lv_iconst (v := 0) hx hb dX1_keep_17 z8 ?_
  refine lv_aload_n hx hb dX1_keep_18 rfl (lv_at hl 0 rfl) ?_
  refine va_get (D := (dC, dI)) (ci := 1) (v := .ref (r 50)) (C := RX1) (T := TX1) (N := 4) hx hb hts i1 hown hK hP 0 rfl rfl 1 (nlt rfl) w6 (fun _ h9 => h9) rfl dX1_keep_19 ?_
  refine lv_iconst (v := 0) hx hb dX1_keep_22 z8 ?_
  refine lv_bipush (v := 6) hx hb dX1_keep_23 z4 ?_
  refine va_copyi hx hb (by rw [hml]; exact hl.1.symm) hown w7 w8 w9 w10 hK hP hD hS 2 3 1 1 rfl rfl rfl rfl rfl (by decide +kernel) (by decide +kernel) (by decide +kernel) (by decide +kernel) (by decide +kernel) (fun _ _ => rfl) (by decide +kernel) (Nat.le_of_ble_eq_true rfl) dX1_keep_25 (fun H locs hP hD hS => ?_)
  have hP : va_P (dC, dI) vwCl [((r 49), .inr (1, [.int 1, .ref (r 50), .int 0, .ref (r 51)])), ((r 38), .inr (0, [.ref (r 39), .int 0, .ref (r 40), .ref (r 41), .ref (r 42), .ref (r 43), .ref (r 44), .int 0, .int 0])), ((r 39), .inl (cI, 6, .inl (fun _ => 0))), ((r 50), .inl (cI, 6, .inl (va_cpy (fun _ => 0) (fun _ => 0) 0 0 6))), ((r 40), .inl (cI, 6, .inl (upd (upd (upd (upd (upd (upd (fun _ => 0) 0 (-1)) 1 (-1)) 2 (-1)) 3 (-1)) 4 (-1)) 5 (-1)))), ((r 51), .inl (cI, 6, .inl (fun _ => 0)))] H := hP
  have hD : va_D A [((r 49), .inr (1, [.int 1, .ref (r 50), .int 0, .ref (r 51)])), ((r 38), .inr (0, [.ref (r 39), .int 0, .ref (r 40), .ref (r 41), .ref (r 42), .ref (r 43), .ref (r 44), .int 0, .int 0])), ((r 39), .inl (cI, 6, .inl (fun _ => 0))), ((r 50), .inl (cI, 6, .inl (va_cpy (fun _ => 0) (fun _ => 0) 0 0 6))), ((r 40), .inl (cI, 6, .inl (upd (upd (upd (upd (upd (upd (fun _ => 0) 0 (-1)) 1 (-1)) 2 (-1)) 3 (-1)) 4 (-1)) 5 (-1)))), ((r 51), .inl (cI, 6, .inl (fun _ => 0)))] := hD
  refine lv_aload_n hx hb dX1_keep_28 rfl (lv_at hl 1 rfl) ?_
  refine va_get (D := (dC, dI)) (ci := 0) (v := .ref (r 40)) (C := RX0) (T := TX0) (N := 9) hx hb hts i0 hown hK hP 1 rfl rfl 2 (nlt rfl) w11 (fun _ h9 => h9) rfl dX1_keep_29 ?_
  refine lv_iconst (v := 0) hx hb dX1_keep_32 z8 ?_
  refine lv_aload_n hx hb dX1_keep_33 rfl (lv_at hl 0 rfl) ?_
  refine va_get (D := (dC, dI)) (ci := 1) (v := .ref (r 51)) (C := RX1) (T := TX1) (N := 4) hx hb hts i1 hown hK hP 0 rfl rfl 3 (nlt rfl) w12 (fun _ h9 => h9) rfl dX1_keep_34 ?_
  refine lv_iconst (v := 0) hx hb dX1_keep_37 z8 ?_
  refine lv_bipush (v := 6) hx hb dX1_keep_38 z4 ?_
  refine va_copyi hx hb (by rw [hml]; exact hl.1.symm) hown w7 w8 w9 w10 hK hP hD hS 4 5 1 1 rfl rfl rfl rfl rfl (by decide +kernel) (by decide +kernel) (by decide +kernel) (by decide +kernel) (by decide +kernel) (fun _ _ => rfl) (by decide +kernel) (Nat.le_of_ble_eq_true rfl) dX1_keep_40 (fun H locs hP hD hS => ?_)
  refine W.widen (k := 0) (n := 0) (by decide +kernel) (by decide +kernel) ?_
  exact ret_v hx hb hr hlocks hS (u := (fun _ => 0)) (hP.sub [0, 1, 2, 3, 4, 5] rfl) (hD.sub [0, 1, 2, 3, 4, 5] (by decide +kernel) rfl) dX1_keep_43

set_option maxHeartbeats 4000000 in
set_option maxRecDepth 100000 in
theorem k386_X10_image (l : Launch) (dC : Nat → ClassId) (dI : Nat → Nat → Nat) (cB cI cJ cZ cO : ClassId) (r : Nat → Nat) : CI l yX10_image wsX10_image ({ frames := 2, cells := 0, slots := 0, locals := 81 }) (dC, dI) (tyL cB cI cJ cZ cO) [.ref (r 0), .int 1] [((r 0), .inr (10, fX r)), ((r 45), .inl (cO, 3, .inr (.inr (.inr (.inr (va_up (va_up (va_up (fun _ => none) 0 (some (r 46))) 1 (some (r 49))) 2 (some (r 52)))))))), ((r 49), .inr (1, [.int 0, .ref (r 50), .int 0, .ref (r 51)])), ((r 38), .inr (0, [.ref (r 39), .int 0, .ref (r 40), .ref (r 41), .ref (r 42), .ref (r 43), .ref (r 44), .int 0, .int 0])), ((r 39), .inl (cI, 6, .inl (fun _ => 0))), ((r 50), .inl (cI, 6, .inl (fun _ => 0))), ((r 40), .inl (cI, 6, .inl (upd (upd (upd (upd (upd (upd (fun _ => 0) 0 (-1)) 1 (-1)) 2 (-1)) 3 (-1)) 4 (-1)) 5 (-1)))), ((r 51), .inl (cI, 6, .inl (fun _ => 0)))] (fun _ => []) 0 := by
  intro sz
  refine ct_open (cc := cX10_image) (maxL := 2) (ret := (some .int)) (by decide) rfl (Nat.le_of_ble_eq_true rfl) ?_
  intro p e s m below meth c ls A hx hb hr hml hts hown hlocks hin hP hK hD hA hS hl
  have hl : lv_has ls 2 [(0, .ref (r 0)), (1, .int 1)] := hl
  have hown : s.vm.findClass RX10 = some m.cls := hown
  have i10 : ∀ w ∈ u_ws RX10 TX10 18, w ∈ wsX10_image := fun _ h => List.mem_cons_of_mem _ (List.mem_append_left _ (List.mem_append_left _ (List.mem_append_right _ h)))
  have w1 := hts (.fieldLink RX10 40 "GuildCharter" "boxes" "[LGuildCharter$Image;") (List.mem_cons_of_mem _ (List.mem_append_left _ (List.mem_append_left _ (List.mem_append_left _ (List.mem_of_getElem? (i := 0) rfl)))))
  have w2 := hts (.fieldLink RX10 33 "GuildCharter" "earnest" "LGuildCharter$Earnest;") (List.mem_cons_of_mem _ (List.mem_append_left _ (List.mem_append_left _ (List.mem_append_left _ (List.mem_of_getElem? (i := 1) rfl)))))
  have i0 : ∀ w ∈ u_ws RX0 TX0 9, w ∈ wsX10_image := fun _ h => List.mem_cons_of_mem _ (List.mem_append_left _ (List.mem_append_right _ h))
  have w4 := hts (.fieldLink RX10 177 "GuildCharter$Earnest" "size" "I") (List.mem_cons_of_mem _ (List.mem_append_left _ (List.mem_append_left _ (List.mem_append_left _ (List.mem_of_getElem? (i := 2) rfl)))))
  refine lv_iload_n hx hb dX10_image_0 rfl (lv_at hl 1 rfl) ?_
  refine lv_if_lt (tgt := 9) hx hb dX10_image_1 z891 (fun c1 => absurd c1 (z608)) (fun _ => ?_)
  refine lv_iload_n hx hb dX10_image_4 rfl (lv_at hl 1 rfl) ?_
  refine lv_iconst (v := 3) hx hb dX10_image_5 z69 ?_
  refine lv_icmp_lt (tgt := 11) hx hb dX10_image_6 z892 (fun _ => ?_) (fun c1 => absurd (z904) c1)
  refine lv_aload_n hx hb dX10_image_11 rfl (lv_at hl 0 rfl) ?_
  refine va_get (D := (dC, dI)) (ci := 10) (v := .ref (r 45)) (C := RX10) (T := TX10) (N := 18) hx hb hts i10 hown hK hP 0 rfl rfl 6 (nlt rfl) w1 (fun _ h9 => h9) rfl dX10_image_12 ?_
  refine lv_iload_n hx hb dX10_image_15 rfl (lv_at hl 1 rfl) ?_
  refine my_aldq (v := (r 49)) hx hb hK hP 1 4 rfl rfl z166 rfl dX10_image_16 ?_
  refine lv_aload_n hx hb dX10_image_17 rfl (lv_at hl 0 rfl) ?_
  refine va_get (D := (dC, dI)) (ci := 10) (v := .ref (r 38)) (C := RX10) (T := TX10) (N := 18) hx hb hts i10 hown hK hP 0 rfl rfl 5 (nlt rfl) w2 (fun _ h9 => h9) rfl dX10_image_18 ?_
  refine call_vV (ci := 1) (As := [.ref (r 38)]) (rest := []) (wr := [((r 0), .inr (10, fX r)), ((r 45), .inl (cO, 3, .inr (.inr (.inr (.inr (va_up (va_up (va_up (fun _ => none) 0 (some (r 46))) 1 (some (r 49))) 2 (some (r 52))))))))]) ⟨hx, hb, hml, hown, hts⟩ (k385_X1_keep l dC dI cB cI cJ cZ cO r) (cwV 1 hts gX10_image_X1_keep rfl rfl rfl ⟨rfl, z894⟩ ⟨Nat.le_of_ble_eq_true rfl, Nat.le_of_ble_eq_true rfl⟩) hK hP hD hS hA [2, 3, 4, 5, 6, 7] [0, 1] rfl rfl (by decide +kernel) (by decide +kernel) (by decide +kernel) rfl rfl rfl hl.1 (Nat.le_of_ble_eq_true rfl) rfl rfl dX10_image_21 ⟨by decide +kernel, by decide +kernel⟩ (fun u0 H locs hP hD hS => ?_)
  refine lv_aload_n hx hb dX10_image_24 rfl (lv_at hl 0 rfl) ?_
  refine va_get (D := (dC, dI)) (ci := 10) (v := .ref (r 38)) (C := RX10) (T := TX10) (N := 18) hx hb hts i10 hown hK hP 0 rfl rfl 5 (nlt rfl) w2 (fun _ h9 => h9) rfl dX10_image_25 ?_
  refine va_get (D := (dC, dI)) (ci := 0) (v := .int 0) (C := RX0) (T := TX0) (N := 9) hx hb hts i0 hown hK hP 3 rfl rfl 1 (nlt rfl) w4 (fun _ h9 => h9) rfl dX10_image_28 ?_
  refine W.widen (k := 0) (n := 0) (by decide +kernel) (by decide +kernel) ?_
  exact ret_i hx hb hr hlocks hS (u := (fun _ => 0)) (hP.sub [] rfl) (hD.sub [] (by decide +kernel) rfl) dX10_image_31

set_option maxHeartbeats 4000000 in
set_option maxRecDepth 100000 in
theorem k387_X11_image (l : Launch) (dC : Nat → ClassId) (dI : Nat → Nat → Nat) (cB cI cJ cZ cO : ClassId) (n : Nat → Nat) : CI l yX11_image wsX11_image ({ frames := 1, cells := 0, slots := 0, locals := 22 }) (dC, dI) (tyL cB cI cJ cZ cO) [.ref (n 0), .int 1] [((n 0), .inr (11, fM n)), ((n 26), .inl (cI, 6, .inl (fun _ => 0))), ((n 45), .inl (cI, 18, .inl (fun _ => 0))), ((n 27), .inl (cI, 6, .inl (upd (upd (upd (upd (fun _ => 0) 1 1) 2 2) 4 1) 5 2))), ((n 46), .inl (cI, 18, .inl (fun _ => 0))), ((n 44), .inl (cI, 3, .inl (upd (upd (upd (fun _ => 0) 0 (-1)) 1 (-1)) 2 (-1))))] (fun _ => []) 0 := by
  intro sz
  refine ct_open (cc := cX11_image) (maxL := 3) (ret := (some .int)) (by decide) rfl (Nat.le_of_ble_eq_true rfl) ?_
  intro p e s m below meth c ls A hx hb hr hml hts hown hlocks hin hP hK hD hA hS hl
  have hl : lv_has ls 3 [(0, .ref (n 0)), (1, .int 1)] := hl
  have hown : s.vm.findClass RX11 = some m.cls := hown
  have i11 : ∀ w ∈ u_ws RX11 TX11 71, w ∈ wsX11_image := fun _ h => List.mem_cons_of_mem _ (List.mem_append_right _ h)
  have w1 := hts (.fieldLink RX11 152 "GuildCharterModel" "boxRow" "[I") (List.mem_cons_of_mem _ (List.mem_append_left _ (List.mem_of_getElem? (i := 0) rfl)))
  have w2 := hts (.fieldLink RX11 92 "GuildCharterModel" "row" "[I") (List.mem_cons_of_mem _ (List.mem_append_left _ (List.mem_of_getElem? (i := 1) rfl)))
  have w3 := hts (.fieldLink RX11 155 "GuildCharterModel" "boxTurn" "[I") (List.mem_cons_of_mem _ (List.mem_append_left _ (List.mem_of_getElem? (i := 2) rfl)))
  have w4 := hts (.fieldLink RX11 95 "GuildCharterModel" "turnNow" "[I") (List.mem_cons_of_mem _ (List.mem_append_left _ (List.mem_of_getElem? (i := 3) rfl)))
  have w5 := hts (.fieldLink RX11 149 "GuildCharterModel" "boxMany" "[I") (List.mem_cons_of_mem _ (List.mem_append_left _ (List.mem_of_getElem? (i := 4) rfl)))
  have w6 := hts (.fieldLink RX11 336 "GuildCharterModel" "many" "I") (List.mem_cons_of_mem _ (List.mem_append_left _ (List.mem_of_getElem? (i := 5) rfl)))
  refine lv_iload_n hx hb dX11_image_0 rfl (lv_at hl 1 rfl) ?_
  refine lv_iconst (v := 0) hx hb dX11_image_1 z8 ?_
  refine lv_iconst (v := 2) hx hb dX11_image_2 z54 ?_
  refine call_iS (As := [.int 1, .int 0, .int 2]) (rest := []) (wr := [((n 0), .inr (11, fM n)), ((n 26), .inl (cI, 6, .inl (fun _ => 0))), ((n 45), .inl (cI, 18, .inl (fun _ => 0))), ((n 27), .inl (cI, 6, .inl (upd (upd (upd (upd (fun _ => 0) 1 1) 2 2) 4 1) 5 2))), ((n 46), .inl (cI, 18, .inl (fun _ => 0))), ((n 44), .inl (cI, 3, .inl (upd (upd (upd (fun _ => 0) 0 (-1)) 1 (-1)) 2 (-1))))]) ⟨hx, hb, hml, hown, hts⟩ (k105_X11_isIn l dC dI cB cI cJ cZ cO) (va_cwS 3 hts gX11_image_X11_isIn rfl rfl rfl z587 ⟨Nat.le_of_ble_eq_true rfl, Nat.le_of_ble_eq_true rfl⟩) hK hP hD hS hA [] [0, 1, 2, 3, 4, 5] rfl rfl (by decide +kernel) (by decide +kernel) (by decide +kernel) hl.1 (Nat.le_of_ble_eq_true rfl) rfl rfl dX11_image_3 ⟨by decide +kernel, by decide +kernel⟩ (fun u0 H locs hP hD hS => ?_)
  refine lv_if_ne (tgt := 11) hx hb dX11_image_6 z892 (fun _ => ?_) (fun c1 => absurd c1 (z525))
  refine lv_iconst (v := 0) hx hb dX11_image_11 z8 ?_
  refine lv_istore_n (lv' := [(2, .int 0), (0, .ref (n 0)), (1, .int 1)]) hx hb dX11_image_12 rfl hl (nlt rfl) rfl (fun ls hl => ?_)
  refine lv_iload_n hx hb dX11_image_13 rfl (lv_at hl 0 rfl) ?_
  refine lv_bipush (v := 6) hx hb dX11_image_14 z4 ?_
  refine lv_icmp_ge (tgt := 59) hx hb dX11_image_16 z895 (fun c1 => absurd c1 (z78)) (fun _ => ?_)
  refine lv_aload_n hx hb dX11_image_19 rfl (lv_at hl 1 rfl) ?_
  refine va_get (D := (dC, dI)) (ci := 11) (v := .ref (n 45)) (C := RX11) (T := TX11) (N := 71) hx hb hts i11 hown hK hP 0 rfl rfl 69 (nlt rfl) w1 (fun _ h9 => h9) rfl dX11_image_20 ?_
  refine lv_bipush (v := 6) hx hb dX11_image_23 z4 ?_
  refine lv_iload_n hx hb dX11_image_25 rfl (lv_at hl 2 rfl) ?_
  refine lv_imul hx hb dX11_image_26 ?_
  refine tpi z905 ?_
  refine lv_iload_n hx hb dX11_image_27 rfl (lv_at hl 0 rfl) ?_
  refine lv_iadd hx hb dX11_image_28 ?_
  refine tpi z906 ?_
  refine lv_aload_n hx hb dX11_image_29 rfl (lv_at hl 1 rfl) ?_
  refine va_get (D := (dC, dI)) (ci := 11) (v := .ref (n 26)) (C := RX11) (T := TX11) (N := 71) hx hb hts i11 hown hK hP 0 rfl rfl 36 (nlt rfl) w2 (fun _ h9 => h9) rfl dX11_image_30 ?_
  refine lv_iload_n hx hb dX11_image_33 rfl (lv_at hl 0 rfl) ?_
  refine my_iald (v := 0) hx hb hK hP 1 1 rfl rfl z38 rfl dX11_image_34 ?_
  refine my_iastS hx hb hK hP hD hS 2 1 rfl rfl z907 rfl dX11_image_35 (fun H locs hP hD hS => ?_)
  refine lv_aload_n hx hb dX11_image_36 rfl (lv_at hl 1 rfl) ?_
  refine va_get (D := (dC, dI)) (ci := 11) (v := .ref (n 46)) (C := RX11) (T := TX11) (N := 71) hx hb hts i11 hown hK hP 0 rfl rfl 70 (nlt rfl) w3 (fun _ h9 => h9) rfl dX11_image_37 ?_
  refine lv_bipush (v := 6) hx hb dX11_image_40 z4 ?_
  refine lv_iload_n hx hb dX11_image_42 rfl (lv_at hl 2 rfl) ?_
  refine lv_imul hx hb dX11_image_43 ?_
  refine tpi z905 ?_
  refine lv_iload_n hx hb dX11_image_44 rfl (lv_at hl 0 rfl) ?_
  refine lv_iadd hx hb dX11_image_45 ?_
  refine tpi z906 ?_
  refine lv_aload_n hx hb dX11_image_46 rfl (lv_at hl 1 rfl) ?_
  refine va_get (D := (dC, dI)) (ci := 11) (v := .ref (n 27)) (C := RX11) (T := TX11) (N := 71) hx hb hts i11 hown hK hP 0 rfl rfl 37 (nlt rfl) w4 (fun _ h9 => h9) rfl dX11_image_47 ?_
  refine lv_iload_n hx hb dX11_image_50 rfl (lv_at hl 0 rfl) ?_
  refine my_iald (v := 0) hx hb hK hP 3 1 rfl rfl z38 rfl dX11_image_51 ?_
  refine my_iastS hx hb hK hP hD hS 4 1 rfl rfl z907 rfl dX11_image_52 (fun H locs hP hD hS => ?_)
  refine lv_iinc (v := 1) (lv' := [(2, .int 1), (0, .ref (n 0)), (1, .int 1)]) hx hb dX11_image_53 hl (k := 0) rfl z17 (nlt rfl) rfl (fun ls hl => ?_)
  refine lv_goto (tgt := 13) hx hb dX11_image_56 z898 ?_
  refine lv_iload_n hx hb dX11_image_13 rfl (lv_at hl 0 rfl) ?_
  refine lv_bipush (v := 6) hx hb dX11_image_14 z4 ?_
  refine lv_icmp_ge (tgt := 59) hx hb dX11_image_16 z895 (fun c1 => absurd c1 (z80)) (fun _ => ?_)
  refine lv_aload_n hx hb dX11_image_19 rfl (lv_at hl 1 rfl) ?_
  refine va_get (D := (dC, dI)) (ci := 11) (v := .ref (n 45)) (C := RX11) (T := TX11) (N := 71) hx hb hts i11 hown hK hP 0 rfl rfl 69 (nlt rfl) w1 (fun _ h9 => h9) rfl dX11_image_20 ?_
  refine lv_bipush (v := 6) hx hb dX11_image_23 z4 ?_
  refine lv_iload_n hx hb dX11_image_25 rfl (lv_at hl 2 rfl) ?_
  refine lv_imul hx hb dX11_image_26 ?_
  refine tpi z905 ?_
  refine lv_iload_n hx hb dX11_image_27 rfl (lv_at hl 0 rfl) ?_
  refine lv_iadd hx hb dX11_image_28 ?_
  refine tpi z305 ?_
  refine lv_aload_n hx hb dX11_image_29 rfl (lv_at hl 1 rfl) ?_
  refine va_get (D := (dC, dI)) (ci := 11) (v := .ref (n 26)) (C := RX11) (T := TX11) (N := 71) hx hb hts i11 hown hK hP 0 rfl rfl 36 (nlt rfl) w2 (fun _ h9 => h9) rfl dX11_image_30 ?_
  refine lv_iload_n hx hb dX11_image_33 rfl (lv_at hl 0 rfl) ?_
  refine my_iald (v := 0) hx hb hK hP 1 1 rfl rfl z53 rfl dX11_image_34 ?_
  refine my_iastS hx hb hK hP hD hS 2 1 rfl rfl z908 rfl dX11_image_35 (fun H locs hP hD hS => ?_)
  refine lv_aload_n hx hb dX11_image_36 rfl (lv_at hl 1 rfl) ?_
  refine va_get (D := (dC, dI)) (ci := 11) (v := .ref (n 46)) (C := RX11) (T := TX11) (N := 71) hx hb hts i11 hown hK hP 0 rfl rfl 70 (nlt rfl) w3 (fun _ h9 => h9) rfl dX11_image_37 ?_
  refine lv_bipush (v := 6) hx hb dX11_image_40 z4 ?_
  refine lv_iload_n hx hb dX11_image_42 rfl (lv_at hl 2 rfl) ?_
  refine lv_imul hx hb dX11_image_43 ?_
  refine tpi z905 ?_
  refine lv_iload_n hx hb dX11_image_44 rfl (lv_at hl 0 rfl) ?_
  refine lv_iadd hx hb dX11_image_45 ?_
  refine tpi z305 ?_
  refine lv_aload_n hx hb dX11_image_46 rfl (lv_at hl 1 rfl) ?_
  refine va_get (D := (dC, dI)) (ci := 11) (v := .ref (n 27)) (C := RX11) (T := TX11) (N := 71) hx hb hts i11 hown hK hP 0 rfl rfl 37 (nlt rfl) w4 (fun _ h9 => h9) rfl dX11_image_47 ?_
  refine lv_iload_n hx hb dX11_image_50 rfl (lv_at hl 0 rfl) ?_
  refine my_iald (v := 1) hx hb hK hP 3 1 rfl rfl z53 rfl dX11_image_51 ?_
  refine my_iast hx hb hK hP hD hS 4 1 rfl rfl z908 dX11_image_52 (fun H locs hP hD hS => ?_)
  refine lv_iinc (v := 2) (lv' := [(2, .int 2), (0, .ref (n 0)), (1, .int 1)]) hx hb dX11_image_53 hl (k := 0) rfl z24 (nlt rfl) rfl (fun ls hl => ?_)
  refine lv_goto (tgt := 13) hx hb dX11_image_56 z898 ?_
  refine lv_iload_n hx hb dX11_image_13 rfl (lv_at hl 0 rfl) ?_
  refine lv_bipush (v := 6) hx hb dX11_image_14 z4 ?_
  refine lv_icmp_ge (tgt := 59) hx hb dX11_image_16 z895 (fun c1 => absurd c1 (z83)) (fun _ => ?_)
  refine lv_aload_n hx hb dX11_image_19 rfl (lv_at hl 1 rfl) ?_
  refine va_get (D := (dC, dI)) (ci := 11) (v := .ref (n 45)) (C := RX11) (T := TX11) (N := 71) hx hb hts i11 hown hK hP 0 rfl rfl 69 (nlt rfl) w1 (fun _ h9 => h9) rfl dX11_image_20 ?_
  refine lv_bipush (v := 6) hx hb dX11_image_23 z4 ?_
  refine lv_iload_n hx hb dX11_image_25 rfl (lv_at hl 2 rfl) ?_
  refine lv_imul hx hb dX11_image_26 ?_
  refine tpi z905 ?_
  refine lv_iload_n hx hb dX11_image_27 rfl (lv_at hl 0 rfl) ?_
  refine lv_iadd hx hb dX11_image_28 ?_
  refine tpi z909 ?_
  refine lv_aload_n hx hb dX11_image_29 rfl (lv_at hl 1 rfl) ?_
  refine va_get (D := (dC, dI)) (ci := 11) (v := .ref (n 26)) (C := RX11) (T := TX11) (N := 71) hx hb hts i11 hown hK hP 0 rfl rfl 36 (nlt rfl) w2 (fun _ h9 => h9) rfl dX11_image_30 ?_
  refine lv_iload_n hx hb dX11_image_33 rfl (lv_at hl 0 rfl) ?_
  refine my_iald (v := 0) hx hb hK hP 1 1 rfl rfl z68 rfl dX11_image_34 ?_
  refine my_iastS hx hb hK hP hD hS 2 1 rfl rfl z910 rfl dX11_image_35 (fun H locs hP hD hS => ?_)
  refine lv_aload_n hx hb dX11_image_36 rfl (lv_at hl 1 rfl) ?_
  refine va_get (D := (dC, dI)) (ci := 11) (v := .ref (n 46)) (C := RX11) (T := TX11) (N := 71) hx hb hts i11 hown hK hP 0 rfl rfl 70 (nlt rfl) w3 (fun _ h9 => h9) rfl dX11_image_37 ?_
  refine lv_bipush (v := 6) hx hb dX11_image_40 z4 ?_
  refine lv_iload_n hx hb dX11_image_42 rfl (lv_at hl 2 rfl) ?_
  refine lv_imul hx hb dX11_image_43 ?_
  refine tpi z905 ?_
  refine lv_iload_n hx hb dX11_image_44 rfl (lv_at hl 0 rfl) ?_
  refine lv_iadd hx hb dX11_image_45 ?_
  refine tpi z909 ?_
  refine lv_aload_n hx hb dX11_image_46 rfl (lv_at hl 1 rfl) ?_
  refine va_get (D := (dC, dI)) (ci := 11) (v := .ref (n 27)) (C := RX11) (T := TX11) (N := 71) hx hb hts i11 hown hK hP 0 rfl rfl 37 (nlt rfl) w4 (fun _ h9 => h9) rfl dX11_image_47 ?_
  refine lv_iload_n hx hb dX11_image_50 rfl (lv_at hl 0 rfl) ?_
  refine my_iald (v := 2) hx hb hK hP 3 1 rfl rfl z68 rfl dX11_image_51 ?_
  refine my_iast hx hb hK hP hD hS 4 1 rfl rfl z910 dX11_image_52 (fun H locs hP hD hS => ?_)
  refine lv_iinc (v := 3) (lv' := [(2, .int 3), (0, .ref (n 0)), (1, .int 1)]) hx hb dX11_image_53 hl (k := 0) rfl z30 (nlt rfl) rfl (fun ls hl => ?_)
  refine lv_goto (tgt := 13) hx hb dX11_image_56 z898 ?_
  refine lv_iload_n hx hb dX11_image_13 rfl (lv_at hl 0 rfl) ?_
  refine lv_bipush (v := 6) hx hb dX11_image_14 z4 ?_
  refine lv_icmp_ge (tgt := 59) hx hb dX11_image_16 z895 (fun c1 => absurd c1 (z88)) (fun _ => ?_)
  refine lv_aload_n hx hb dX11_image_19 rfl (lv_at hl 1 rfl) ?_
  refine va_get (D := (dC, dI)) (ci := 11) (v := .ref (n 45)) (C := RX11) (T := TX11) (N := 71) hx hb hts i11 hown hK hP 0 rfl rfl 69 (nlt rfl) w1 (fun _ h9 => h9) rfl dX11_image_20 ?_
  refine lv_bipush (v := 6) hx hb dX11_image_23 z4 ?_
  refine lv_iload_n hx hb dX11_image_25 rfl (lv_at hl 2 rfl) ?_
  refine lv_imul hx hb dX11_image_26 ?_
  refine tpi z905 ?_
  refine lv_iload_n hx hb dX11_image_27 rfl (lv_at hl 0 rfl) ?_
  refine lv_iadd hx hb dX11_image_28 ?_
  refine tpi z911 ?_
  refine lv_aload_n hx hb dX11_image_29 rfl (lv_at hl 1 rfl) ?_
  refine va_get (D := (dC, dI)) (ci := 11) (v := .ref (n 26)) (C := RX11) (T := TX11) (N := 71) hx hb hts i11 hown hK hP 0 rfl rfl 36 (nlt rfl) w2 (fun _ h9 => h9) rfl dX11_image_30 ?_
  refine lv_iload_n hx hb dX11_image_33 rfl (lv_at hl 0 rfl) ?_
  refine my_iald (v := 0) hx hb hK hP 1 1 rfl rfl z76 rfl dX11_image_34 ?_
  refine my_iastS hx hb hK hP hD hS 2 1 rfl rfl z912 rfl dX11_image_35 (fun H locs hP hD hS => ?_)
  refine lv_aload_n hx hb dX11_image_36 rfl (lv_at hl 1 rfl) ?_
  refine va_get (D := (dC, dI)) (ci := 11) (v := .ref (n 46)) (C := RX11) (T := TX11) (N := 71) hx hb hts i11 hown hK hP 0 rfl rfl 70 (nlt rfl) w3 (fun _ h9 => h9) rfl dX11_image_37 ?_
  refine lv_bipush (v := 6) hx hb dX11_image_40 z4 ?_
  refine lv_iload_n hx hb dX11_image_42 rfl (lv_at hl 2 rfl) ?_
  refine lv_imul hx hb dX11_image_43 ?_
  refine tpi z905 ?_
  refine lv_iload_n hx hb dX11_image_44 rfl (lv_at hl 0 rfl) ?_
  refine lv_iadd hx hb dX11_image_45 ?_
  refine tpi z911 ?_
  refine lv_aload_n hx hb dX11_image_46 rfl (lv_at hl 1 rfl) ?_
  refine va_get (D := (dC, dI)) (ci := 11) (v := .ref (n 27)) (C := RX11) (T := TX11) (N := 71) hx hb hts i11 hown hK hP 0 rfl rfl 37 (nlt rfl) w4 (fun _ h9 => h9) rfl dX11_image_47 ?_
  refine lv_iload_n hx hb dX11_image_50 rfl (lv_at hl 0 rfl) ?_
  refine my_iald (v := 0) hx hb hK hP 3 1 rfl rfl z76 rfl dX11_image_51 ?_
  refine my_iastS hx hb hK hP hD hS 4 1 rfl rfl z912 rfl dX11_image_52 (fun H locs hP hD hS => ?_)
  refine lv_iinc (v := 4) (lv' := [(2, .int 4), (0, .ref (n 0)), (1, .int 1)]) hx hb dX11_image_53 hl (k := 0) rfl z36 (nlt rfl) rfl (fun ls hl => ?_)
  refine lv_goto (tgt := 13) hx hb dX11_image_56 z898 ?_
  refine lv_iload_n hx hb dX11_image_13 rfl (lv_at hl 0 rfl) ?_
  refine lv_bipush (v := 6) hx hb dX11_image_14 z4 ?_
  refine lv_icmp_ge (tgt := 59) hx hb dX11_image_16 z895 (fun c1 => absurd c1 (z93)) (fun _ => ?_)
  refine lv_aload_n hx hb dX11_image_19 rfl (lv_at hl 1 rfl) ?_
  refine va_get (D := (dC, dI)) (ci := 11) (v := .ref (n 45)) (C := RX11) (T := TX11) (N := 71) hx hb hts i11 hown hK hP 0 rfl rfl 69 (nlt rfl) w1 (fun _ h9 => h9) rfl dX11_image_20 ?_
  refine lv_bipush (v := 6) hx hb dX11_image_23 z4 ?_
  refine lv_iload_n hx hb dX11_image_25 rfl (lv_at hl 2 rfl) ?_
  refine lv_imul hx hb dX11_image_26 ?_
  refine tpi z905 ?_
  refine lv_iload_n hx hb dX11_image_27 rfl (lv_at hl 0 rfl) ?_
  refine lv_iadd hx hb dX11_image_28 ?_
  refine tpi z913 ?_
  refine lv_aload_n hx hb dX11_image_29 rfl (lv_at hl 1 rfl) ?_
  refine va_get (D := (dC, dI)) (ci := 11) (v := .ref (n 26)) (C := RX11) (T := TX11) (N := 71) hx hb hts i11 hown hK hP 0 rfl rfl 36 (nlt rfl) w2 (fun _ h9 => h9) rfl dX11_image_30 ?_
  refine lv_iload_n hx hb dX11_image_33 rfl (lv_at hl 0 rfl) ?_
  refine my_iald (v := 0) hx hb hK hP 1 1 rfl rfl z106 rfl dX11_image_34 ?_
  refine my_iastS hx hb hK hP hD hS 2 1 rfl rfl z914 rfl dX11_image_35 (fun H locs hP hD hS => ?_)
  refine lv_aload_n hx hb dX11_image_36 rfl (lv_at hl 1 rfl) ?_
  refine va_get (D := (dC, dI)) (ci := 11) (v := .ref (n 46)) (C := RX11) (T := TX11) (N := 71) hx hb hts i11 hown hK hP 0 rfl rfl 70 (nlt rfl) w3 (fun _ h9 => h9) rfl dX11_image_37 ?_
  refine lv_bipush (v := 6) hx hb dX11_image_40 z4 ?_
  refine lv_iload_n hx hb dX11_image_42 rfl (lv_at hl 2 rfl) ?_
  refine lv_imul hx hb dX11_image_43 ?_
  refine tpi z905 ?_
  refine lv_iload_n hx hb dX11_image_44 rfl (lv_at hl 0 rfl) ?_
  refine lv_iadd hx hb dX11_image_45 ?_
  refine tpi z913 ?_
  refine lv_aload_n hx hb dX11_image_46 rfl (lv_at hl 1 rfl) ?_
  refine va_get (D := (dC, dI)) (ci := 11) (v := .ref (n 27)) (C := RX11) (T := TX11) (N := 71) hx hb hts i11 hown hK hP 0 rfl rfl 37 (nlt rfl) w4 (fun _ h9 => h9) rfl dX11_image_47 ?_
  refine lv_iload_n hx hb dX11_image_50 rfl (lv_at hl 0 rfl) ?_
  refine my_iald (v := 1) hx hb hK hP 3 1 rfl rfl z106 rfl dX11_image_51 ?_
  refine my_iast hx hb hK hP hD hS 4 1 rfl rfl z914 dX11_image_52 (fun H locs hP hD hS => ?_)
  have hP : va_P (dC, dI) vwCl [((n 0), .inr (11, fM n)), ((n 26), .inl (cI, 6, .inl (fun _ => 0))), ((n 45), .inl (cI, 18, .inl (fun _ => 0))), ((n 27), .inl (cI, 6, .inl (upd (upd (upd (upd (fun _ => 0) 1 1) 2 2) 4 1) 5 2))), ((n 46), .inl (cI, 18, .inl (upd (upd (upd (fun _ => 0) 7 1) 8 2) 10 1))), ((n 44), .inl (cI, 3, .inl (upd (upd (upd (fun _ => 0) 0 (-1)) 1 (-1)) 2 (-1))))] H := hP
  have hD : va_D A [((n 0), .inr (11, fM n)), ((n 26), .inl (cI, 6, .inl (fun _ => 0))), ((n 45), .inl (cI, 18, .inl (fun _ => 0))), ((n 27), .inl (cI, 6, .inl (upd (upd (upd (upd (fun _ => 0) 1 1) 2 2) 4 1) 5 2))), ((n 46), .inl (cI, 18, .inl (upd (upd (upd (fun _ => 0) 7 1) 8 2) 10 1))), ((n 44), .inl (cI, 3, .inl (upd (upd (upd (fun _ => 0) 0 (-1)) 1 (-1)) 2 (-1))))] := hD
  refine lv_iinc (v := 5) (lv' := [(2, .int 5), (0, .ref (n 0)), (1, .int 1)]) hx hb dX11_image_53 hl (k := 0) rfl z98 (nlt rfl) rfl (fun ls hl => ?_)
  refine lv_goto (tgt := 13) hx hb dX11_image_56 z898 ?_
  refine lv_iload_n hx hb dX11_image_13 rfl (lv_at hl 0 rfl) ?_
  refine lv_bipush (v := 6) hx hb dX11_image_14 z4 ?_
  refine lv_icmp_ge (tgt := 59) hx hb dX11_image_16 z895 (fun c1 => absurd c1 (z99)) (fun _ => ?_)
  refine lv_aload_n hx hb dX11_image_19 rfl (lv_at hl 1 rfl) ?_
  refine va_get (D := (dC, dI)) (ci := 11) (v := .ref (n 45)) (C := RX11) (T := TX11) (N := 71) hx hb hts i11 hown hK hP 0 rfl rfl 69 (nlt rfl) w1 (fun _ h9 => h9) rfl dX11_image_20 ?_
  refine lv_bipush (v := 6) hx hb dX11_image_23 z4 ?_
  refine lv_iload_n hx hb dX11_image_25 rfl (lv_at hl 2 rfl) ?_
  refine lv_imul hx hb dX11_image_26 ?_
  refine tpi z905 ?_
  refine lv_iload_n hx hb dX11_image_27 rfl (lv_at hl 0 rfl) ?_
  refine lv_iadd hx hb dX11_image_28 ?_
  refine tpi z915 ?_
  refine lv_aload_n hx hb dX11_image_29 rfl (lv_at hl 1 rfl) ?_
  refine va_get (D := (dC, dI)) (ci := 11) (v := .ref (n 26)) (C := RX11) (T := TX11) (N := 71) hx hb hts i11 hown hK hP 0 rfl rfl 36 (nlt rfl) w2 (fun _ h9 => h9) rfl dX11_image_30 ?_
  refine lv_iload_n hx hb dX11_image_33 rfl (lv_at hl 0 rfl) ?_
  refine my_iald (v := 0) hx hb hK hP 1 1 rfl rfl z124 rfl dX11_image_34 ?_
  refine my_iastS hx hb hK hP hD hS 2 1 rfl rfl z916 rfl dX11_image_35 (fun H locs hP hD hS => ?_)
  refine lv_aload_n hx hb dX11_image_36 rfl (lv_at hl 1 rfl) ?_
  refine va_get (D := (dC, dI)) (ci := 11) (v := .ref (n 46)) (C := RX11) (T := TX11) (N := 71) hx hb hts i11 hown hK hP 0 rfl rfl 70 (nlt rfl) w3 (fun _ h9 => h9) rfl dX11_image_37 ?_
  refine lv_bipush (v := 6) hx hb dX11_image_40 z4 ?_
  refine lv_iload_n hx hb dX11_image_42 rfl (lv_at hl 2 rfl) ?_
  refine lv_imul hx hb dX11_image_43 ?_
  refine tpi z905 ?_
  refine lv_iload_n hx hb dX11_image_44 rfl (lv_at hl 0 rfl) ?_
  refine lv_iadd hx hb dX11_image_45 ?_
  refine tpi z915 ?_
  refine lv_aload_n hx hb dX11_image_46 rfl (lv_at hl 1 rfl) ?_
  refine va_get (D := (dC, dI)) (ci := 11) (v := .ref (n 27)) (C := RX11) (T := TX11) (N := 71) hx hb hts i11 hown hK hP 0 rfl rfl 37 (nlt rfl) w4 (fun _ h9 => h9) rfl dX11_image_47 ?_
  refine lv_iload_n hx hb dX11_image_50 rfl (lv_at hl 0 rfl) ?_
  refine my_iald (v := 2) hx hb hK hP 3 1 rfl rfl z124 rfl dX11_image_51 ?_
  refine my_iast hx hb hK hP hD hS 4 1 rfl rfl z916 dX11_image_52 (fun H locs hP hD hS => ?_)
  refine lv_iinc (v := 6) (lv' := [(2, .int 6), (0, .ref (n 0)), (1, .int 1)]) hx hb dX11_image_53 hl (k := 0) rfl z104 (nlt rfl) rfl (fun ls hl => ?_)
  refine lv_goto (tgt := 13) hx hb dX11_image_56 z898 ?_
  refine lv_iload_n hx hb dX11_image_13 rfl (lv_at hl 0 rfl) ?_
  refine lv_bipush (v := 6) hx hb dX11_image_14 z4 ?_
  refine lv_icmp_ge (tgt := 59) hx hb dX11_image_16 z895 (fun _ => ?_) (fun c1 => absurd (z105) c1)
  refine lv_aload_n hx hb dX11_image_59 rfl (lv_at hl 1 rfl) ?_
  refine va_get (D := (dC, dI)) (ci := 11) (v := .ref (n 44)) (C := RX11) (T := TX11) (N := 71) hx hb hts i11 hown hK hP 0 rfl rfl 68 (nlt rfl) w5 (fun _ h9 => h9) rfl dX11_image_60 ?_
  refine lv_iload_n hx hb dX11_image_63 rfl (lv_at hl 2 rfl) ?_
  refine lv_aload_n hx hb dX11_image_64 rfl (lv_at hl 1 rfl) ?_
  refine va_get (D := (dC, dI)) (ci := 11) (v := .int 0) (C := RX11) (T := TX11) (N := 71) hx hb hts i11 hown hK hP 0 rfl rfl 39 (nlt rfl) w6 (fun _ h9 => h9) rfl dX11_image_65 ?_
  refine my_iast hx hb hK hP hD hS 5 1 rfl rfl z166 dX11_image_68 (fun H locs hP hD hS => ?_)
  refine lv_aload_n hx hb dX11_image_69 rfl (lv_at hl 1 rfl) ?_
  refine va_get (D := (dC, dI)) (ci := 11) (v := .int 0) (C := RX11) (T := TX11) (N := 71) hx hb hts i11 hown hK hP 0 rfl rfl 39 (nlt rfl) w6 (fun _ h9 => h9) rfl dX11_image_70 ?_
  refine W.widen (k := 0) (n := 0) (by decide +kernel) (by decide +kernel) ?_
  exact ret_i hx hb hr hlocks hS (u := (fun _ => 0)) (hP.sub [] rfl) (hD.sub [] (by decide +kernel) rfl) dX11_image_73

set_option maxHeartbeats 4000000 in
set_option maxRecDepth 100000 in
theorem k388_X1_keep (l : Launch) (dC : Nat → ClassId) (dI : Nat → Nat → Nat) (cB cI cJ cZ cO : ClassId) (r : Nat → Nat) : CV l yX1_keep wsX1_keep ({ frames := 1, cells := 0, slots := 0, locals := 60 }) (dC, dI) (tyL cB cI cJ cZ cO) [.ref (r 52), .ref (r 38)] [((r 52), .inr (1, [.int 0, .ref (r 53), .int 0, .ref (r 54)])), ((r 38), .inr (0, [.ref (r 39), .int 0, .ref (r 40), .ref (r 41), .ref (r 42), .ref (r 43), .ref (r 44), .int 0, .int 0])), ((r 39), .inl (cI, 6, .inl (fun _ => 0))), ((r 53), .inl (cI, 6, .inl (fun _ => 0))), ((r 40), .inl (cI, 6, .inl (upd (upd (upd (upd (upd (upd (fun _ => 0) 0 (-1)) 1 (-1)) 2 (-1)) 3 (-1)) 4 (-1)) 5 (-1)))), ((r 54), .inl (cI, 6, .inl (fun _ => 0)))] (fun u => [((r 52), .inr (1, [.int 1, .ref (r 53), .int 0, .ref (r 54)])), ((r 38), .inr (0, [.ref (r 39), .int 0, .ref (r 40), .ref (r 41), .ref (r 42), .ref (r 43), .ref (r 44), .int 0, .int 0])), ((r 39), .inl (cI, 6, .inl (fun _ => 0))), ((r 53), .inl (cI, 6, .inl (va_cpy (fun _ => 0) (fun _ => 0) 0 0 6))), ((r 40), .inl (cI, 6, .inl (upd (upd (upd (upd (upd (upd (fun _ => 0) 0 (-1)) 1 (-1)) 2 (-1)) 3 (-1)) 4 (-1)) 5 (-1)))), ((r 54), .inl (cI, 6, .inl (va_cpy (upd (upd (upd (upd (upd (upd (fun _ => 0) 0 (-1)) 1 (-1)) 2 (-1)) 3 (-1)) 4 (-1)) 5 (-1)) (fun _ => 0) 0 0 6)))]) := by
  intro sz
  refine ct_open (cc := cX1_keep) (maxL := 2) (ret := none) (by decide) rfl (Nat.le_of_ble_eq_true rfl) ?_
  intro p e s m below meth c ls A hx hb hr hml hts hown hlocks hin hP hK hD hA hS hl
  have hl : lv_has ls 2 [(0, .ref (r 52)), (1, .ref (r 38))] := hl
  have hown : s.vm.findClass RX1 = some m.cls := hown
  have i1 : ∀ w ∈ u_ws RX1 TX1 4, w ∈ wsX1_keep := fun _ h => List.mem_cons_of_mem _ (List.mem_append_left _ (List.mem_append_right _ h))
  have w1 := hts (.fieldLink RX1 18 "GuildCharter$Image" "full" "Z") (List.mem_cons_of_mem _ (List.mem_append_left _ (List.mem_append_left _ (List.mem_of_getElem? (i := 0) rfl))))
  have i0 : ∀ w ∈ u_ws RX0 TX0 9, w ∈ wsX1_keep := fun _ h => List.mem_cons_of_mem _ (List.mem_append_right _ h)
  have w3 := hts (.fieldLink RX1 22 "GuildCharter$Earnest" "size" "I") (List.mem_cons_of_mem _ (List.mem_append_left _ (List.mem_append_left _ (List.mem_of_getElem? (i := 1) rfl))))
  have w4 := hts (.fieldLink RX1 28 "GuildCharter$Image" "size" "I") (List.mem_cons_of_mem _ (List.mem_append_left _ (List.mem_append_left _ (List.mem_of_getElem? (i := 2) rfl))))
  have w5 := hts (.fieldLink RX1 29 "GuildCharter$Earnest" "row" "[I") (List.mem_cons_of_mem _ (List.mem_append_left _ (List.mem_append_left _ (List.mem_of_getElem? (i := 3) rfl))))
  have w6 := hts (.fieldLink RX1 9 "GuildCharter$Image" "row" "[I") (List.mem_cons_of_mem _ (List.mem_append_left _ (List.mem_append_left _ (List.mem_of_getElem? (i := 4) rfl))))
  have w7 := hts (.methodLink RX1 30 arraycopyName) (List.mem_cons_of_mem _ (List.mem_append_left _ (List.mem_append_left _ (List.mem_of_getElem? (i := 5) rfl))))
  have w8 := hts (.native arraycopyName) (List.mem_cons_of_mem _ (List.mem_append_left _ (List.mem_append_left _ (List.mem_of_getElem? (i := 6) rfl))))
  have w9 := hts (.static arraycopyName) (List.mem_cons_of_mem _ (List.mem_append_left _ (List.mem_append_left _ (List.mem_of_getElem? (i := 7) rfl))))
  have w10 := hts (.initialized "java/lang/System") (List.mem_cons_of_mem _ (List.mem_append_left _ (List.mem_append_left _ (List.mem_of_getElem? (i := 8) rfl))))
  have w11 := hts (.fieldLink RX1 36 "GuildCharter$Earnest" "sold" "[I") (List.mem_cons_of_mem _ (List.mem_append_left _ (List.mem_append_left _ (List.mem_of_getElem? (i := 9) rfl))))
  have w12 := hts (.fieldLink RX1 15 "GuildCharter$Image" "sold" "[I") (List.mem_cons_of_mem _ (List.mem_append_left _ (List.mem_append_left _ (List.mem_of_getElem? (i := 10) rfl))))
  refine lv_aload_n hx hb dX1_keep_0 rfl (lv_at hl 0 rfl) ?_
  refine lv_iconst (v := 1) hx hb dX1_keep_1 z39 ?_
  refine va_put (D := (dC, dI)) (ci := 1) (v := .int 1) (ty := tyX1 0) (C := RX1) (T := TX1) (N := 4) hx hb hts i1 tyX1 tyX1_ok nmX1 hown hK hP hD hS 0 rfl rfl 0 (nlt rfl) w1 (fun _ h9 => h9) rfl (tyX1_ok 0 (nlt rfl)) rfl rfl (nlt rfl) dX1_keep_2 (fun H locs hP hD hS => ?_)
  refine lv_aload_n hx hb dX1_keep_5 rfl (lv_at hl 0 rfl) ?_
  refine lv_aload_n hx hb dX1_keep_6 rfl (lv_at hl 1 rfl) ?_
  refine va_get (D := (dC, dI)) (ci := 0) (v := .int 0) (C := RX0) (T := TX0) (N := 9) hx hb hts i0 hown hK hP 1 rfl rfl 1 (nlt rfl) w3 (fun _ h9 => h9) rfl dX1_keep_7 ?_
  refine va_put (D := (dC, dI)) (ci := 1) (v := .int 0) (ty := tyX1 2) (C := RX1) (T := TX1) (N := 4) hx hb hts i1 tyX1 tyX1_ok nmX1 hown hK hP hD hS 0 rfl rfl 2 (nlt rfl) w4 (fun _ h9 => h9) rfl (tyX1_ok 2 (nlt rfl)) rfl rfl (nlt rfl) dX1_keep_10 (fun H locs hP hD hS => ?_)
  refine lv_aload_n hx hb dX1_keep_13 rfl (lv_at hl 1 rfl) ?_
  refine va_get (D := (dC, dI)) (ci := 0) (v := .ref (r 39)) (C := RX0) (T := TX0) (N := 9) hx hb hts i0 hown hK hP 1 rfl rfl 0 (nlt rfl) w5 (fun _ h9 => h9) rfl dX1_keep_14 ?_
  refine lv_iconst (v := 0) hx hb dX1_keep_17 z8 ?_
  refine lv_aload_n hx hb dX1_keep_18 rfl (lv_at hl 0 rfl) ?_
  refine va_get (D := (dC, dI)) (ci := 1) (v := .ref (r 53)) (C := RX1) (T := TX1) (N := 4) hx hb hts i1 hown hK hP 0 rfl rfl 1 (nlt rfl) w6 (fun _ h9 => h9) rfl dX1_keep_19 ?_
  refine lv_iconst (v := 0) hx hb dX1_keep_22 z8 ?_
  refine lv_bipush (v := 6) hx hb dX1_keep_23 z4 ?_
  refine va_copyi hx hb (by rw [hml]; exact hl.1.symm) hown w7 w8 w9 w10 hK hP hD hS 2 3 1 1 rfl rfl rfl rfl rfl (by decide +kernel) (by decide +kernel) (by decide +kernel) (by decide +kernel) (by decide +kernel) (fun _ _ => rfl) (by decide +kernel) (Nat.le_of_ble_eq_true rfl) dX1_keep_25 (fun H locs hP hD hS => ?_)
  have hP : va_P (dC, dI) vwCl [((r 52), .inr (1, [.int 1, .ref (r 53), .int 0, .ref (r 54)])), ((r 38), .inr (0, [.ref (r 39), .int 0, .ref (r 40), .ref (r 41), .ref (r 42), .ref (r 43), .ref (r 44), .int 0, .int 0])), ((r 39), .inl (cI, 6, .inl (fun _ => 0))), ((r 53), .inl (cI, 6, .inl (va_cpy (fun _ => 0) (fun _ => 0) 0 0 6))), ((r 40), .inl (cI, 6, .inl (upd (upd (upd (upd (upd (upd (fun _ => 0) 0 (-1)) 1 (-1)) 2 (-1)) 3 (-1)) 4 (-1)) 5 (-1)))), ((r 54), .inl (cI, 6, .inl (fun _ => 0)))] H := hP
  have hD : va_D A [((r 52), .inr (1, [.int 1, .ref (r 53), .int 0, .ref (r 54)])), ((r 38), .inr (0, [.ref (r 39), .int 0, .ref (r 40), .ref (r 41), .ref (r 42), .ref (r 43), .ref (r 44), .int 0, .int 0])), ((r 39), .inl (cI, 6, .inl (fun _ => 0))), ((r 53), .inl (cI, 6, .inl (va_cpy (fun _ => 0) (fun _ => 0) 0 0 6))), ((r 40), .inl (cI, 6, .inl (upd (upd (upd (upd (upd (upd (fun _ => 0) 0 (-1)) 1 (-1)) 2 (-1)) 3 (-1)) 4 (-1)) 5 (-1)))), ((r 54), .inl (cI, 6, .inl (fun _ => 0)))] := hD
  refine lv_aload_n hx hb dX1_keep_28 rfl (lv_at hl 1 rfl) ?_
  refine va_get (D := (dC, dI)) (ci := 0) (v := .ref (r 40)) (C := RX0) (T := TX0) (N := 9) hx hb hts i0 hown hK hP 1 rfl rfl 2 (nlt rfl) w11 (fun _ h9 => h9) rfl dX1_keep_29 ?_
  refine lv_iconst (v := 0) hx hb dX1_keep_32 z8 ?_
  refine lv_aload_n hx hb dX1_keep_33 rfl (lv_at hl 0 rfl) ?_
  refine va_get (D := (dC, dI)) (ci := 1) (v := .ref (r 54)) (C := RX1) (T := TX1) (N := 4) hx hb hts i1 hown hK hP 0 rfl rfl 3 (nlt rfl) w12 (fun _ h9 => h9) rfl dX1_keep_34 ?_
  refine lv_iconst (v := 0) hx hb dX1_keep_37 z8 ?_
  refine lv_bipush (v := 6) hx hb dX1_keep_38 z4 ?_
  refine va_copyi hx hb (by rw [hml]; exact hl.1.symm) hown w7 w8 w9 w10 hK hP hD hS 4 5 1 1 rfl rfl rfl rfl rfl (by decide +kernel) (by decide +kernel) (by decide +kernel) (by decide +kernel) (by decide +kernel) (fun _ _ => rfl) (by decide +kernel) (Nat.le_of_ble_eq_true rfl) dX1_keep_40 (fun H locs hP hD hS => ?_)
  refine W.widen (k := 0) (n := 0) (by decide +kernel) (by decide +kernel) ?_
  exact ret_v hx hb hr hlocks hS (u := (fun _ => 0)) (hP.sub [0, 1, 2, 3, 4, 5] rfl) (hD.sub [0, 1, 2, 3, 4, 5] (by decide +kernel) rfl) dX1_keep_43

set_option maxHeartbeats 4000000 in
set_option maxRecDepth 100000 in
theorem k389_X10_image (l : Launch) (dC : Nat → ClassId) (dI : Nat → Nat → Nat) (cB cI cJ cZ cO : ClassId) (r : Nat → Nat) : CI l yX10_image wsX10_image ({ frames := 2, cells := 0, slots := 0, locals := 81 }) (dC, dI) (tyL cB cI cJ cZ cO) [.ref (r 0), .int 2] [((r 0), .inr (10, fX r)), ((r 45), .inl (cO, 3, .inr (.inr (.inr (.inr (va_up (va_up (va_up (fun _ => none) 0 (some (r 46))) 1 (some (r 49))) 2 (some (r 52)))))))), ((r 52), .inr (1, [.int 0, .ref (r 53), .int 0, .ref (r 54)])), ((r 38), .inr (0, [.ref (r 39), .int 0, .ref (r 40), .ref (r 41), .ref (r 42), .ref (r 43), .ref (r 44), .int 0, .int 0])), ((r 39), .inl (cI, 6, .inl (fun _ => 0))), ((r 53), .inl (cI, 6, .inl (fun _ => 0))), ((r 40), .inl (cI, 6, .inl (upd (upd (upd (upd (upd (upd (fun _ => 0) 0 (-1)) 1 (-1)) 2 (-1)) 3 (-1)) 4 (-1)) 5 (-1)))), ((r 54), .inl (cI, 6, .inl (fun _ => 0)))] (fun _ => []) 0 := by
  intro sz
  refine ct_open (cc := cX10_image) (maxL := 2) (ret := (some .int)) (by decide) rfl (Nat.le_of_ble_eq_true rfl) ?_
  intro p e s m below meth c ls A hx hb hr hml hts hown hlocks hin hP hK hD hA hS hl
  have hl : lv_has ls 2 [(0, .ref (r 0)), (1, .int 2)] := hl
  have hown : s.vm.findClass RX10 = some m.cls := hown
  have i10 : ∀ w ∈ u_ws RX10 TX10 18, w ∈ wsX10_image := fun _ h => List.mem_cons_of_mem _ (List.mem_append_left _ (List.mem_append_left _ (List.mem_append_right _ h)))
  have w1 := hts (.fieldLink RX10 40 "GuildCharter" "boxes" "[LGuildCharter$Image;") (List.mem_cons_of_mem _ (List.mem_append_left _ (List.mem_append_left _ (List.mem_append_left _ (List.mem_of_getElem? (i := 0) rfl)))))
  have w2 := hts (.fieldLink RX10 33 "GuildCharter" "earnest" "LGuildCharter$Earnest;") (List.mem_cons_of_mem _ (List.mem_append_left _ (List.mem_append_left _ (List.mem_append_left _ (List.mem_of_getElem? (i := 1) rfl)))))
  have i0 : ∀ w ∈ u_ws RX0 TX0 9, w ∈ wsX10_image := fun _ h => List.mem_cons_of_mem _ (List.mem_append_left _ (List.mem_append_right _ h))
  have w4 := hts (.fieldLink RX10 177 "GuildCharter$Earnest" "size" "I") (List.mem_cons_of_mem _ (List.mem_append_left _ (List.mem_append_left _ (List.mem_append_left _ (List.mem_of_getElem? (i := 2) rfl)))))
  refine lv_iload_n hx hb dX10_image_0 rfl (lv_at hl 1 rfl) ?_
  refine lv_if_lt (tgt := 9) hx hb dX10_image_1 z891 (fun c1 => absurd c1 (z197)) (fun _ => ?_)
  refine lv_iload_n hx hb dX10_image_4 rfl (lv_at hl 1 rfl) ?_
  refine lv_iconst (v := 3) hx hb dX10_image_5 z69 ?_
  refine lv_icmp_lt (tgt := 11) hx hb dX10_image_6 z892 (fun _ => ?_) (fun c1 => absurd (z917) c1)
  refine lv_aload_n hx hb dX10_image_11 rfl (lv_at hl 0 rfl) ?_
  refine va_get (D := (dC, dI)) (ci := 10) (v := .ref (r 45)) (C := RX10) (T := TX10) (N := 18) hx hb hts i10 hown hK hP 0 rfl rfl 6 (nlt rfl) w1 (fun _ h9 => h9) rfl dX10_image_12 ?_
  refine lv_iload_n hx hb dX10_image_15 rfl (lv_at hl 1 rfl) ?_
  refine my_aldq (v := (r 52)) hx hb hK hP 1 4 rfl rfl z167 rfl dX10_image_16 ?_
  refine lv_aload_n hx hb dX10_image_17 rfl (lv_at hl 0 rfl) ?_
  refine va_get (D := (dC, dI)) (ci := 10) (v := .ref (r 38)) (C := RX10) (T := TX10) (N := 18) hx hb hts i10 hown hK hP 0 rfl rfl 5 (nlt rfl) w2 (fun _ h9 => h9) rfl dX10_image_18 ?_
  refine call_vV (ci := 1) (As := [.ref (r 38)]) (rest := []) (wr := [((r 0), .inr (10, fX r)), ((r 45), .inl (cO, 3, .inr (.inr (.inr (.inr (va_up (va_up (va_up (fun _ => none) 0 (some (r 46))) 1 (some (r 49))) 2 (some (r 52))))))))]) ⟨hx, hb, hml, hown, hts⟩ (k388_X1_keep l dC dI cB cI cJ cZ cO r) (cwV 1 hts gX10_image_X1_keep rfl rfl rfl ⟨rfl, z894⟩ ⟨Nat.le_of_ble_eq_true rfl, Nat.le_of_ble_eq_true rfl⟩) hK hP hD hS hA [2, 3, 4, 5, 6, 7] [0, 1] rfl rfl (by decide +kernel) (by decide +kernel) (by decide +kernel) rfl rfl rfl hl.1 (Nat.le_of_ble_eq_true rfl) rfl rfl dX10_image_21 ⟨by decide +kernel, by decide +kernel⟩ (fun u0 H locs hP hD hS => ?_)
  refine lv_aload_n hx hb dX10_image_24 rfl (lv_at hl 0 rfl) ?_
  refine va_get (D := (dC, dI)) (ci := 10) (v := .ref (r 38)) (C := RX10) (T := TX10) (N := 18) hx hb hts i10 hown hK hP 0 rfl rfl 5 (nlt rfl) w2 (fun _ h9 => h9) rfl dX10_image_25 ?_
  refine va_get (D := (dC, dI)) (ci := 0) (v := .int 0) (C := RX0) (T := TX0) (N := 9) hx hb hts i0 hown hK hP 3 rfl rfl 1 (nlt rfl) w4 (fun _ h9 => h9) rfl dX10_image_28 ?_
  refine W.widen (k := 0) (n := 0) (by decide +kernel) (by decide +kernel) ?_
  exact ret_i hx hb hr hlocks hS (u := (fun _ => 0)) (hP.sub [] rfl) (hD.sub [] (by decide +kernel) rfl) dX10_image_31

set_option maxHeartbeats 4000000 in
set_option maxRecDepth 100000 in
theorem k390_X11_image (l : Launch) (dC : Nat → ClassId) (dI : Nat → Nat → Nat) (cB cI cJ cZ cO : ClassId) (n : Nat → Nat) : CI l yX11_image wsX11_image ({ frames := 1, cells := 0, slots := 0, locals := 22 }) (dC, dI) (tyL cB cI cJ cZ cO) [.ref (n 0), .int 2] [((n 0), .inr (11, fM n)), ((n 26), .inl (cI, 6, .inl (fun _ => 0))), ((n 45), .inl (cI, 18, .inl (fun _ => 0))), ((n 27), .inl (cI, 6, .inl (upd (upd (upd (upd (fun _ => 0) 1 1) 2 2) 4 1) 5 2))), ((n 46), .inl (cI, 18, .inl (fun _ => 0))), ((n 44), .inl (cI, 3, .inl (upd (upd (upd (fun _ => 0) 0 (-1)) 1 (-1)) 2 (-1))))] (fun _ => []) 0 := by
  intro sz
  refine ct_open (cc := cX11_image) (maxL := 3) (ret := (some .int)) (by decide) rfl (Nat.le_of_ble_eq_true rfl) ?_
  intro p e s m below meth c ls A hx hb hr hml hts hown hlocks hin hP hK hD hA hS hl
  have hl : lv_has ls 3 [(0, .ref (n 0)), (1, .int 2)] := hl
  have hown : s.vm.findClass RX11 = some m.cls := hown
  have i11 : ∀ w ∈ u_ws RX11 TX11 71, w ∈ wsX11_image := fun _ h => List.mem_cons_of_mem _ (List.mem_append_right _ h)
  have w1 := hts (.fieldLink RX11 152 "GuildCharterModel" "boxRow" "[I") (List.mem_cons_of_mem _ (List.mem_append_left _ (List.mem_of_getElem? (i := 0) rfl)))
  have w2 := hts (.fieldLink RX11 92 "GuildCharterModel" "row" "[I") (List.mem_cons_of_mem _ (List.mem_append_left _ (List.mem_of_getElem? (i := 1) rfl)))
  have w3 := hts (.fieldLink RX11 155 "GuildCharterModel" "boxTurn" "[I") (List.mem_cons_of_mem _ (List.mem_append_left _ (List.mem_of_getElem? (i := 2) rfl)))
  have w4 := hts (.fieldLink RX11 95 "GuildCharterModel" "turnNow" "[I") (List.mem_cons_of_mem _ (List.mem_append_left _ (List.mem_of_getElem? (i := 3) rfl)))
  have w5 := hts (.fieldLink RX11 149 "GuildCharterModel" "boxMany" "[I") (List.mem_cons_of_mem _ (List.mem_append_left _ (List.mem_of_getElem? (i := 4) rfl)))
  have w6 := hts (.fieldLink RX11 336 "GuildCharterModel" "many" "I") (List.mem_cons_of_mem _ (List.mem_append_left _ (List.mem_of_getElem? (i := 5) rfl)))
  refine lv_iload_n hx hb dX11_image_0 rfl (lv_at hl 1 rfl) ?_
  refine lv_iconst (v := 0) hx hb dX11_image_1 z8 ?_
  refine lv_iconst (v := 2) hx hb dX11_image_2 z54 ?_
  refine call_iS (As := [.int 2, .int 0, .int 2]) (rest := []) (wr := [((n 0), .inr (11, fM n)), ((n 26), .inl (cI, 6, .inl (fun _ => 0))), ((n 45), .inl (cI, 18, .inl (fun _ => 0))), ((n 27), .inl (cI, 6, .inl (upd (upd (upd (upd (fun _ => 0) 1 1) 2 2) 4 1) 5 2))), ((n 46), .inl (cI, 18, .inl (fun _ => 0))), ((n 44), .inl (cI, 3, .inl (upd (upd (upd (fun _ => 0) 0 (-1)) 1 (-1)) 2 (-1))))]) ⟨hx, hb, hml, hown, hts⟩ (k112_X11_isIn l dC dI cB cI cJ cZ cO) (va_cwS 3 hts gX11_image_X11_isIn rfl rfl rfl z587 ⟨Nat.le_of_ble_eq_true rfl, Nat.le_of_ble_eq_true rfl⟩) hK hP hD hS hA [] [0, 1, 2, 3, 4, 5] rfl rfl (by decide +kernel) (by decide +kernel) (by decide +kernel) hl.1 (Nat.le_of_ble_eq_true rfl) rfl rfl dX11_image_3 ⟨by decide +kernel, by decide +kernel⟩ (fun u0 H locs hP hD hS => ?_)
  refine lv_if_ne (tgt := 11) hx hb dX11_image_6 z892 (fun _ => ?_) (fun c1 => absurd c1 (z525))
  refine lv_iconst (v := 0) hx hb dX11_image_11 z8 ?_
  refine lv_istore_n (lv' := [(2, .int 0), (0, .ref (n 0)), (1, .int 2)]) hx hb dX11_image_12 rfl hl (nlt rfl) rfl (fun ls hl => ?_)
  refine lv_iload_n hx hb dX11_image_13 rfl (lv_at hl 0 rfl) ?_
  refine lv_bipush (v := 6) hx hb dX11_image_14 z4 ?_
  refine lv_icmp_ge (tgt := 59) hx hb dX11_image_16 z895 (fun c1 => absurd c1 (z78)) (fun _ => ?_)
  refine lv_aload_n hx hb dX11_image_19 rfl (lv_at hl 1 rfl) ?_
  refine va_get (D := (dC, dI)) (ci := 11) (v := .ref (n 45)) (C := RX11) (T := TX11) (N := 71) hx hb hts i11 hown hK hP 0 rfl rfl 69 (nlt rfl) w1 (fun _ h9 => h9) rfl dX11_image_20 ?_
  refine lv_bipush (v := 6) hx hb dX11_image_23 z4 ?_
  refine lv_iload_n hx hb dX11_image_25 rfl (lv_at hl 2 rfl) ?_
  refine lv_imul hx hb dX11_image_26 ?_
  refine tpi z918 ?_
  refine lv_iload_n hx hb dX11_image_27 rfl (lv_at hl 0 rfl) ?_
  refine lv_iadd hx hb dX11_image_28 ?_
  refine tpi z919 ?_
  refine lv_aload_n hx hb dX11_image_29 rfl (lv_at hl 1 rfl) ?_
  refine va_get (D := (dC, dI)) (ci := 11) (v := .ref (n 26)) (C := RX11) (T := TX11) (N := 71) hx hb hts i11 hown hK hP 0 rfl rfl 36 (nlt rfl) w2 (fun _ h9 => h9) rfl dX11_image_30 ?_
  refine lv_iload_n hx hb dX11_image_33 rfl (lv_at hl 0 rfl) ?_
  refine my_iald (v := 0) hx hb hK hP 1 1 rfl rfl z38 rfl dX11_image_34 ?_
  refine my_iastS hx hb hK hP hD hS 2 1 rfl rfl z920 rfl dX11_image_35 (fun H locs hP hD hS => ?_)
  refine lv_aload_n hx hb dX11_image_36 rfl (lv_at hl 1 rfl) ?_
  refine va_get (D := (dC, dI)) (ci := 11) (v := .ref (n 46)) (C := RX11) (T := TX11) (N := 71) hx hb hts i11 hown hK hP 0 rfl rfl 70 (nlt rfl) w3 (fun _ h9 => h9) rfl dX11_image_37 ?_
  refine lv_bipush (v := 6) hx hb dX11_image_40 z4 ?_
  refine lv_iload_n hx hb dX11_image_42 rfl (lv_at hl 2 rfl) ?_
  refine lv_imul hx hb dX11_image_43 ?_
  refine tpi z918 ?_
  refine lv_iload_n hx hb dX11_image_44 rfl (lv_at hl 0 rfl) ?_
  refine lv_iadd hx hb dX11_image_45 ?_
  refine tpi z919 ?_
  refine lv_aload_n hx hb dX11_image_46 rfl (lv_at hl 1 rfl) ?_
  refine va_get (D := (dC, dI)) (ci := 11) (v := .ref (n 27)) (C := RX11) (T := TX11) (N := 71) hx hb hts i11 hown hK hP 0 rfl rfl 37 (nlt rfl) w4 (fun _ h9 => h9) rfl dX11_image_47 ?_
  refine lv_iload_n hx hb dX11_image_50 rfl (lv_at hl 0 rfl) ?_
  refine my_iald (v := 0) hx hb hK hP 3 1 rfl rfl z38 rfl dX11_image_51 ?_
  refine my_iastS hx hb hK hP hD hS 4 1 rfl rfl z920 rfl dX11_image_52 (fun H locs hP hD hS => ?_)
  refine lv_iinc (v := 1) (lv' := [(2, .int 1), (0, .ref (n 0)), (1, .int 2)]) hx hb dX11_image_53 hl (k := 0) rfl z17 (nlt rfl) rfl (fun ls hl => ?_)
  refine lv_goto (tgt := 13) hx hb dX11_image_56 z898 ?_
  refine lv_iload_n hx hb dX11_image_13 rfl (lv_at hl 0 rfl) ?_
  refine lv_bipush (v := 6) hx hb dX11_image_14 z4 ?_
  refine lv_icmp_ge (tgt := 59) hx hb dX11_image_16 z895 (fun c1 => absurd c1 (z80)) (fun _ => ?_)
  refine lv_aload_n hx hb dX11_image_19 rfl (lv_at hl 1 rfl) ?_
  refine va_get (D := (dC, dI)) (ci := 11) (v := .ref (n 45)) (C := RX11) (T := TX11) (N := 71) hx hb hts i11 hown hK hP 0 rfl rfl 69 (nlt rfl) w1 (fun _ h9 => h9) rfl dX11_image_20 ?_
  refine lv_bipush (v := 6) hx hb dX11_image_23 z4 ?_
  refine lv_iload_n hx hb dX11_image_25 rfl (lv_at hl 2 rfl) ?_
  refine lv_imul hx hb dX11_image_26 ?_
  refine tpi z918 ?_
  refine lv_iload_n hx hb dX11_image_27 rfl (lv_at hl 0 rfl) ?_
  refine lv_iadd hx hb dX11_image_28 ?_
  refine tpi z323 ?_
  refine lv_aload_n hx hb dX11_image_29 rfl (lv_at hl 1 rfl) ?_
  refine va_get (D := (dC, dI)) (ci := 11) (v := .ref (n 26)) (C := RX11) (T := TX11) (N := 71) hx hb hts i11 hown hK hP 0 rfl rfl 36 (nlt rfl) w2 (fun _ h9 => h9) rfl dX11_image_30 ?_
  refine lv_iload_n hx hb dX11_image_33 rfl (lv_at hl 0 rfl) ?_
  refine my_iald (v := 0) hx hb hK hP 1 1 rfl rfl z53 rfl dX11_image_34 ?_
  refine my_iastS hx hb hK hP hD hS 2 1 rfl rfl z921 rfl dX11_image_35 (fun H locs hP hD hS => ?_)
  refine lv_aload_n hx hb dX11_image_36 rfl (lv_at hl 1 rfl) ?_
  refine va_get (D := (dC, dI)) (ci := 11) (v := .ref (n 46)) (C := RX11) (T := TX11) (N := 71) hx hb hts i11 hown hK hP 0 rfl rfl 70 (nlt rfl) w3 (fun _ h9 => h9) rfl dX11_image_37 ?_
  refine lv_bipush (v := 6) hx hb dX11_image_40 z4 ?_
  refine lv_iload_n hx hb dX11_image_42 rfl (lv_at hl 2 rfl) ?_
  refine lv_imul hx hb dX11_image_43 ?_
  refine tpi z918 ?_
  refine lv_iload_n hx hb dX11_image_44 rfl (lv_at hl 0 rfl) ?_
  refine lv_iadd hx hb dX11_image_45 ?_
  refine tpi z323 ?_
  refine lv_aload_n hx hb dX11_image_46 rfl (lv_at hl 1 rfl) ?_
  refine va_get (D := (dC, dI)) (ci := 11) (v := .ref (n 27)) (C := RX11) (T := TX11) (N := 71) hx hb hts i11 hown hK hP 0 rfl rfl 37 (nlt rfl) w4 (fun _ h9 => h9) rfl dX11_image_47 ?_
  refine lv_iload_n hx hb dX11_image_50 rfl (lv_at hl 0 rfl) ?_
  refine my_iald (v := 1) hx hb hK hP 3 1 rfl rfl z53 rfl dX11_image_51 ?_
  refine my_iast hx hb hK hP hD hS 4 1 rfl rfl z921 dX11_image_52 (fun H locs hP hD hS => ?_)
  refine lv_iinc (v := 2) (lv' := [(2, .int 2), (0, .ref (n 0)), (1, .int 2)]) hx hb dX11_image_53 hl (k := 0) rfl z24 (nlt rfl) rfl (fun ls hl => ?_)
  refine lv_goto (tgt := 13) hx hb dX11_image_56 z898 ?_
  refine lv_iload_n hx hb dX11_image_13 rfl (lv_at hl 0 rfl) ?_
  refine lv_bipush (v := 6) hx hb dX11_image_14 z4 ?_
  refine lv_icmp_ge (tgt := 59) hx hb dX11_image_16 z895 (fun c1 => absurd c1 (z83)) (fun _ => ?_)
  refine lv_aload_n hx hb dX11_image_19 rfl (lv_at hl 1 rfl) ?_
  refine va_get (D := (dC, dI)) (ci := 11) (v := .ref (n 45)) (C := RX11) (T := TX11) (N := 71) hx hb hts i11 hown hK hP 0 rfl rfl 69 (nlt rfl) w1 (fun _ h9 => h9) rfl dX11_image_20 ?_
  refine lv_bipush (v := 6) hx hb dX11_image_23 z4 ?_
  refine lv_iload_n hx hb dX11_image_25 rfl (lv_at hl 2 rfl) ?_
  refine lv_imul hx hb dX11_image_26 ?_
  refine tpi z918 ?_
  refine lv_iload_n hx hb dX11_image_27 rfl (lv_at hl 0 rfl) ?_
  refine lv_iadd hx hb dX11_image_28 ?_
  refine tpi z922 ?_
  refine lv_aload_n hx hb dX11_image_29 rfl (lv_at hl 1 rfl) ?_
  refine va_get (D := (dC, dI)) (ci := 11) (v := .ref (n 26)) (C := RX11) (T := TX11) (N := 71) hx hb hts i11 hown hK hP 0 rfl rfl 36 (nlt rfl) w2 (fun _ h9 => h9) rfl dX11_image_30 ?_
  refine lv_iload_n hx hb dX11_image_33 rfl (lv_at hl 0 rfl) ?_
  refine my_iald (v := 0) hx hb hK hP 1 1 rfl rfl z68 rfl dX11_image_34 ?_
  refine my_iastS hx hb hK hP hD hS 2 1 rfl rfl z923 rfl dX11_image_35 (fun H locs hP hD hS => ?_)
  refine lv_aload_n hx hb dX11_image_36 rfl (lv_at hl 1 rfl) ?_
  refine va_get (D := (dC, dI)) (ci := 11) (v := .ref (n 46)) (C := RX11) (T := TX11) (N := 71) hx hb hts i11 hown hK hP 0 rfl rfl 70 (nlt rfl) w3 (fun _ h9 => h9) rfl dX11_image_37 ?_
  refine lv_bipush (v := 6) hx hb dX11_image_40 z4 ?_
  refine lv_iload_n hx hb dX11_image_42 rfl (lv_at hl 2 rfl) ?_
  refine lv_imul hx hb dX11_image_43 ?_
  refine tpi z918 ?_
  refine lv_iload_n hx hb dX11_image_44 rfl (lv_at hl 0 rfl) ?_
  refine lv_iadd hx hb dX11_image_45 ?_
  refine tpi z922 ?_
  refine lv_aload_n hx hb dX11_image_46 rfl (lv_at hl 1 rfl) ?_
  refine va_get (D := (dC, dI)) (ci := 11) (v := .ref (n 27)) (C := RX11) (T := TX11) (N := 71) hx hb hts i11 hown hK hP 0 rfl rfl 37 (nlt rfl) w4 (fun _ h9 => h9) rfl dX11_image_47 ?_
  refine lv_iload_n hx hb dX11_image_50 rfl (lv_at hl 0 rfl) ?_
  refine my_iald (v := 2) hx hb hK hP 3 1 rfl rfl z68 rfl dX11_image_51 ?_
  refine my_iast hx hb hK hP hD hS 4 1 rfl rfl z923 dX11_image_52 (fun H locs hP hD hS => ?_)
  refine lv_iinc (v := 3) (lv' := [(2, .int 3), (0, .ref (n 0)), (1, .int 2)]) hx hb dX11_image_53 hl (k := 0) rfl z30 (nlt rfl) rfl (fun ls hl => ?_)
  refine lv_goto (tgt := 13) hx hb dX11_image_56 z898 ?_
  refine lv_iload_n hx hb dX11_image_13 rfl (lv_at hl 0 rfl) ?_
  refine lv_bipush (v := 6) hx hb dX11_image_14 z4 ?_
  refine lv_icmp_ge (tgt := 59) hx hb dX11_image_16 z895 (fun c1 => absurd c1 (z88)) (fun _ => ?_)
  refine lv_aload_n hx hb dX11_image_19 rfl (lv_at hl 1 rfl) ?_
  refine va_get (D := (dC, dI)) (ci := 11) (v := .ref (n 45)) (C := RX11) (T := TX11) (N := 71) hx hb hts i11 hown hK hP 0 rfl rfl 69 (nlt rfl) w1 (fun _ h9 => h9) rfl dX11_image_20 ?_
  refine lv_bipush (v := 6) hx hb dX11_image_23 z4 ?_
  refine lv_iload_n hx hb dX11_image_25 rfl (lv_at hl 2 rfl) ?_
  refine lv_imul hx hb dX11_image_26 ?_
  refine tpi z918 ?_
  refine lv_iload_n hx hb dX11_image_27 rfl (lv_at hl 0 rfl) ?_
  refine lv_iadd hx hb dX11_image_28 ?_
  refine tpi z924 ?_
  refine lv_aload_n hx hb dX11_image_29 rfl (lv_at hl 1 rfl) ?_
  refine va_get (D := (dC, dI)) (ci := 11) (v := .ref (n 26)) (C := RX11) (T := TX11) (N := 71) hx hb hts i11 hown hK hP 0 rfl rfl 36 (nlt rfl) w2 (fun _ h9 => h9) rfl dX11_image_30 ?_
  refine lv_iload_n hx hb dX11_image_33 rfl (lv_at hl 0 rfl) ?_
  refine my_iald (v := 0) hx hb hK hP 1 1 rfl rfl z76 rfl dX11_image_34 ?_
  refine my_iastS hx hb hK hP hD hS 2 1 rfl rfl z925 rfl dX11_image_35 (fun H locs hP hD hS => ?_)
  refine lv_aload_n hx hb dX11_image_36 rfl (lv_at hl 1 rfl) ?_
  refine va_get (D := (dC, dI)) (ci := 11) (v := .ref (n 46)) (C := RX11) (T := TX11) (N := 71) hx hb hts i11 hown hK hP 0 rfl rfl 70 (nlt rfl) w3 (fun _ h9 => h9) rfl dX11_image_37 ?_
  refine lv_bipush (v := 6) hx hb dX11_image_40 z4 ?_
  refine lv_iload_n hx hb dX11_image_42 rfl (lv_at hl 2 rfl) ?_
  refine lv_imul hx hb dX11_image_43 ?_
  refine tpi z918 ?_
  refine lv_iload_n hx hb dX11_image_44 rfl (lv_at hl 0 rfl) ?_
  refine lv_iadd hx hb dX11_image_45 ?_
  refine tpi z924 ?_
  refine lv_aload_n hx hb dX11_image_46 rfl (lv_at hl 1 rfl) ?_
  refine va_get (D := (dC, dI)) (ci := 11) (v := .ref (n 27)) (C := RX11) (T := TX11) (N := 71) hx hb hts i11 hown hK hP 0 rfl rfl 37 (nlt rfl) w4 (fun _ h9 => h9) rfl dX11_image_47 ?_
  refine lv_iload_n hx hb dX11_image_50 rfl (lv_at hl 0 rfl) ?_
  refine my_iald (v := 0) hx hb hK hP 3 1 rfl rfl z76 rfl dX11_image_51 ?_
  refine my_iastS hx hb hK hP hD hS 4 1 rfl rfl z925 rfl dX11_image_52 (fun H locs hP hD hS => ?_)
  refine lv_iinc (v := 4) (lv' := [(2, .int 4), (0, .ref (n 0)), (1, .int 2)]) hx hb dX11_image_53 hl (k := 0) rfl z36 (nlt rfl) rfl (fun ls hl => ?_)
  refine lv_goto (tgt := 13) hx hb dX11_image_56 z898 ?_
  refine lv_iload_n hx hb dX11_image_13 rfl (lv_at hl 0 rfl) ?_
  refine lv_bipush (v := 6) hx hb dX11_image_14 z4 ?_
  refine lv_icmp_ge (tgt := 59) hx hb dX11_image_16 z895 (fun c1 => absurd c1 (z93)) (fun _ => ?_)
  refine lv_aload_n hx hb dX11_image_19 rfl (lv_at hl 1 rfl) ?_
  refine va_get (D := (dC, dI)) (ci := 11) (v := .ref (n 45)) (C := RX11) (T := TX11) (N := 71) hx hb hts i11 hown hK hP 0 rfl rfl 69 (nlt rfl) w1 (fun _ h9 => h9) rfl dX11_image_20 ?_
  refine lv_bipush (v := 6) hx hb dX11_image_23 z4 ?_
  refine lv_iload_n hx hb dX11_image_25 rfl (lv_at hl 2 rfl) ?_
  refine lv_imul hx hb dX11_image_26 ?_
  refine tpi z918 ?_
  refine lv_iload_n hx hb dX11_image_27 rfl (lv_at hl 0 rfl) ?_
  refine lv_iadd hx hb dX11_image_28 ?_
  refine tpi z926 ?_
  refine lv_aload_n hx hb dX11_image_29 rfl (lv_at hl 1 rfl) ?_
  refine va_get (D := (dC, dI)) (ci := 11) (v := .ref (n 26)) (C := RX11) (T := TX11) (N := 71) hx hb hts i11 hown hK hP 0 rfl rfl 36 (nlt rfl) w2 (fun _ h9 => h9) rfl dX11_image_30 ?_
  refine lv_iload_n hx hb dX11_image_33 rfl (lv_at hl 0 rfl) ?_
  refine my_iald (v := 0) hx hb hK hP 1 1 rfl rfl z106 rfl dX11_image_34 ?_
  refine my_iastS hx hb hK hP hD hS 2 1 rfl rfl z927 rfl dX11_image_35 (fun H locs hP hD hS => ?_)
  refine lv_aload_n hx hb dX11_image_36 rfl (lv_at hl 1 rfl) ?_
  refine va_get (D := (dC, dI)) (ci := 11) (v := .ref (n 46)) (C := RX11) (T := TX11) (N := 71) hx hb hts i11 hown hK hP 0 rfl rfl 70 (nlt rfl) w3 (fun _ h9 => h9) rfl dX11_image_37 ?_
  refine lv_bipush (v := 6) hx hb dX11_image_40 z4 ?_
  refine lv_iload_n hx hb dX11_image_42 rfl (lv_at hl 2 rfl) ?_
  refine lv_imul hx hb dX11_image_43 ?_
  refine tpi z918 ?_
  refine lv_iload_n hx hb dX11_image_44 rfl (lv_at hl 0 rfl) ?_
  refine lv_iadd hx hb dX11_image_45 ?_
  refine tpi z926 ?_
  refine lv_aload_n hx hb dX11_image_46 rfl (lv_at hl 1 rfl) ?_
  refine va_get (D := (dC, dI)) (ci := 11) (v := .ref (n 27)) (C := RX11) (T := TX11) (N := 71) hx hb hts i11 hown hK hP 0 rfl rfl 37 (nlt rfl) w4 (fun _ h9 => h9) rfl dX11_image_47 ?_
  refine lv_iload_n hx hb dX11_image_50 rfl (lv_at hl 0 rfl) ?_
  refine my_iald (v := 1) hx hb hK hP 3 1 rfl rfl z106 rfl dX11_image_51 ?_
  refine my_iast hx hb hK hP hD hS 4 1 rfl rfl z927 dX11_image_52 (fun H locs hP hD hS => ?_)
  have hP : va_P (dC, dI) vwCl [((n 0), .inr (11, fM n)), ((n 26), .inl (cI, 6, .inl (fun _ => 0))), ((n 45), .inl (cI, 18, .inl (fun _ => 0))), ((n 27), .inl (cI, 6, .inl (upd (upd (upd (upd (fun _ => 0) 1 1) 2 2) 4 1) 5 2))), ((n 46), .inl (cI, 18, .inl (upd (upd (upd (fun _ => 0) 13 1) 14 2) 16 1))), ((n 44), .inl (cI, 3, .inl (upd (upd (upd (fun _ => 0) 0 (-1)) 1 (-1)) 2 (-1))))] H := hP
  have hD : va_D A [((n 0), .inr (11, fM n)), ((n 26), .inl (cI, 6, .inl (fun _ => 0))), ((n 45), .inl (cI, 18, .inl (fun _ => 0))), ((n 27), .inl (cI, 6, .inl (upd (upd (upd (upd (fun _ => 0) 1 1) 2 2) 4 1) 5 2))), ((n 46), .inl (cI, 18, .inl (upd (upd (upd (fun _ => 0) 13 1) 14 2) 16 1))), ((n 44), .inl (cI, 3, .inl (upd (upd (upd (fun _ => 0) 0 (-1)) 1 (-1)) 2 (-1))))] := hD
  refine lv_iinc (v := 5) (lv' := [(2, .int 5), (0, .ref (n 0)), (1, .int 2)]) hx hb dX11_image_53 hl (k := 0) rfl z98 (nlt rfl) rfl (fun ls hl => ?_)
  refine lv_goto (tgt := 13) hx hb dX11_image_56 z898 ?_
  refine lv_iload_n hx hb dX11_image_13 rfl (lv_at hl 0 rfl) ?_
  refine lv_bipush (v := 6) hx hb dX11_image_14 z4 ?_
  refine lv_icmp_ge (tgt := 59) hx hb dX11_image_16 z895 (fun c1 => absurd c1 (z99)) (fun _ => ?_)
  refine lv_aload_n hx hb dX11_image_19 rfl (lv_at hl 1 rfl) ?_
  refine va_get (D := (dC, dI)) (ci := 11) (v := .ref (n 45)) (C := RX11) (T := TX11) (N := 71) hx hb hts i11 hown hK hP 0 rfl rfl 69 (nlt rfl) w1 (fun _ h9 => h9) rfl dX11_image_20 ?_
  refine lv_bipush (v := 6) hx hb dX11_image_23 z4 ?_
  refine lv_iload_n hx hb dX11_image_25 rfl (lv_at hl 2 rfl) ?_
  refine lv_imul hx hb dX11_image_26 ?_
  refine tpi z918 ?_
  refine lv_iload_n hx hb dX11_image_27 rfl (lv_at hl 0 rfl) ?_
  refine lv_iadd hx hb dX11_image_28 ?_
  refine tpi z928 ?_
  refine lv_aload_n hx hb dX11_image_29 rfl (lv_at hl 1 rfl) ?_
  refine va_get (D := (dC, dI)) (ci := 11) (v := .ref (n 26)) (C := RX11) (T := TX11) (N := 71) hx hb hts i11 hown hK hP 0 rfl rfl 36 (nlt rfl) w2 (fun _ h9 => h9) rfl dX11_image_30 ?_
  refine lv_iload_n hx hb dX11_image_33 rfl (lv_at hl 0 rfl) ?_
  refine my_iald (v := 0) hx hb hK hP 1 1 rfl rfl z124 rfl dX11_image_34 ?_
  refine my_iastS hx hb hK hP hD hS 2 1 rfl rfl z929 rfl dX11_image_35 (fun H locs hP hD hS => ?_)
  refine lv_aload_n hx hb dX11_image_36 rfl (lv_at hl 1 rfl) ?_
  refine va_get (D := (dC, dI)) (ci := 11) (v := .ref (n 46)) (C := RX11) (T := TX11) (N := 71) hx hb hts i11 hown hK hP 0 rfl rfl 70 (nlt rfl) w3 (fun _ h9 => h9) rfl dX11_image_37 ?_
  refine lv_bipush (v := 6) hx hb dX11_image_40 z4 ?_
  refine lv_iload_n hx hb dX11_image_42 rfl (lv_at hl 2 rfl) ?_
  refine lv_imul hx hb dX11_image_43 ?_
  refine tpi z918 ?_
  refine lv_iload_n hx hb dX11_image_44 rfl (lv_at hl 0 rfl) ?_
  refine lv_iadd hx hb dX11_image_45 ?_
  refine tpi z928 ?_
  refine lv_aload_n hx hb dX11_image_46 rfl (lv_at hl 1 rfl) ?_
  refine va_get (D := (dC, dI)) (ci := 11) (v := .ref (n 27)) (C := RX11) (T := TX11) (N := 71) hx hb hts i11 hown hK hP 0 rfl rfl 37 (nlt rfl) w4 (fun _ h9 => h9) rfl dX11_image_47 ?_
  refine lv_iload_n hx hb dX11_image_50 rfl (lv_at hl 0 rfl) ?_
  refine my_iald (v := 2) hx hb hK hP 3 1 rfl rfl z124 rfl dX11_image_51 ?_
  refine my_iast hx hb hK hP hD hS 4 1 rfl rfl z929 dX11_image_52 (fun H locs hP hD hS => ?_)
  refine lv_iinc (v := 6) (lv' := [(2, .int 6), (0, .ref (n 0)), (1, .int 2)]) hx hb dX11_image_53 hl (k := 0) rfl z104 (nlt rfl) rfl (fun ls hl => ?_)
  refine lv_goto (tgt := 13) hx hb dX11_image_56 z898 ?_
  refine lv_iload_n hx hb dX11_image_13 rfl (lv_at hl 0 rfl) ?_
  refine lv_bipush (v := 6) hx hb dX11_image_14 z4 ?_
  refine lv_icmp_ge (tgt := 59) hx hb dX11_image_16 z895 (fun _ => ?_) (fun c1 => absurd (z105) c1)
  refine lv_aload_n hx hb dX11_image_59 rfl (lv_at hl 1 rfl) ?_
  refine va_get (D := (dC, dI)) (ci := 11) (v := .ref (n 44)) (C := RX11) (T := TX11) (N := 71) hx hb hts i11 hown hK hP 0 rfl rfl 68 (nlt rfl) w5 (fun _ h9 => h9) rfl dX11_image_60 ?_
  refine lv_iload_n hx hb dX11_image_63 rfl (lv_at hl 2 rfl) ?_
  refine lv_aload_n hx hb dX11_image_64 rfl (lv_at hl 1 rfl) ?_
  refine va_get (D := (dC, dI)) (ci := 11) (v := .int 0) (C := RX11) (T := TX11) (N := 71) hx hb hts i11 hown hK hP 0 rfl rfl 39 (nlt rfl) w6 (fun _ h9 => h9) rfl dX11_image_65 ?_
  refine my_iast hx hb hK hP hD hS 5 1 rfl rfl z167 dX11_image_68 (fun H locs hP hD hS => ?_)
  refine lv_aload_n hx hb dX11_image_69 rfl (lv_at hl 1 rfl) ?_
  refine va_get (D := (dC, dI)) (ci := 11) (v := .int 0) (C := RX11) (T := TX11) (N := 71) hx hb hts i11 hown hK hP 0 rfl rfl 39 (nlt rfl) w6 (fun _ h9 => h9) rfl dX11_image_70 ?_
  refine W.widen (k := 0) (n := 0) (by decide +kernel) (by decide +kernel) ?_
  exact ret_i hx hb hr hlocks hS (u := (fun _ => 0)) (hP.sub [] rfl) (hD.sub [] (by decide +kernel) rfl) dX11_image_73
