set_option maxHeartbeats 4000000 in
set_option maxRecDepth 100000 in
theorem k1_X8_packed (l : Launch) (dC : Nat → ClassId) (dI : Nat → Nat → Nat) (cB cI cJ cZ cO : ClassId) (ad av : Nat → Nat) : CLX l yX8_packed wsX8_packed ({ frames := 4, cells := 0, slots := 0, locals := 85 }) (dC, dI) (tyL cB cI cJ cZ cO) [.ref (ad 0)] [] (fun _ => []) 769604 ad av := by
  intro sz
  refine ctx_open (cc := cX8_packed) (maxL := 4) (ret := (some .long)) (by decide) rfl (Nat.le_of_ble_eq_true rfl) ?_
  intro p e s m below meth c ls A hx hb hr hml hts hown hlocks hin hP hK hD hA hS hl hE
  have hl : lv_has ls 4 [(0, .ref (ad 0))] := hl
  have hown : s.vm.findClass RX8 = some m.cls := hown
  refine lv_lconst (v := 0) hx hb dX8_packed_0 rfl ?_
  refine lv_lstore_n (lv' := [(1, .long 0), (0, .ref (ad 0))]) hx hb dX8_packed_1 rfl hl (nlt rfl) rfl (fun ls hl => ?_)
  refine lv_iconst (v := 0) hx hb dX8_packed_2 z8 ?_
  refine lv_istore_n (lv' := [(3, .int 0), (1, .long 0), (0, .ref (ad 0))]) hx hb dX8_packed_3 rfl hl (nlt rfl) rfl (fun ls hl => ?_)
  refine lv_iload_n hx hb dX8_packed_4 rfl (lv_at hl 0 rfl) ?_
  refine lv_aload_n hx hb dX8_packed_5 rfl (lv_at hl 2 rfl) ?_
  refine call_iVX (i := 0) (by decide) (As := []) (rest := [.int 0]) (wr := []) ⟨hx, hb, hml, hown, hts⟩ (kj_length l dC dI cB cI cJ cZ cO ad av 0 (by decide)) (cwV 0 hts gX8_packed_J0_length_8abf5 rfl rfl rfl (by decide +kernel) ⟨Nat.le_of_ble_eq_true rfl, Nat.le_of_ble_eq_true rfl⟩) hE hK hP hD hS hA [] rfl (by decide +kernel) hl.1 (Nat.le_of_ble_eq_true rfl) rfl rfl dX8_packed_6 ⟨Nat.le_of_ble_eq_true rfl, Nat.le_of_ble_eq_true rfl⟩ (fun u9 H locs hP hD hS => ?_)
  refine tpi (v := 4) (by decide +kernel) ?_
  refine lv_icmp_ge (tgt := 32) hx hb dX8_packed_9 z10 (fun c1 => absurd c1 (z9)) (fun _ => ?_)
  refine lv_lload_n hx hb dX8_packed_12 rfl (lv_at hl 1 rfl) ?_
  refine lv_iconst (v := 5) hx hb dX8_packed_13 z11 ?_
  refine lv_lshl (v := 0) hx hb dX8_packed_14 z12 ?_
  refine lv_aload_n hx hb dX8_packed_15 rfl (lv_at hl 2 rfl) ?_
  refine lv_iload_n hx hb dX8_packed_16 rfl (lv_at hl 0 rfl) ?_
  refine call_iVX (i := 0) (by decide) (As := [.int 0]) (rest := [.long 0]) (wr := []) ⟨hx, hb, hml, hown, hts⟩ (kj_charAt l dC dI cB cI cJ cZ cO ad av 0 (by decide) 0 (by decide +kernel) (by decide +kernel) (vin _ _ (by decide +kernel))) (cwV 1 hts gX8_packed_J0_charAt_5068e rfl rfl rfl (by decide +kernel) ⟨Nat.le_of_ble_eq_true rfl, Nat.le_of_ble_eq_true rfl⟩) hE hK hP hD hS hA [] rfl (by decide +kernel) hl.1 (Nat.le_of_ble_eq_true rfl) rfl rfl dX8_packed_17 ⟨Nat.le_of_ble_eq_true rfl, Nat.le_of_ble_eq_true rfl⟩ (fun u9 H locs hP hD hS => ?_)
  refine tpi (v := 119) (by decide +kernel) ?_
  refine lv_bipush (v := 96) hx hb dX8_packed_20 z13 ?_
  refine lv_isub hx hb dX8_packed_22 ?_
  refine tpi z14 ?_
  refine lv_i2l (v := 23) hx hb dX8_packed_23 z15 ?_
  refine lv_lor hx hb dX8_packed_24 ?_
  refine tpl z16 ?_
  refine lv_lstore_n (lv' := [(1, .long 23), (3, .int 0), (0, .ref (ad 0))]) hx hb dX8_packed_25 rfl hl (nlt rfl) rfl (fun ls hl => ?_)
  refine lv_iinc (v := 1) (lv' := [(3, .int 1), (1, .long 23), (0, .ref (ad 0))]) hx hb dX8_packed_26 hl (k := 1) rfl z17 (nlt rfl) rfl (fun ls hl => ?_)
  refine lv_goto (tgt := 4) hx hb dX8_packed_29 z18 ?_
  refine lv_iload_n hx hb dX8_packed_4 rfl (lv_at hl 0 rfl) ?_
  refine lv_aload_n hx hb dX8_packed_5 rfl (lv_at hl 2 rfl) ?_
  refine call_iVX (i := 0) (by decide) (As := []) (rest := [.int 1]) (wr := []) ⟨hx, hb, hml, hown, hts⟩ (kj_length l dC dI cB cI cJ cZ cO ad av 0 (by decide)) (cwV 0 hts gX8_packed_J0_length_8abf5 rfl rfl rfl (by decide +kernel) ⟨Nat.le_of_ble_eq_true rfl, Nat.le_of_ble_eq_true rfl⟩) hE hK hP hD hS hA [] rfl (by decide +kernel) hl.1 (Nat.le_of_ble_eq_true rfl) rfl rfl dX8_packed_6 ⟨Nat.le_of_ble_eq_true rfl, Nat.le_of_ble_eq_true rfl⟩ (fun u9 H locs hP hD hS => ?_)
  refine tpi (v := 4) (by decide +kernel) ?_
  refine lv_icmp_ge (tgt := 32) hx hb dX8_packed_9 z10 (fun c1 => absurd c1 (z19)) (fun _ => ?_)
  refine lv_lload_n hx hb dX8_packed_12 rfl (lv_at hl 1 rfl) ?_
  refine lv_iconst (v := 5) hx hb dX8_packed_13 z11 ?_
  refine lv_lshl (v := 736) hx hb dX8_packed_14 z20 ?_
  refine lv_aload_n hx hb dX8_packed_15 rfl (lv_at hl 2 rfl) ?_
  refine lv_iload_n hx hb dX8_packed_16 rfl (lv_at hl 0 rfl) ?_
  refine call_iVX (i := 0) (by decide) (As := [.int 1]) (rest := [.long 736]) (wr := []) ⟨hx, hb, hml, hown, hts⟩ (kj_charAt l dC dI cB cI cJ cZ cO ad av 0 (by decide) 1 (by decide +kernel) (by decide +kernel) (vin _ _ (by decide +kernel))) (cwV 1 hts gX8_packed_J0_charAt_5068e rfl rfl rfl (by decide +kernel) ⟨Nat.le_of_ble_eq_true rfl, Nat.le_of_ble_eq_true rfl⟩) hE hK hP hD hS hA [] rfl (by decide +kernel) hl.1 (Nat.le_of_ble_eq_true rfl) rfl rfl dX8_packed_17 ⟨Nat.le_of_ble_eq_true rfl, Nat.le_of_ble_eq_true rfl⟩ (fun u9 H locs hP hD hS => ?_)
  refine tpi (v := 111) (by decide +kernel) ?_
  refine lv_bipush (v := 96) hx hb dX8_packed_20 z13 ?_
  refine lv_isub hx hb dX8_packed_22 ?_
  refine tpi z21 ?_
  refine lv_i2l (v := 15) hx hb dX8_packed_23 z22 ?_
  refine lv_lor hx hb dX8_packed_24 ?_
  refine tpl z23 ?_
  refine lv_lstore_n (lv' := [(1, .long 751), (3, .int 1), (0, .ref (ad 0))]) hx hb dX8_packed_25 rfl hl (nlt rfl) rfl (fun ls hl => ?_)
  refine lv_iinc (v := 2) (lv' := [(3, .int 2), (1, .long 751), (0, .ref (ad 0))]) hx hb dX8_packed_26 hl (k := 1) rfl z24 (nlt rfl) rfl (fun ls hl => ?_)
  refine lv_goto (tgt := 4) hx hb dX8_packed_29 z18 ?_
  refine lv_iload_n hx hb dX8_packed_4 rfl (lv_at hl 0 rfl) ?_
  refine lv_aload_n hx hb dX8_packed_5 rfl (lv_at hl 2 rfl) ?_
  refine call_iVX (i := 0) (by decide) (As := []) (rest := [.int 2]) (wr := []) ⟨hx, hb, hml, hown, hts⟩ (kj_length l dC dI cB cI cJ cZ cO ad av 0 (by decide)) (cwV 0 hts gX8_packed_J0_length_8abf5 rfl rfl rfl (by decide +kernel) ⟨Nat.le_of_ble_eq_true rfl, Nat.le_of_ble_eq_true rfl⟩) hE hK hP hD hS hA [] rfl (by decide +kernel) hl.1 (Nat.le_of_ble_eq_true rfl) rfl rfl dX8_packed_6 ⟨Nat.le_of_ble_eq_true rfl, Nat.le_of_ble_eq_true rfl⟩ (fun u9 H locs hP hD hS => ?_)
  refine tpi (v := 4) (by decide +kernel) ?_
  refine lv_icmp_ge (tgt := 32) hx hb dX8_packed_9 z10 (fun c1 => absurd c1 (z25)) (fun _ => ?_)
  refine lv_lload_n hx hb dX8_packed_12 rfl (lv_at hl 1 rfl) ?_
  refine lv_iconst (v := 5) hx hb dX8_packed_13 z11 ?_
  refine lv_lshl (v := 24032) hx hb dX8_packed_14 z26 ?_
  refine lv_aload_n hx hb dX8_packed_15 rfl (lv_at hl 2 rfl) ?_
  refine lv_iload_n hx hb dX8_packed_16 rfl (lv_at hl 0 rfl) ?_
  refine call_iVX (i := 0) (by decide) (As := [.int 2]) (rest := [.long 24032]) (wr := []) ⟨hx, hb, hml, hown, hts⟩ (kj_charAt l dC dI cB cI cJ cZ cO ad av 0 (by decide) 2 (by decide +kernel) (by decide +kernel) (vin _ _ (by decide +kernel))) (cwV 1 hts gX8_packed_J0_charAt_5068e rfl rfl rfl (by decide +kernel) ⟨Nat.le_of_ble_eq_true rfl, Nat.le_of_ble_eq_true rfl⟩) hE hK hP hD hS hA [] rfl (by decide +kernel) hl.1 (Nat.le_of_ble_eq_true rfl) rfl rfl dX8_packed_17 ⟨Nat.le_of_ble_eq_true rfl, Nat.le_of_ble_eq_true rfl⟩ (fun u9 H locs hP hD hS => ?_)
  refine tpi (v := 114) (by decide +kernel) ?_
  refine lv_bipush (v := 96) hx hb dX8_packed_20 z13 ?_
  refine lv_isub hx hb dX8_packed_22 ?_
  refine tpi z27 ?_
  refine lv_i2l (v := 18) hx hb dX8_packed_23 z28 ?_
  refine lv_lor hx hb dX8_packed_24 ?_
  refine tpl z29 ?_
  refine lv_lstore_n (lv' := [(1, .long 24050), (3, .int 2), (0, .ref (ad 0))]) hx hb dX8_packed_25 rfl hl (nlt rfl) rfl (fun ls hl => ?_)
  refine lv_iinc (v := 3) (lv' := [(3, .int 3), (1, .long 24050), (0, .ref (ad 0))]) hx hb dX8_packed_26 hl (k := 1) rfl z30 (nlt rfl) rfl (fun ls hl => ?_)
  refine lv_goto (tgt := 4) hx hb dX8_packed_29 z18 ?_
  refine lv_iload_n hx hb dX8_packed_4 rfl (lv_at hl 0 rfl) ?_
  refine lv_aload_n hx hb dX8_packed_5 rfl (lv_at hl 2 rfl) ?_
  refine call_iVX (i := 0) (by decide) (As := []) (rest := [.int 3]) (wr := []) ⟨hx, hb, hml, hown, hts⟩ (kj_length l dC dI cB cI cJ cZ cO ad av 0 (by decide)) (cwV 0 hts gX8_packed_J0_length_8abf5 rfl rfl rfl (by decide +kernel) ⟨Nat.le_of_ble_eq_true rfl, Nat.le_of_ble_eq_true rfl⟩) hE hK hP hD hS hA [] rfl (by decide +kernel) hl.1 (Nat.le_of_ble_eq_true rfl) rfl rfl dX8_packed_6 ⟨Nat.le_of_ble_eq_true rfl, Nat.le_of_ble_eq_true rfl⟩ (fun u9 H locs hP hD hS => ?_)
  refine tpi (v := 4) (by decide +kernel) ?_
  refine lv_icmp_ge (tgt := 32) hx hb dX8_packed_9 z10 (fun c1 => absurd c1 (z31)) (fun _ => ?_)
  refine lv_lload_n hx hb dX8_packed_12 rfl (lv_at hl 1 rfl) ?_
  refine lv_iconst (v := 5) hx hb dX8_packed_13 z11 ?_
  refine lv_lshl (v := 769600) hx hb dX8_packed_14 z32 ?_
  refine lv_aload_n hx hb dX8_packed_15 rfl (lv_at hl 2 rfl) ?_
  refine lv_iload_n hx hb dX8_packed_16 rfl (lv_at hl 0 rfl) ?_
  refine call_iVX (i := 0) (by decide) (As := [.int 3]) (rest := [.long 769600]) (wr := []) ⟨hx, hb, hml, hown, hts⟩ (kj_charAt l dC dI cB cI cJ cZ cO ad av 0 (by decide) 3 (by decide +kernel) (by decide +kernel) (vin _ _ (by decide +kernel))) (cwV 1 hts gX8_packed_J0_charAt_5068e rfl rfl rfl (by decide +kernel) ⟨Nat.le_of_ble_eq_true rfl, Nat.le_of_ble_eq_true rfl⟩) hE hK hP hD hS hA [] rfl (by decide +kernel) hl.1 (Nat.le_of_ble_eq_true rfl) rfl rfl dX8_packed_17 ⟨Nat.le_of_ble_eq_true rfl, Nat.le_of_ble_eq_true rfl⟩ (fun u9 H locs hP hD hS => ?_)
  refine tpi (v := 100) (by decide +kernel) ?_
  refine lv_bipush (v := 96) hx hb dX8_packed_20 z13 ?_
  refine lv_isub hx hb dX8_packed_22 ?_
  refine tpi z33 ?_
  refine lv_i2l (v := 4) hx hb dX8_packed_23 z34 ?_
  refine lv_lor hx hb dX8_packed_24 ?_
  refine tpl z35 ?_
  refine lv_lstore_n (lv' := [(1, .long 769604), (3, .int 3), (0, .ref (ad 0))]) hx hb dX8_packed_25 rfl hl (nlt rfl) rfl (fun ls hl => ?_)
  refine lv_iinc (v := 4) (lv' := [(3, .int 4), (1, .long 769604), (0, .ref (ad 0))]) hx hb dX8_packed_26 hl (k := 1) rfl z36 (nlt rfl) rfl (fun ls hl => ?_)
  refine lv_goto (tgt := 4) hx hb dX8_packed_29 z18 ?_
  refine lv_iload_n hx hb dX8_packed_4 rfl (lv_at hl 0 rfl) ?_
  refine lv_aload_n hx hb dX8_packed_5 rfl (lv_at hl 2 rfl) ?_
  refine call_iVX (i := 0) (by decide) (As := []) (rest := [.int 4]) (wr := []) ⟨hx, hb, hml, hown, hts⟩ (kj_length l dC dI cB cI cJ cZ cO ad av 0 (by decide)) (cwV 0 hts gX8_packed_J0_length_8abf5 rfl rfl rfl (by decide +kernel) ⟨Nat.le_of_ble_eq_true rfl, Nat.le_of_ble_eq_true rfl⟩) hE hK hP hD hS hA [] rfl (by decide +kernel) hl.1 (Nat.le_of_ble_eq_true rfl) rfl rfl dX8_packed_6 ⟨Nat.le_of_ble_eq_true rfl, Nat.le_of_ble_eq_true rfl⟩ (fun u9 H locs hP hD hS => ?_)
  refine tpi (v := 4) (by decide +kernel) ?_
  refine lv_icmp_ge (tgt := 32) hx hb dX8_packed_9 z10 (fun _ => ?_) (fun c1 => absurd (z37) c1)
  refine lv_lload_n hx hb dX8_packed_32 rfl (lv_at hl 1 rfl) ?_
  refine W.widen (k := 0) (n := 0) (by decide +kernel) (by decide +kernel) ?_
  exact ret_l hx hb hr hlocks hS (u := (fun _ => 0)) (hP.sub [] rfl) (hD.sub [] (by decide +kernel) rfl) dX8_packed_33

set_option maxHeartbeats 4000000 in
set_option maxRecDepth 100000 in
theorem k2_X8_packed (l : Launch) (dC : Nat → ClassId) (dI : Nat → Nat → Nat) (cB cI cJ cZ cO : ClassId) (ad av : Nat → Nat) : CLX l yX8_packed wsX8_packed ({ frames := 4, cells := 0, slots := 0, locals := 85 }) (dC, dI) (tyL cB cI cJ cZ cO) [.ref (ad 1)] [] (fun _ => []) 525618 ad av := by
  intro sz
  refine ctx_open (cc := cX8_packed) (maxL := 4) (ret := (some .long)) (by decide) rfl (Nat.le_of_ble_eq_true rfl) ?_
  intro p e s m below meth c ls A hx hb hr hml hts hown hlocks hin hP hK hD hA hS hl hE
  have hl : lv_has ls 4 [(0, .ref (ad 1))] := hl
  have hown : s.vm.findClass RX8 = some m.cls := hown
  refine lv_lconst (v := 0) hx hb dX8_packed_0 rfl ?_
  refine lv_lstore_n (lv' := [(1, .long 0), (0, .ref (ad 1))]) hx hb dX8_packed_1 rfl hl (nlt rfl) rfl (fun ls hl => ?_)
  refine lv_iconst (v := 0) hx hb dX8_packed_2 z8 ?_
  refine lv_istore_n (lv' := [(3, .int 0), (1, .long 0), (0, .ref (ad 1))]) hx hb dX8_packed_3 rfl hl (nlt rfl) rfl (fun ls hl => ?_)
  refine lv_iload_n hx hb dX8_packed_4 rfl (lv_at hl 0 rfl) ?_
  refine lv_aload_n hx hb dX8_packed_5 rfl (lv_at hl 2 rfl) ?_
  refine call_iVX (i := 1) (by decide) (As := []) (rest := [.int 0]) (wr := []) ⟨hx, hb, hml, hown, hts⟩ (kj_length l dC dI cB cI cJ cZ cO ad av 1 (by decide)) (cwV 0 hts gX8_packed_J0_length_8abf5 rfl rfl rfl (by decide +kernel) ⟨Nat.le_of_ble_eq_true rfl, Nat.le_of_ble_eq_true rfl⟩) hE hK hP hD hS hA [] rfl (by decide +kernel) hl.1 (Nat.le_of_ble_eq_true rfl) rfl rfl dX8_packed_6 ⟨Nat.le_of_ble_eq_true rfl, Nat.le_of_ble_eq_true rfl⟩ (fun u9 H locs hP hD hS => ?_)
  refine tpi (v := 4) (by decide +kernel) ?_
  refine lv_icmp_ge (tgt := 32) hx hb dX8_packed_9 z10 (fun c1 => absurd c1 (z9)) (fun _ => ?_)
  refine lv_lload_n hx hb dX8_packed_12 rfl (lv_at hl 1 rfl) ?_
  refine lv_iconst (v := 5) hx hb dX8_packed_13 z11 ?_
  refine lv_lshl (v := 0) hx hb dX8_packed_14 z12 ?_
  refine lv_aload_n hx hb dX8_packed_15 rfl (lv_at hl 2 rfl) ?_
  refine lv_iload_n hx hb dX8_packed_16 rfl (lv_at hl 0 rfl) ?_
  refine call_iVX (i := 1) (by decide) (As := [.int 0]) (rest := [.long 0]) (wr := []) ⟨hx, hb, hml, hown, hts⟩ (kj_charAt l dC dI cB cI cJ cZ cO ad av 1 (by decide) 0 (by decide +kernel) (by decide +kernel) (vin _ _ (by decide +kernel))) (cwV 1 hts gX8_packed_J0_charAt_5068e rfl rfl rfl (by decide +kernel) ⟨Nat.le_of_ble_eq_true rfl, Nat.le_of_ble_eq_true rfl⟩) hE hK hP hD hS hA [] rfl (by decide +kernel) hl.1 (Nat.le_of_ble_eq_true rfl) rfl rfl dX8_packed_17 ⟨Nat.le_of_ble_eq_true rfl, Nat.le_of_ble_eq_true rfl⟩ (fun u9 H locs hP hD hS => ?_)
  refine tpi (v := 112) (by decide +kernel) ?_
  refine lv_bipush (v := 96) hx hb dX8_packed_20 z13 ?_
  refine lv_isub hx hb dX8_packed_22 ?_
  refine tpi z40 ?_
  refine lv_i2l (v := 16) hx hb dX8_packed_23 z41 ?_
  refine lv_lor hx hb dX8_packed_24 ?_
  refine tpl z42 ?_
  refine lv_lstore_n (lv' := [(1, .long 16), (3, .int 0), (0, .ref (ad 1))]) hx hb dX8_packed_25 rfl hl (nlt rfl) rfl (fun ls hl => ?_)
  refine lv_iinc (v := 1) (lv' := [(3, .int 1), (1, .long 16), (0, .ref (ad 1))]) hx hb dX8_packed_26 hl (k := 1) rfl z17 (nlt rfl) rfl (fun ls hl => ?_)
  refine lv_goto (tgt := 4) hx hb dX8_packed_29 z18 ?_
  refine lv_iload_n hx hb dX8_packed_4 rfl (lv_at hl 0 rfl) ?_
  refine lv_aload_n hx hb dX8_packed_5 rfl (lv_at hl 2 rfl) ?_
  refine call_iVX (i := 1) (by decide) (As := []) (rest := [.int 1]) (wr := []) ⟨hx, hb, hml, hown, hts⟩ (kj_length l dC dI cB cI cJ cZ cO ad av 1 (by decide)) (cwV 0 hts gX8_packed_J0_length_8abf5 rfl rfl rfl (by decide +kernel) ⟨Nat.le_of_ble_eq_true rfl, Nat.le_of_ble_eq_true rfl⟩) hE hK hP hD hS hA [] rfl (by decide +kernel) hl.1 (Nat.le_of_ble_eq_true rfl) rfl rfl dX8_packed_6 ⟨Nat.le_of_ble_eq_true rfl, Nat.le_of_ble_eq_true rfl⟩ (fun u9 H locs hP hD hS => ?_)
  refine tpi (v := 4) (by decide +kernel) ?_
  refine lv_icmp_ge (tgt := 32) hx hb dX8_packed_9 z10 (fun c1 => absurd c1 (z19)) (fun _ => ?_)
  refine lv_lload_n hx hb dX8_packed_12 rfl (lv_at hl 1 rfl) ?_
  refine lv_iconst (v := 5) hx hb dX8_packed_13 z11 ?_
  refine lv_lshl (v := 512) hx hb dX8_packed_14 z43 ?_
  refine lv_aload_n hx hb dX8_packed_15 rfl (lv_at hl 2 rfl) ?_
  refine lv_iload_n hx hb dX8_packed_16 rfl (lv_at hl 0 rfl) ?_
  refine call_iVX (i := 1) (by decide) (As := [.int 1]) (rest := [.long 512]) (wr := []) ⟨hx, hb, hml, hown, hts⟩ (kj_charAt l dC dI cB cI cJ cZ cO ad av 1 (by decide) 1 (by decide +kernel) (by decide +kernel) (vin _ _ (by decide +kernel))) (cwV 1 hts gX8_packed_J0_charAt_5068e rfl rfl rfl (by decide +kernel) ⟨Nat.le_of_ble_eq_true rfl, Nat.le_of_ble_eq_true rfl⟩) hE hK hP hD hS hA [] rfl (by decide +kernel) hl.1 (Nat.le_of_ble_eq_true rfl) rfl rfl dX8_packed_17 ⟨Nat.le_of_ble_eq_true rfl, Nat.le_of_ble_eq_true rfl⟩ (fun u9 H locs hP hD hS => ?_)
  refine tpi (v := 97) (by decide +kernel) ?_
  refine lv_bipush (v := 96) hx hb dX8_packed_20 z13 ?_
  refine lv_isub hx hb dX8_packed_22 ?_
  refine tpi z44 ?_
  refine lv_i2l (v := 1) hx hb dX8_packed_23 z45 ?_
  refine lv_lor hx hb dX8_packed_24 ?_
  refine tpl z46 ?_
  refine lv_lstore_n (lv' := [(1, .long 513), (3, .int 1), (0, .ref (ad 1))]) hx hb dX8_packed_25 rfl hl (nlt rfl) rfl (fun ls hl => ?_)
  refine lv_iinc (v := 2) (lv' := [(3, .int 2), (1, .long 513), (0, .ref (ad 1))]) hx hb dX8_packed_26 hl (k := 1) rfl z24 (nlt rfl) rfl (fun ls hl => ?_)
  refine lv_goto (tgt := 4) hx hb dX8_packed_29 z18 ?_
  refine lv_iload_n hx hb dX8_packed_4 rfl (lv_at hl 0 rfl) ?_
  refine lv_aload_n hx hb dX8_packed_5 rfl (lv_at hl 2 rfl) ?_
  refine call_iVX (i := 1) (by decide) (As := []) (rest := [.int 2]) (wr := []) ⟨hx, hb, hml, hown, hts⟩ (kj_length l dC dI cB cI cJ cZ cO ad av 1 (by decide)) (cwV 0 hts gX8_packed_J0_length_8abf5 rfl rfl rfl (by decide +kernel) ⟨Nat.le_of_ble_eq_true rfl, Nat.le_of_ble_eq_true rfl⟩) hE hK hP hD hS hA [] rfl (by decide +kernel) hl.1 (Nat.le_of_ble_eq_true rfl) rfl rfl dX8_packed_6 ⟨Nat.le_of_ble_eq_true rfl, Nat.le_of_ble_eq_true rfl⟩ (fun u9 H locs hP hD hS => ?_)
  refine tpi (v := 4) (by decide +kernel) ?_
  refine lv_icmp_ge (tgt := 32) hx hb dX8_packed_9 z10 (fun c1 => absurd c1 (z25)) (fun _ => ?_)
  refine lv_lload_n hx hb dX8_packed_12 rfl (lv_at hl 1 rfl) ?_
  refine lv_iconst (v := 5) hx hb dX8_packed_13 z11 ?_
  refine lv_lshl (v := 16416) hx hb dX8_packed_14 z47 ?_
  refine lv_aload_n hx hb dX8_packed_15 rfl (lv_at hl 2 rfl) ?_
  refine lv_iload_n hx hb dX8_packed_16 rfl (lv_at hl 0 rfl) ?_
  refine call_iVX (i := 1) (by decide) (As := [.int 2]) (rest := [.long 16416]) (wr := []) ⟨hx, hb, hml, hown, hts⟩ (kj_charAt l dC dI cB cI cJ cZ cO ad av 1 (by decide) 2 (by decide +kernel) (by decide +kernel) (vin _ _ (by decide +kernel))) (cwV 1 hts gX8_packed_J0_charAt_5068e rfl rfl rfl (by decide +kernel) ⟨Nat.le_of_ble_eq_true rfl, Nat.le_of_ble_eq_true rfl⟩) hE hK hP hD hS hA [] rfl (by decide +kernel) hl.1 (Nat.le_of_ble_eq_true rfl) rfl rfl dX8_packed_17 ⟨Nat.le_of_ble_eq_true rfl, Nat.le_of_ble_eq_true rfl⟩ (fun u9 H locs hP hD hS => ?_)
  refine tpi (v := 105) (by decide +kernel) ?_
  refine lv_bipush (v := 96) hx hb dX8_packed_20 z13 ?_
  refine lv_isub hx hb dX8_packed_22 ?_
  refine tpi z48 ?_
  refine lv_i2l (v := 9) hx hb dX8_packed_23 z49 ?_
  refine lv_lor hx hb dX8_packed_24 ?_
  refine tpl z50 ?_
  refine lv_lstore_n (lv' := [(1, .long 16425), (3, .int 2), (0, .ref (ad 1))]) hx hb dX8_packed_25 rfl hl (nlt rfl) rfl (fun ls hl => ?_)
  refine lv_iinc (v := 3) (lv' := [(3, .int 3), (1, .long 16425), (0, .ref (ad 1))]) hx hb dX8_packed_26 hl (k := 1) rfl z30 (nlt rfl) rfl (fun ls hl => ?_)
  refine lv_goto (tgt := 4) hx hb dX8_packed_29 z18 ?_
  refine lv_iload_n hx hb dX8_packed_4 rfl (lv_at hl 0 rfl) ?_
  refine lv_aload_n hx hb dX8_packed_5 rfl (lv_at hl 2 rfl) ?_
  refine call_iVX (i := 1) (by decide) (As := []) (rest := [.int 3]) (wr := []) ⟨hx, hb, hml, hown, hts⟩ (kj_length l dC dI cB cI cJ cZ cO ad av 1 (by decide)) (cwV 0 hts gX8_packed_J0_length_8abf5 rfl rfl rfl (by decide +kernel) ⟨Nat.le_of_ble_eq_true rfl, Nat.le_of_ble_eq_true rfl⟩) hE hK hP hD hS hA [] rfl (by decide +kernel) hl.1 (Nat.le_of_ble_eq_true rfl) rfl rfl dX8_packed_6 ⟨Nat.le_of_ble_eq_true rfl, Nat.le_of_ble_eq_true rfl⟩ (fun u9 H locs hP hD hS => ?_)
  refine tpi (v := 4) (by decide +kernel) ?_
  refine lv_icmp_ge (tgt := 32) hx hb dX8_packed_9 z10 (fun c1 => absurd c1 (z31)) (fun _ => ?_)
  refine lv_lload_n hx hb dX8_packed_12 rfl (lv_at hl 1 rfl) ?_
  refine lv_iconst (v := 5) hx hb dX8_packed_13 z11 ?_
  refine lv_lshl (v := 525600) hx hb dX8_packed_14 z51 ?_
  refine lv_aload_n hx hb dX8_packed_15 rfl (lv_at hl 2 rfl) ?_
  refine lv_iload_n hx hb dX8_packed_16 rfl (lv_at hl 0 rfl) ?_
  refine call_iVX (i := 1) (by decide) (As := [.int 3]) (rest := [.long 525600]) (wr := []) ⟨hx, hb, hml, hown, hts⟩ (kj_charAt l dC dI cB cI cJ cZ cO ad av 1 (by decide) 3 (by decide +kernel) (by decide +kernel) (vin _ _ (by decide +kernel))) (cwV 1 hts gX8_packed_J0_charAt_5068e rfl rfl rfl (by decide +kernel) ⟨Nat.le_of_ble_eq_true rfl, Nat.le_of_ble_eq_true rfl⟩) hE hK hP hD hS hA [] rfl (by decide +kernel) hl.1 (Nat.le_of_ble_eq_true rfl) rfl rfl dX8_packed_17 ⟨Nat.le_of_ble_eq_true rfl, Nat.le_of_ble_eq_true rfl⟩ (fun u9 H locs hP hD hS => ?_)
  refine tpi (v := 114) (by decide +kernel) ?_
  refine lv_bipush (v := 96) hx hb dX8_packed_20 z13 ?_
  refine lv_isub hx hb dX8_packed_22 ?_
  refine tpi z27 ?_
  refine lv_i2l (v := 18) hx hb dX8_packed_23 z28 ?_
  refine lv_lor hx hb dX8_packed_24 ?_
  refine tpl z52 ?_
  refine lv_lstore_n (lv' := [(1, .long 525618), (3, .int 3), (0, .ref (ad 1))]) hx hb dX8_packed_25 rfl hl (nlt rfl) rfl (fun ls hl => ?_)
  refine lv_iinc (v := 4) (lv' := [(3, .int 4), (1, .long 525618), (0, .ref (ad 1))]) hx hb dX8_packed_26 hl (k := 1) rfl z36 (nlt rfl) rfl (fun ls hl => ?_)
  refine lv_goto (tgt := 4) hx hb dX8_packed_29 z18 ?_
  refine lv_iload_n hx hb dX8_packed_4 rfl (lv_at hl 0 rfl) ?_
  refine lv_aload_n hx hb dX8_packed_5 rfl (lv_at hl 2 rfl) ?_
  refine call_iVX (i := 1) (by decide) (As := []) (rest := [.int 4]) (wr := []) ⟨hx, hb, hml, hown, hts⟩ (kj_length l dC dI cB cI cJ cZ cO ad av 1 (by decide)) (cwV 0 hts gX8_packed_J0_length_8abf5 rfl rfl rfl (by decide +kernel) ⟨Nat.le_of_ble_eq_true rfl, Nat.le_of_ble_eq_true rfl⟩) hE hK hP hD hS hA [] rfl (by decide +kernel) hl.1 (Nat.le_of_ble_eq_true rfl) rfl rfl dX8_packed_6 ⟨Nat.le_of_ble_eq_true rfl, Nat.le_of_ble_eq_true rfl⟩ (fun u9 H locs hP hD hS => ?_)
  refine tpi (v := 4) (by decide +kernel) ?_
  refine lv_icmp_ge (tgt := 32) hx hb dX8_packed_9 z10 (fun _ => ?_) (fun c1 => absurd (z37) c1)
  refine lv_lload_n hx hb dX8_packed_32 rfl (lv_at hl 1 rfl) ?_
  refine W.widen (k := 0) (n := 0) (by decide +kernel) (by decide +kernel) ?_
  exact ret_l hx hb hr hlocks hS (u := (fun _ => 0)) (hP.sub [] rfl) (hD.sub [] (by decide +kernel) rfl) dX8_packed_33

set_option maxHeartbeats 4000000 in
set_option maxRecDepth 100000 in
theorem k3_X8_packed (l : Launch) (dC : Nat → ClassId) (dI : Nat → Nat → Nat) (cB cI cJ cZ cO : ClassId) (ad av : Nat → Nat) : CLX l yX8_packed wsX8_packed ({ frames := 4, cells := 0, slots := 0, locals := 85 }) (dC, dI) (tyL cB cI cJ cZ cO) [.ref (ad 2)] [] (fun _ => []) 611717 ad av := by
  intro sz
  refine ctx_open (cc := cX8_packed) (maxL := 4) (ret := (some .long)) (by decide) rfl (Nat.le_of_ble_eq_true rfl) ?_
  intro p e s m below meth c ls A hx hb hr hml hts hown hlocks hin hP hK hD hA hS hl hE
  have hl : lv_has ls 4 [(0, .ref (ad 2))] := hl
  have hown : s.vm.findClass RX8 = some m.cls := hown
  refine lv_lconst (v := 0) hx hb dX8_packed_0 rfl ?_
  refine lv_lstore_n (lv' := [(1, .long 0), (0, .ref (ad 2))]) hx hb dX8_packed_1 rfl hl (nlt rfl) rfl (fun ls hl => ?_)
  refine lv_iconst (v := 0) hx hb dX8_packed_2 z8 ?_
  refine lv_istore_n (lv' := [(3, .int 0), (1, .long 0), (0, .ref (ad 2))]) hx hb dX8_packed_3 rfl hl (nlt rfl) rfl (fun ls hl => ?_)
  refine lv_iload_n hx hb dX8_packed_4 rfl (lv_at hl 0 rfl) ?_
  refine lv_aload_n hx hb dX8_packed_5 rfl (lv_at hl 2 rfl) ?_
  refine call_iVX (i := 2) (by decide) (As := []) (rest := [.int 0]) (wr := []) ⟨hx, hb, hml, hown, hts⟩ (kj_length l dC dI cB cI cJ cZ cO ad av 2 (by decide)) (cwV 0 hts gX8_packed_J0_length_8abf5 rfl rfl rfl (by decide +kernel) ⟨Nat.le_of_ble_eq_true rfl, Nat.le_of_ble_eq_true rfl⟩) hE hK hP hD hS hA [] rfl (by decide +kernel) hl.1 (Nat.le_of_ble_eq_true rfl) rfl rfl dX8_packed_6 ⟨Nat.le_of_ble_eq_true rfl, Nat.le_of_ble_eq_true rfl⟩ (fun u9 H locs hP hD hS => ?_)
  refine tpi (v := 4) (by decide +kernel) ?_
  refine lv_icmp_ge (tgt := 32) hx hb dX8_packed_9 z10 (fun c1 => absurd c1 (z9)) (fun _ => ?_)
  refine lv_lload_n hx hb dX8_packed_12 rfl (lv_at hl 1 rfl) ?_
  refine lv_iconst (v := 5) hx hb dX8_packed_13 z11 ?_
  refine lv_lshl (v := 0) hx hb dX8_packed_14 z12 ?_
  refine lv_aload_n hx hb dX8_packed_15 rfl (lv_at hl 2 rfl) ?_
  refine lv_iload_n hx hb dX8_packed_16 rfl (lv_at hl 0 rfl) ?_
  refine call_iVX (i := 2) (by decide) (As := [.int 0]) (rest := [.long 0]) (wr := []) ⟨hx, hb, hml, hown, hts⟩ (kj_charAt l dC dI cB cI cJ cZ cO ad av 2 (by decide) 0 (by decide +kernel) (by decide +kernel) (vin _ _ (by decide +kernel))) (cwV 1 hts gX8_packed_J0_charAt_5068e rfl rfl rfl (by decide +kernel) ⟨Nat.le_of_ble_eq_true rfl, Nat.le_of_ble_eq_true rfl⟩) hE hK hP hD hS hA [] rfl (by decide +kernel) hl.1 (Nat.le_of_ble_eq_true rfl) rfl rfl dX8_packed_17 ⟨Nat.le_of_ble_eq_true rfl, Nat.le_of_ble_eq_true rfl⟩ (fun u9 H locs hP hD hS => ?_)
  refine tpi (v := 114) (by decide +kernel) ?_
  refine lv_bipush (v := 96) hx hb dX8_packed_20 z13 ?_
  refine lv_isub hx hb dX8_packed_22 ?_
  refine tpi z27 ?_
  refine lv_i2l (v := 18) hx hb dX8_packed_23 z28 ?_
  refine lv_lor hx hb dX8_packed_24 ?_
  refine tpl z55 ?_
  refine lv_lstore_n (lv' := [(1, .long 18), (3, .int 0), (0, .ref (ad 2))]) hx hb dX8_packed_25 rfl hl (nlt rfl) rfl (fun ls hl => ?_)
  refine lv_iinc (v := 1) (lv' := [(3, .int 1), (1, .long 18), (0, .ref (ad 2))]) hx hb dX8_packed_26 hl (k := 1) rfl z17 (nlt rfl) rfl (fun ls hl => ?_)
  refine lv_goto (tgt := 4) hx hb dX8_packed_29 z18 ?_
  refine lv_iload_n hx hb dX8_packed_4 rfl (lv_at hl 0 rfl) ?_
  refine lv_aload_n hx hb dX8_packed_5 rfl (lv_at hl 2 rfl) ?_
  refine call_iVX (i := 2) (by decide) (As := []) (rest := [.int 1]) (wr := []) ⟨hx, hb, hml, hown, hts⟩ (kj_length l dC dI cB cI cJ cZ cO ad av 2 (by decide)) (cwV 0 hts gX8_packed_J0_length_8abf5 rfl rfl rfl (by decide +kernel) ⟨Nat.le_of_ble_eq_true rfl, Nat.le_of_ble_eq_true rfl⟩) hE hK hP hD hS hA [] rfl (by decide +kernel) hl.1 (Nat.le_of_ble_eq_true rfl) rfl rfl dX8_packed_6 ⟨Nat.le_of_ble_eq_true rfl, Nat.le_of_ble_eq_true rfl⟩ (fun u9 H locs hP hD hS => ?_)
  refine tpi (v := 4) (by decide +kernel) ?_
  refine lv_icmp_ge (tgt := 32) hx hb dX8_packed_9 z10 (fun c1 => absurd c1 (z19)) (fun _ => ?_)
  refine lv_lload_n hx hb dX8_packed_12 rfl (lv_at hl 1 rfl) ?_
  refine lv_iconst (v := 5) hx hb dX8_packed_13 z11 ?_
  refine lv_lshl (v := 576) hx hb dX8_packed_14 z56 ?_
  refine lv_aload_n hx hb dX8_packed_15 rfl (lv_at hl 2 rfl) ?_
  refine lv_iload_n hx hb dX8_packed_16 rfl (lv_at hl 0 rfl) ?_
  refine call_iVX (i := 2) (by decide) (As := [.int 1]) (rest := [.long 576]) (wr := []) ⟨hx, hb, hml, hown, hts⟩ (kj_charAt l dC dI cB cI cJ cZ cO ad av 2 (by decide) 1 (by decide +kernel) (by decide +kernel) (vin _ _ (by decide +kernel))) (cwV 1 hts gX8_packed_J0_charAt_5068e rfl rfl rfl (by decide +kernel) ⟨Nat.le_of_ble_eq_true rfl, Nat.le_of_ble_eq_true rfl⟩) hE hK hP hD hS hA [] rfl (by decide +kernel) hl.1 (Nat.le_of_ble_eq_true rfl) rfl rfl dX8_packed_17 ⟨Nat.le_of_ble_eq_true rfl, Nat.le_of_ble_eq_true rfl⟩ (fun u9 H locs hP hD hS => ?_)
  refine tpi (v := 117) (by decide +kernel) ?_
  refine lv_bipush (v := 96) hx hb dX8_packed_20 z13 ?_
  refine lv_isub hx hb dX8_packed_22 ?_
  refine tpi z57 ?_
  refine lv_i2l (v := 21) hx hb dX8_packed_23 z58 ?_
  refine lv_lor hx hb dX8_packed_24 ?_
  refine tpl z59 ?_
  refine lv_lstore_n (lv' := [(1, .long 597), (3, .int 1), (0, .ref (ad 2))]) hx hb dX8_packed_25 rfl hl (nlt rfl) rfl (fun ls hl => ?_)
  refine lv_iinc (v := 2) (lv' := [(3, .int 2), (1, .long 597), (0, .ref (ad 2))]) hx hb dX8_packed_26 hl (k := 1) rfl z24 (nlt rfl) rfl (fun ls hl => ?_)
  refine lv_goto (tgt := 4) hx hb dX8_packed_29 z18 ?_
  refine lv_iload_n hx hb dX8_packed_4 rfl (lv_at hl 0 rfl) ?_
  refine lv_aload_n hx hb dX8_packed_5 rfl (lv_at hl 2 rfl) ?_
  refine call_iVX (i := 2) (by decide) (As := []) (rest := [.int 2]) (wr := []) ⟨hx, hb, hml, hown, hts⟩ (kj_length l dC dI cB cI cJ cZ cO ad av 2 (by decide)) (cwV 0 hts gX8_packed_J0_length_8abf5 rfl rfl rfl (by decide +kernel) ⟨Nat.le_of_ble_eq_true rfl, Nat.le_of_ble_eq_true rfl⟩) hE hK hP hD hS hA [] rfl (by decide +kernel) hl.1 (Nat.le_of_ble_eq_true rfl) rfl rfl dX8_packed_6 ⟨Nat.le_of_ble_eq_true rfl, Nat.le_of_ble_eq_true rfl⟩ (fun u9 H locs hP hD hS => ?_)
  refine tpi (v := 4) (by decide +kernel) ?_
  refine lv_icmp_ge (tgt := 32) hx hb dX8_packed_9 z10 (fun c1 => absurd c1 (z25)) (fun _ => ?_)
  refine lv_lload_n hx hb dX8_packed_12 rfl (lv_at hl 1 rfl) ?_
  refine lv_iconst (v := 5) hx hb dX8_packed_13 z11 ?_
  refine lv_lshl (v := 19104) hx hb dX8_packed_14 z60 ?_
  refine lv_aload_n hx hb dX8_packed_15 rfl (lv_at hl 2 rfl) ?_
  refine lv_iload_n hx hb dX8_packed_16 rfl (lv_at hl 0 rfl) ?_
  refine call_iVX (i := 2) (by decide) (As := [.int 2]) (rest := [.long 19104]) (wr := []) ⟨hx, hb, hml, hown, hts⟩ (kj_charAt l dC dI cB cI cJ cZ cO ad av 2 (by decide) 2 (by decide +kernel) (by decide +kernel) (vin _ _ (by decide +kernel))) (cwV 1 hts gX8_packed_J0_charAt_5068e rfl rfl rfl (by decide +kernel) ⟨Nat.le_of_ble_eq_true rfl, Nat.le_of_ble_eq_true rfl⟩) hE hK hP hD hS hA [] rfl (by decide +kernel) hl.1 (Nat.le_of_ble_eq_true rfl) rfl rfl dX8_packed_17 ⟨Nat.le_of_ble_eq_true rfl, Nat.le_of_ble_eq_true rfl⟩ (fun u9 H locs hP hD hS => ?_)
  refine tpi (v := 108) (by decide +kernel) ?_
  refine lv_bipush (v := 96) hx hb dX8_packed_20 z13 ?_
  refine lv_isub hx hb dX8_packed_22 ?_
  refine tpi z61 ?_
  refine lv_i2l (v := 12) hx hb dX8_packed_23 z62 ?_
  refine lv_lor hx hb dX8_packed_24 ?_
  refine tpl z63 ?_
  refine lv_lstore_n (lv' := [(1, .long 19116), (3, .int 2), (0, .ref (ad 2))]) hx hb dX8_packed_25 rfl hl (nlt rfl) rfl (fun ls hl => ?_)
  refine lv_iinc (v := 3) (lv' := [(3, .int 3), (1, .long 19116), (0, .ref (ad 2))]) hx hb dX8_packed_26 hl (k := 1) rfl z30 (nlt rfl) rfl (fun ls hl => ?_)
  refine lv_goto (tgt := 4) hx hb dX8_packed_29 z18 ?_
  refine lv_iload_n hx hb dX8_packed_4 rfl (lv_at hl 0 rfl) ?_
  refine lv_aload_n hx hb dX8_packed_5 rfl (lv_at hl 2 rfl) ?_
  refine call_iVX (i := 2) (by decide) (As := []) (rest := [.int 3]) (wr := []) ⟨hx, hb, hml, hown, hts⟩ (kj_length l dC dI cB cI cJ cZ cO ad av 2 (by decide)) (cwV 0 hts gX8_packed_J0_length_8abf5 rfl rfl rfl (by decide +kernel) ⟨Nat.le_of_ble_eq_true rfl, Nat.le_of_ble_eq_true rfl⟩) hE hK hP hD hS hA [] rfl (by decide +kernel) hl.1 (Nat.le_of_ble_eq_true rfl) rfl rfl dX8_packed_6 ⟨Nat.le_of_ble_eq_true rfl, Nat.le_of_ble_eq_true rfl⟩ (fun u9 H locs hP hD hS => ?_)
  refine tpi (v := 4) (by decide +kernel) ?_
  refine lv_icmp_ge (tgt := 32) hx hb dX8_packed_9 z10 (fun c1 => absurd c1 (z31)) (fun _ => ?_)
  refine lv_lload_n hx hb dX8_packed_12 rfl (lv_at hl 1 rfl) ?_
  refine lv_iconst (v := 5) hx hb dX8_packed_13 z11 ?_
  refine lv_lshl (v := 611712) hx hb dX8_packed_14 z64 ?_
  refine lv_aload_n hx hb dX8_packed_15 rfl (lv_at hl 2 rfl) ?_
  refine lv_iload_n hx hb dX8_packed_16 rfl (lv_at hl 0 rfl) ?_
  refine call_iVX (i := 2) (by decide) (As := [.int 3]) (rest := [.long 611712]) (wr := []) ⟨hx, hb, hml, hown, hts⟩ (kj_charAt l dC dI cB cI cJ cZ cO ad av 2 (by decide) 3 (by decide +kernel) (by decide +kernel) (vin _ _ (by decide +kernel))) (cwV 1 hts gX8_packed_J0_charAt_5068e rfl rfl rfl (by decide +kernel) ⟨Nat.le_of_ble_eq_true rfl, Nat.le_of_ble_eq_true rfl⟩) hE hK hP hD hS hA [] rfl (by decide +kernel) hl.1 (Nat.le_of_ble_eq_true rfl) rfl rfl dX8_packed_17 ⟨Nat.le_of_ble_eq_true rfl, Nat.le_of_ble_eq_true rfl⟩ (fun u9 H locs hP hD hS => ?_)
  refine tpi (v := 101) (by decide +kernel) ?_
  refine lv_bipush (v := 96) hx hb dX8_packed_20 z13 ?_
  refine lv_isub hx hb dX8_packed_22 ?_
  refine tpi z65 ?_
  refine lv_i2l (v := 5) hx hb dX8_packed_23 z66 ?_
  refine lv_lor hx hb dX8_packed_24 ?_
  refine tpl z67 ?_
  refine lv_lstore_n (lv' := [(1, .long 611717), (3, .int 3), (0, .ref (ad 2))]) hx hb dX8_packed_25 rfl hl (nlt rfl) rfl (fun ls hl => ?_)
  refine lv_iinc (v := 4) (lv' := [(3, .int 4), (1, .long 611717), (0, .ref (ad 2))]) hx hb dX8_packed_26 hl (k := 1) rfl z36 (nlt rfl) rfl (fun ls hl => ?_)
  refine lv_goto (tgt := 4) hx hb dX8_packed_29 z18 ?_
  refine lv_iload_n hx hb dX8_packed_4 rfl (lv_at hl 0 rfl) ?_
  refine lv_aload_n hx hb dX8_packed_5 rfl (lv_at hl 2 rfl) ?_
  refine call_iVX (i := 2) (by decide) (As := []) (rest := [.int 4]) (wr := []) ⟨hx, hb, hml, hown, hts⟩ (kj_length l dC dI cB cI cJ cZ cO ad av 2 (by decide)) (cwV 0 hts gX8_packed_J0_length_8abf5 rfl rfl rfl (by decide +kernel) ⟨Nat.le_of_ble_eq_true rfl, Nat.le_of_ble_eq_true rfl⟩) hE hK hP hD hS hA [] rfl (by decide +kernel) hl.1 (Nat.le_of_ble_eq_true rfl) rfl rfl dX8_packed_6 ⟨Nat.le_of_ble_eq_true rfl, Nat.le_of_ble_eq_true rfl⟩ (fun u9 H locs hP hD hS => ?_)
  refine tpi (v := 4) (by decide +kernel) ?_
  refine lv_icmp_ge (tgt := 32) hx hb dX8_packed_9 z10 (fun _ => ?_) (fun c1 => absurd (z37) c1)
  refine lv_lload_n hx hb dX8_packed_32 rfl (lv_at hl 1 rfl) ?_
  refine W.widen (k := 0) (n := 0) (by decide +kernel) (by decide +kernel) ?_
  exact ret_l hx hb hr hlocks hS (u := (fun _ => 0)) (hP.sub [] rfl) (hD.sub [] (by decide +kernel) rfl) dX8_packed_33

set_option maxHeartbeats 4000000 in
set_option maxRecDepth 100000 in
theorem k4_X8_packed (l : Launch) (dC : Nat → ClassId) (dI : Nat → Nat → Nat) (cB cI cJ cZ cO : ClassId) (ad av : Nat → Nat) : CLX l yX8_packed wsX8_packed ({ frames := 4, cells := 0, slots := 0, locals := 85 }) (dC, dI) (tyL cB cI cJ cZ cO) [.ref (ad 3)] [] (fun _ => []) 498 ad av := by
  intro sz
  refine ctx_open (cc := cX8_packed) (maxL := 4) (ret := (some .long)) (by decide) rfl (Nat.le_of_ble_eq_true rfl) ?_
  intro p e s m below meth c ls A hx hb hr hml hts hown hlocks hin hP hK hD hA hS hl hE
  have hl : lv_has ls 4 [(0, .ref (ad 3))] := hl
  have hown : s.vm.findClass RX8 = some m.cls := hown
  refine lv_lconst (v := 0) hx hb dX8_packed_0 rfl ?_
  refine lv_lstore_n (lv' := [(1, .long 0), (0, .ref (ad 3))]) hx hb dX8_packed_1 rfl hl (nlt rfl) rfl (fun ls hl => ?_)
  refine lv_iconst (v := 0) hx hb dX8_packed_2 z8 ?_
  refine lv_istore_n (lv' := [(3, .int 0), (1, .long 0), (0, .ref (ad 3))]) hx hb dX8_packed_3 rfl hl (nlt rfl) rfl (fun ls hl => ?_)
  refine lv_iload_n hx hb dX8_packed_4 rfl (lv_at hl 0 rfl) ?_
  refine lv_aload_n hx hb dX8_packed_5 rfl (lv_at hl 2 rfl) ?_
  refine call_iVX (i := 3) (by decide) (As := []) (rest := [.int 0]) (wr := []) ⟨hx, hb, hml, hown, hts⟩ (kj_length l dC dI cB cI cJ cZ cO ad av 3 (by decide)) (cwV 0 hts gX8_packed_J0_length_8abf5 rfl rfl rfl (by decide +kernel) ⟨Nat.le_of_ble_eq_true rfl, Nat.le_of_ble_eq_true rfl⟩) hE hK hP hD hS hA [] rfl (by decide +kernel) hl.1 (Nat.le_of_ble_eq_true rfl) rfl rfl dX8_packed_6 ⟨Nat.le_of_ble_eq_true rfl, Nat.le_of_ble_eq_true rfl⟩ (fun u9 H locs hP hD hS => ?_)
  refine tpi (v := 2) (by decide +kernel) ?_
  refine lv_icmp_ge (tgt := 32) hx hb dX8_packed_9 z10 (fun c1 => absurd c1 (z70)) (fun _ => ?_)
  refine lv_lload_n hx hb dX8_packed_12 rfl (lv_at hl 1 rfl) ?_
  refine lv_iconst (v := 5) hx hb dX8_packed_13 z11 ?_
  refine lv_lshl (v := 0) hx hb dX8_packed_14 z12 ?_
  refine lv_aload_n hx hb dX8_packed_15 rfl (lv_at hl 2 rfl) ?_
  refine lv_iload_n hx hb dX8_packed_16 rfl (lv_at hl 0 rfl) ?_
  refine call_iVX (i := 3) (by decide) (As := [.int 0]) (rest := [.long 0]) (wr := []) ⟨hx, hb, hml, hown, hts⟩ (kj_charAt l dC dI cB cI cJ cZ cO ad av 3 (by decide) 0 (by decide +kernel) (by decide +kernel) (vin _ _ (by decide +kernel))) (cwV 1 hts gX8_packed_J0_charAt_5068e rfl rfl rfl (by decide +kernel) ⟨Nat.le_of_ble_eq_true rfl, Nat.le_of_ble_eq_true rfl⟩) hE hK hP hD hS hA [] rfl (by decide +kernel) hl.1 (Nat.le_of_ble_eq_true rfl) rfl rfl dX8_packed_17 ⟨Nat.le_of_ble_eq_true rfl, Nat.le_of_ble_eq_true rfl⟩ (fun u9 H locs hP hD hS => ?_)
  refine tpi (v := 111) (by decide +kernel) ?_
  refine lv_bipush (v := 96) hx hb dX8_packed_20 z13 ?_
  refine lv_isub hx hb dX8_packed_22 ?_
  refine tpi z21 ?_
  refine lv_i2l (v := 15) hx hb dX8_packed_23 z22 ?_
  refine lv_lor hx hb dX8_packed_24 ?_
  refine tpl z71 ?_
  refine lv_lstore_n (lv' := [(1, .long 15), (3, .int 0), (0, .ref (ad 3))]) hx hb dX8_packed_25 rfl hl (nlt rfl) rfl (fun ls hl => ?_)
  refine lv_iinc (v := 1) (lv' := [(3, .int 1), (1, .long 15), (0, .ref (ad 3))]) hx hb dX8_packed_26 hl (k := 1) rfl z17 (nlt rfl) rfl (fun ls hl => ?_)
  refine lv_goto (tgt := 4) hx hb dX8_packed_29 z18 ?_
  refine lv_iload_n hx hb dX8_packed_4 rfl (lv_at hl 0 rfl) ?_
  refine lv_aload_n hx hb dX8_packed_5 rfl (lv_at hl 2 rfl) ?_
  refine call_iVX (i := 3) (by decide) (As := []) (rest := [.int 1]) (wr := []) ⟨hx, hb, hml, hown, hts⟩ (kj_length l dC dI cB cI cJ cZ cO ad av 3 (by decide)) (cwV 0 hts gX8_packed_J0_length_8abf5 rfl rfl rfl (by decide +kernel) ⟨Nat.le_of_ble_eq_true rfl, Nat.le_of_ble_eq_true rfl⟩) hE hK hP hD hS hA [] rfl (by decide +kernel) hl.1 (Nat.le_of_ble_eq_true rfl) rfl rfl dX8_packed_6 ⟨Nat.le_of_ble_eq_true rfl, Nat.le_of_ble_eq_true rfl⟩ (fun u9 H locs hP hD hS => ?_)
  refine tpi (v := 2) (by decide +kernel) ?_
  refine lv_icmp_ge (tgt := 32) hx hb dX8_packed_9 z10 (fun c1 => absurd c1 (z72)) (fun _ => ?_)
  refine lv_lload_n hx hb dX8_packed_12 rfl (lv_at hl 1 rfl) ?_
  refine lv_iconst (v := 5) hx hb dX8_packed_13 z11 ?_
  refine lv_lshl (v := 480) hx hb dX8_packed_14 z73 ?_
  refine lv_aload_n hx hb dX8_packed_15 rfl (lv_at hl 2 rfl) ?_
  refine lv_iload_n hx hb dX8_packed_16 rfl (lv_at hl 0 rfl) ?_
  refine call_iVX (i := 3) (by decide) (As := [.int 1]) (rest := [.long 480]) (wr := []) ⟨hx, hb, hml, hown, hts⟩ (kj_charAt l dC dI cB cI cJ cZ cO ad av 3 (by decide) 1 (by decide +kernel) (by decide +kernel) (vin _ _ (by decide +kernel))) (cwV 1 hts gX8_packed_J0_charAt_5068e rfl rfl rfl (by decide +kernel) ⟨Nat.le_of_ble_eq_true rfl, Nat.le_of_ble_eq_true rfl⟩) hE hK hP hD hS hA [] rfl (by decide +kernel) hl.1 (Nat.le_of_ble_eq_true rfl) rfl rfl dX8_packed_17 ⟨Nat.le_of_ble_eq_true rfl, Nat.le_of_ble_eq_true rfl⟩ (fun u9 H locs hP hD hS => ?_)
  refine tpi (v := 114) (by decide +kernel) ?_
  refine lv_bipush (v := 96) hx hb dX8_packed_20 z13 ?_
  refine lv_isub hx hb dX8_packed_22 ?_
  refine tpi z27 ?_
  refine lv_i2l (v := 18) hx hb dX8_packed_23 z28 ?_
  refine lv_lor hx hb dX8_packed_24 ?_
  refine tpl z74 ?_
  refine lv_lstore_n (lv' := [(1, .long 498), (3, .int 1), (0, .ref (ad 3))]) hx hb dX8_packed_25 rfl hl (nlt rfl) rfl (fun ls hl => ?_)
  refine lv_iinc (v := 2) (lv' := [(3, .int 2), (1, .long 498), (0, .ref (ad 3))]) hx hb dX8_packed_26 hl (k := 1) rfl z24 (nlt rfl) rfl (fun ls hl => ?_)
  refine lv_goto (tgt := 4) hx hb dX8_packed_29 z18 ?_
  refine lv_iload_n hx hb dX8_packed_4 rfl (lv_at hl 0 rfl) ?_
  refine lv_aload_n hx hb dX8_packed_5 rfl (lv_at hl 2 rfl) ?_
  refine call_iVX (i := 3) (by decide) (As := []) (rest := [.int 2]) (wr := []) ⟨hx, hb, hml, hown, hts⟩ (kj_length l dC dI cB cI cJ cZ cO ad av 3 (by decide)) (cwV 0 hts gX8_packed_J0_length_8abf5 rfl rfl rfl (by decide +kernel) ⟨Nat.le_of_ble_eq_true rfl, Nat.le_of_ble_eq_true rfl⟩) hE hK hP hD hS hA [] rfl (by decide +kernel) hl.1 (Nat.le_of_ble_eq_true rfl) rfl rfl dX8_packed_6 ⟨Nat.le_of_ble_eq_true rfl, Nat.le_of_ble_eq_true rfl⟩ (fun u9 H locs hP hD hS => ?_)
  refine tpi (v := 2) (by decide +kernel) ?_
  refine lv_icmp_ge (tgt := 32) hx hb dX8_packed_9 z10 (fun _ => ?_) (fun c1 => absurd (z75) c1)
  refine lv_lload_n hx hb dX8_packed_32 rfl (lv_at hl 1 rfl) ?_
  refine W.widen (k := 0) (n := 0) (by decide +kernel) (by decide +kernel) ?_
  exact ret_l hx hb hr hlocks hS (u := (fun _ => 0)) (hP.sub [] rfl) (hD.sub [] (by decide +kernel) rfl) dX8_packed_33

set_option maxHeartbeats 4000000 in
set_option maxRecDepth 100000 in
theorem k5_X8_packed (l : Launch) (dC : Nat → ClassId) (dI : Nat → Nat → Nat) (cB cI cJ cZ cO : ClassId) (ad av : Nat → Nat) : CLX l yX8_packed wsX8_packed ({ frames := 4, cells := 0, slots := 0, locals := 85 }) (dC, dI) (tyL cB cI cJ cZ cO) [.ref (ad 4)] [] (fun _ => []) 408362632 ad av := by
  intro sz
  refine ctx_open (cc := cX8_packed) (maxL := 4) (ret := (some .long)) (by decide) rfl (Nat.le_of_ble_eq_true rfl) ?_
  intro p e s m below meth c ls A hx hb hr hml hts hown hlocks hin hP hK hD hA hS hl hE
  have hl : lv_has ls 4 [(0, .ref (ad 4))] := hl
  have hown : s.vm.findClass RX8 = some m.cls := hown
  refine lv_lconst (v := 0) hx hb dX8_packed_0 rfl ?_
  refine lv_lstore_n (lv' := [(1, .long 0), (0, .ref (ad 4))]) hx hb dX8_packed_1 rfl hl (nlt rfl) rfl (fun ls hl => ?_)
  refine lv_iconst (v := 0) hx hb dX8_packed_2 z8 ?_
  refine lv_istore_n (lv' := [(3, .int 0), (1, .long 0), (0, .ref (ad 4))]) hx hb dX8_packed_3 rfl hl (nlt rfl) rfl (fun ls hl => ?_)
  refine lv_iload_n hx hb dX8_packed_4 rfl (lv_at hl 0 rfl) ?_
  refine lv_aload_n hx hb dX8_packed_5 rfl (lv_at hl 2 rfl) ?_
  refine call_iVX (i := 4) (by decide) (As := []) (rest := [.int 0]) (wr := []) ⟨hx, hb, hml, hown, hts⟩ (kj_length l dC dI cB cI cJ cZ cO ad av 4 (by decide)) (cwV 0 hts gX8_packed_J0_length_8abf5 rfl rfl rfl (by decide +kernel) ⟨Nat.le_of_ble_eq_true rfl, Nat.le_of_ble_eq_true rfl⟩) hE hK hP hD hS hA [] rfl (by decide +kernel) hl.1 (Nat.le_of_ble_eq_true rfl) rfl rfl dX8_packed_6 ⟨Nat.le_of_ble_eq_true rfl, Nat.le_of_ble_eq_true rfl⟩ (fun u9 H locs hP hD hS => ?_)
  refine tpi (v := 6) (by decide +kernel) ?_
  refine lv_icmp_ge (tgt := 32) hx hb dX8_packed_9 z10 (fun c1 => absurd c1 (z78)) (fun _ => ?_)
  refine lv_lload_n hx hb dX8_packed_12 rfl (lv_at hl 1 rfl) ?_
  refine lv_iconst (v := 5) hx hb dX8_packed_13 z11 ?_
  refine lv_lshl (v := 0) hx hb dX8_packed_14 z12 ?_
  refine lv_aload_n hx hb dX8_packed_15 rfl (lv_at hl 2 rfl) ?_
  refine lv_iload_n hx hb dX8_packed_16 rfl (lv_at hl 0 rfl) ?_
  refine call_iVX (i := 4) (by decide) (As := [.int 0]) (rest := [.long 0]) (wr := []) ⟨hx, hb, hml, hown, hts⟩ (kj_charAt l dC dI cB cI cJ cZ cO ad av 4 (by decide) 0 (by decide +kernel) (by decide +kernel) (vin _ _ (by decide +kernel))) (cwV 1 hts gX8_packed_J0_charAt_5068e rfl rfl rfl (by decide +kernel) ⟨Nat.le_of_ble_eq_true rfl, Nat.le_of_ble_eq_true rfl⟩) hE hK hP hD hS hA [] rfl (by decide +kernel) hl.1 (Nat.le_of_ble_eq_true rfl) rfl rfl dX8_packed_17 ⟨Nat.le_of_ble_eq_true rfl, Nat.le_of_ble_eq_true rfl⟩ (fun u9 H locs hP hD hS => ?_)
  refine tpi (v := 108) (by decide +kernel) ?_
  refine lv_bipush (v := 96) hx hb dX8_packed_20 z13 ?_
  refine lv_isub hx hb dX8_packed_22 ?_
  refine tpi z61 ?_
  refine lv_i2l (v := 12) hx hb dX8_packed_23 z62 ?_
  refine lv_lor hx hb dX8_packed_24 ?_
  refine tpl z79 ?_
  refine lv_lstore_n (lv' := [(1, .long 12), (3, .int 0), (0, .ref (ad 4))]) hx hb dX8_packed_25 rfl hl (nlt rfl) rfl (fun ls hl => ?_)
  refine lv_iinc (v := 1) (lv' := [(3, .int 1), (1, .long 12), (0, .ref (ad 4))]) hx hb dX8_packed_26 hl (k := 1) rfl z17 (nlt rfl) rfl (fun ls hl => ?_)
  refine lv_goto (tgt := 4) hx hb dX8_packed_29 z18 ?_
  refine lv_iload_n hx hb dX8_packed_4 rfl (lv_at hl 0 rfl) ?_
  refine lv_aload_n hx hb dX8_packed_5 rfl (lv_at hl 2 rfl) ?_
  refine call_iVX (i := 4) (by decide) (As := []) (rest := [.int 1]) (wr := []) ⟨hx, hb, hml, hown, hts⟩ (kj_length l dC dI cB cI cJ cZ cO ad av 4 (by decide)) (cwV 0 hts gX8_packed_J0_length_8abf5 rfl rfl rfl (by decide +kernel) ⟨Nat.le_of_ble_eq_true rfl, Nat.le_of_ble_eq_true rfl⟩) hE hK hP hD hS hA [] rfl (by decide +kernel) hl.1 (Nat.le_of_ble_eq_true rfl) rfl rfl dX8_packed_6 ⟨Nat.le_of_ble_eq_true rfl, Nat.le_of_ble_eq_true rfl⟩ (fun u9 H locs hP hD hS => ?_)
  refine tpi (v := 6) (by decide +kernel) ?_
  refine lv_icmp_ge (tgt := 32) hx hb dX8_packed_9 z10 (fun c1 => absurd c1 (z80)) (fun _ => ?_)
  refine lv_lload_n hx hb dX8_packed_12 rfl (lv_at hl 1 rfl) ?_
  refine lv_iconst (v := 5) hx hb dX8_packed_13 z11 ?_
  refine lv_lshl (v := 384) hx hb dX8_packed_14 z81 ?_
  refine lv_aload_n hx hb dX8_packed_15 rfl (lv_at hl 2 rfl) ?_
  refine lv_iload_n hx hb dX8_packed_16 rfl (lv_at hl 0 rfl) ?_
  refine call_iVX (i := 4) (by decide) (As := [.int 1]) (rest := [.long 384]) (wr := []) ⟨hx, hb, hml, hown, hts⟩ (kj_charAt l dC dI cB cI cJ cZ cO ad av 4 (by decide) 1 (by decide +kernel) (by decide +kernel) (vin _ _ (by decide +kernel))) (cwV 1 hts gX8_packed_J0_charAt_5068e rfl rfl rfl (by decide +kernel) ⟨Nat.le_of_ble_eq_true rfl, Nat.le_of_ble_eq_true rfl⟩) hE hK hP hD hS hA [] rfl (by decide +kernel) hl.1 (Nat.le_of_ble_eq_true rfl) rfl rfl dX8_packed_17 ⟨Nat.le_of_ble_eq_true rfl, Nat.le_of_ble_eq_true rfl⟩ (fun u9 H locs hP hD hS => ?_)
  refine tpi (v := 101) (by decide +kernel) ?_
  refine lv_bipush (v := 96) hx hb dX8_packed_20 z13 ?_
  refine lv_isub hx hb dX8_packed_22 ?_
  refine tpi z65 ?_
  refine lv_i2l (v := 5) hx hb dX8_packed_23 z66 ?_
  refine lv_lor hx hb dX8_packed_24 ?_
  refine tpl z82 ?_
  refine lv_lstore_n (lv' := [(1, .long 389), (3, .int 1), (0, .ref (ad 4))]) hx hb dX8_packed_25 rfl hl (nlt rfl) rfl (fun ls hl => ?_)
  refine lv_iinc (v := 2) (lv' := [(3, .int 2), (1, .long 389), (0, .ref (ad 4))]) hx hb dX8_packed_26 hl (k := 1) rfl z24 (nlt rfl) rfl (fun ls hl => ?_)
  refine lv_goto (tgt := 4) hx hb dX8_packed_29 z18 ?_
  refine lv_iload_n hx hb dX8_packed_4 rfl (lv_at hl 0 rfl) ?_
  refine lv_aload_n hx hb dX8_packed_5 rfl (lv_at hl 2 rfl) ?_
  refine call_iVX (i := 4) (by decide) (As := []) (rest := [.int 2]) (wr := []) ⟨hx, hb, hml, hown, hts⟩ (kj_length l dC dI cB cI cJ cZ cO ad av 4 (by decide)) (cwV 0 hts gX8_packed_J0_length_8abf5 rfl rfl rfl (by decide +kernel) ⟨Nat.le_of_ble_eq_true rfl, Nat.le_of_ble_eq_true rfl⟩) hE hK hP hD hS hA [] rfl (by decide +kernel) hl.1 (Nat.le_of_ble_eq_true rfl) rfl rfl dX8_packed_6 ⟨Nat.le_of_ble_eq_true rfl, Nat.le_of_ble_eq_true rfl⟩ (fun u9 H locs hP hD hS => ?_)
  refine tpi (v := 6) (by decide +kernel) ?_
  refine lv_icmp_ge (tgt := 32) hx hb dX8_packed_9 z10 (fun c1 => absurd c1 (z83)) (fun _ => ?_)
  refine lv_lload_n hx hb dX8_packed_12 rfl (lv_at hl 1 rfl) ?_
  refine lv_iconst (v := 5) hx hb dX8_packed_13 z11 ?_
  refine lv_lshl (v := 12448) hx hb dX8_packed_14 z84 ?_
  refine lv_aload_n hx hb dX8_packed_15 rfl (lv_at hl 2 rfl) ?_
  refine lv_iload_n hx hb dX8_packed_16 rfl (lv_at hl 0 rfl) ?_
  refine call_iVX (i := 4) (by decide) (As := [.int 2]) (rest := [.long 12448]) (wr := []) ⟨hx, hb, hml, hown, hts⟩ (kj_charAt l dC dI cB cI cJ cZ cO ad av 4 (by decide) 2 (by decide +kernel) (by decide +kernel) (vin _ _ (by decide +kernel))) (cwV 1 hts gX8_packed_J0_charAt_5068e rfl rfl rfl (by decide +kernel) ⟨Nat.le_of_ble_eq_true rfl, Nat.le_of_ble_eq_true rfl⟩) hE hK hP hD hS hA [] rfl (by decide +kernel) hl.1 (Nat.le_of_ble_eq_true rfl) rfl rfl dX8_packed_17 ⟨Nat.le_of_ble_eq_true rfl, Nat.le_of_ble_eq_true rfl⟩ (fun u9 H locs hP hD hS => ?_)
  refine tpi (v := 110) (by decide +kernel) ?_
  refine lv_bipush (v := 96) hx hb dX8_packed_20 z13 ?_
  refine lv_isub hx hb dX8_packed_22 ?_
  refine tpi z85 ?_
  refine lv_i2l (v := 14) hx hb dX8_packed_23 z86 ?_
  refine lv_lor hx hb dX8_packed_24 ?_
  refine tpl z87 ?_
  refine lv_lstore_n (lv' := [(1, .long 12462), (3, .int 2), (0, .ref (ad 4))]) hx hb dX8_packed_25 rfl hl (nlt rfl) rfl (fun ls hl => ?_)
  refine lv_iinc (v := 3) (lv' := [(3, .int 3), (1, .long 12462), (0, .ref (ad 4))]) hx hb dX8_packed_26 hl (k := 1) rfl z30 (nlt rfl) rfl (fun ls hl => ?_)
  refine lv_goto (tgt := 4) hx hb dX8_packed_29 z18 ?_
  refine lv_iload_n hx hb dX8_packed_4 rfl (lv_at hl 0 rfl) ?_
  refine lv_aload_n hx hb dX8_packed_5 rfl (lv_at hl 2 rfl) ?_
  refine call_iVX (i := 4) (by decide) (As := []) (rest := [.int 3]) (wr := []) ⟨hx, hb, hml, hown, hts⟩ (kj_length l dC dI cB cI cJ cZ cO ad av 4 (by decide)) (cwV 0 hts gX8_packed_J0_length_8abf5 rfl rfl rfl (by decide +kernel) ⟨Nat.le_of_ble_eq_true rfl, Nat.le_of_ble_eq_true rfl⟩) hE hK hP hD hS hA [] rfl (by decide +kernel) hl.1 (Nat.le_of_ble_eq_true rfl) rfl rfl dX8_packed_6 ⟨Nat.le_of_ble_eq_true rfl, Nat.le_of_ble_eq_true rfl⟩ (fun u9 H locs hP hD hS => ?_)
  refine tpi (v := 6) (by decide +kernel) ?_
  refine lv_icmp_ge (tgt := 32) hx hb dX8_packed_9 z10 (fun c1 => absurd c1 (z88)) (fun _ => ?_)
  refine lv_lload_n hx hb dX8_packed_12 rfl (lv_at hl 1 rfl) ?_
  refine lv_iconst (v := 5) hx hb dX8_packed_13 z11 ?_
  refine lv_lshl (v := 398784) hx hb dX8_packed_14 z89 ?_
  refine lv_aload_n hx hb dX8_packed_15 rfl (lv_at hl 2 rfl) ?_
  refine lv_iload_n hx hb dX8_packed_16 rfl (lv_at hl 0 rfl) ?_
  refine call_iVX (i := 4) (by decide) (As := [.int 3]) (rest := [.long 398784]) (wr := []) ⟨hx, hb, hml, hown, hts⟩ (kj_charAt l dC dI cB cI cJ cZ cO ad av 4 (by decide) 3 (by decide +kernel) (by decide +kernel) (vin _ _ (by decide +kernel))) (cwV 1 hts gX8_packed_J0_charAt_5068e rfl rfl rfl (by decide +kernel) ⟨Nat.le_of_ble_eq_true rfl, Nat.le_of_ble_eq_true rfl⟩) hE hK hP hD hS hA [] rfl (by decide +kernel) hl.1 (Nat.le_of_ble_eq_true rfl) rfl rfl dX8_packed_17 ⟨Nat.le_of_ble_eq_true rfl, Nat.le_of_ble_eq_true rfl⟩ (fun u9 H locs hP hD hS => ?_)
  refine tpi (v := 103) (by decide +kernel) ?_
  refine lv_bipush (v := 96) hx hb dX8_packed_20 z13 ?_
  refine lv_isub hx hb dX8_packed_22 ?_
  refine tpi z90 ?_
  refine lv_i2l (v := 7) hx hb dX8_packed_23 z91 ?_
  refine lv_lor hx hb dX8_packed_24 ?_
  refine tpl z92 ?_
  refine lv_lstore_n (lv' := [(1, .long 398791), (3, .int 3), (0, .ref (ad 4))]) hx hb dX8_packed_25 rfl hl (nlt rfl) rfl (fun ls hl => ?_)
  refine lv_iinc (v := 4) (lv' := [(3, .int 4), (1, .long 398791), (0, .ref (ad 4))]) hx hb dX8_packed_26 hl (k := 1) rfl z36 (nlt rfl) rfl (fun ls hl => ?_)
  refine lv_goto (tgt := 4) hx hb dX8_packed_29 z18 ?_
  refine lv_iload_n hx hb dX8_packed_4 rfl (lv_at hl 0 rfl) ?_
  refine lv_aload_n hx hb dX8_packed_5 rfl (lv_at hl 2 rfl) ?_
  refine call_iVX (i := 4) (by decide) (As := []) (rest := [.int 4]) (wr := []) ⟨hx, hb, hml, hown, hts⟩ (kj_length l dC dI cB cI cJ cZ cO ad av 4 (by decide)) (cwV 0 hts gX8_packed_J0_length_8abf5 rfl rfl rfl (by decide +kernel) ⟨Nat.le_of_ble_eq_true rfl, Nat.le_of_ble_eq_true rfl⟩) hE hK hP hD hS hA [] rfl (by decide +kernel) hl.1 (Nat.le_of_ble_eq_true rfl) rfl rfl dX8_packed_6 ⟨Nat.le_of_ble_eq_true rfl, Nat.le_of_ble_eq_true rfl⟩ (fun u9 H locs hP hD hS => ?_)
  refine tpi (v := 6) (by decide +kernel) ?_
  refine lv_icmp_ge (tgt := 32) hx hb dX8_packed_9 z10 (fun c1 => absurd c1 (z93)) (fun _ => ?_)
  refine lv_lload_n hx hb dX8_packed_12 rfl (lv_at hl 1 rfl) ?_
  refine lv_iconst (v := 5) hx hb dX8_packed_13 z11 ?_
  refine lv_lshl (v := 12761312) hx hb dX8_packed_14 z94 ?_
  refine lv_aload_n hx hb dX8_packed_15 rfl (lv_at hl 2 rfl) ?_
  refine lv_iload_n hx hb dX8_packed_16 rfl (lv_at hl 0 rfl) ?_
  refine call_iVX (i := 4) (by decide) (As := [.int 4]) (rest := [.long 12761312]) (wr := []) ⟨hx, hb, hml, hown, hts⟩ (kj_charAt l dC dI cB cI cJ cZ cO ad av 4 (by decide) 4 (by decide +kernel) (by decide +kernel) (vin _ _ (by decide +kernel))) (cwV 1 hts gX8_packed_J0_charAt_5068e rfl rfl rfl (by decide +kernel) ⟨Nat.le_of_ble_eq_true rfl, Nat.le_of_ble_eq_true rfl⟩) hE hK hP hD hS hA [] rfl (by decide +kernel) hl.1 (Nat.le_of_ble_eq_true rfl) rfl rfl dX8_packed_17 ⟨Nat.le_of_ble_eq_true rfl, Nat.le_of_ble_eq_true rfl⟩ (fun u9 H locs hP hD hS => ?_)
  refine tpi (v := 116) (by decide +kernel) ?_
  refine lv_bipush (v := 96) hx hb dX8_packed_20 z13 ?_
  refine lv_isub hx hb dX8_packed_22 ?_
  refine tpi z95 ?_
  refine lv_i2l (v := 20) hx hb dX8_packed_23 z96 ?_
  refine lv_lor hx hb dX8_packed_24 ?_
  refine tpl z97 ?_
  refine lv_lstore_n (lv' := [(1, .long 12761332), (3, .int 4), (0, .ref (ad 4))]) hx hb dX8_packed_25 rfl hl (nlt rfl) rfl (fun ls hl => ?_)
  refine lv_iinc (v := 5) (lv' := [(3, .int 5), (1, .long 12761332), (0, .ref (ad 4))]) hx hb dX8_packed_26 hl (k := 1) rfl z98 (nlt rfl) rfl (fun ls hl => ?_)
  refine lv_goto (tgt := 4) hx hb dX8_packed_29 z18 ?_
  refine lv_iload_n hx hb dX8_packed_4 rfl (lv_at hl 0 rfl) ?_
  refine lv_aload_n hx hb dX8_packed_5 rfl (lv_at hl 2 rfl) ?_
  refine call_iVX (i := 4) (by decide) (As := []) (rest := [.int 5]) (wr := []) ⟨hx, hb, hml, hown, hts⟩ (kj_length l dC dI cB cI cJ cZ cO ad av 4 (by decide)) (cwV 0 hts gX8_packed_J0_length_8abf5 rfl rfl rfl (by decide +kernel) ⟨Nat.le_of_ble_eq_true rfl, Nat.le_of_ble_eq_true rfl⟩) hE hK hP hD hS hA [] rfl (by decide +kernel) hl.1 (Nat.le_of_ble_eq_true rfl) rfl rfl dX8_packed_6 ⟨Nat.le_of_ble_eq_true rfl, Nat.le_of_ble_eq_true rfl⟩ (fun u9 H locs hP hD hS => ?_)
  refine tpi (v := 6) (by decide +kernel) ?_
  refine lv_icmp_ge (tgt := 32) hx hb dX8_packed_9 z10 (fun c1 => absurd c1 (z99)) (fun _ => ?_)
  refine lv_lload_n hx hb dX8_packed_12 rfl (lv_at hl 1 rfl) ?_
  refine lv_iconst (v := 5) hx hb dX8_packed_13 z11 ?_
  refine lv_lshl (v := 408362624) hx hb dX8_packed_14 z100 ?_
  refine lv_aload_n hx hb dX8_packed_15 rfl (lv_at hl 2 rfl) ?_
  refine lv_iload_n hx hb dX8_packed_16 rfl (lv_at hl 0 rfl) ?_
  refine call_iVX (i := 4) (by decide) (As := [.int 5]) (rest := [.long 408362624]) (wr := []) ⟨hx, hb, hml, hown, hts⟩ (kj_charAt l dC dI cB cI cJ cZ cO ad av 4 (by decide) 5 (by decide +kernel) (by decide +kernel) (vin _ _ (by decide +kernel))) (cwV 1 hts gX8_packed_J0_charAt_5068e rfl rfl rfl (by decide +kernel) ⟨Nat.le_of_ble_eq_true rfl, Nat.le_of_ble_eq_true rfl⟩) hE hK hP hD hS hA [] rfl (by decide +kernel) hl.1 (Nat.le_of_ble_eq_true rfl) rfl rfl dX8_packed_17 ⟨Nat.le_of_ble_eq_true rfl, Nat.le_of_ble_eq_true rfl⟩ (fun u9 H locs hP hD hS => ?_)
  refine tpi (v := 104) (by decide +kernel) ?_
  refine lv_bipush (v := 96) hx hb dX8_packed_20 z13 ?_
  refine lv_isub hx hb dX8_packed_22 ?_
  refine tpi z101 ?_
  refine lv_i2l (v := 8) hx hb dX8_packed_23 z102 ?_
  refine lv_lor hx hb dX8_packed_24 ?_
  refine tpl z103 ?_
  refine lv_lstore_n (lv' := [(1, .long 408362632), (3, .int 5), (0, .ref (ad 4))]) hx hb dX8_packed_25 rfl hl (nlt rfl) rfl (fun ls hl => ?_)
  refine lv_iinc (v := 6) (lv' := [(3, .int 6), (1, .long 408362632), (0, .ref (ad 4))]) hx hb dX8_packed_26 hl (k := 1) rfl z104 (nlt rfl) rfl (fun ls hl => ?_)
  refine lv_goto (tgt := 4) hx hb dX8_packed_29 z18 ?_
  refine lv_iload_n hx hb dX8_packed_4 rfl (lv_at hl 0 rfl) ?_
  refine lv_aload_n hx hb dX8_packed_5 rfl (lv_at hl 2 rfl) ?_
  refine call_iVX (i := 4) (by decide) (As := []) (rest := [.int 6]) (wr := []) ⟨hx, hb, hml, hown, hts⟩ (kj_length l dC dI cB cI cJ cZ cO ad av 4 (by decide)) (cwV 0 hts gX8_packed_J0_length_8abf5 rfl rfl rfl (by decide +kernel) ⟨Nat.le_of_ble_eq_true rfl, Nat.le_of_ble_eq_true rfl⟩) hE hK hP hD hS hA [] rfl (by decide +kernel) hl.1 (Nat.le_of_ble_eq_true rfl) rfl rfl dX8_packed_6 ⟨Nat.le_of_ble_eq_true rfl, Nat.le_of_ble_eq_true rfl⟩ (fun u9 H locs hP hD hS => ?_)
  refine tpi (v := 6) (by decide +kernel) ?_
  refine lv_icmp_ge (tgt := 32) hx hb dX8_packed_9 z10 (fun _ => ?_) (fun c1 => absurd (z105) c1)
  refine lv_lload_n hx hb dX8_packed_32 rfl (lv_at hl 1 rfl) ?_
  refine W.widen (k := 0) (n := 0) (by decide +kernel) (by decide +kernel) ?_
  exact ret_l hx hb hr hlocks hS (u := (fun _ => 0)) (hP.sub [] rfl) (hD.sub [] (by decide +kernel) rfl) dX8_packed_33

set_option maxHeartbeats 4000000 in
set_option maxRecDepth 100000 in
theorem k6_X8_packed (l : Launch) (dC : Nat → ClassId) (dI : Nat → Nat → Nat) (cB cI cJ cZ cO : ClassId) (ad av : Nat → Nat) : CLX l yX8_packed wsX8_packed ({ frames := 4, cells := 0, slots := 0, locals := 85 }) (dC, dI) (tyL cB cI cJ cZ cO) [.ref (ad 5)] [] (fun _ => []) 21678547 ad av := by
  intro sz
  refine ctx_open (cc := cX8_packed) (maxL := 4) (ret := (some .long)) (by decide) rfl (Nat.le_of_ble_eq_true rfl) ?_
  intro p e s m below meth c ls A hx hb hr hml hts hown hlocks hin hP hK hD hA hS hl hE
  have hl : lv_has ls 4 [(0, .ref (ad 5))] := hl
  have hown : s.vm.findClass RX8 = some m.cls := hown
  refine lv_lconst (v := 0) hx hb dX8_packed_0 rfl ?_
  refine lv_lstore_n (lv' := [(1, .long 0), (0, .ref (ad 5))]) hx hb dX8_packed_1 rfl hl (nlt rfl) rfl (fun ls hl => ?_)
  refine lv_iconst (v := 0) hx hb dX8_packed_2 z8 ?_
  refine lv_istore_n (lv' := [(3, .int 0), (1, .long 0), (0, .ref (ad 5))]) hx hb dX8_packed_3 rfl hl (nlt rfl) rfl (fun ls hl => ?_)
  refine lv_iload_n hx hb dX8_packed_4 rfl (lv_at hl 0 rfl) ?_
  refine lv_aload_n hx hb dX8_packed_5 rfl (lv_at hl 2 rfl) ?_
  refine call_iVX (i := 5) (by decide) (As := []) (rest := [.int 0]) (wr := []) ⟨hx, hb, hml, hown, hts⟩ (kj_length l dC dI cB cI cJ cZ cO ad av 5 (by decide)) (cwV 0 hts gX8_packed_J0_length_8abf5 rfl rfl rfl (by decide +kernel) ⟨Nat.le_of_ble_eq_true rfl, Nat.le_of_ble_eq_true rfl⟩) hE hK hP hD hS hA [] rfl (by decide +kernel) hl.1 (Nat.le_of_ble_eq_true rfl) rfl rfl dX8_packed_6 ⟨Nat.le_of_ble_eq_true rfl, Nat.le_of_ble_eq_true rfl⟩ (fun u9 H locs hP hD hS => ?_)
  refine tpi (v := 5) (by decide +kernel) ?_
  refine lv_icmp_ge (tgt := 32) hx hb dX8_packed_9 z10 (fun c1 => absurd c1 (z107)) (fun _ => ?_)
  refine lv_lload_n hx hb dX8_packed_12 rfl (lv_at hl 1 rfl) ?_
  refine lv_iconst (v := 5) hx hb dX8_packed_13 z11 ?_
  refine lv_lshl (v := 0) hx hb dX8_packed_14 z12 ?_
  refine lv_aload_n hx hb dX8_packed_15 rfl (lv_at hl 2 rfl) ?_
  refine lv_iload_n hx hb dX8_packed_16 rfl (lv_at hl 0 rfl) ?_
  refine call_iVX (i := 5) (by decide) (As := [.int 0]) (rest := [.long 0]) (wr := []) ⟨hx, hb, hml, hown, hts⟩ (kj_charAt l dC dI cB cI cJ cZ cO ad av 5 (by decide) 0 (by decide +kernel) (by decide +kernel) (vin _ _ (by decide +kernel))) (cwV 1 hts gX8_packed_J0_charAt_5068e rfl rfl rfl (by decide +kernel) ⟨Nat.le_of_ble_eq_true rfl, Nat.le_of_ble_eq_true rfl⟩) hE hK hP hD hS hA [] rfl (by decide +kernel) hl.1 (Nat.le_of_ble_eq_true rfl) rfl rfl dX8_packed_17 ⟨Nat.le_of_ble_eq_true rfl, Nat.le_of_ble_eq_true rfl⟩ (fun u9 H locs hP hD hS => ?_)
  refine tpi (v := 116) (by decide +kernel) ?_
  refine lv_bipush (v := 96) hx hb dX8_packed_20 z13 ?_
  refine lv_isub hx hb dX8_packed_22 ?_
  refine tpi z95 ?_
  refine lv_i2l (v := 20) hx hb dX8_packed_23 z96 ?_
  refine lv_lor hx hb dX8_packed_24 ?_
  refine tpl z108 ?_
  refine lv_lstore_n (lv' := [(1, .long 20), (3, .int 0), (0, .ref (ad 5))]) hx hb dX8_packed_25 rfl hl (nlt rfl) rfl (fun ls hl => ?_)
  refine lv_iinc (v := 1) (lv' := [(3, .int 1), (1, .long 20), (0, .ref (ad 5))]) hx hb dX8_packed_26 hl (k := 1) rfl z17 (nlt rfl) rfl (fun ls hl => ?_)
  refine lv_goto (tgt := 4) hx hb dX8_packed_29 z18 ?_
  refine lv_iload_n hx hb dX8_packed_4 rfl (lv_at hl 0 rfl) ?_
  refine lv_aload_n hx hb dX8_packed_5 rfl (lv_at hl 2 rfl) ?_
  refine call_iVX (i := 5) (by decide) (As := []) (rest := [.int 1]) (wr := []) ⟨hx, hb, hml, hown, hts⟩ (kj_length l dC dI cB cI cJ cZ cO ad av 5 (by decide)) (cwV 0 hts gX8_packed_J0_length_8abf5 rfl rfl rfl (by decide +kernel) ⟨Nat.le_of_ble_eq_true rfl, Nat.le_of_ble_eq_true rfl⟩) hE hK hP hD hS hA [] rfl (by decide +kernel) hl.1 (Nat.le_of_ble_eq_true rfl) rfl rfl dX8_packed_6 ⟨Nat.le_of_ble_eq_true rfl, Nat.le_of_ble_eq_true rfl⟩ (fun u9 H locs hP hD hS => ?_)
  refine tpi (v := 5) (by decide +kernel) ?_
  refine lv_icmp_ge (tgt := 32) hx hb dX8_packed_9 z10 (fun c1 => absurd c1 (z109)) (fun _ => ?_)
  refine lv_lload_n hx hb dX8_packed_12 rfl (lv_at hl 1 rfl) ?_
  refine lv_iconst (v := 5) hx hb dX8_packed_13 z11 ?_
  refine lv_lshl (v := 640) hx hb dX8_packed_14 z110 ?_
  refine lv_aload_n hx hb dX8_packed_15 rfl (lv_at hl 2 rfl) ?_
  refine lv_iload_n hx hb dX8_packed_16 rfl (lv_at hl 0 rfl) ?_
  refine call_iVX (i := 5) (by decide) (As := [.int 1]) (rest := [.long 640]) (wr := []) ⟨hx, hb, hml, hown, hts⟩ (kj_charAt l dC dI cB cI cJ cZ cO ad av 5 (by decide) 1 (by decide +kernel) (by decide +kernel) (vin _ _ (by decide +kernel))) (cwV 1 hts gX8_packed_J0_charAt_5068e rfl rfl rfl (by decide +kernel) ⟨Nat.le_of_ble_eq_true rfl, Nat.le_of_ble_eq_true rfl⟩) hE hK hP hD hS hA [] rfl (by decide +kernel) hl.1 (Nat.le_of_ble_eq_true rfl) rfl rfl dX8_packed_17 ⟨Nat.le_of_ble_eq_true rfl, Nat.le_of_ble_eq_true rfl⟩ (fun u9 H locs hP hD hS => ?_)
  refine tpi (v := 117) (by decide +kernel) ?_
  refine lv_bipush (v := 96) hx hb dX8_packed_20 z13 ?_
  refine lv_isub hx hb dX8_packed_22 ?_
  refine tpi z57 ?_
  refine lv_i2l (v := 21) hx hb dX8_packed_23 z58 ?_
  refine lv_lor hx hb dX8_packed_24 ?_
  refine tpl z111 ?_
  refine lv_lstore_n (lv' := [(1, .long 661), (3, .int 1), (0, .ref (ad 5))]) hx hb dX8_packed_25 rfl hl (nlt rfl) rfl (fun ls hl => ?_)
  refine lv_iinc (v := 2) (lv' := [(3, .int 2), (1, .long 661), (0, .ref (ad 5))]) hx hb dX8_packed_26 hl (k := 1) rfl z24 (nlt rfl) rfl (fun ls hl => ?_)
  refine lv_goto (tgt := 4) hx hb dX8_packed_29 z18 ?_
  refine lv_iload_n hx hb dX8_packed_4 rfl (lv_at hl 0 rfl) ?_
  refine lv_aload_n hx hb dX8_packed_5 rfl (lv_at hl 2 rfl) ?_
  refine call_iVX (i := 5) (by decide) (As := []) (rest := [.int 2]) (wr := []) ⟨hx, hb, hml, hown, hts⟩ (kj_length l dC dI cB cI cJ cZ cO ad av 5 (by decide)) (cwV 0 hts gX8_packed_J0_length_8abf5 rfl rfl rfl (by decide +kernel) ⟨Nat.le_of_ble_eq_true rfl, Nat.le_of_ble_eq_true rfl⟩) hE hK hP hD hS hA [] rfl (by decide +kernel) hl.1 (Nat.le_of_ble_eq_true rfl) rfl rfl dX8_packed_6 ⟨Nat.le_of_ble_eq_true rfl, Nat.le_of_ble_eq_true rfl⟩ (fun u9 H locs hP hD hS => ?_)
  refine tpi (v := 5) (by decide +kernel) ?_
  refine lv_icmp_ge (tgt := 32) hx hb dX8_packed_9 z10 (fun c1 => absurd c1 (z112)) (fun _ => ?_)
  refine lv_lload_n hx hb dX8_packed_12 rfl (lv_at hl 1 rfl) ?_
  refine lv_iconst (v := 5) hx hb dX8_packed_13 z11 ?_
  refine lv_lshl (v := 21152) hx hb dX8_packed_14 z113 ?_
  refine lv_aload_n hx hb dX8_packed_15 rfl (lv_at hl 2 rfl) ?_
  refine lv_iload_n hx hb dX8_packed_16 rfl (lv_at hl 0 rfl) ?_
  refine call_iVX (i := 5) (by decide) (As := [.int 2]) (rest := [.long 21152]) (wr := []) ⟨hx, hb, hml, hown, hts⟩ (kj_charAt l dC dI cB cI cJ cZ cO ad av 5 (by decide) 2 (by decide +kernel) (by decide +kernel) (vin _ _ (by decide +kernel))) (cwV 1 hts gX8_packed_J0_charAt_5068e rfl rfl rfl (by decide +kernel) ⟨Nat.le_of_ble_eq_true rfl, Nat.le_of_ble_eq_true rfl⟩) hE hK hP hD hS hA [] rfl (by decide +kernel) hl.1 (Nat.le_of_ble_eq_true rfl) rfl rfl dX8_packed_17 ⟨Nat.le_of_ble_eq_true rfl, Nat.le_of_ble_eq_true rfl⟩ (fun u9 H locs hP hD hS => ?_)
  refine tpi (v := 114) (by decide +kernel) ?_
  refine lv_bipush (v := 96) hx hb dX8_packed_20 z13 ?_
  refine lv_isub hx hb dX8_packed_22 ?_
  refine tpi z27 ?_
  refine lv_i2l (v := 18) hx hb dX8_packed_23 z28 ?_
  refine lv_lor hx hb dX8_packed_24 ?_
  refine tpl z114 ?_
  refine lv_lstore_n (lv' := [(1, .long 21170), (3, .int 2), (0, .ref (ad 5))]) hx hb dX8_packed_25 rfl hl (nlt rfl) rfl (fun ls hl => ?_)
  refine lv_iinc (v := 3) (lv' := [(3, .int 3), (1, .long 21170), (0, .ref (ad 5))]) hx hb dX8_packed_26 hl (k := 1) rfl z30 (nlt rfl) rfl (fun ls hl => ?_)
  refine lv_goto (tgt := 4) hx hb dX8_packed_29 z18 ?_
  refine lv_iload_n hx hb dX8_packed_4 rfl (lv_at hl 0 rfl) ?_
  refine lv_aload_n hx hb dX8_packed_5 rfl (lv_at hl 2 rfl) ?_
  refine call_iVX (i := 5) (by decide) (As := []) (rest := [.int 3]) (wr := []) ⟨hx, hb, hml, hown, hts⟩ (kj_length l dC dI cB cI cJ cZ cO ad av 5 (by decide)) (cwV 0 hts gX8_packed_J0_length_8abf5 rfl rfl rfl (by decide +kernel) ⟨Nat.le_of_ble_eq_true rfl, Nat.le_of_ble_eq_true rfl⟩) hE hK hP hD hS hA [] rfl (by decide +kernel) hl.1 (Nat.le_of_ble_eq_true rfl) rfl rfl dX8_packed_6 ⟨Nat.le_of_ble_eq_true rfl, Nat.le_of_ble_eq_true rfl⟩ (fun u9 H locs hP hD hS => ?_)
  refine tpi (v := 5) (by decide +kernel) ?_
  refine lv_icmp_ge (tgt := 32) hx hb dX8_packed_9 z10 (fun c1 => absurd c1 (z115)) (fun _ => ?_)
  refine lv_lload_n hx hb dX8_packed_12 rfl (lv_at hl 1 rfl) ?_
  refine lv_iconst (v := 5) hx hb dX8_packed_13 z11 ?_
  refine lv_lshl (v := 677440) hx hb dX8_packed_14 z116 ?_
  refine lv_aload_n hx hb dX8_packed_15 rfl (lv_at hl 2 rfl) ?_
  refine lv_iload_n hx hb dX8_packed_16 rfl (lv_at hl 0 rfl) ?_
  refine call_iVX (i := 5) (by decide) (As := [.int 3]) (rest := [.long 677440]) (wr := []) ⟨hx, hb, hml, hown, hts⟩ (kj_charAt l dC dI cB cI cJ cZ cO ad av 5 (by decide) 3 (by decide +kernel) (by decide +kernel) (vin _ _ (by decide +kernel))) (cwV 1 hts gX8_packed_J0_charAt_5068e rfl rfl rfl (by decide +kernel) ⟨Nat.le_of_ble_eq_true rfl, Nat.le_of_ble_eq_true rfl⟩) hE hK hP hD hS hA [] rfl (by decide +kernel) hl.1 (Nat.le_of_ble_eq_true rfl) rfl rfl dX8_packed_17 ⟨Nat.le_of_ble_eq_true rfl, Nat.le_of_ble_eq_true rfl⟩ (fun u9 H locs hP hD hS => ?_)
  refine tpi (v := 110) (by decide +kernel) ?_
  refine lv_bipush (v := 96) hx hb dX8_packed_20 z13 ?_
  refine lv_isub hx hb dX8_packed_22 ?_
  refine tpi z85 ?_
  refine lv_i2l (v := 14) hx hb dX8_packed_23 z86 ?_
  refine lv_lor hx hb dX8_packed_24 ?_
  refine tpl z117 ?_
  refine lv_lstore_n (lv' := [(1, .long 677454), (3, .int 3), (0, .ref (ad 5))]) hx hb dX8_packed_25 rfl hl (nlt rfl) rfl (fun ls hl => ?_)
  refine lv_iinc (v := 4) (lv' := [(3, .int 4), (1, .long 677454), (0, .ref (ad 5))]) hx hb dX8_packed_26 hl (k := 1) rfl z36 (nlt rfl) rfl (fun ls hl => ?_)
  refine lv_goto (tgt := 4) hx hb dX8_packed_29 z18 ?_
  refine lv_iload_n hx hb dX8_packed_4 rfl (lv_at hl 0 rfl) ?_
  refine lv_aload_n hx hb dX8_packed_5 rfl (lv_at hl 2 rfl) ?_
  refine call_iVX (i := 5) (by decide) (As := []) (rest := [.int 4]) (wr := []) ⟨hx, hb, hml, hown, hts⟩ (kj_length l dC dI cB cI cJ cZ cO ad av 5 (by decide)) (cwV 0 hts gX8_packed_J0_length_8abf5 rfl rfl rfl (by decide +kernel) ⟨Nat.le_of_ble_eq_true rfl, Nat.le_of_ble_eq_true rfl⟩) hE hK hP hD hS hA [] rfl (by decide +kernel) hl.1 (Nat.le_of_ble_eq_true rfl) rfl rfl dX8_packed_6 ⟨Nat.le_of_ble_eq_true rfl, Nat.le_of_ble_eq_true rfl⟩ (fun u9 H locs hP hD hS => ?_)
  refine tpi (v := 5) (by decide +kernel) ?_
  refine lv_icmp_ge (tgt := 32) hx hb dX8_packed_9 z10 (fun c1 => absurd c1 (z118)) (fun _ => ?_)
  refine lv_lload_n hx hb dX8_packed_12 rfl (lv_at hl 1 rfl) ?_
  refine lv_iconst (v := 5) hx hb dX8_packed_13 z11 ?_
  refine lv_lshl (v := 21678528) hx hb dX8_packed_14 z119 ?_
  refine lv_aload_n hx hb dX8_packed_15 rfl (lv_at hl 2 rfl) ?_
  refine lv_iload_n hx hb dX8_packed_16 rfl (lv_at hl 0 rfl) ?_
  refine call_iVX (i := 5) (by decide) (As := [.int 4]) (rest := [.long 21678528]) (wr := []) ⟨hx, hb, hml, hown, hts⟩ (kj_charAt l dC dI cB cI cJ cZ cO ad av 5 (by decide) 4 (by decide +kernel) (by decide +kernel) (vin _ _ (by decide +kernel))) (cwV 1 hts gX8_packed_J0_charAt_5068e rfl rfl rfl (by decide +kernel) ⟨Nat.le_of_ble_eq_true rfl, Nat.le_of_ble_eq_true rfl⟩) hE hK hP hD hS hA [] rfl (by decide +kernel) hl.1 (Nat.le_of_ble_eq_true rfl) rfl rfl dX8_packed_17 ⟨Nat.le_of_ble_eq_true rfl, Nat.le_of_ble_eq_true rfl⟩ (fun u9 H locs hP hD hS => ?_)
  refine tpi (v := 115) (by decide +kernel) ?_
  refine lv_bipush (v := 96) hx hb dX8_packed_20 z13 ?_
  refine lv_isub hx hb dX8_packed_22 ?_
  refine tpi z120 ?_
  refine lv_i2l (v := 19) hx hb dX8_packed_23 z121 ?_
  refine lv_lor hx hb dX8_packed_24 ?_
  refine tpl z122 ?_
  refine lv_lstore_n (lv' := [(1, .long 21678547), (3, .int 4), (0, .ref (ad 5))]) hx hb dX8_packed_25 rfl hl (nlt rfl) rfl (fun ls hl => ?_)
  refine lv_iinc (v := 5) (lv' := [(3, .int 5), (1, .long 21678547), (0, .ref (ad 5))]) hx hb dX8_packed_26 hl (k := 1) rfl z98 (nlt rfl) rfl (fun ls hl => ?_)
  refine lv_goto (tgt := 4) hx hb dX8_packed_29 z18 ?_
  refine lv_iload_n hx hb dX8_packed_4 rfl (lv_at hl 0 rfl) ?_
  refine lv_aload_n hx hb dX8_packed_5 rfl (lv_at hl 2 rfl) ?_
  refine call_iVX (i := 5) (by decide) (As := []) (rest := [.int 5]) (wr := []) ⟨hx, hb, hml, hown, hts⟩ (kj_length l dC dI cB cI cJ cZ cO ad av 5 (by decide)) (cwV 0 hts gX8_packed_J0_length_8abf5 rfl rfl rfl (by decide +kernel) ⟨Nat.le_of_ble_eq_true rfl, Nat.le_of_ble_eq_true rfl⟩) hE hK hP hD hS hA [] rfl (by decide +kernel) hl.1 (Nat.le_of_ble_eq_true rfl) rfl rfl dX8_packed_6 ⟨Nat.le_of_ble_eq_true rfl, Nat.le_of_ble_eq_true rfl⟩ (fun u9 H locs hP hD hS => ?_)
  refine tpi (v := 5) (by decide +kernel) ?_
  refine lv_icmp_ge (tgt := 32) hx hb dX8_packed_9 z10 (fun _ => ?_) (fun c1 => absurd (z123) c1)
  refine lv_lload_n hx hb dX8_packed_32 rfl (lv_at hl 1 rfl) ?_
  refine W.widen (k := 0) (n := 0) (by decide +kernel) (by decide +kernel) ?_
  exact ret_l hx hb hr hlocks hS (u := (fun _ => 0)) (hP.sub [] rfl) (hD.sub [] (by decide +kernel) rfl) dX8_packed_33

set_option maxHeartbeats 4000000 in
set_option maxRecDepth 100000 in
theorem k7_X8_init (l : Launch) (dC : Nat → ClassId) (dI : Nat → Nat → Nat) (cB cI cJ cZ cO : ClassId) (ad av : Nat → Nat) (a0 : Nat) : CVX l yX8_init wsX8_init ({ frames := 5, cells := 2, slots := 6, locals := 108 }) (dC, dI) (tyL cB cI cJ cZ cO) [.ref a0] [(a0, .inr (8, [.null, .null, .int 0, .int 0, .int 0, .int 0, .long 0, .int 0, .int 0, .int 0]))] (fun u => [(a0, .inr (8, [.ref (u 0), .ref (u 1), .int 0, .int 0, .int 0, .int 0, .long 0, .int 0, .int 0, .int (-1)])), ((u 0), .inl (cJ, 6, .inr (.inl (vp_updL (vp_updL (vp_updL (vp_updL (vp_updL (vp_updL (fun _ => 0) 0 769604) 1 525618) 2 611717) 3 498) 4 408362632) 5 21678547)))), ((u 1), .inl (cB, 0, .inl (fun _ => 0)))]) ad av := by
  intro sz
  refine ctx_open (cc := cX8_init) (maxL := 1) (ret := none) (by decide) rfl (Nat.le_of_ble_eq_true rfl) ?_
  intro p e s m below meth c ls A hx hb hr hml hts hown hlocks hin hP hK hD hA hS hl hE
  have hl : lv_has ls 1 [(0, .ref a0)] := hl
  have hown : s.vm.findClass RX8 = some m.cls := hown
  have hin : meth.name = "<init>" := hin
  have w0 := hts (.methodLink RX8 3 objectInit) (List.mem_cons_of_mem _ (List.mem_append_left _ (List.mem_append_left _ (List.mem_of_getElem? (i := 0) rfl))))
  have w1 := hts (.instanceMethod objectInit) (List.mem_cons_of_mem _ (List.mem_append_left _ (List.mem_append_left _ (List.mem_of_getElem? (i := 1) rfl))))
  have w2 := hts (.code objectInit ⟨#[0xb1]⟩ 1 none) (List.mem_cons_of_mem _ (List.mem_append_left _ (List.mem_append_left _ (List.mem_of_getElem? (i := 2) rfl))))
  have w3 := hts (.arrayClass .long) (List.mem_cons_of_mem _ (List.mem_append_left _ (List.mem_append_left _ (List.mem_of_getElem? (i := 3) rfl))))
  have i8 : ∀ w ∈ u_ws RX8 TX8 10, w ∈ wsX8_init := fun _ h => List.mem_cons_of_mem _ (List.mem_append_right _ h)
  have w5 := hts (.fieldLink RX8 27 "GuildCharter$Tokens" "keyNames" "[J") (List.mem_cons_of_mem _ (List.mem_append_left _ (List.mem_append_left _ (List.mem_of_getElem? (i := 4) rfl))))
  have w6 := hts (.arrayClass .byte) (List.mem_cons_of_mem _ (List.mem_append_left _ (List.mem_append_left _ (List.mem_of_getElem? (i := 5) rfl))))
  have w7 := hts (.fieldLink RX8 31 "GuildCharter$Tokens" "text" "[B") (List.mem_cons_of_mem _ (List.mem_append_left _ (List.mem_append_left _ (List.mem_of_getElem? (i := 6) rfl))))
  have w8 := hts (.fieldLink RX8 35 "GuildCharter$Tokens" "faultPlace" "I") (List.mem_cons_of_mem _ (List.mem_append_left _ (List.mem_append_left _ (List.mem_of_getElem? (i := 7) rfl))))
  refine lv_aload_n hx hb dX8_init_0 rfl (lv_at hl 0 rfl) ?_
  refine W.objInit hx hb hown w0 w1 w2 rfl (by rw [hml]; exact hl.1) rfl dX8_init_1 (Nat.le_of_ble_eq_true rfl) (Nat.le_of_ble_eq_true rfl) ?_
  refine W.eq (g2 := F0 m 4 ls []) rfl ?_
  refine lv_aload_n hx hb dX8_init_4 rfl (lv_at hl 0 rfl) ?_
  refine lv_bipush (v := 6) hx hb dX8_init_5 z4 ?_
  refine my_newa (atype := .long) hx hb w3 (ty := .long) rfl hK hP hD hS hA 2 rfl (fun _ h => by cases h) (N' := 6) (a0 := (6, .inr (.inl (fun _ => 0)))) (fun _ => rfl) z5 z6 z7 (by decide +kernel) (by decide +kernel) dX8_init_7 (fun q0 H hP hD hS => ?_)
  refine lv_dup hx hb dX8_init_9 rfl ?_
  refine lv_iconst (v := 0) hx hb dX8_init_10 z8 ?_
  refine va_ldcS hx hb hown (hE.2.2.1 0 (by decide)) dX8_init_11 ?_
  refine call_lSX (As := [.ref (ad 0)]) (rest := [.int 0, .ref q0, .ref q0, .ref a0]) (wr := [(a0, .inr (8, [.null, .null, .int 0, .int 0, .int 0, .int 0, .long 0, .int 0, .int 0, .int 0])), (q0, .inl (cJ, 6, .inr (.inl (fun _ => 0))))]) ⟨hx, hb, hml, hown, hts⟩ (k1_X8_packed l dC dI cB cI cJ cZ cO ad av) (va_cwS 1 hts gX8_init_X8_packed rfl rfl rfl z129 ⟨Nat.le_of_ble_eq_true rfl, Nat.le_of_ble_eq_true rfl⟩) hE hK hP hD hS hA [] [0, 1] rfl rfl (by decide +kernel) (by decide +kernel) (by decide +kernel) hl.1 (Nat.le_of_ble_eq_true rfl) rfl rfl dX8_init_13 ⟨by decide +kernel, by decide +kernel⟩ (fun u0 H locs hP hD hS => ?_)
  refine my_last hx hb hK hP hD hS 1 2 rfl rfl z38 dX8_init_16 (fun H locs hP hD hS => ?_)
  refine lv_dup hx hb dX8_init_17 rfl ?_
  refine lv_iconst (v := 1) hx hb dX8_init_18 z39 ?_
  refine va_ldcS hx hb hown (hE.2.2.1 1 (by decide)) dX8_init_19 ?_
  refine call_lSX (As := [.ref (ad 1)]) (rest := [.int 1, .ref q0, .ref q0, .ref a0]) (wr := [(a0, .inr (8, [.null, .null, .int 0, .int 0, .int 0, .int 0, .long 0, .int 0, .int 0, .int 0])), (q0, .inl (cJ, 6, .inr (.inl (vp_updL (fun _ => 0) 0 769604))))]) ⟨hx, hb, hml, hown, hts⟩ (k2_X8_packed l dC dI cB cI cJ cZ cO ad av) (va_cwS 1 hts gX8_init_X8_packed rfl rfl rfl z129 ⟨Nat.le_of_ble_eq_true rfl, Nat.le_of_ble_eq_true rfl⟩) hE hK hP hD hS hA [] [0, 1] rfl rfl (by decide +kernel) (by decide +kernel) (by decide +kernel) hl.1 (Nat.le_of_ble_eq_true rfl) rfl rfl dX8_init_21 ⟨by decide +kernel, by decide +kernel⟩ (fun u1 H locs hP hD hS => ?_)
  refine my_last hx hb hK hP hD hS 1 2 rfl rfl z53 dX8_init_24 (fun H locs hP hD hS => ?_)
  refine lv_dup hx hb dX8_init_25 rfl ?_
  refine lv_iconst (v := 2) hx hb dX8_init_26 z54 ?_
  refine va_ldcS hx hb hown (hE.2.2.1 2 (by decide)) dX8_init_27 ?_
  refine call_lSX (As := [.ref (ad 2)]) (rest := [.int 2, .ref q0, .ref q0, .ref a0]) (wr := [(a0, .inr (8, [.null, .null, .int 0, .int 0, .int 0, .int 0, .long 0, .int 0, .int 0, .int 0])), (q0, .inl (cJ, 6, .inr (.inl (vp_updL (vp_updL (fun _ => 0) 0 769604) 1 525618))))]) ⟨hx, hb, hml, hown, hts⟩ (k3_X8_packed l dC dI cB cI cJ cZ cO ad av) (va_cwS 1 hts gX8_init_X8_packed rfl rfl rfl z129 ⟨Nat.le_of_ble_eq_true rfl, Nat.le_of_ble_eq_true rfl⟩) hE hK hP hD hS hA [] [0, 1] rfl rfl (by decide +kernel) (by decide +kernel) (by decide +kernel) hl.1 (Nat.le_of_ble_eq_true rfl) rfl rfl dX8_init_29 ⟨by decide +kernel, by decide +kernel⟩ (fun u2 H locs hP hD hS => ?_)
  refine my_last hx hb hK hP hD hS 1 2 rfl rfl z68 dX8_init_32 (fun H locs hP hD hS => ?_)
  refine lv_dup hx hb dX8_init_33 rfl ?_
  refine lv_iconst (v := 3) hx hb dX8_init_34 z69 ?_
  refine va_ldcS hx hb hown (hE.2.2.1 3 (by decide)) dX8_init_35 ?_
  refine call_lSX (As := [.ref (ad 3)]) (rest := [.int 3, .ref q0, .ref q0, .ref a0]) (wr := [(a0, .inr (8, [.null, .null, .int 0, .int 0, .int 0, .int 0, .long 0, .int 0, .int 0, .int 0])), (q0, .inl (cJ, 6, .inr (.inl (vp_updL (vp_updL (vp_updL (fun _ => 0) 0 769604) 1 525618) 2 611717))))]) ⟨hx, hb, hml, hown, hts⟩ (k4_X8_packed l dC dI cB cI cJ cZ cO ad av) (va_cwS 1 hts gX8_init_X8_packed rfl rfl rfl z129 ⟨Nat.le_of_ble_eq_true rfl, Nat.le_of_ble_eq_true rfl⟩) hE hK hP hD hS hA [] [0, 1] rfl rfl (by decide +kernel) (by decide +kernel) (by decide +kernel) hl.1 (Nat.le_of_ble_eq_true rfl) rfl rfl dX8_init_37 ⟨by decide +kernel, by decide +kernel⟩ (fun u3 H locs hP hD hS => ?_)
  refine my_last hx hb hK hP hD hS 1 2 rfl rfl z76 dX8_init_40 (fun H locs hP hD hS => ?_)
  refine lv_dup hx hb dX8_init_41 rfl ?_
  refine lv_iconst (v := 4) hx hb dX8_init_42 z77 ?_
  refine va_ldcS hx hb hown (hE.2.2.1 4 (by decide)) dX8_init_43 ?_
  refine call_lSX (As := [.ref (ad 4)]) (rest := [.int 4, .ref q0, .ref q0, .ref a0]) (wr := [(a0, .inr (8, [.null, .null, .int 0, .int 0, .int 0, .int 0, .long 0, .int 0, .int 0, .int 0])), (q0, .inl (cJ, 6, .inr (.inl (vp_updL (vp_updL (vp_updL (vp_updL (fun _ => 0) 0 769604) 1 525618) 2 611717) 3 498))))]) ⟨hx, hb, hml, hown, hts⟩ (k5_X8_packed l dC dI cB cI cJ cZ cO ad av) (va_cwS 1 hts gX8_init_X8_packed rfl rfl rfl z129 ⟨Nat.le_of_ble_eq_true rfl, Nat.le_of_ble_eq_true rfl⟩) hE hK hP hD hS hA [] [0, 1] rfl rfl (by decide +kernel) (by decide +kernel) (by decide +kernel) hl.1 (Nat.le_of_ble_eq_true rfl) rfl rfl dX8_init_45 ⟨by decide +kernel, by decide +kernel⟩ (fun u4 H locs hP hD hS => ?_)
  refine my_last hx hb hK hP hD hS 1 2 rfl rfl z106 dX8_init_48 (fun H locs hP hD hS => ?_)
  refine lv_dup hx hb dX8_init_49 rfl ?_
  refine lv_iconst (v := 5) hx hb dX8_init_50 z11 ?_
  refine va_ldcS hx hb hown (hE.2.2.1 5 (by decide)) dX8_init_51 ?_
  refine call_lSX (As := [.ref (ad 5)]) (rest := [.int 5, .ref q0, .ref q0, .ref a0]) (wr := [(a0, .inr (8, [.null, .null, .int 0, .int 0, .int 0, .int 0, .long 0, .int 0, .int 0, .int 0])), (q0, .inl (cJ, 6, .inr (.inl (vp_updL (vp_updL (vp_updL (vp_updL (vp_updL (fun _ => 0) 0 769604) 1 525618) 2 611717) 3 498) 4 408362632))))]) ⟨hx, hb, hml, hown, hts⟩ (k6_X8_packed l dC dI cB cI cJ cZ cO ad av) (va_cwS 1 hts gX8_init_X8_packed rfl rfl rfl z129 ⟨Nat.le_of_ble_eq_true rfl, Nat.le_of_ble_eq_true rfl⟩) hE hK hP hD hS hA [] [0, 1] rfl rfl (by decide +kernel) (by decide +kernel) (by decide +kernel) hl.1 (Nat.le_of_ble_eq_true rfl) rfl rfl dX8_init_53 ⟨by decide +kernel, by decide +kernel⟩ (fun u5 H locs hP hD hS => ?_)
  refine my_last hx hb hK hP hD hS 1 2 rfl rfl z124 dX8_init_56 (fun H locs hP hD hS => ?_)
  refine va_putF (D := (dC, dI)) (ci := 8) (v := .ref q0) (ty := tyX8 0) (C := RX8) (T := TX8) (N := 10) hx hb hts i8 tyX8 tyX8_ok nmX8 hown hK hP hD hS 0 rfl rfl 0 (nlt rfl) w5 (fun _ h9 => h9) rfl hin rfl (tyX8_ok 0 (nlt rfl)) rfl rfl (nlt rfl) dX8_init_57 (fun H locs hP hD hS => ?_)
  refine lv_aload_n hx hb dX8_init_60 rfl (lv_at hl 0 rfl) ?_
  refine lv_iconst (v := 0) hx hb dX8_init_61 z8 ?_
  refine my_newa (atype := .byte) hx hb w6 (ty := .byte) rfl hK hP hD hS hA 0 rfl (fun _ h => by cases h) (N' := 0) (a0 := (0, .inl (fun _ => 0))) (fun _ => rfl) z125 z126 z127 (by decide +kernel) (by decide +kernel) dX8_init_62 (fun q1 H hP hD hS => ?_)
  have hP : va_P (dC, dI) vwCl [(a0, .inr (8, [.ref q0, .null, .int 0, .int 0, .int 0, .int 0, .long 0, .int 0, .int 0, .int 0])), (q0, .inl (cJ, 6, .inr (.inl (vp_updL (vp_updL (vp_updL (vp_updL (vp_updL (vp_updL (fun _ => 0) 0 769604) 1 525618) 2 611717) 3 498) 4 408362632) 5 21678547)))), (q1, .inl (cB, 0, .inl (fun _ => 0)))] H := hP
  have hD : va_D A [(a0, .inr (8, [.ref q0, .null, .int 0, .int 0, .int 0, .int 0, .long 0, .int 0, .int 0, .int 0])), (q0, .inl (cJ, 6, .inr (.inl (vp_updL (vp_updL (vp_updL (vp_updL (vp_updL (vp_updL (fun _ => 0) 0 769604) 1 525618) 2 611717) 3 498) 4 408362632) 5 21678547)))), (q1, .inl (cB, 0, .inl (fun _ => 0)))] := hD
  refine va_put (D := (dC, dI)) (ci := 8) (v := .ref q1) (ty := tyX8 1) (C := RX8) (T := TX8) (N := 10) hx hb hts i8 tyX8 tyX8_ok nmX8 hown hK hP hD hS 0 rfl rfl 1 (nlt rfl) w7 (fun _ h9 => h9) rfl (tyX8_ok 1 (nlt rfl)) rfl rfl (nlt rfl) dX8_init_64 (fun H locs hP hD hS => ?_)
  refine lv_aload_n hx hb dX8_init_67 rfl (lv_at hl 0 rfl) ?_
  refine lv_iconst (v := (-1)) hx hb dX8_init_68 z128 ?_
  refine va_put (D := (dC, dI)) (ci := 8) (v := .int (-1)) (ty := tyX8 9) (C := RX8) (T := TX8) (N := 10) hx hb hts i8 tyX8 tyX8_ok nmX8 hown hK hP hD hS 0 rfl rfl 9 (nlt rfl) w8 (fun _ h9 => h9) rfl (tyX8_ok 9 (nlt rfl)) rfl rfl (nlt rfl) dX8_init_69 (fun H locs hP hD hS => ?_)
  refine W.widen (k := 2) (n := 6) (by decide +kernel) (by decide +kernel) ?_
  exact ret_v hx hb hr hlocks hS (u := (fun k => ([q0, q1] : List Nat).getD k 0)) (hP.sub [0, 1, 2] rfl) (hD.sub [0, 1, 2] (by decide +kernel) rfl) dX8_init_72
