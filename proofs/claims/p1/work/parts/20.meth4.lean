set_option maxHeartbeats 4000000 in
set_option maxRecDepth 100000 in
theorem k108_X4_hasPlace (l : Launch) (dC : Nat → ClassId) (dI : Nat → Nat → Nat) (cB cI cJ cZ cO : ClassId) (r : Nat → Nat) : CI l yX4_hasPlace wsX4_hasPlace ({ frames := 0, cells := 0, slots := 0, locals := 0 }) (dC, dI) (tyL cB cI cJ cZ cO) [.ref (r 18), .int 2] [((r 18), .inr (4, [.int 0, .ref (r 19), .ref (r 20), .int 0, .ref (r 21), .ref (r 22), .int 0, .ref (r 23), .ref (r 24), .int 0, .ref (r 25), .ref (r 26), .int 3, .int 0, .int 0, .ref (r 27)]))] (fun u => [((r 18), .inr (4, [.int 0, .ref (r 19), .ref (r 20), .int 0, .ref (r 21), .ref (r 22), .int 0, .ref (r 23), .ref (r 24), .int 0, .ref (r 25), .ref (r 26), .int 3, .int 0, .int 0, .ref (r 27)]))]) 1 := by
  intro sz
  refine ct_open (cc := cX4_hasPlace) (maxL := 2) (ret := (some .boolean)) (by decide) rfl (Nat.le_of_ble_eq_true rfl) ?_
  intro p e s m below meth c ls A hx hb hr hml hts hown hlocks hin hP hK hD hA hS hl
  have hl : lv_has ls 2 [(0, .ref (r 18)), (1, .int 2)] := hl
  have hown : s.vm.findClass RX4 = some m.cls := hown
  have i4 : ∀ w ∈ u_ws RX4 TX4 16, w ∈ wsX4_hasPlace := fun _ h => List.mem_cons_of_mem _ (List.mem_append_right _ h)
  have w1 := hts (.fieldLink RX4 41 "GuildCharter$Port" "length" "I") (List.mem_cons_of_mem _ (List.mem_append_left _ (List.mem_of_getElem? (i := 0) rfl)))
  refine lv_iload_n hx hb dX4_hasPlace_0 rfl (lv_at hl 1 rfl) ?_
  refine lv_if_lt (tgt := 16) hx hb dX4_hasPlace_1 z582 (fun c1 => absurd c1 (z197)) (fun _ => ?_)
  refine lv_iload_n hx hb dX4_hasPlace_4 rfl (lv_at hl 1 rfl) ?_
  refine lv_aload_n hx hb dX4_hasPlace_5 rfl (lv_at hl 0 rfl) ?_
  refine va_get (D := (dC, dI)) (ci := 4) (v := .int 3) (C := RX4) (T := TX4) (N := 16) hx hb hts i4 hown hK hP 0 rfl rfl 12 (nlt rfl) w1 (fun _ h9 => h9) rfl dX4_hasPlace_6 ?_
  refine lv_icmp_ge (tgt := 16) hx hb dX4_hasPlace_9 z590 (fun c1 => absurd c1 (z271)) (fun _ => ?_)
  refine lv_iconst (v := 1) hx hb dX4_hasPlace_12 z39 ?_
  refine lv_goto (tgt := 17) hx hb dX4_hasPlace_13 z600 ?_
  refine W.widen (k := 0) (n := 0) (by decide +kernel) (by decide +kernel) ?_
  exact ret_z hx hb hr rfl hlocks hS (u := (fun _ => 0)) (hP.sub [0] rfl) (hD.sub [0] (by decide +kernel) rfl) dX4_hasPlace_17

set_option maxHeartbeats 4000000 in
set_option maxRecDepth 100000 in
theorem k109_X4_turnAt (l : Launch) (dC : Nat → ClassId) (dI : Nat → Nat → Nat) (cB cI cJ cZ cO : ClassId) (r : Nat → Nat) : CI l yX4_turnAt wsX4_turnAt ({ frames := 0, cells := 0, slots := 0, locals := 0 }) (dC, dI) (tyL cB cI cJ cZ cO) [.ref (r 18), .int 2] [((r 18), .inr (4, [.int 0, .ref (r 19), .ref (r 20), .int 0, .ref (r 21), .ref (r 22), .int 0, .ref (r 23), .ref (r 24), .int 0, .ref (r 25), .ref (r 26), .int 3, .int 0, .int 0, .ref (r 27)]))] (fun u => [((r 18), .inr (4, [.int 0, .ref (r 19), .ref (r 20), .int 0, .ref (r 21), .ref (r 22), .int 0, .ref (r 23), .ref (r 24), .int 0, .ref (r 25), .ref (r 26), .int 3, .int 0, .int 0, .ref (r 27)]))]) 2 := by
  intro sz
  refine ct_open (cc := cX4_turnAt) (maxL := 2) (ret := (some .int)) (by decide) rfl (Nat.le_of_ble_eq_true rfl) ?_
  intro p e s m below meth c ls A hx hb hr hml hts hown hlocks hin hP hK hD hA hS hl
  have hl : lv_has ls 2 [(0, .ref (r 18)), (1, .int 2)] := hl
  have hown : s.vm.findClass RX4 = some m.cls := hown
  have i4 : ∀ w ∈ u_ws RX4 TX4 16, w ∈ wsX4_turnAt := fun _ h => List.mem_cons_of_mem _ (List.mem_append_right _ h)
  have w1 := hts (.fieldLink RX4 67 "GuildCharter$Port" "turnCount" "I") (List.mem_cons_of_mem _ (List.mem_append_left _ (List.mem_of_getElem? (i := 0) rfl)))
  refine lv_aload_n hx hb dX4_turnAt_0 rfl (lv_at hl 0 rfl) ?_
  refine va_get (D := (dC, dI)) (ci := 4) (v := .int 0) (C := RX4) (T := TX4) (N := 16) hx hb hts i4 hown hK hP 0 rfl rfl 14 (nlt rfl) w1 (fun _ h9 => h9) rfl dX4_turnAt_1 ?_
  refine lv_if_le (tgt := 21) hx hb dX4_turnAt_4 z602 (fun _ => ?_) (fun c1 => absurd (z510) c1)
  refine lv_iload_n hx hb dX4_turnAt_21 rfl (lv_at hl 1 rfl) ?_
  refine lv_iconst (v := 3) hx hb dX4_turnAt_22 z69 ?_
  refine lv_irem hx hb dX4_turnAt_23 z257 ?_
  refine tpi z262 ?_
  refine W.widen (k := 0) (n := 0) (by decide +kernel) (by decide +kernel) ?_
  exact ret_i hx hb hr hlocks hS (u := (fun _ => 0)) (hP.sub [0] rfl) (hD.sub [0] (by decide +kernel) rfl) dX4_turnAt_24

set_option maxHeartbeats 4000000 in
set_option maxRecDepth 100000 in
theorem k110_X10_ownerInEarnest (l : Launch) (dC : Nat → ClassId) (dI : Nat → Nat → Nat) (cB cI cJ cZ cO : ClassId) (r : Nat → Nat) : CI l yX10_ownerInEarnest wsX10_ownerInEarnest ({ frames := 1, cells := 0, slots := 0, locals := 21 }) (dC, dI) (tyL cB cI cJ cZ cO) [.ref (r 0), .int 2] [((r 0), .inr (10, fX r)), ((r 38), .inr (0, [.ref (r 39), .int 0, .ref (r 40), .ref (r 41), .ref (r 42), .ref (r 43), .ref (r 44), .int 0, .int 0])), ((r 40), .inl (cI, 6, .inl (upd (upd (upd (upd (upd (upd (fun _ => 0) 0 (-1)) 1 (-1)) 2 (-1)) 3 (-1)) 4 (-1)) 5 (-1)))), ((r 18), .inr (4, [.int 0, .ref (r 19), .ref (r 20), .int 0, .ref (r 21), .ref (r 22), .int 0, .ref (r 23), .ref (r 24), .int 0, .ref (r 25), .ref (r 26), .int 3, .int 0, .int 0, .ref (r 27)]))] (fun u => [((r 0), .inr (10, fX r)), ((r 38), .inr (0, [.ref (r 39), .int 0, .ref (r 40), .ref (r 41), .ref (r 42), .ref (r 43), .ref (r 44), .int 0, .int 0])), ((r 40), .inl (cI, 6, .inl (upd (upd (upd (upd (upd (upd (fun _ => 0) 0 (-1)) 1 (-1)) 2 (-1)) 3 (-1)) 4 (-1)) 5 (-1)))), ((r 18), .inr (4, [.int 0, .ref (r 19), .ref (r 20), .int 0, .ref (r 21), .ref (r 22), .int 0, .ref (r 23), .ref (r 24), .int 0, .ref (r 25), .ref (r 26), .int 3, .int 0, .int 0, .ref (r 27)]))]) 2 := by
  intro sz
  refine ct_open (cc := cX10_ownerInEarnest) (maxL := 2) (ret := (some .int)) (by decide) rfl (Nat.le_of_ble_eq_true rfl) ?_
  intro p e s m below meth c ls A hx hb hr hml hts hown hlocks hin hP hK hD hA hS hl
  have hl : lv_has ls 2 [(0, .ref (r 0)), (1, .int 2)] := hl
  have hown : s.vm.findClass RX10 = some m.cls := hown
  have i10 : ∀ w ∈ u_ws RX10 TX10 18, w ∈ wsX10_ownerInEarnest := fun _ h => List.mem_cons_of_mem _ (List.mem_append_left _ (List.mem_append_left _ (List.mem_append_right _ h)))
  have w1 := hts (.fieldLink RX10 33 "GuildCharter" "earnest" "LGuildCharter$Earnest;") (List.mem_cons_of_mem _ (List.mem_append_left _ (List.mem_append_left _ (List.mem_append_left _ (List.mem_of_getElem? (i := 0) rfl)))))
  have i0 : ∀ w ∈ u_ws RX0 TX0 9, w ∈ wsX10_ownerInEarnest := fun _ h => List.mem_cons_of_mem _ (List.mem_append_left _ (List.mem_append_right _ h))
  have w3 := hts (.fieldLink RX10 164 "GuildCharter$Earnest" "sold" "[I") (List.mem_cons_of_mem _ (List.mem_append_left _ (List.mem_append_left _ (List.mem_append_left _ (List.mem_of_getElem? (i := 1) rfl)))))
  have w4 := hts (.fieldLink RX10 23 "GuildCharter" "told" "LGuildCharter$Port;") (List.mem_cons_of_mem _ (List.mem_append_left _ (List.mem_append_left _ (List.mem_append_left _ (List.mem_of_getElem? (i := 2) rfl)))))
  refine lv_aload_n hx hb dX10_ownerInEarnest_0 rfl (lv_at hl 0 rfl) ?_
  refine va_get (D := (dC, dI)) (ci := 10) (v := .ref (r 38)) (C := RX10) (T := TX10) (N := 18) hx hb hts i10 hown hK hP 0 rfl rfl 5 (nlt rfl) w1 (fun _ h9 => h9) rfl dX10_ownerInEarnest_1 ?_
  refine va_get (D := (dC, dI)) (ci := 0) (v := .ref (r 40)) (C := RX0) (T := TX0) (N := 9) hx hb hts i0 hown hK hP 1 rfl rfl 2 (nlt rfl) w3 (fun _ h9 => h9) rfl dX10_ownerInEarnest_4 ?_
  refine lv_iload_n hx hb dX10_ownerInEarnest_7 rfl (lv_at hl 1 rfl) ?_
  refine my_iald (v := (-1)) hx hb hK hP 2 1 rfl rfl z68 rfl dX10_ownerInEarnest_8 ?_
  refine lv_iconst (v := (-1)) hx hb dX10_ownerInEarnest_9 z128 ?_
  refine lv_icmp_eq (tgt := 25) hx hb dX10_ownerInEarnest_10 z601 (fun _ => ?_) (fun c1 => absurd (rfl) c1)
  refine lv_aload_n hx hb dX10_ownerInEarnest_25 rfl (lv_at hl 0 rfl) ?_
  refine va_get (D := (dC, dI)) (ci := 10) (v := .ref (r 18)) (C := RX10) (T := TX10) (N := 18) hx hb hts i10 hown hK hP 0 rfl rfl 3 (nlt rfl) w4 (fun _ h9 => h9) rfl dX10_ownerInEarnest_26 ?_
  refine lv_iload_n hx hb dX10_ownerInEarnest_29 rfl (lv_at hl 1 rfl) ?_
  refine call_iV (ci := 4) (As := [.int 2]) (rest := []) (wr := [((r 0), .inr (10, fX r)), ((r 38), .inr (0, [.ref (r 39), .int 0, .ref (r 40), .ref (r 41), .ref (r 42), .ref (r 43), .ref (r 44), .int 0, .int 0])), ((r 40), .inl (cI, 6, .inl (upd (upd (upd (upd (upd (upd (fun _ => 0) 0 (-1)) 1 (-1)) 2 (-1)) 3 (-1)) 4 (-1)) 5 (-1))))]) ⟨hx, hb, hml, hown, hts⟩ (k109_X4_turnAt l dC dI cB cI cJ cZ cO r) (cwV 1 hts gX10_ownerInEarnest_X4_turnAt rfl rfl rfl ⟨rfl, z603⟩ ⟨Nat.le_of_ble_eq_true rfl, Nat.le_of_ble_eq_true rfl⟩) hK hP hD hS hA [3] [0, 1, 2] rfl rfl (by decide +kernel) (by decide +kernel) (by decide +kernel) rfl rfl rfl hl.1 (Nat.le_of_ble_eq_true rfl) rfl rfl dX10_ownerInEarnest_30 ⟨by decide +kernel, by decide +kernel⟩ (fun u0 H locs hP hD hS => ?_)
  refine W.widen (k := 0) (n := 0) (by decide +kernel) (by decide +kernel) ?_
  exact ret_i hx hb hr hlocks hS (u := (fun _ => 0)) (hP.sub [0, 1, 2, 3] rfl) (hD.sub [0, 1, 2, 3] (by decide +kernel) rfl) dX10_ownerInEarnest_33

set_option maxHeartbeats 4000000 in
set_option maxRecDepth 100000 in
theorem k111_X10_turn (l : Launch) (dC : Nat → ClassId) (dI : Nat → Nat → Nat) (cB cI cJ cZ cO : ClassId) (r : Nat → Nat) : CI l yX10_turn wsX10_turn ({ frames := 2, cells := 0, slots := 0, locals := 42 }) (dC, dI) (tyL cB cI cJ cZ cO) [.ref (r 0), .int 2] [((r 0), .inr (10, fX r)), ((r 18), .inr (4, [.int 0, .ref (r 19), .ref (r 20), .int 0, .ref (r 21), .ref (r 22), .int 0, .ref (r 23), .ref (r 24), .int 0, .ref (r 25), .ref (r 26), .int 3, .int 0, .int 0, .ref (r 27)])), ((r 38), .inr (0, [.ref (r 39), .int 0, .ref (r 40), .ref (r 41), .ref (r 42), .ref (r 43), .ref (r 44), .int 0, .int 0])), ((r 40), .inl (cI, 6, .inl (upd (upd (upd (upd (upd (upd (fun _ => 0) 0 (-1)) 1 (-1)) 2 (-1)) 3 (-1)) 4 (-1)) 5 (-1))))] (fun _ => []) 2 := by
  intro sz
  refine ct_open (cc := cX10_turn) (maxL := 2) (ret := (some .int)) (by decide) rfl (Nat.le_of_ble_eq_true rfl) ?_
  intro p e s m below meth c ls A hx hb hr hml hts hown hlocks hin hP hK hD hA hS hl
  have hl : lv_has ls 2 [(0, .ref (r 0)), (1, .int 2)] := hl
  have hown : s.vm.findClass RX10 = some m.cls := hown
  have i10 : ∀ w ∈ u_ws RX10 TX10 18, w ∈ wsX10_turn := fun _ h => List.mem_cons_of_mem _ (List.mem_append_left _ (List.mem_append_left _ (List.mem_append_right _ h)))
  have w1 := hts (.fieldLink RX10 23 "GuildCharter" "told" "LGuildCharter$Port;") (List.mem_cons_of_mem _ (List.mem_append_left _ (List.mem_append_left _ (List.mem_append_left _ (List.mem_of_getElem? (i := 0) rfl)))))
  refine lv_aload_n hx hb dX10_turn_0 rfl (lv_at hl 0 rfl) ?_
  refine va_get (D := (dC, dI)) (ci := 10) (v := .ref (r 18)) (C := RX10) (T := TX10) (N := 18) hx hb hts i10 hown hK hP 0 rfl rfl 3 (nlt rfl) w1 (fun _ h9 => h9) rfl dX10_turn_1 ?_
  refine lv_iload_n hx hb dX10_turn_4 rfl (lv_at hl 1 rfl) ?_
  refine call_iV (ci := 4) (As := [.int 2]) (rest := []) (wr := [((r 0), .inr (10, fX r)), ((r 38), .inr (0, [.ref (r 39), .int 0, .ref (r 40), .ref (r 41), .ref (r 42), .ref (r 43), .ref (r 44), .int 0, .int 0])), ((r 40), .inl (cI, 6, .inl (upd (upd (upd (upd (upd (upd (fun _ => 0) 0 (-1)) 1 (-1)) 2 (-1)) 3 (-1)) 4 (-1)) 5 (-1))))]) ⟨hx, hb, hml, hown, hts⟩ (k108_X4_hasPlace l dC dI cB cI cJ cZ cO r) (cwV 1 hts gX10_turn_X4_hasPlace rfl rfl rfl ⟨rfl, z595⟩ ⟨Nat.le_of_ble_eq_true rfl, Nat.le_of_ble_eq_true rfl⟩) hK hP hD hS hA [1] [0, 2, 3] rfl rfl (by decide +kernel) (by decide +kernel) (by decide +kernel) rfl rfl rfl hl.1 (Nat.le_of_ble_eq_true rfl) rfl rfl dX10_turn_5 ⟨by decide +kernel, by decide +kernel⟩ (fun u0 H locs hP hD hS => ?_)
  refine lv_if_eq (tgt := 19) hx hb dX10_turn_8 z594 (fun c1 => absurd c1 (z525)) (fun _ => ?_)
  refine lv_aload_n hx hb dX10_turn_11 rfl (lv_at hl 0 rfl) ?_
  refine lv_iload_n hx hb dX10_turn_12 rfl (lv_at hl 1 rfl) ?_
  refine call_iV (ci := 10) (As := [.int 2]) (rest := []) (wr := []) ⟨hx, hb, hml, hown, hts⟩ (k110_X10_ownerInEarnest l dC dI cB cI cJ cZ cO r) (cwV 1 hts gX10_turn_X10_ownerInEarnest rfl rfl rfl ⟨rfl, z605⟩ ⟨Nat.le_of_ble_eq_true rfl, Nat.le_of_ble_eq_true rfl⟩) hK hP hD hS hA [0, 1, 2, 3] [] rfl rfl (by decide +kernel) (by decide +kernel) (by decide +kernel) rfl rfl rfl hl.1 (Nat.le_of_ble_eq_true rfl) rfl rfl dX10_turn_13 ⟨by decide +kernel, by decide +kernel⟩ (fun u1 H locs hP hD hS => ?_)
  refine lv_goto (tgt := 20) hx hb dX10_turn_16 z604 ?_
  refine W.widen (k := 0) (n := 0) (by decide +kernel) (by decide +kernel) ?_
  exact ret_i hx hb hr hlocks hS (u := (fun _ => 0)) (hP.sub [] rfl) (hD.sub [] (by decide +kernel) rfl) dX10_turn_20

set_option maxHeartbeats 4000000 in
set_option maxRecDepth 100000 in
theorem k112_X11_isIn (l : Launch) (dC : Nat → ClassId) (dI : Nat → Nat → Nat) (cB cI cJ cZ cO : ClassId) : CI l yX11_isIn wsX11_isIn ({ frames := 0, cells := 0, slots := 0, locals := 0 }) (dC, dI) (tyL cB cI cJ cZ cO) [.int 2, .int 0, .int 2] [] (fun _ => []) 1 := by
  intro sz
  refine ct_open (cc := cX11_isIn) (maxL := 3) (ret := (some .boolean)) (by decide) rfl (Nat.le_of_ble_eq_true rfl) ?_
  intro p e s m below meth c ls A hx hb hr hml hts hown hlocks hin hP hK hD hA hS hl
  have hl : lv_has ls 3 [(0, .int 2), (1, .int 0), (2, .int 2)] := hl
  have hown : s.vm.findClass RX11 = some m.cls := hown
  refine lv_iload_n hx hb dX11_isIn_0 rfl (lv_at hl 0 rfl) ?_
  refine lv_iload_n hx hb dX11_isIn_1 rfl (lv_at hl 1 rfl) ?_
  refine lv_icmp_lt (tgt := 14) hx hb dX11_isIn_2 z586 (fun c1 => absurd c1 (z197)) (fun _ => ?_)
  refine lv_iload_n hx hb dX11_isIn_5 rfl (lv_at hl 0 rfl) ?_
  refine lv_iload_n hx hb dX11_isIn_6 rfl (lv_at hl 2 rfl) ?_
  refine lv_icmp_gt (tgt := 14) hx hb dX11_isIn_7 z591 (fun c1 => absurd c1 (z610)) (fun _ => ?_)
  refine lv_iconst (v := 1) hx hb dX11_isIn_10 z39 ?_
  refine lv_goto (tgt := 15) hx hb dX11_isIn_11 z606 ?_
  refine W.widen (k := 0) (n := 0) (by decide +kernel) (by decide +kernel) ?_
  exact ret_z hx hb hr rfl hlocks hS (u := (fun _ => 0)) (hP.sub [] rfl) (hD.sub [] (by decide +kernel) rfl) dX11_isIn_15

set_option maxHeartbeats 4000000 in
set_option maxRecDepth 100000 in
theorem k113_X11_isPlace (l : Launch) (dC : Nat → ClassId) (dI : Nat → Nat → Nat) (cB cI cJ cZ cO : ClassId) (n : Nat → Nat) : CI l yX11_isPlace wsX11_isPlace ({ frames := 1, cells := 0, slots := 0, locals := 22 }) (dC, dI) (tyL cB cI cJ cZ cO) [.ref (n 0), .int 2] [((n 0), .inr (11, fM n)), ((n 7), .inl (cI, 2, .inl (upd (fun _ => 0) 0 3)))] (fun u => [((n 0), .inr (11, fM n)), ((n 7), .inl (cI, 2, .inl (upd (fun _ => 0) 0 3)))]) 1 := by
  intro sz
  refine ct_open (cc := cX11_isPlace) (maxL := 2) (ret := (some .boolean)) (by decide) rfl (Nat.le_of_ble_eq_true rfl) ?_
  intro p e s m below meth c ls A hx hb hr hml hts hown hlocks hin hP hK hD hA hS hl
  have hl : lv_has ls 2 [(0, .ref (n 0)), (1, .int 2)] := hl
  have hown : s.vm.findClass RX11 = some m.cls := hown
  refine lv_iload_n hx hb dX11_isPlace_0 rfl (lv_at hl 1 rfl) ?_
  refine lv_iconst (v := 0) hx hb dX11_isPlace_1 z8 ?_
  refine lv_aload_n hx hb dX11_isPlace_2 rfl (lv_at hl 0 rfl) ?_
  refine call_iV (ci := 11) (As := []) (rest := [.int 0, .int 2]) (wr := []) ⟨hx, hb, hml, hown, hts⟩ (k90_X11_longOf l dC dI cB cI cJ cZ cO n) (cwV 0 hts gX11_isPlace_X11_longOf rfl rfl rfl ⟨rfl, z597⟩ ⟨Nat.le_of_ble_eq_true rfl, Nat.le_of_ble_eq_true rfl⟩) hK hP hD hS hA [0, 1] [] rfl rfl (by decide +kernel) (by decide +kernel) (by decide +kernel) rfl rfl rfl hl.1 (Nat.le_of_ble_eq_true rfl) rfl rfl dX11_isPlace_3 ⟨by decide +kernel, by decide +kernel⟩ (fun u0 H locs hP hD hS => ?_)
  refine lv_iconst (v := 1) hx hb dX11_isPlace_6 z39 ?_
  refine lv_isub hx hb dX11_isPlace_7 ?_
  refine tpi z596 ?_
  refine call_iS (As := [.int 2, .int 0, .int 2]) (rest := []) (wr := [((n 0), .inr (11, fM n)), ((n 7), .inl (cI, 2, .inl (upd (fun _ => 0) 0 3)))]) ⟨hx, hb, hml, hown, hts⟩ (k112_X11_isIn l dC dI cB cI cJ cZ cO) (va_cwS 3 hts gX11_isPlace_X11_isIn rfl rfl rfl z587 ⟨Nat.le_of_ble_eq_true rfl, Nat.le_of_ble_eq_true rfl⟩) hK hP hD hS hA [] [0, 1] rfl rfl (by decide +kernel) (by decide +kernel) (by decide +kernel) hl.1 (Nat.le_of_ble_eq_true rfl) rfl rfl dX11_isPlace_8 ⟨by decide +kernel, by decide +kernel⟩ (fun u1 H locs hP hD hS => ?_)
  refine W.widen (k := 0) (n := 0) (by decide +kernel) (by decide +kernel) ?_
  exact ret_z hx hb hr rfl hlocks hS (u := (fun _ => 0)) (hP.sub [0, 1] rfl) (hD.sub [0, 1] (by decide +kernel) rfl) dX11_isPlace_11

set_option maxHeartbeats 4000000 in
set_option maxRecDepth 100000 in
theorem k114_X11_turn (l : Launch) (dC : Nat → ClassId) (dI : Nat → Nat → Nat) (cB cI cJ cZ cO : ClassId) (n : Nat → Nat) : CI l yX11_turn wsX11_turn ({ frames := 2, cells := 0, slots := 0, locals := 43 }) (dC, dI) (tyL cB cI cJ cZ cO) [.ref (n 0), .int 2] [((n 0), .inr (11, fM n)), ((n 7), .inl (cI, 2, .inl (upd (fun _ => 0) 0 3))), ((n 27), .inl (cI, 6, .inl (upd (upd (upd (upd (fun _ => 0) 1 1) 2 2) 4 1) 5 2)))] (fun _ => []) 2 := by
  intro sz
  refine ct_open (cc := cX11_turn) (maxL := 2) (ret := (some .int)) (by decide) rfl (Nat.le_of_ble_eq_true rfl) ?_
  intro p e s m below meth c ls A hx hb hr hml hts hown hlocks hin hP hK hD hA hS hl
  have hl : lv_has ls 2 [(0, .ref (n 0)), (1, .int 2)] := hl
  have hown : s.vm.findClass RX11 = some m.cls := hown
  have i11 : ∀ w ∈ u_ws RX11 TX11 71, w ∈ wsX11_turn := fun _ h => List.mem_cons_of_mem _ (List.mem_append_right _ h)
  have w1 := hts (.fieldLink RX11 95 "GuildCharterModel" "turnNow" "[I") (List.mem_cons_of_mem _ (List.mem_append_left _ (List.mem_of_getElem? (i := 0) rfl)))
  refine lv_aload_n hx hb dX11_turn_0 rfl (lv_at hl 0 rfl) ?_
  refine lv_iload_n hx hb dX11_turn_1 rfl (lv_at hl 1 rfl) ?_
  refine call_iV (ci := 11) (As := [.int 2]) (rest := []) (wr := [((n 27), .inl (cI, 6, .inl (upd (upd (upd (upd (fun _ => 0) 1 1) 2 2) 4 1) 5 2)))]) ⟨hx, hb, hml, hown, hts⟩ (k113_X11_isPlace l dC dI cB cI cJ cZ cO n) (cwV 1 hts gX11_turn_X11_isPlace rfl rfl rfl ⟨rfl, z599⟩ ⟨Nat.le_of_ble_eq_true rfl, Nat.le_of_ble_eq_true rfl⟩) hK hP hD hS hA [0, 1] [2] rfl rfl (by decide +kernel) (by decide +kernel) (by decide +kernel) rfl rfl rfl hl.1 (Nat.le_of_ble_eq_true rfl) rfl rfl dX11_turn_2 ⟨by decide +kernel, by decide +kernel⟩ (fun u0 H locs hP hD hS => ?_)
  refine lv_if_eq (tgt := 17) hx hb dX11_turn_5 z598 (fun c1 => absurd c1 (z525)) (fun _ => ?_)
  refine lv_aload_n hx hb dX11_turn_8 rfl (lv_at hl 0 rfl) ?_
  refine va_get (D := (dC, dI)) (ci := 11) (v := .ref (n 27)) (C := RX11) (T := TX11) (N := 71) hx hb hts i11 hown hK hP 1 rfl rfl 37 (nlt rfl) w1 (fun _ h9 => h9) rfl dX11_turn_9 ?_
  refine lv_iload_n hx hb dX11_turn_12 rfl (lv_at hl 1 rfl) ?_
  refine my_iald (v := 2) hx hb hK hP 0 1 rfl rfl z68 rfl dX11_turn_13 ?_
  refine lv_goto (tgt := 18) hx hb dX11_turn_14 z607 ?_
  refine W.widen (k := 0) (n := 0) (by decide +kernel) (by decide +kernel) ?_
  exact ret_i hx hb hr hlocks hS (u := (fun _ => 0)) (hP.sub [] rfl) (hD.sub [] (by decide +kernel) rfl) dX11_turn_18

set_option maxHeartbeats 4000000 in
set_option maxRecDepth 100000 in
theorem k115_X4_hasPlace (l : Launch) (dC : Nat → ClassId) (dI : Nat → Nat → Nat) (cB cI cJ cZ cO : ClassId) (r : Nat → Nat) (x1 : Int32) (h0 : ¬ x1 < 0) (h1 : 3 ≤ x1) : CI l yX4_hasPlace wsX4_hasPlace ({ frames := 0, cells := 0, slots := 0, locals := 0 }) (dC, dI) (tyL cB cI cJ cZ cO) [.ref (r 18), .int x1] [((r 18), .inr (4, [.int 0, .ref (r 19), .ref (r 20), .int 0, .ref (r 21), .ref (r 22), .int 0, .ref (r 23), .ref (r 24), .int 0, .ref (r 25), .ref (r 26), .int 3, .int 0, .int 0, .ref (r 27)]))] (fun u => [((r 18), .inr (4, [.int 0, .ref (r 19), .ref (r 20), .int 0, .ref (r 21), .ref (r 22), .int 0, .ref (r 23), .ref (r 24), .int 0, .ref (r 25), .ref (r 26), .int 3, .int 0, .int 0, .ref (r 27)]))]) 0 := by
  intro sz
  refine ct_open (cc := cX4_hasPlace) (maxL := 2) (ret := (some .boolean)) (by decide) rfl (Nat.le_of_ble_eq_true rfl) ?_
  intro p e s m below meth c ls A hx hb hr hml hts hown hlocks hin hP hK hD hA hS hl
  have hl : lv_has ls 2 [(0, .ref (r 18)), (1, .int x1)] := hl
  have hown : s.vm.findClass RX4 = some m.cls := hown
  have i4 : ∀ w ∈ u_ws RX4 TX4 16, w ∈ wsX4_hasPlace := fun _ h => List.mem_cons_of_mem _ (List.mem_append_right _ h)
  have w1 := hts (.fieldLink RX4 41 "GuildCharter$Port" "length" "I") (List.mem_cons_of_mem _ (List.mem_append_left _ (List.mem_of_getElem? (i := 0) rfl)))
  refine lv_iload_n hx hb dX4_hasPlace_0 rfl (lv_at hl 1 rfl) ?_
  refine lv_if_lt (tgt := 16) hx hb dX4_hasPlace_1 z582 (fun c1 => absurd c1 (h0)) (fun _ => ?_)
  refine lv_iload_n hx hb dX4_hasPlace_4 rfl (lv_at hl 1 rfl) ?_
  refine lv_aload_n hx hb dX4_hasPlace_5 rfl (lv_at hl 0 rfl) ?_
  refine va_get (D := (dC, dI)) (ci := 4) (v := .int 3) (C := RX4) (T := TX4) (N := 16) hx hb hts i4 hown hK hP 0 rfl rfl 12 (nlt rfl) w1 (fun _ h9 => h9) rfl dX4_hasPlace_6 ?_
  refine lv_icmp_ge (tgt := 16) hx hb dX4_hasPlace_9 z590 (fun _ => ?_) (fun c1 => absurd (h1) c1)
  refine lv_iconst (v := 0) hx hb dX4_hasPlace_16 z8 ?_
  refine W.widen (k := 0) (n := 0) (by decide +kernel) (by decide +kernel) ?_
  exact ret_z hx hb hr rfl hlocks hS (u := (fun _ => 0)) (hP.sub [0] rfl) (hD.sub [0] (by decide +kernel) rfl) dX4_hasPlace_17

set_option maxHeartbeats 4000000 in
set_option maxRecDepth 100000 in
theorem k116_X10_turn (l : Launch) (dC : Nat → ClassId) (dI : Nat → Nat → Nat) (cB cI cJ cZ cO : ClassId) (r : Nat → Nat) (x1 : Int32) (h0 : ¬ x1 < 0) (h1 : 3 ≤ x1) : CI l yX10_turn wsX10_turn ({ frames := 1, cells := 0, slots := 0, locals := 21 }) (dC, dI) (tyL cB cI cJ cZ cO) [.ref (r 0), .int x1] [((r 0), .inr (10, fX r)), ((r 18), .inr (4, [.int 0, .ref (r 19), .ref (r 20), .int 0, .ref (r 21), .ref (r 22), .int 0, .ref (r 23), .ref (r 24), .int 0, .ref (r 25), .ref (r 26), .int 3, .int 0, .int 0, .ref (r 27)]))] (fun _ => []) (-1) := by
  intro sz
  refine ct_open (cc := cX10_turn) (maxL := 2) (ret := (some .int)) (by decide) rfl (Nat.le_of_ble_eq_true rfl) ?_
  intro p e s m below meth c ls A hx hb hr hml hts hown hlocks hin hP hK hD hA hS hl
  have hl : lv_has ls 2 [(0, .ref (r 0)), (1, .int x1)] := hl
  have hown : s.vm.findClass RX10 = some m.cls := hown
  have i10 : ∀ w ∈ u_ws RX10 TX10 18, w ∈ wsX10_turn := fun _ h => List.mem_cons_of_mem _ (List.mem_append_left _ (List.mem_append_left _ (List.mem_append_right _ h)))
  have w1 := hts (.fieldLink RX10 23 "GuildCharter" "told" "LGuildCharter$Port;") (List.mem_cons_of_mem _ (List.mem_append_left _ (List.mem_append_left _ (List.mem_append_left _ (List.mem_of_getElem? (i := 0) rfl)))))
  refine lv_aload_n hx hb dX10_turn_0 rfl (lv_at hl 0 rfl) ?_
  refine va_get (D := (dC, dI)) (ci := 10) (v := .ref (r 18)) (C := RX10) (T := TX10) (N := 18) hx hb hts i10 hown hK hP 0 rfl rfl 3 (nlt rfl) w1 (fun _ h9 => h9) rfl dX10_turn_1 ?_
  refine lv_iload_n hx hb dX10_turn_4 rfl (lv_at hl 1 rfl) ?_
  refine call_iV (ci := 4) (As := [.int x1]) (rest := []) (wr := [((r 0), .inr (10, fX r))]) ⟨hx, hb, hml, hown, hts⟩ (k115_X4_hasPlace l dC dI cB cI cJ cZ cO r x1 h0 h1) (cwV 1 hts gX10_turn_X4_hasPlace rfl rfl rfl ⟨rfl, z595⟩ ⟨Nat.le_of_ble_eq_true rfl, Nat.le_of_ble_eq_true rfl⟩) hK hP hD hS hA [1] [0] rfl rfl (by decide +kernel) (by decide +kernel) (by decide +kernel) rfl rfl rfl hl.1 (Nat.le_of_ble_eq_true rfl) rfl rfl dX10_turn_5 ⟨by decide +kernel, by decide +kernel⟩ (fun u0 H locs hP hD hS => ?_)
  refine lv_if_eq (tgt := 19) hx hb dX10_turn_8 z594 (fun _ => ?_) (fun c1 => absurd (rfl) c1)
  refine lv_iconst (v := (-1)) hx hb dX10_turn_19 z128 ?_
  refine W.widen (k := 0) (n := 0) (by decide +kernel) (by decide +kernel) ?_
  exact ret_i hx hb hr hlocks hS (u := (fun _ => 0)) (hP.sub [] rfl) (hD.sub [] (by decide +kernel) rfl) dX10_turn_20

set_option maxHeartbeats 4000000 in
set_option maxRecDepth 100000 in
theorem k117_X11_isIn (l : Launch) (dC : Nat → ClassId) (dI : Nat → Nat → Nat) (cB cI cJ cZ cO : ClassId) (x1 : Int32) (h0 : ¬ x1 < 0) (h1 : 2 < x1) : CI l yX11_isIn wsX11_isIn ({ frames := 0, cells := 0, slots := 0, locals := 0 }) (dC, dI) (tyL cB cI cJ cZ cO) [.int x1, .int 0, .int 2] [] (fun _ => []) 0 := by
  intro sz
  refine ct_open (cc := cX11_isIn) (maxL := 3) (ret := (some .boolean)) (by decide) rfl (Nat.le_of_ble_eq_true rfl) ?_
  intro p e s m below meth c ls A hx hb hr hml hts hown hlocks hin hP hK hD hA hS hl
  have hl : lv_has ls 3 [(0, .int x1), (1, .int 0), (2, .int 2)] := hl
  have hown : s.vm.findClass RX11 = some m.cls := hown
  refine lv_iload_n hx hb dX11_isIn_0 rfl (lv_at hl 0 rfl) ?_
  refine lv_iload_n hx hb dX11_isIn_1 rfl (lv_at hl 1 rfl) ?_
  refine lv_icmp_lt (tgt := 14) hx hb dX11_isIn_2 z586 (fun c1 => absurd c1 (h0)) (fun _ => ?_)
  refine lv_iload_n hx hb dX11_isIn_5 rfl (lv_at hl 0 rfl) ?_
  refine lv_iload_n hx hb dX11_isIn_6 rfl (lv_at hl 2 rfl) ?_
  refine lv_icmp_gt (tgt := 14) hx hb dX11_isIn_7 z591 (fun _ => ?_) (fun c1 => absurd (h1) c1)
  refine lv_iconst (v := 0) hx hb dX11_isIn_14 z8 ?_
  refine W.widen (k := 0) (n := 0) (by decide +kernel) (by decide +kernel) ?_
  exact ret_z hx hb hr rfl hlocks hS (u := (fun _ => 0)) (hP.sub [] rfl) (hD.sub [] (by decide +kernel) rfl) dX11_isIn_15

set_option maxHeartbeats 4000000 in
set_option maxRecDepth 100000 in
theorem k118_X11_isPlace (l : Launch) (dC : Nat → ClassId) (dI : Nat → Nat → Nat) (cB cI cJ cZ cO : ClassId) (n : Nat → Nat) (x1 : Int32) (h0 : ¬ x1 < 0) (h1 : 2 < x1) : CI l yX11_isPlace wsX11_isPlace ({ frames := 1, cells := 0, slots := 0, locals := 22 }) (dC, dI) (tyL cB cI cJ cZ cO) [.ref (n 0), .int x1] [((n 0), .inr (11, fM n)), ((n 7), .inl (cI, 2, .inl (upd (fun _ => 0) 0 3)))] (fun u => [((n 0), .inr (11, fM n)), ((n 7), .inl (cI, 2, .inl (upd (fun _ => 0) 0 3)))]) 0 := by
  intro sz
  refine ct_open (cc := cX11_isPlace) (maxL := 2) (ret := (some .boolean)) (by decide) rfl (Nat.le_of_ble_eq_true rfl) ?_
  intro p e s m below meth c ls A hx hb hr hml hts hown hlocks hin hP hK hD hA hS hl
  have hl : lv_has ls 2 [(0, .ref (n 0)), (1, .int x1)] := hl
  have hown : s.vm.findClass RX11 = some m.cls := hown
  refine lv_iload_n hx hb dX11_isPlace_0 rfl (lv_at hl 1 rfl) ?_
  refine lv_iconst (v := 0) hx hb dX11_isPlace_1 z8 ?_
  refine lv_aload_n hx hb dX11_isPlace_2 rfl (lv_at hl 0 rfl) ?_
  refine call_iV (ci := 11) (As := []) (rest := [.int 0, .int x1]) (wr := []) ⟨hx, hb, hml, hown, hts⟩ (k90_X11_longOf l dC dI cB cI cJ cZ cO n) (cwV 0 hts gX11_isPlace_X11_longOf rfl rfl rfl ⟨rfl, z597⟩ ⟨Nat.le_of_ble_eq_true rfl, Nat.le_of_ble_eq_true rfl⟩) hK hP hD hS hA [0, 1] [] rfl rfl (by decide +kernel) (by decide +kernel) (by decide +kernel) rfl rfl rfl hl.1 (Nat.le_of_ble_eq_true rfl) rfl rfl dX11_isPlace_3 ⟨by decide +kernel, by decide +kernel⟩ (fun u0 H locs hP hD hS => ?_)
  refine lv_iconst (v := 1) hx hb dX11_isPlace_6 z39 ?_
  refine lv_isub hx hb dX11_isPlace_7 ?_
  refine tpi z596 ?_
  refine call_iS (As := [.int x1, .int 0, .int 2]) (rest := []) (wr := [((n 0), .inr (11, fM n)), ((n 7), .inl (cI, 2, .inl (upd (fun _ => 0) 0 3)))]) ⟨hx, hb, hml, hown, hts⟩ (k117_X11_isIn l dC dI cB cI cJ cZ cO x1 h0 h1) (va_cwS 3 hts gX11_isPlace_X11_isIn rfl rfl rfl z587 ⟨Nat.le_of_ble_eq_true rfl, Nat.le_of_ble_eq_true rfl⟩) hK hP hD hS hA [] [0, 1] rfl rfl (by decide +kernel) (by decide +kernel) (by decide +kernel) hl.1 (Nat.le_of_ble_eq_true rfl) rfl rfl dX11_isPlace_8 ⟨by decide +kernel, by decide +kernel⟩ (fun u1 H locs hP hD hS => ?_)
  refine W.widen (k := 0) (n := 0) (by decide +kernel) (by decide +kernel) ?_
  exact ret_z hx hb hr rfl hlocks hS (u := (fun _ => 0)) (hP.sub [0, 1] rfl) (hD.sub [0, 1] (by decide +kernel) rfl) dX11_isPlace_11

set_option maxHeartbeats 4000000 in
set_option maxRecDepth 100000 in
theorem k119_X11_turn (l : Launch) (dC : Nat → ClassId) (dI : Nat → Nat → Nat) (cB cI cJ cZ cO : ClassId) (n : Nat → Nat) (x1 : Int32) (h0 : ¬ x1 < 0) (h1 : 2 < x1) : CI l yX11_turn wsX11_turn ({ frames := 2, cells := 0, slots := 0, locals := 43 }) (dC, dI) (tyL cB cI cJ cZ cO) [.ref (n 0), .int x1] [((n 0), .inr (11, fM n)), ((n 7), .inl (cI, 2, .inl (upd (fun _ => 0) 0 3)))] (fun _ => []) (-1) := by
  intro sz
  refine ct_open (cc := cX11_turn) (maxL := 2) (ret := (some .int)) (by decide) rfl (Nat.le_of_ble_eq_true rfl) ?_
  intro p e s m below meth c ls A hx hb hr hml hts hown hlocks hin hP hK hD hA hS hl
  have hl : lv_has ls 2 [(0, .ref (n 0)), (1, .int x1)] := hl
  have hown : s.vm.findClass RX11 = some m.cls := hown
  refine lv_aload_n hx hb dX11_turn_0 rfl (lv_at hl 0 rfl) ?_
  refine lv_iload_n hx hb dX11_turn_1 rfl (lv_at hl 1 rfl) ?_
  refine call_iV (ci := 11) (As := [.int x1]) (rest := []) (wr := []) ⟨hx, hb, hml, hown, hts⟩ (k118_X11_isPlace l dC dI cB cI cJ cZ cO n x1 h0 h1) (cwV 1 hts gX11_turn_X11_isPlace rfl rfl rfl ⟨rfl, z599⟩ ⟨Nat.le_of_ble_eq_true rfl, Nat.le_of_ble_eq_true rfl⟩) hK hP hD hS hA [0, 1] [] rfl rfl (by decide +kernel) (by decide +kernel) (by decide +kernel) rfl rfl rfl hl.1 (Nat.le_of_ble_eq_true rfl) rfl rfl dX11_turn_2 ⟨by decide +kernel, by decide +kernel⟩ (fun u0 H locs hP hD hS => ?_)
  refine lv_if_eq (tgt := 17) hx hb dX11_turn_5 z598 (fun _ => ?_) (fun c1 => absurd (rfl) c1)
  refine lv_iconst (v := (-1)) hx hb dX11_turn_17 z128 ?_
  refine W.widen (k := 0) (n := 0) (by decide +kernel) (by decide +kernel) ?_
  exact ret_i hx hb hr hlocks hS (u := (fun _ => 0)) (hP.sub [] rfl) (hD.sub [] (by decide +kernel) rfl) dX11_turn_18

set_option maxHeartbeats 4000000 in
set_option maxRecDepth 100000 in
theorem k120_X10_write (l : Launch) (dC : Nat → ClassId) (dI : Nat → Nat → Nat) (cB cI cJ cZ cO : ClassId) (r : Nat → Nat) (x1 : Int32) (h0 : x1 < 0) : CI l yX10_write wsX10_write ({ frames := 1, cells := 0, slots := 0, locals := 21 }) (dC, dI) (tyL cB cI cJ cZ cO) [.ref (r 0), .int x1] [((r 0), .inr (10, fX r)), ((r 18), .inr (4, [.int 0, .ref (r 19), .ref (r 20), .int 0, .ref (r 21), .ref (r 22), .int 0, .ref (r 23), .ref (r 24), .int 0, .ref (r 25), .ref (r 26), .int 3, .int 0, .int 0, .ref (r 27)]))] (fun _ => []) (-1) := by
  intro sz
  refine ct_open (cc := cX10_write) (maxL := 2) (ret := (some .int)) (by decide) rfl (Nat.le_of_ble_eq_true rfl) ?_
  intro p e s m below meth c ls A hx hb hr hml hts hown hlocks hin hP hK hD hA hS hl
  have hl : lv_has ls 2 [(0, .ref (r 0)), (1, .int x1)] := hl
  have hown : s.vm.findClass RX10 = some m.cls := hown
  have i10 : ∀ w ∈ u_ws RX10 TX10 18, w ∈ wsX10_write := fun _ h => List.mem_cons_of_mem _ (List.mem_append_left _ (List.mem_append_left _ (List.mem_append_left _ (List.mem_append_right _ h))))
  have w1 := hts (.fieldLink RX10 23 "GuildCharter" "told" "LGuildCharter$Port;") (List.mem_cons_of_mem _ (List.mem_append_left _ (List.mem_append_left _ (List.mem_append_left _ (List.mem_append_left _ (List.mem_append_left _ (List.mem_of_getElem? (i := 0) rfl)))))))
  refine lv_aload_n hx hb dX10_write_0 rfl (lv_at hl 0 rfl) ?_
  refine va_get (D := (dC, dI)) (ci := 10) (v := .ref (r 18)) (C := RX10) (T := TX10) (N := 18) hx hb hts i10 hown hK hP 0 rfl rfl 3 (nlt rfl) w1 (fun _ h9 => h9) rfl dX10_write_1 ?_
  refine lv_iload_n hx hb dX10_write_4 rfl (lv_at hl 1 rfl) ?_
  refine call_iV (ci := 4) (As := [.int x1]) (rest := []) (wr := [((r 0), .inr (10, fX r))]) ⟨hx, hb, hml, hown, hts⟩ (k74_X4_hasWord l dC dI cB cI cJ cZ cO r x1 h0) (cwV 1 hts gX10_write_X4_hasWord rfl rfl rfl ⟨rfl, z584⟩ ⟨Nat.le_of_ble_eq_true rfl, Nat.le_of_ble_eq_true rfl⟩) hK hP hD hS hA [1] [0] rfl rfl (by decide +kernel) (by decide +kernel) (by decide +kernel) rfl rfl rfl hl.1 (Nat.le_of_ble_eq_true rfl) rfl rfl dX10_write_5 ⟨by decide +kernel, by decide +kernel⟩ (fun u0 H locs hP hD hS => ?_)
  refine lv_if_eq (tgt := 22) hx hb dX10_write_8 z611 (fun _ => ?_) (fun c1 => absurd (rfl) c1)
  refine lv_iconst (v := (-1)) hx hb dX10_write_22 z128 ?_
  refine W.widen (k := 0) (n := 0) (by decide +kernel) (by decide +kernel) ?_
  exact ret_i hx hb hr hlocks hS (u := (fun _ => 0)) (hP.sub [] rfl) (hD.sub [] (by decide +kernel) rfl) dX10_write_23

set_option maxHeartbeats 4000000 in
set_option maxRecDepth 100000 in
theorem k121_X11_write (l : Launch) (dC : Nat → ClassId) (dI : Nat → Nat → Nat) (cB cI cJ cZ cO : ClassId) (n : Nat → Nat) (x1 : Int32) (h0 : x1 < 0) : CI l yX11_write wsX11_write ({ frames := 2, cells := 0, slots := 0, locals := 43 }) (dC, dI) (tyL cB cI cJ cZ cO) [.ref (n 0), .int x1] [((n 0), .inr (11, fM n)), ((n 3), .inl (cI, 2, .inl (fun _ => 0)))] (fun _ => []) (-1) := by
  intro sz
  refine ct_open (cc := cX11_write) (maxL := 2) (ret := (some .int)) (by decide) rfl (Nat.le_of_ble_eq_true rfl) ?_
  intro p e s m below meth c ls A hx hb hr hml hts hown hlocks hin hP hK hD hA hS hl
  have hl : lv_has ls 2 [(0, .ref (n 0)), (1, .int x1)] := hl
  have hown : s.vm.findClass RX11 = some m.cls := hown
  refine lv_aload_n hx hb dX11_write_0 rfl (lv_at hl 0 rfl) ?_
  refine lv_iload_n hx hb dX11_write_1 rfl (lv_at hl 1 rfl) ?_
  refine call_iV (ci := 11) (As := [.int x1]) (rest := []) (wr := []) ⟨hx, hb, hml, hown, hts⟩ (k77_X11_isWordOf l dC dI cB cI cJ cZ cO n x1 h0) (cwV 1 hts gX11_write_X11_isWordOf rfl rfl rfl ⟨rfl, z589⟩ ⟨Nat.le_of_ble_eq_true rfl, Nat.le_of_ble_eq_true rfl⟩) hK hP hD hS hA [0, 1] [] rfl rfl (by decide +kernel) (by decide +kernel) (by decide +kernel) rfl rfl rfl hl.1 (Nat.le_of_ble_eq_true rfl) rfl rfl dX11_write_2 ⟨by decide +kernel, by decide +kernel⟩ (fun u0 H locs hP hD hS => ?_)
  refine lv_if_eq (tgt := 16) hx hb dX11_write_5 z612 (fun _ => ?_) (fun c1 => absurd (rfl) c1)
  refine lv_iconst (v := (-1)) hx hb dX11_write_16 z128 ?_
  refine W.widen (k := 0) (n := 0) (by decide +kernel) (by decide +kernel) ?_
  exact ret_i hx hb hr hlocks hS (u := (fun _ => 0)) (hP.sub [] rfl) (hD.sub [] (by decide +kernel) rfl) dX11_write_17

set_option maxHeartbeats 4000000 in
set_option maxRecDepth 100000 in
theorem k122_X10_write (l : Launch) (dC : Nat → ClassId) (dI : Nat → Nat → Nat) (cB cI cJ cZ cO : ClassId) (r : Nat → Nat) (x1 : Int32) (h0 : ¬ x1 < 0) (h1 : 0 ≤ x1) : CI l yX10_write wsX10_write ({ frames := 1, cells := 0, slots := 0, locals := 21 }) (dC, dI) (tyL cB cI cJ cZ cO) [.ref (r 0), .int x1] [((r 0), .inr (10, fX r)), ((r 18), .inr (4, [.int 0, .ref (r 19), .ref (r 20), .int 0, .ref (r 21), .ref (r 22), .int 0, .ref (r 23), .ref (r 24), .int 0, .ref (r 25), .ref (r 26), .int 3, .int 0, .int 0, .ref (r 27)]))] (fun _ => []) (-1) := by
  intro sz
  refine ct_open (cc := cX10_write) (maxL := 2) (ret := (some .int)) (by decide) rfl (Nat.le_of_ble_eq_true rfl) ?_
  intro p e s m below meth c ls A hx hb hr hml hts hown hlocks hin hP hK hD hA hS hl
  have hl : lv_has ls 2 [(0, .ref (r 0)), (1, .int x1)] := hl
  have hown : s.vm.findClass RX10 = some m.cls := hown
  have i10 : ∀ w ∈ u_ws RX10 TX10 18, w ∈ wsX10_write := fun _ h => List.mem_cons_of_mem _ (List.mem_append_left _ (List.mem_append_left _ (List.mem_append_left _ (List.mem_append_right _ h))))
  have w1 := hts (.fieldLink RX10 23 "GuildCharter" "told" "LGuildCharter$Port;") (List.mem_cons_of_mem _ (List.mem_append_left _ (List.mem_append_left _ (List.mem_append_left _ (List.mem_append_left _ (List.mem_append_left _ (List.mem_of_getElem? (i := 0) rfl)))))))
  refine lv_aload_n hx hb dX10_write_0 rfl (lv_at hl 0 rfl) ?_
  refine va_get (D := (dC, dI)) (ci := 10) (v := .ref (r 18)) (C := RX10) (T := TX10) (N := 18) hx hb hts i10 hown hK hP 0 rfl rfl 3 (nlt rfl) w1 (fun _ h9 => h9) rfl dX10_write_1 ?_
  refine lv_iload_n hx hb dX10_write_4 rfl (lv_at hl 1 rfl) ?_
  refine call_iV (ci := 4) (As := [.int x1]) (rest := []) (wr := [((r 0), .inr (10, fX r))]) ⟨hx, hb, hml, hown, hts⟩ (k79_X4_hasWord l dC dI cB cI cJ cZ cO r x1 h0 h1) (cwV 1 hts gX10_write_X4_hasWord rfl rfl rfl ⟨rfl, z584⟩ ⟨Nat.le_of_ble_eq_true rfl, Nat.le_of_ble_eq_true rfl⟩) hK hP hD hS hA [1] [0] rfl rfl (by decide +kernel) (by decide +kernel) (by decide +kernel) rfl rfl rfl hl.1 (Nat.le_of_ble_eq_true rfl) rfl rfl dX10_write_5 ⟨by decide +kernel, by decide +kernel⟩ (fun u0 H locs hP hD hS => ?_)
  refine lv_if_eq (tgt := 22) hx hb dX10_write_8 z611 (fun _ => ?_) (fun c1 => absurd (rfl) c1)
  refine lv_iconst (v := (-1)) hx hb dX10_write_22 z128 ?_
  refine W.widen (k := 0) (n := 0) (by decide +kernel) (by decide +kernel) ?_
  exact ret_i hx hb hr hlocks hS (u := (fun _ => 0)) (hP.sub [] rfl) (hD.sub [] (by decide +kernel) rfl) dX10_write_23

set_option maxHeartbeats 4000000 in
set_option maxRecDepth 100000 in
theorem k123_X11_write (l : Launch) (dC : Nat → ClassId) (dI : Nat → Nat → Nat) (cB cI cJ cZ cO : ClassId) (n : Nat → Nat) (x1 : Int32) (h0 : ¬ x1 < 0) (h1 : (-1) < x1) : CI l yX11_write wsX11_write ({ frames := 2, cells := 0, slots := 0, locals := 43 }) (dC, dI) (tyL cB cI cJ cZ cO) [.ref (n 0), .int x1] [((n 0), .inr (11, fM n)), ((n 3), .inl (cI, 2, .inl (fun _ => 0)))] (fun _ => []) (-1) := by
  intro sz
  refine ct_open (cc := cX11_write) (maxL := 2) (ret := (some .int)) (by decide) rfl (Nat.le_of_ble_eq_true rfl) ?_
  intro p e s m below meth c ls A hx hb hr hml hts hown hlocks hin hP hK hD hA hS hl
  have hl : lv_has ls 2 [(0, .ref (n 0)), (1, .int x1)] := hl
  have hown : s.vm.findClass RX11 = some m.cls := hown
  refine lv_aload_n hx hb dX11_write_0 rfl (lv_at hl 0 rfl) ?_
  refine lv_iload_n hx hb dX11_write_1 rfl (lv_at hl 1 rfl) ?_
  refine call_iV (ci := 11) (As := [.int x1]) (rest := []) (wr := []) ⟨hx, hb, hml, hown, hts⟩ (k82_X11_isWordOf l dC dI cB cI cJ cZ cO n x1 h0 h1) (cwV 1 hts gX11_write_X11_isWordOf rfl rfl rfl ⟨rfl, z589⟩ ⟨Nat.le_of_ble_eq_true rfl, Nat.le_of_ble_eq_true rfl⟩) hK hP hD hS hA [0, 1] [] rfl rfl (by decide +kernel) (by decide +kernel) (by decide +kernel) rfl rfl rfl hl.1 (Nat.le_of_ble_eq_true rfl) rfl rfl dX11_write_2 ⟨by decide +kernel, by decide +kernel⟩ (fun u0 H locs hP hD hS => ?_)
  refine lv_if_eq (tgt := 16) hx hb dX11_write_5 z612 (fun _ => ?_) (fun c1 => absurd (rfl) c1)
  refine lv_iconst (v := (-1)) hx hb dX11_write_16 z128 ?_
  refine W.widen (k := 0) (n := 0) (by decide +kernel) (by decide +kernel) ?_
  exact ret_i hx hb hr hlocks hS (u := (fun _ => 0)) (hP.sub [] rfl) (hD.sub [] (by decide +kernel) rfl) dX11_write_17

set_option maxHeartbeats 4000000 in
set_option maxRecDepth 100000 in
theorem k124_X10_isUnwritten (l : Launch) (dC : Nat → ClassId) (dI : Nat → Nat → Nat) (cB cI cJ cZ cO : ClassId) (r : Nat → Nat) (x1 : Int32) (h0 : x1 < 0) : CI l yX10_isUnwritten wsX10_isUnwritten ({ frames := 1, cells := 0, slots := 0, locals := 21 }) (dC, dI) (tyL cB cI cJ cZ cO) [.ref (r 0), .int x1] [((r 0), .inr (10, fX r)), ((r 18), .inr (4, [.int 0, .ref (r 19), .ref (r 20), .int 0, .ref (r 21), .ref (r 22), .int 0, .ref (r 23), .ref (r 24), .int 0, .ref (r 25), .ref (r 26), .int 3, .int 0, .int 0, .ref (r 27)]))] (fun u => [((r 0), .inr (10, fX r)), ((r 18), .inr (4, [.int 0, .ref (r 19), .ref (r 20), .int 0, .ref (r 21), .ref (r 22), .int 0, .ref (r 23), .ref (r 24), .int 0, .ref (r 25), .ref (r 26), .int 3, .int 0, .int 0, .ref (r 27)]))]) 0 := by
  intro sz
  refine ct_open (cc := cX10_isUnwritten) (maxL := 2) (ret := (some .boolean)) (by decide) rfl (Nat.le_of_ble_eq_true rfl) ?_
  intro p e s m below meth c ls A hx hb hr hml hts hown hlocks hin hP hK hD hA hS hl
  have hl : lv_has ls 2 [(0, .ref (r 0)), (1, .int x1)] := hl
  have hown : s.vm.findClass RX10 = some m.cls := hown
  have i10 : ∀ w ∈ u_ws RX10 TX10 18, w ∈ wsX10_isUnwritten := fun _ h => List.mem_cons_of_mem _ (List.mem_append_left _ (List.mem_append_left _ (List.mem_append_right _ h)))
  have w1 := hts (.fieldLink RX10 23 "GuildCharter" "told" "LGuildCharter$Port;") (List.mem_cons_of_mem _ (List.mem_append_left _ (List.mem_append_left _ (List.mem_append_left _ (List.mem_of_getElem? (i := 0) rfl)))))
  refine lv_aload_n hx hb dX10_isUnwritten_0 rfl (lv_at hl 0 rfl) ?_
  refine va_get (D := (dC, dI)) (ci := 10) (v := .ref (r 18)) (C := RX10) (T := TX10) (N := 18) hx hb hts i10 hown hK hP 0 rfl rfl 3 (nlt rfl) w1 (fun _ h9 => h9) rfl dX10_isUnwritten_1 ?_
  refine lv_iload_n hx hb dX10_isUnwritten_4 rfl (lv_at hl 1 rfl) ?_
  refine call_iV (ci := 4) (As := [.int x1]) (rest := []) (wr := [((r 0), .inr (10, fX r))]) ⟨hx, hb, hml, hown, hts⟩ (k88_X4_hasPlace l dC dI cB cI cJ cZ cO r x1 h0) (cwV 1 hts gX10_isUnwritten_X4_hasPlace rfl rfl rfl ⟨rfl, z595⟩ ⟨Nat.le_of_ble_eq_true rfl, Nat.le_of_ble_eq_true rfl⟩) hK hP hD hS hA [1] [0] rfl rfl (by decide +kernel) (by decide +kernel) (by decide +kernel) rfl rfl rfl hl.1 (Nat.le_of_ble_eq_true rfl) rfl rfl dX10_isUnwritten_5 ⟨by decide +kernel, by decide +kernel⟩ (fun u0 H locs hP hD hS => ?_)
  refine lv_if_eq (tgt := 26) hx hb dX10_isUnwritten_8 z613 (fun _ => ?_) (fun c1 => absurd (rfl) c1)
  refine lv_iconst (v := 0) hx hb dX10_isUnwritten_26 z8 ?_
  refine W.widen (k := 0) (n := 0) (by decide +kernel) (by decide +kernel) ?_
  exact ret_z hx hb hr rfl hlocks hS (u := (fun _ => 0)) (hP.sub [0, 1] rfl) (hD.sub [0, 1] (by decide +kernel) rfl) dX10_isUnwritten_27

set_option maxHeartbeats 4000000 in
set_option maxRecDepth 100000 in
theorem k125_X10_sell (l : Launch) (dC : Nat → ClassId) (dI : Nat → Nat → Nat) (cB cI cJ cZ cO : ClassId) (r : Nat → Nat) (x1 : Int32) (x2 : Int32) (h0 : x1 < 0) : CI l yX10_sell wsX10_sell ({ frames := 2, cells := 0, slots := 0, locals := 42 }) (dC, dI) (tyL cB cI cJ cZ cO) [.ref (r 0), .int x1, .int x2] [((r 0), .inr (10, fX r)), ((r 18), .inr (4, [.int 0, .ref (r 19), .ref (r 20), .int 0, .ref (r 21), .ref (r 22), .int 0, .ref (r 23), .ref (r 24), .int 0, .ref (r 25), .ref (r 26), .int 3, .int 0, .int 0, .ref (r 27)]))] (fun _ => []) (-1) := by
  intro sz
  refine ct_open (cc := cX10_sell) (maxL := 4) (ret := (some .int)) (by decide) rfl (Nat.le_of_ble_eq_true rfl) ?_
  intro p e s m below meth c ls A hx hb hr hml hts hown hlocks hin hP hK hD hA hS hl
  have hl : lv_has ls 4 [(0, .ref (r 0)), (1, .int x1), (2, .int x2)] := hl
  have hown : s.vm.findClass RX10 = some m.cls := hown
  refine lv_aload_n hx hb dX10_sell_0 rfl (lv_at hl 0 rfl) ?_
  refine lv_iload_n hx hb dX10_sell_1 rfl (lv_at hl 1 rfl) ?_
  refine call_iV (ci := 10) (As := [.int x1]) (rest := []) (wr := []) ⟨hx, hb, hml, hown, hts⟩ (k124_X10_isUnwritten l dC dI cB cI cJ cZ cO r x1 h0) (cwV 1 hts gX10_sell_X10_isUnwritten rfl rfl rfl ⟨rfl, z615⟩ ⟨Nat.le_of_ble_eq_true rfl, Nat.le_of_ble_eq_true rfl⟩) hK hP hD hS hA [0, 1] [] rfl rfl (by decide +kernel) (by decide +kernel) (by decide +kernel) rfl rfl rfl hl.1 (Nat.le_of_ble_eq_true rfl) rfl rfl dX10_sell_2 ⟨by decide +kernel, by decide +kernel⟩ (fun u0 H locs hP hD hS => ?_)
  refine lv_if_eq (tgt := 15) hx hb dX10_sell_5 z614 (fun _ => ?_) (fun c1 => absurd (rfl) c1)
  refine lv_iconst (v := (-1)) hx hb dX10_sell_15 z128 ?_
  refine W.widen (k := 0) (n := 0) (by decide +kernel) (by decide +kernel) ?_
  exact ret_i hx hb hr hlocks hS (u := (fun _ => 0)) (hP.sub [] rfl) (hD.sub [] (by decide +kernel) rfl) dX10_sell_16

set_option maxHeartbeats 4000000 in
set_option maxRecDepth 100000 in
theorem k126_X11_sell (l : Launch) (dC : Nat → ClassId) (dI : Nat → Nat → Nat) (cB cI cJ cZ cO : ClassId) (n : Nat → Nat) (x1 : Int32) (x2 : Int32) (h0 : x1 < 0) : CI l yX11_sell wsX11_sell ({ frames := 1, cells := 0, slots := 0, locals := 22 }) (dC, dI) (tyL cB cI cJ cZ cO) [.ref (n 0), .int x1, .int x2] [((n 0), .inr (11, fM n)), ((n 7), .inl (cI, 2, .inl (upd (fun _ => 0) 0 3)))] (fun _ => []) (-1) := by
  intro sz
  refine ct_open (cc := cX11_sell) (maxL := 4) (ret := (some .int)) (by decide) rfl (Nat.le_of_ble_eq_true rfl) ?_
  intro p e s m below meth c ls A hx hb hr hml hts hown hlocks hin hP hK hD hA hS hl
  have hl : lv_has ls 4 [(0, .ref (n 0)), (1, .int x1), (2, .int x2)] := hl
  have hown : s.vm.findClass RX11 = some m.cls := hown
  have i11 : ∀ w ∈ u_ws RX11 TX11 71, w ∈ wsX11_sell := fun _ h => List.mem_cons_of_mem _ (List.mem_append_right _ h)
  have w1 := hts (.fieldLink RX11 336 "GuildCharterModel" "many" "I") (List.mem_cons_of_mem _ (List.mem_append_left _ (List.mem_of_getElem? (i := 0) rfl)))
  refine lv_iload_n hx hb dX11_sell_0 rfl (lv_at hl 1 rfl) ?_
  refine lv_aload_n hx hb dX11_sell_1 rfl (lv_at hl 0 rfl) ?_
  refine va_get (D := (dC, dI)) (ci := 11) (v := .int 0) (C := RX11) (T := TX11) (N := 71) hx hb hts i11 hown hK hP 0 rfl rfl 39 (nlt rfl) w1 (fun _ h9 => h9) rfl dX11_sell_2 ?_
  refine lv_aload_n hx hb dX11_sell_5 rfl (lv_at hl 0 rfl) ?_
  refine call_iV (ci := 11) (As := []) (rest := [.int 0, .int x1]) (wr := []) ⟨hx, hb, hml, hown, hts⟩ (k90_X11_longOf l dC dI cB cI cJ cZ cO n) (cwV 0 hts gX11_sell_X11_longOf rfl rfl rfl ⟨rfl, z597⟩ ⟨Nat.le_of_ble_eq_true rfl, Nat.le_of_ble_eq_true rfl⟩) hK hP hD hS hA [0, 1] [] rfl rfl (by decide +kernel) (by decide +kernel) (by decide +kernel) rfl rfl rfl hl.1 (Nat.le_of_ble_eq_true rfl) rfl rfl dX11_sell_6 ⟨by decide +kernel, by decide +kernel⟩ (fun u0 H locs hP hD hS => ?_)
  refine lv_iconst (v := 1) hx hb dX11_sell_9 z39 ?_
  refine lv_isub hx hb dX11_sell_10 ?_
  refine tpi z596 ?_
  refine call_iS (As := [.int x1, .int 0, .int 2]) (rest := []) (wr := [((n 0), .inr (11, fM n)), ((n 7), .inl (cI, 2, .inl (upd (fun _ => 0) 0 3)))]) ⟨hx, hb, hml, hown, hts⟩ (k91_X11_isIn l dC dI cB cI cJ cZ cO x1 h0) (va_cwS 3 hts gX11_sell_X11_isIn rfl rfl rfl z587 ⟨Nat.le_of_ble_eq_true rfl, Nat.le_of_ble_eq_true rfl⟩) hK hP hD hS hA [] [0, 1] rfl rfl (by decide +kernel) (by decide +kernel) (by decide +kernel) hl.1 (Nat.le_of_ble_eq_true rfl) rfl rfl dX11_sell_11 ⟨by decide +kernel, by decide +kernel⟩ (fun u1 H locs hP hD hS => ?_)
  refine lv_if_eq (tgt := 24) hx hb dX11_sell_14 z616 (fun _ => ?_) (fun c1 => absurd (rfl) c1)
  refine lv_iconst (v := (-1)) hx hb dX11_sell_24 z128 ?_
  refine W.widen (k := 0) (n := 0) (by decide +kernel) (by decide +kernel) ?_
  exact ret_i hx hb hr hlocks hS (u := (fun _ => 0)) (hP.sub [] rfl) (hD.sub [] (by decide +kernel) rfl) dX11_sell_25

set_option maxHeartbeats 4000000 in
set_option maxRecDepth 100000 in
theorem k127_X10_isUnwritten (l : Launch) (dC : Nat → ClassId) (dI : Nat → Nat → Nat) (cB cI cJ cZ cO : ClassId) (r : Nat → Nat) (x1 : Int32) (h0 : ¬ x1 < 0) (h1 : 3 ≤ x1) : CI l yX10_isUnwritten wsX10_isUnwritten ({ frames := 1, cells := 0, slots := 0, locals := 21 }) (dC, dI) (tyL cB cI cJ cZ cO) [.ref (r 0), .int x1] [((r 0), .inr (10, fX r)), ((r 18), .inr (4, [.int 0, .ref (r 19), .ref (r 20), .int 0, .ref (r 21), .ref (r 22), .int 0, .ref (r 23), .ref (r 24), .int 0, .ref (r 25), .ref (r 26), .int 3, .int 0, .int 0, .ref (r 27)]))] (fun u => [((r 0), .inr (10, fX r)), ((r 18), .inr (4, [.int 0, .ref (r 19), .ref (r 20), .int 0, .ref (r 21), .ref (r 22), .int 0, .ref (r 23), .ref (r 24), .int 0, .ref (r 25), .ref (r 26), .int 3, .int 0, .int 0, .ref (r 27)]))]) 0 := by
  intro sz
  refine ct_open (cc := cX10_isUnwritten) (maxL := 2) (ret := (some .boolean)) (by decide) rfl (Nat.le_of_ble_eq_true rfl) ?_
  intro p e s m below meth c ls A hx hb hr hml hts hown hlocks hin hP hK hD hA hS hl
  have hl : lv_has ls 2 [(0, .ref (r 0)), (1, .int x1)] := hl
  have hown : s.vm.findClass RX10 = some m.cls := hown
  have i10 : ∀ w ∈ u_ws RX10 TX10 18, w ∈ wsX10_isUnwritten := fun _ h => List.mem_cons_of_mem _ (List.mem_append_left _ (List.mem_append_left _ (List.mem_append_right _ h)))
  have w1 := hts (.fieldLink RX10 23 "GuildCharter" "told" "LGuildCharter$Port;") (List.mem_cons_of_mem _ (List.mem_append_left _ (List.mem_append_left _ (List.mem_append_left _ (List.mem_of_getElem? (i := 0) rfl)))))
  refine lv_aload_n hx hb dX10_isUnwritten_0 rfl (lv_at hl 0 rfl) ?_
  refine va_get (D := (dC, dI)) (ci := 10) (v := .ref (r 18)) (C := RX10) (T := TX10) (N := 18) hx hb hts i10 hown hK hP 0 rfl rfl 3 (nlt rfl) w1 (fun _ h9 => h9) rfl dX10_isUnwritten_1 ?_
  refine lv_iload_n hx hb dX10_isUnwritten_4 rfl (lv_at hl 1 rfl) ?_
  refine call_iV (ci := 4) (As := [.int x1]) (rest := []) (wr := [((r 0), .inr (10, fX r))]) ⟨hx, hb, hml, hown, hts⟩ (k115_X4_hasPlace l dC dI cB cI cJ cZ cO r x1 h0 h1) (cwV 1 hts gX10_isUnwritten_X4_hasPlace rfl rfl rfl ⟨rfl, z595⟩ ⟨Nat.le_of_ble_eq_true rfl, Nat.le_of_ble_eq_true rfl⟩) hK hP hD hS hA [1] [0] rfl rfl (by decide +kernel) (by decide +kernel) (by decide +kernel) rfl rfl rfl hl.1 (Nat.le_of_ble_eq_true rfl) rfl rfl dX10_isUnwritten_5 ⟨by decide +kernel, by decide +kernel⟩ (fun u0 H locs hP hD hS => ?_)
  refine lv_if_eq (tgt := 26) hx hb dX10_isUnwritten_8 z613 (fun _ => ?_) (fun c1 => absurd (rfl) c1)
  refine lv_iconst (v := 0) hx hb dX10_isUnwritten_26 z8 ?_
  refine W.widen (k := 0) (n := 0) (by decide +kernel) (by decide +kernel) ?_
  exact ret_z hx hb hr rfl hlocks hS (u := (fun _ => 0)) (hP.sub [0, 1] rfl) (hD.sub [0, 1] (by decide +kernel) rfl) dX10_isUnwritten_27

set_option maxHeartbeats 4000000 in
set_option maxRecDepth 100000 in
theorem k128_X10_sell (l : Launch) (dC : Nat → ClassId) (dI : Nat → Nat → Nat) (cB cI cJ cZ cO : ClassId) (r : Nat → Nat) (x1 : Int32) (x2 : Int32) (h0 : ¬ x1 < 0) (h1 : 3 ≤ x1) : CI l yX10_sell wsX10_sell ({ frames := 2, cells := 0, slots := 0, locals := 42 }) (dC, dI) (tyL cB cI cJ cZ cO) [.ref (r 0), .int x1, .int x2] [((r 0), .inr (10, fX r)), ((r 18), .inr (4, [.int 0, .ref (r 19), .ref (r 20), .int 0, .ref (r 21), .ref (r 22), .int 0, .ref (r 23), .ref (r 24), .int 0, .ref (r 25), .ref (r 26), .int 3, .int 0, .int 0, .ref (r 27)]))] (fun _ => []) (-1) := by
  intro sz
  refine ct_open (cc := cX10_sell) (maxL := 4) (ret := (some .int)) (by decide) rfl (Nat.le_of_ble_eq_true rfl) ?_
  intro p e s m below meth c ls A hx hb hr hml hts hown hlocks hin hP hK hD hA hS hl
  have hl : lv_has ls 4 [(0, .ref (r 0)), (1, .int x1), (2, .int x2)] := hl
  have hown : s.vm.findClass RX10 = some m.cls := hown
  refine lv_aload_n hx hb dX10_sell_0 rfl (lv_at hl 0 rfl) ?_
  refine lv_iload_n hx hb dX10_sell_1 rfl (lv_at hl 1 rfl) ?_
  refine call_iV (ci := 10) (As := [.int x1]) (rest := []) (wr := []) ⟨hx, hb, hml, hown, hts⟩ (k127_X10_isUnwritten l dC dI cB cI cJ cZ cO r x1 h0 h1) (cwV 1 hts gX10_sell_X10_isUnwritten rfl rfl rfl ⟨rfl, z615⟩ ⟨Nat.le_of_ble_eq_true rfl, Nat.le_of_ble_eq_true rfl⟩) hK hP hD hS hA [0, 1] [] rfl rfl (by decide +kernel) (by decide +kernel) (by decide +kernel) rfl rfl rfl hl.1 (Nat.le_of_ble_eq_true rfl) rfl rfl dX10_sell_2 ⟨by decide +kernel, by decide +kernel⟩ (fun u0 H locs hP hD hS => ?_)
  refine lv_if_eq (tgt := 15) hx hb dX10_sell_5 z614 (fun _ => ?_) (fun c1 => absurd (rfl) c1)
  refine lv_iconst (v := (-1)) hx hb dX10_sell_15 z128 ?_
  refine W.widen (k := 0) (n := 0) (by decide +kernel) (by decide +kernel) ?_
  exact ret_i hx hb hr hlocks hS (u := (fun _ => 0)) (hP.sub [] rfl) (hD.sub [] (by decide +kernel) rfl) dX10_sell_16

set_option maxHeartbeats 4000000 in
set_option maxRecDepth 100000 in
theorem k129_X11_sell (l : Launch) (dC : Nat → ClassId) (dI : Nat → Nat → Nat) (cB cI cJ cZ cO : ClassId) (n : Nat → Nat) (x1 : Int32) (x2 : Int32) (h0 : ¬ x1 < 0) (h1 : 2 < x1) : CI l yX11_sell wsX11_sell ({ frames := 1, cells := 0, slots := 0, locals := 22 }) (dC, dI) (tyL cB cI cJ cZ cO) [.ref (n 0), .int x1, .int x2] [((n 0), .inr (11, fM n)), ((n 7), .inl (cI, 2, .inl (upd (fun _ => 0) 0 3)))] (fun _ => []) (-1) := by
  intro sz
  refine ct_open (cc := cX11_sell) (maxL := 4) (ret := (some .int)) (by decide) rfl (Nat.le_of_ble_eq_true rfl) ?_
  intro p e s m below meth c ls A hx hb hr hml hts hown hlocks hin hP hK hD hA hS hl
  have hl : lv_has ls 4 [(0, .ref (n 0)), (1, .int x1), (2, .int x2)] := hl
  have hown : s.vm.findClass RX11 = some m.cls := hown
  have i11 : ∀ w ∈ u_ws RX11 TX11 71, w ∈ wsX11_sell := fun _ h => List.mem_cons_of_mem _ (List.mem_append_right _ h)
  have w1 := hts (.fieldLink RX11 336 "GuildCharterModel" "many" "I") (List.mem_cons_of_mem _ (List.mem_append_left _ (List.mem_of_getElem? (i := 0) rfl)))
  refine lv_iload_n hx hb dX11_sell_0 rfl (lv_at hl 1 rfl) ?_
  refine lv_aload_n hx hb dX11_sell_1 rfl (lv_at hl 0 rfl) ?_
  refine va_get (D := (dC, dI)) (ci := 11) (v := .int 0) (C := RX11) (T := TX11) (N := 71) hx hb hts i11 hown hK hP 0 rfl rfl 39 (nlt rfl) w1 (fun _ h9 => h9) rfl dX11_sell_2 ?_
  refine lv_aload_n hx hb dX11_sell_5 rfl (lv_at hl 0 rfl) ?_
  refine call_iV (ci := 11) (As := []) (rest := [.int 0, .int x1]) (wr := []) ⟨hx, hb, hml, hown, hts⟩ (k90_X11_longOf l dC dI cB cI cJ cZ cO n) (cwV 0 hts gX11_sell_X11_longOf rfl rfl rfl ⟨rfl, z597⟩ ⟨Nat.le_of_ble_eq_true rfl, Nat.le_of_ble_eq_true rfl⟩) hK hP hD hS hA [0, 1] [] rfl rfl (by decide +kernel) (by decide +kernel) (by decide +kernel) rfl rfl rfl hl.1 (Nat.le_of_ble_eq_true rfl) rfl rfl dX11_sell_6 ⟨by decide +kernel, by decide +kernel⟩ (fun u0 H locs hP hD hS => ?_)
  refine lv_iconst (v := 1) hx hb dX11_sell_9 z39 ?_
  refine lv_isub hx hb dX11_sell_10 ?_
  refine tpi z596 ?_
  refine call_iS (As := [.int x1, .int 0, .int 2]) (rest := []) (wr := [((n 0), .inr (11, fM n)), ((n 7), .inl (cI, 2, .inl (upd (fun _ => 0) 0 3)))]) ⟨hx, hb, hml, hown, hts⟩ (k117_X11_isIn l dC dI cB cI cJ cZ cO x1 h0 h1) (va_cwS 3 hts gX11_sell_X11_isIn rfl rfl rfl z587 ⟨Nat.le_of_ble_eq_true rfl, Nat.le_of_ble_eq_true rfl⟩) hK hP hD hS hA [] [0, 1] rfl rfl (by decide +kernel) (by decide +kernel) (by decide +kernel) hl.1 (Nat.le_of_ble_eq_true rfl) rfl rfl dX11_sell_11 ⟨by decide +kernel, by decide +kernel⟩ (fun u1 H locs hP hD hS => ?_)
  refine lv_if_eq (tgt := 24) hx hb dX11_sell_14 z616 (fun _ => ?_) (fun c1 => absurd (rfl) c1)
  refine lv_iconst (v := (-1)) hx hb dX11_sell_24 z128 ?_
  refine W.widen (k := 0) (n := 0) (by decide +kernel) (by decide +kernel) ?_
  exact ret_i hx hb hr hlocks hS (u := (fun _ => 0)) (hP.sub [] rfl) (hD.sub [] (by decide +kernel) rfl) dX11_sell_25

set_option maxHeartbeats 4000000 in
set_option maxRecDepth 100000 in
theorem k130_X10_isUnwritten (l : Launch) (dC : Nat → ClassId) (dI : Nat → Nat → Nat) (cB cI cJ cZ cO : ClassId) (r : Nat → Nat) : CI l yX10_isUnwritten wsX10_isUnwritten ({ frames := 1, cells := 0, slots := 0, locals := 21 }) (dC, dI) (tyL cB cI cJ cZ cO) [.ref (r 0), .int 0] [((r 0), .inr (10, fX r)), ((r 18), .inr (4, [.int 0, .ref (r 19), .ref (r 20), .int 0, .ref (r 21), .ref (r 22), .int 0, .ref (r 23), .ref (r 24), .int 0, .ref (r 25), .ref (r 26), .int 3, .int 0, .int 0, .ref (r 27)])), ((r 38), .inr (0, [.ref (r 39), .int 0, .ref (r 40), .ref (r 41), .ref (r 42), .ref (r 43), .ref (r 44), .int 0, .int 0]))] (fun u => [((r 0), .inr (10, fX r)), ((r 18), .inr (4, [.int 0, .ref (r 19), .ref (r 20), .int 0, .ref (r 21), .ref (r 22), .int 0, .ref (r 23), .ref (r 24), .int 0, .ref (r 25), .ref (r 26), .int 3, .int 0, .int 0, .ref (r 27)])), ((r 38), .inr (0, [.ref (r 39), .int 0, .ref (r 40), .ref (r 41), .ref (r 42), .ref (r 43), .ref (r 44), .int 0, .int 0]))]) 1 := by
  intro sz
  refine ct_open (cc := cX10_isUnwritten) (maxL := 2) (ret := (some .boolean)) (by decide) rfl (Nat.le_of_ble_eq_true rfl) ?_
  intro p e s m below meth c ls A hx hb hr hml hts hown hlocks hin hP hK hD hA hS hl
  have hl : lv_has ls 2 [(0, .ref (r 0)), (1, .int 0)] := hl
  have hown : s.vm.findClass RX10 = some m.cls := hown
  have i10 : ∀ w ∈ u_ws RX10 TX10 18, w ∈ wsX10_isUnwritten := fun _ h => List.mem_cons_of_mem _ (List.mem_append_left _ (List.mem_append_left _ (List.mem_append_right _ h)))
  have w1 := hts (.fieldLink RX10 23 "GuildCharter" "told" "LGuildCharter$Port;") (List.mem_cons_of_mem _ (List.mem_append_left _ (List.mem_append_left _ (List.mem_append_left _ (List.mem_of_getElem? (i := 0) rfl)))))
  have w2 := hts (.fieldLink RX10 33 "GuildCharter" "earnest" "LGuildCharter$Earnest;") (List.mem_cons_of_mem _ (List.mem_append_left _ (List.mem_append_left _ (List.mem_append_left _ (List.mem_of_getElem? (i := 1) rfl)))))
  have i0 : ∀ w ∈ u_ws RX0 TX0 9, w ∈ wsX10_isUnwritten := fun _ h => List.mem_cons_of_mem _ (List.mem_append_left _ (List.mem_append_right _ h))
  have w4 := hts (.fieldLink RX10 177 "GuildCharter$Earnest" "size" "I") (List.mem_cons_of_mem _ (List.mem_append_left _ (List.mem_append_left _ (List.mem_append_left _ (List.mem_of_getElem? (i := 2) rfl)))))
  refine lv_aload_n hx hb dX10_isUnwritten_0 rfl (lv_at hl 0 rfl) ?_
  refine va_get (D := (dC, dI)) (ci := 10) (v := .ref (r 18)) (C := RX10) (T := TX10) (N := 18) hx hb hts i10 hown hK hP 0 rfl rfl 3 (nlt rfl) w1 (fun _ h9 => h9) rfl dX10_isUnwritten_1 ?_
  refine lv_iload_n hx hb dX10_isUnwritten_4 rfl (lv_at hl 1 rfl) ?_
  refine call_iV (ci := 4) (As := [.int 0]) (rest := []) (wr := [((r 0), .inr (10, fX r)), ((r 38), .inr (0, [.ref (r 39), .int 0, .ref (r 40), .ref (r 41), .ref (r 42), .ref (r 43), .ref (r 44), .int 0, .int 0]))]) ⟨hx, hb, hml, hown, hts⟩ (k94_X4_hasPlace l dC dI cB cI cJ cZ cO r) (cwV 1 hts gX10_isUnwritten_X4_hasPlace rfl rfl rfl ⟨rfl, z595⟩ ⟨Nat.le_of_ble_eq_true rfl, Nat.le_of_ble_eq_true rfl⟩) hK hP hD hS hA [1] [0, 2] rfl rfl (by decide +kernel) (by decide +kernel) (by decide +kernel) rfl rfl rfl hl.1 (Nat.le_of_ble_eq_true rfl) rfl rfl dX10_isUnwritten_5 ⟨by decide +kernel, by decide +kernel⟩ (fun u0 H locs hP hD hS => ?_)
  refine lv_if_eq (tgt := 26) hx hb dX10_isUnwritten_8 z613 (fun c1 => absurd c1 (z525)) (fun _ => ?_)
  refine lv_iload_n hx hb dX10_isUnwritten_11 rfl (lv_at hl 1 rfl) ?_
  refine lv_aload_n hx hb dX10_isUnwritten_12 rfl (lv_at hl 0 rfl) ?_
  refine va_get (D := (dC, dI)) (ci := 10) (v := .ref (r 38)) (C := RX10) (T := TX10) (N := 18) hx hb hts i10 hown hK hP 0 rfl rfl 5 (nlt rfl) w2 (fun _ h9 => h9) rfl dX10_isUnwritten_13 ?_
  refine va_get (D := (dC, dI)) (ci := 0) (v := .int 0) (C := RX0) (T := TX0) (N := 9) hx hb hts i0 hown hK hP 1 rfl rfl 1 (nlt rfl) w4 (fun _ h9 => h9) rfl dX10_isUnwritten_16 ?_
  refine lv_icmp_lt (tgt := 26) hx hb dX10_isUnwritten_19 z617 (fun c1 => absurd c1 (z125)) (fun _ => ?_)
  refine lv_iconst (v := 1) hx hb dX10_isUnwritten_22 z39 ?_
  refine lv_goto (tgt := 27) hx hb dX10_isUnwritten_23 z618 ?_
  refine W.widen (k := 0) (n := 0) (by decide +kernel) (by decide +kernel) ?_
  exact ret_z hx hb hr rfl hlocks hS (u := (fun _ => 0)) (hP.sub [0, 2, 1] rfl) (hD.sub [0, 2, 1] (by decide +kernel) rfl) dX10_isUnwritten_27

set_option maxHeartbeats 4000000 in
set_option maxRecDepth 100000 in
theorem k131_X10_isGuild (l : Launch) (dC : Nat → ClassId) (dI : Nat → Nat → Nat) (cB cI cJ cZ cO : ClassId) (x2 : Int32) (h0 : x2 < 0) : CI l yX10_isGuild wsX10_isGuild ({ frames := 0, cells := 0, slots := 0, locals := 0 }) (dC, dI) (tyL cB cI cJ cZ cO) [.int x2] [] (fun _ => []) 0 := by
  intro sz
  refine ct_open (cc := cX10_isGuild) (maxL := 1) (ret := (some .boolean)) (by decide) rfl (Nat.le_of_ble_eq_true rfl) ?_
  intro p e s m below meth c ls A hx hb hr hml hts hown hlocks hin hP hK hD hA hS hl
  have hl : lv_has ls 1 [(0, .int x2)] := hl
  have hown : s.vm.findClass RX10 = some m.cls := hown
  refine lv_iload_n hx hb dX10_isGuild_0 rfl (lv_at hl 0 rfl) ?_
  refine lv_if_lt (tgt := 13) hx hb dX10_isGuild_1 z619 (fun _ => ?_) (fun c1 => absurd (h0) c1)
  refine lv_iconst (v := 0) hx hb dX10_isGuild_13 z8 ?_
  refine W.widen (k := 0) (n := 0) (by decide +kernel) (by decide +kernel) ?_
  exact ret_z hx hb hr rfl hlocks hS (u := (fun _ => 0)) (hP.sub [] rfl) (hD.sub [] (by decide +kernel) rfl) dX10_isGuild_14

set_option maxHeartbeats 4000000 in
set_option maxRecDepth 100000 in
theorem k132_X10_sell (l : Launch) (dC : Nat → ClassId) (dI : Nat → Nat → Nat) (cB cI cJ cZ cO : ClassId) (r : Nat → Nat) (x2 : Int32) (h0 : x2 < 0) : CI l yX10_sell wsX10_sell ({ frames := 2, cells := 0, slots := 0, locals := 42 }) (dC, dI) (tyL cB cI cJ cZ cO) [.ref (r 0), .int 0, .int x2] [((r 0), .inr (10, fX r)), ((r 18), .inr (4, [.int 0, .ref (r 19), .ref (r 20), .int 0, .ref (r 21), .ref (r 22), .int 0, .ref (r 23), .ref (r 24), .int 0, .ref (r 25), .ref (r 26), .int 3, .int 0, .int 0, .ref (r 27)])), ((r 38), .inr (0, [.ref (r 39), .int 0, .ref (r 40), .ref (r 41), .ref (r 42), .ref (r 43), .ref (r 44), .int 0, .int 0]))] (fun _ => []) (-1) := by
  intro sz
  refine ct_open (cc := cX10_sell) (maxL := 4) (ret := (some .int)) (by decide) rfl (Nat.le_of_ble_eq_true rfl) ?_
  intro p e s m below meth c ls A hx hb hr hml hts hown hlocks hin hP hK hD hA hS hl
  have hl : lv_has ls 4 [(0, .ref (r 0)), (1, .int 0), (2, .int x2)] := hl
  have hown : s.vm.findClass RX10 = some m.cls := hown
  refine lv_aload_n hx hb dX10_sell_0 rfl (lv_at hl 0 rfl) ?_
  refine lv_iload_n hx hb dX10_sell_1 rfl (lv_at hl 1 rfl) ?_
  refine call_iV (ci := 10) (As := [.int 0]) (rest := []) (wr := []) ⟨hx, hb, hml, hown, hts⟩ (k130_X10_isUnwritten l dC dI cB cI cJ cZ cO r) (cwV 1 hts gX10_sell_X10_isUnwritten rfl rfl rfl ⟨rfl, z615⟩ ⟨Nat.le_of_ble_eq_true rfl, Nat.le_of_ble_eq_true rfl⟩) hK hP hD hS hA [0, 1, 2] [] rfl rfl (by decide +kernel) (by decide +kernel) (by decide +kernel) rfl rfl rfl hl.1 (Nat.le_of_ble_eq_true rfl) rfl rfl dX10_sell_2 ⟨by decide +kernel, by decide +kernel⟩ (fun u0 H locs hP hD hS => ?_)
  refine lv_if_eq (tgt := 15) hx hb dX10_sell_5 z614 (fun c1 => absurd c1 (z525)) (fun _ => ?_)
  refine lv_iload_n hx hb dX10_sell_8 rfl (lv_at hl 2 rfl) ?_
  refine call_iS (As := [.int x2]) (rest := []) (wr := [((r 0), .inr (10, fX r)), ((r 18), .inr (4, [.int 0, .ref (r 19), .ref (r 20), .int 0, .ref (r 21), .ref (r 22), .int 0, .ref (r 23), .ref (r 24), .int 0, .ref (r 25), .ref (r 26), .int 3, .int 0, .int 0, .ref (r 27)])), ((r 38), .inr (0, [.ref (r 39), .int 0, .ref (r 40), .ref (r 41), .ref (r 42), .ref (r 43), .ref (r 44), .int 0, .int 0]))]) ⟨hx, hb, hml, hown, hts⟩ (k131_X10_isGuild l dC dI cB cI cJ cZ cO x2 h0) (va_cwS 1 hts gX10_sell_X10_isGuild rfl rfl rfl z621 ⟨Nat.le_of_ble_eq_true rfl, Nat.le_of_ble_eq_true rfl⟩) hK hP hD hS hA [] [0, 1, 2] rfl rfl (by decide +kernel) (by decide +kernel) (by decide +kernel) hl.1 (Nat.le_of_ble_eq_true rfl) rfl rfl dX10_sell_9 ⟨by decide +kernel, by decide +kernel⟩ (fun u1 H locs hP hD hS => ?_)
  refine lv_if_ne (tgt := 17) hx hb dX10_sell_12 z620 (fun c1 => absurd (rfl) c1) (fun _ => ?_)
  refine lv_iconst (v := (-1)) hx hb dX10_sell_15 z128 ?_
  refine W.widen (k := 0) (n := 0) (by decide +kernel) (by decide +kernel) ?_
  exact ret_i hx hb hr hlocks hS (u := (fun _ => 0)) (hP.sub [] rfl) (hD.sub [] (by decide +kernel) rfl) dX10_sell_16

set_option maxHeartbeats 4000000 in
set_option maxRecDepth 100000 in
theorem k133_X11_isIn (l : Launch) (dC : Nat → ClassId) (dI : Nat → Nat → Nat) (cB cI cJ cZ cO : ClassId) (x2 : Int32) (h0 : x2 < 0) : CI l yX11_isIn wsX11_isIn ({ frames := 0, cells := 0, slots := 0, locals := 0 }) (dC, dI) (tyL cB cI cJ cZ cO) [.int x2, .int 0, .int 2] [] (fun _ => []) 0 := by
  intro sz
  refine ct_open (cc := cX11_isIn) (maxL := 3) (ret := (some .boolean)) (by decide) rfl (Nat.le_of_ble_eq_true rfl) ?_
  intro p e s m below meth c ls A hx hb hr hml hts hown hlocks hin hP hK hD hA hS hl
  have hl : lv_has ls 3 [(0, .int x2), (1, .int 0), (2, .int 2)] := hl
  have hown : s.vm.findClass RX11 = some m.cls := hown
  refine lv_iload_n hx hb dX11_isIn_0 rfl (lv_at hl 0 rfl) ?_
  refine lv_iload_n hx hb dX11_isIn_1 rfl (lv_at hl 1 rfl) ?_
  refine lv_icmp_lt (tgt := 14) hx hb dX11_isIn_2 z586 (fun _ => ?_) (fun c1 => absurd (h0) c1)
  refine lv_iconst (v := 0) hx hb dX11_isIn_14 z8 ?_
  refine W.widen (k := 0) (n := 0) (by decide +kernel) (by decide +kernel) ?_
  exact ret_z hx hb hr rfl hlocks hS (u := (fun _ => 0)) (hP.sub [] rfl) (hD.sub [] (by decide +kernel) rfl) dX11_isIn_15

set_option maxHeartbeats 4000000 in
set_option maxRecDepth 100000 in
theorem k134_X11_isGuild (l : Launch) (dC : Nat → ClassId) (dI : Nat → Nat → Nat) (cB cI cJ cZ cO : ClassId) (x2 : Int32) (h0 : x2 < 0) : CI l yX11_isGuild wsX11_isGuild ({ frames := 1, cells := 0, slots := 0, locals := 22 }) (dC, dI) (tyL cB cI cJ cZ cO) [.int x2] [] (fun _ => []) 0 := by
  intro sz
  refine ct_open (cc := cX11_isGuild) (maxL := 1) (ret := (some .boolean)) (by decide) rfl (Nat.le_of_ble_eq_true rfl) ?_
  intro p e s m below meth c ls A hx hb hr hml hts hown hlocks hin hP hK hD hA hS hl
  have hl : lv_has ls 1 [(0, .int x2)] := hl
  have hown : s.vm.findClass RX11 = some m.cls := hown
  refine lv_iload_n hx hb dX11_isGuild_0 rfl (lv_at hl 0 rfl) ?_
  refine lv_iconst (v := 0) hx hb dX11_isGuild_1 z8 ?_
  refine lv_iconst (v := 2) hx hb dX11_isGuild_2 z54 ?_
  refine call_iS (As := [.int x2, .int 0, .int 2]) (rest := []) (wr := []) ⟨hx, hb, hml, hown, hts⟩ (k133_X11_isIn l dC dI cB cI cJ cZ cO x2 h0) (va_cwS 3 hts gX11_isGuild_X11_isIn rfl rfl rfl z587 ⟨Nat.le_of_ble_eq_true rfl, Nat.le_of_ble_eq_true rfl⟩) hK hP hD hS hA [] [] rfl rfl (by decide +kernel) (by decide +kernel) (by decide +kernel) hl.1 (Nat.le_of_ble_eq_true rfl) rfl rfl dX11_isGuild_3 ⟨by decide +kernel, by decide +kernel⟩ (fun u0 H locs hP hD hS => ?_)
  refine W.widen (k := 0) (n := 0) (by decide +kernel) (by decide +kernel) ?_
  exact ret_z hx hb hr rfl hlocks hS (u := (fun _ => 0)) (hP.sub [] rfl) (hD.sub [] (by decide +kernel) rfl) dX11_isGuild_6

set_option maxHeartbeats 4000000 in
set_option maxRecDepth 100000 in
theorem k135_X11_sell (l : Launch) (dC : Nat → ClassId) (dI : Nat → Nat → Nat) (cB cI cJ cZ cO : ClassId) (n : Nat → Nat) (x2 : Int32) (h0 : x2 < 0) : CI l yX11_sell wsX11_sell ({ frames := 2, cells := 0, slots := 0, locals := 42 }) (dC, dI) (tyL cB cI cJ cZ cO) [.ref (n 0), .int 0, .int x2] [((n 0), .inr (11, fM n)), ((n 7), .inl (cI, 2, .inl (upd (fun _ => 0) 0 3)))] (fun _ => []) (-1) := by
  intro sz
  refine ct_open (cc := cX11_sell) (maxL := 4) (ret := (some .int)) (by decide) rfl (Nat.le_of_ble_eq_true rfl) ?_
  intro p e s m below meth c ls A hx hb hr hml hts hown hlocks hin hP hK hD hA hS hl
  have hl : lv_has ls 4 [(0, .ref (n 0)), (1, .int 0), (2, .int x2)] := hl
  have hown : s.vm.findClass RX11 = some m.cls := hown
  have i11 : ∀ w ∈ u_ws RX11 TX11 71, w ∈ wsX11_sell := fun _ h => List.mem_cons_of_mem _ (List.mem_append_right _ h)
  have w1 := hts (.fieldLink RX11 336 "GuildCharterModel" "many" "I") (List.mem_cons_of_mem _ (List.mem_append_left _ (List.mem_of_getElem? (i := 0) rfl)))
  refine lv_iload_n hx hb dX11_sell_0 rfl (lv_at hl 1 rfl) ?_
  refine lv_aload_n hx hb dX11_sell_1 rfl (lv_at hl 0 rfl) ?_
  refine va_get (D := (dC, dI)) (ci := 11) (v := .int 0) (C := RX11) (T := TX11) (N := 71) hx hb hts i11 hown hK hP 0 rfl rfl 39 (nlt rfl) w1 (fun _ h9 => h9) rfl dX11_sell_2 ?_
  refine lv_aload_n hx hb dX11_sell_5 rfl (lv_at hl 0 rfl) ?_
  refine call_iV (ci := 11) (As := []) (rest := [.int 0, .int 0]) (wr := []) ⟨hx, hb, hml, hown, hts⟩ (k90_X11_longOf l dC dI cB cI cJ cZ cO n) (cwV 0 hts gX11_sell_X11_longOf rfl rfl rfl ⟨rfl, z597⟩ ⟨Nat.le_of_ble_eq_true rfl, Nat.le_of_ble_eq_true rfl⟩) hK hP hD hS hA [0, 1] [] rfl rfl (by decide +kernel) (by decide +kernel) (by decide +kernel) rfl rfl rfl hl.1 (Nat.le_of_ble_eq_true rfl) rfl rfl dX11_sell_6 ⟨by decide +kernel, by decide +kernel⟩ (fun u0 H locs hP hD hS => ?_)
  refine lv_iconst (v := 1) hx hb dX11_sell_9 z39 ?_
  refine lv_isub hx hb dX11_sell_10 ?_
  refine tpi z596 ?_
  refine call_iS (As := [.int 0, .int 0, .int 2]) (rest := []) (wr := [((n 0), .inr (11, fM n)), ((n 7), .inl (cI, 2, .inl (upd (fun _ => 0) 0 3)))]) ⟨hx, hb, hml, hown, hts⟩ (k98_X11_isIn l dC dI cB cI cJ cZ cO) (va_cwS 3 hts gX11_sell_X11_isIn rfl rfl rfl z587 ⟨Nat.le_of_ble_eq_true rfl, Nat.le_of_ble_eq_true rfl⟩) hK hP hD hS hA [] [0, 1] rfl rfl (by decide +kernel) (by decide +kernel) (by decide +kernel) hl.1 (Nat.le_of_ble_eq_true rfl) rfl rfl dX11_sell_11 ⟨by decide +kernel, by decide +kernel⟩ (fun u1 H locs hP hD hS => ?_)
  refine lv_if_eq (tgt := 24) hx hb dX11_sell_14 z616 (fun c1 => absurd c1 (z525)) (fun _ => ?_)
  refine lv_iload_n hx hb dX11_sell_17 rfl (lv_at hl 2 rfl) ?_
  refine call_iS (As := [.int x2]) (rest := []) (wr := [((n 0), .inr (11, fM n)), ((n 7), .inl (cI, 2, .inl (upd (fun _ => 0) 0 3)))]) ⟨hx, hb, hml, hown, hts⟩ (k134_X11_isGuild l dC dI cB cI cJ cZ cO x2 h0) (va_cwS 1 hts gX11_sell_X11_isGuild rfl rfl rfl z623 ⟨Nat.le_of_ble_eq_true rfl, Nat.le_of_ble_eq_true rfl⟩) hK hP hD hS hA [] [0, 1] rfl rfl (by decide +kernel) (by decide +kernel) (by decide +kernel) hl.1 (Nat.le_of_ble_eq_true rfl) rfl rfl dX11_sell_18 ⟨by decide +kernel, by decide +kernel⟩ (fun u2 H locs hP hD hS => ?_)
  refine lv_if_ne (tgt := 26) hx hb dX11_sell_21 z622 (fun c1 => absurd (rfl) c1) (fun _ => ?_)
  refine lv_iconst (v := (-1)) hx hb dX11_sell_24 z128 ?_
  refine W.widen (k := 0) (n := 0) (by decide +kernel) (by decide +kernel) ?_
  exact ret_i hx hb hr hlocks hS (u := (fun _ => 0)) (hP.sub [] rfl) (hD.sub [] (by decide +kernel) rfl) dX11_sell_25

set_option maxHeartbeats 4000000 in
set_option maxRecDepth 100000 in
theorem k136_X10_isGuild (l : Launch) (dC : Nat → ClassId) (dI : Nat → Nat → Nat) (cB cI cJ cZ cO : ClassId) (x2 : Int32) (h0 : ¬ x2 < 0) (h1 : ¬ 3 ≤ x2) : CI l yX10_isGuild wsX10_isGuild ({ frames := 0, cells := 0, slots := 0, locals := 0 }) (dC, dI) (tyL cB cI cJ cZ cO) [.int x2] [] (fun _ => []) 1 := by
  intro sz
  refine ct_open (cc := cX10_isGuild) (maxL := 1) (ret := (some .boolean)) (by decide) rfl (Nat.le_of_ble_eq_true rfl) ?_
  intro p e s m below meth c ls A hx hb hr hml hts hown hlocks hin hP hK hD hA hS hl
  have hl : lv_has ls 1 [(0, .int x2)] := hl
  have hown : s.vm.findClass RX10 = some m.cls := hown
  refine lv_iload_n hx hb dX10_isGuild_0 rfl (lv_at hl 0 rfl) ?_
  refine lv_if_lt (tgt := 13) hx hb dX10_isGuild_1 z619 (fun c1 => absurd c1 (h0)) (fun _ => ?_)
  refine lv_iload_n hx hb dX10_isGuild_4 rfl (lv_at hl 0 rfl) ?_
  refine lv_iconst (v := 3) hx hb dX10_isGuild_5 z69 ?_
  refine lv_icmp_ge (tgt := 13) hx hb dX10_isGuild_6 z624 (fun c1 => absurd c1 (h1)) (fun _ => ?_)
  refine lv_iconst (v := 1) hx hb dX10_isGuild_9 z39 ?_
  refine lv_goto (tgt := 14) hx hb dX10_isGuild_10 z625 ?_
  refine W.widen (k := 0) (n := 0) (by decide +kernel) (by decide +kernel) ?_
  exact ret_z hx hb hr rfl hlocks hS (u := (fun _ => 0)) (hP.sub [] rfl) (hD.sub [] (by decide +kernel) rfl) dX10_isGuild_14

set_option maxHeartbeats 4000000 in
set_option maxRecDepth 100000 in
theorem k137_X0_note (l : Launch) (dC : Nat → ClassId) (dI : Nat → Nat → Nat) (cB cI cJ cZ cO : ClassId) (r : Nat → Nat) (x2 : Int32) : CV l yX0_note wsX0_note ({ frames := 0, cells := 0, slots := 0, locals := 0 }) (dC, dI) (tyL cB cI cJ cZ cO) [.ref (r 38), .int 1, .int 0, .int (-1), .int x2] [((r 38), .inr (0, [.ref (r 39), .int 0, .ref (r 40), .ref (r 41), .ref (r 42), .ref (r 43), .ref (r 44), .int 0, .int 0])), ((r 41), .inl (cZ, 40, .inl (fun _ => 0))), ((r 42), .inl (cI, 40, .inl (fun _ => 0))), ((r 43), .inl (cI, 40, .inl (fun _ => 0))), ((r 44), .inl (cI, 40, .inl (fun _ => 0)))] (fun u => [((r 38), .inr (0, [.ref (r 39), .int 0, .ref (r 40), .ref (r 41), .ref (r 42), .ref (r 43), .ref (r 44), .int 0, .int 1])), ((r 41), .inl (cZ, 40, .inl (upd (fun _ => 0) 0 1))), ((r 42), .inl (cI, 40, .inl (fun _ => 0))), ((r 43), .inl (cI, 40, .inl (upd (fun _ => 0) 0 (-1)))), ((r 44), .inl (cI, 40, .inl (upd (fun _ => 0) 0 x2)))]) := by
  intro sz
  refine ct_open (cc := cX0_note) (maxL := 5) (ret := none) (by decide) rfl (Nat.le_of_ble_eq_true rfl) ?_
  intro p e s m below meth c ls A hx hb hr hml hts hown hlocks hin hP hK hD hA hS hl
  have hl : lv_has ls 5 [(0, .ref (r 38)), (1, .int 1), (2, .int 0), (3, .int (-1)), (4, .int x2)] := hl
  have hown : s.vm.findClass RX0 = some m.cls := hown
  have i0 : ∀ w ∈ u_ws RX0 TX0 9, w ∈ wsX0_note := fun _ h => List.mem_cons_of_mem _ (List.mem_append_right _ h)
  have w1 := hts (.fieldLink RX0 44 "GuildCharter$Earnest" "done" "I") (List.mem_cons_of_mem _ (List.mem_append_left _ (List.mem_of_getElem? (i := 0) rfl)))
  have w2 := hts (.fieldLink RX0 18 "GuildCharter$Earnest" "sales" "[Z") (List.mem_cons_of_mem _ (List.mem_append_left _ (List.mem_of_getElem? (i := 1) rfl)))
  have w3 := hts (.fieldLink RX0 22 "GuildCharter$Earnest" "places" "[I") (List.mem_cons_of_mem _ (List.mem_append_left _ (List.mem_of_getElem? (i := 2) rfl)))
  have w4 := hts (.fieldLink RX0 25 "GuildCharter$Earnest" "befores" "[I") (List.mem_cons_of_mem _ (List.mem_append_left _ (List.mem_of_getElem? (i := 3) rfl)))
  have w5 := hts (.fieldLink RX0 28 "GuildCharter$Earnest" "afters" "[I") (List.mem_cons_of_mem _ (List.mem_append_left _ (List.mem_of_getElem? (i := 4) rfl)))
  have w6 := hts (.fieldLink RX0 47 "GuildCharter$Earnest" "kept" "I") (List.mem_cons_of_mem _ (List.mem_append_left _ (List.mem_of_getElem? (i := 5) rfl)))
  refine lv_aload_n hx hb dX0_note_0 rfl (lv_at hl 0 rfl) ?_
  refine va_get (D := (dC, dI)) (ci := 0) (v := .int 0) (C := RX0) (T := TX0) (N := 9) hx hb hts i0 hown hK hP 0 rfl rfl 7 (nlt rfl) w1 (fun _ h9 => h9) rfl dX0_note_1 ?_
  refine lv_bipush (v := 40) hx hb dX0_note_4 z157 ?_
  refine lv_icmp_lt (tgt := 13) hx hb dX0_note_6 z624 (fun _ => ?_) (fun c1 => absurd (z626) c1)
  refine lv_aload_n hx hb dX0_note_13 rfl (lv_at hl 0 rfl) ?_
  refine va_get (D := (dC, dI)) (ci := 0) (v := .ref (r 41)) (C := RX0) (T := TX0) (N := 9) hx hb hts i0 hown hK hP 0 rfl rfl 3 (nlt rfl) w2 (fun _ h9 => h9) rfl dX0_note_14 ?_
  refine lv_aload_n hx hb dX0_note_17 rfl (lv_at hl 0 rfl) ?_
  refine va_get (D := (dC, dI)) (ci := 0) (v := .int 0) (C := RX0) (T := TX0) (N := 9) hx hb hts i0 hown hK hP 0 rfl rfl 7 (nlt rfl) w1 (fun _ h9 => h9) rfl dX0_note_18 ?_
  refine lv_iload_n hx hb dX0_note_21 rfl (lv_at hl 1 rfl) ?_
  refine my_zast hx hb hK hP hD hS 1 3 rfl rfl z627 z628 dX0_note_22 (fun H locs hP hD hS => ?_)
  refine lv_aload_n hx hb dX0_note_23 rfl (lv_at hl 0 rfl) ?_
  refine va_get (D := (dC, dI)) (ci := 0) (v := .ref (r 42)) (C := RX0) (T := TX0) (N := 9) hx hb hts i0 hown hK hP 0 rfl rfl 4 (nlt rfl) w3 (fun _ h9 => h9) rfl dX0_note_24 ?_
  refine lv_aload_n hx hb dX0_note_27 rfl (lv_at hl 0 rfl) ?_
  refine va_get (D := (dC, dI)) (ci := 0) (v := .int 0) (C := RX0) (T := TX0) (N := 9) hx hb hts i0 hown hK hP 0 rfl rfl 7 (nlt rfl) w1 (fun _ h9 => h9) rfl dX0_note_28 ?_
  refine lv_iload_n hx hb dX0_note_31 rfl (lv_at hl 2 rfl) ?_
  refine my_iastS hx hb hK hP hD hS 2 1 rfl rfl z627 rfl dX0_note_32 (fun H locs hP hD hS => ?_)
  refine lv_aload_n hx hb dX0_note_33 rfl (lv_at hl 0 rfl) ?_
  refine va_get (D := (dC, dI)) (ci := 0) (v := .ref (r 43)) (C := RX0) (T := TX0) (N := 9) hx hb hts i0 hown hK hP 0 rfl rfl 5 (nlt rfl) w4 (fun _ h9 => h9) rfl dX0_note_34 ?_
  refine lv_aload_n hx hb dX0_note_37 rfl (lv_at hl 0 rfl) ?_
  refine va_get (D := (dC, dI)) (ci := 0) (v := .int 0) (C := RX0) (T := TX0) (N := 9) hx hb hts i0 hown hK hP 0 rfl rfl 7 (nlt rfl) w1 (fun _ h9 => h9) rfl dX0_note_38 ?_
  refine lv_iload_n hx hb dX0_note_41 rfl (lv_at hl 3 rfl) ?_
  refine my_iast hx hb hK hP hD hS 3 1 rfl rfl z627 dX0_note_42 (fun H locs hP hD hS => ?_)
  refine lv_aload_n hx hb dX0_note_43 rfl (lv_at hl 0 rfl) ?_
  refine va_get (D := (dC, dI)) (ci := 0) (v := .ref (r 44)) (C := RX0) (T := TX0) (N := 9) hx hb hts i0 hown hK hP 0 rfl rfl 6 (nlt rfl) w5 (fun _ h9 => h9) rfl dX0_note_44 ?_
  refine lv_aload_n hx hb dX0_note_47 rfl (lv_at hl 0 rfl) ?_
  refine va_get (D := (dC, dI)) (ci := 0) (v := .int 0) (C := RX0) (T := TX0) (N := 9) hx hb hts i0 hown hK hP 0 rfl rfl 7 (nlt rfl) w1 (fun _ h9 => h9) rfl dX0_note_48 ?_
  refine lv_iload hx hb dX0_note_51 (lv_at hl 4 rfl) ?_
  refine my_iast hx hb hK hP hD hS 4 1 rfl rfl z627 dX0_note_53 (fun H locs hP hD hS => ?_)
  have hP : va_P (dC, dI) vwCl [((r 38), .inr (0, [.ref (r 39), .int 0, .ref (r 40), .ref (r 41), .ref (r 42), .ref (r 43), .ref (r 44), .int 0, .int 0])), ((r 41), .inl (cZ, 40, .inl (upd (fun _ => 0) 0 1))), ((r 42), .inl (cI, 40, .inl (fun _ => 0))), ((r 43), .inl (cI, 40, .inl (upd (fun _ => 0) 0 (-1)))), ((r 44), .inl (cI, 40, .inl (upd (fun _ => 0) 0 x2)))] H := hP
  have hD : va_D A [((r 38), .inr (0, [.ref (r 39), .int 0, .ref (r 40), .ref (r 41), .ref (r 42), .ref (r 43), .ref (r 44), .int 0, .int 0])), ((r 41), .inl (cZ, 40, .inl (upd (fun _ => 0) 0 1))), ((r 42), .inl (cI, 40, .inl (fun _ => 0))), ((r 43), .inl (cI, 40, .inl (upd (fun _ => 0) 0 (-1)))), ((r 44), .inl (cI, 40, .inl (upd (fun _ => 0) 0 x2)))] := hD
  refine lv_aload_n hx hb dX0_note_54 rfl (lv_at hl 0 rfl) ?_
  refine lv_aload_n hx hb dX0_note_55 rfl (lv_at hl 0 rfl) ?_
  refine va_get (D := (dC, dI)) (ci := 0) (v := .int 0) (C := RX0) (T := TX0) (N := 9) hx hb hts i0 hown hK hP 0 rfl rfl 7 (nlt rfl) w1 (fun _ h9 => h9) rfl dX0_note_56 ?_
  refine lv_iconst (v := 1) hx hb dX0_note_59 z39 ?_
  refine lv_iadd hx hb dX0_note_60 ?_
  refine tpi z281 ?_
  refine va_put (D := (dC, dI)) (ci := 0) (v := .int 1) (ty := tyX0 8) (C := RX0) (T := TX0) (N := 9) hx hb hts i0 tyX0 tyX0_ok nmX0 hown hK hP hD hS 0 rfl rfl 8 (nlt rfl) w6 (fun _ h9 => h9) rfl (tyX0_ok 8 (nlt rfl)) rfl rfl (nlt rfl) dX0_note_61 (fun H locs hP hD hS => ?_)
  refine W.widen (k := 0) (n := 0) (by decide +kernel) (by decide +kernel) ?_
  exact ret_v hx hb hr hlocks hS (u := (fun _ => 0)) (hP.sub [0, 1, 2, 3, 4] rfl) (hD.sub [0, 1, 2, 3, 4] (by decide +kernel) rfl) dX0_note_64

set_option maxHeartbeats 4000000 in
set_option maxRecDepth 100000 in
theorem k138_X0_doAgain (l : Launch) (dC : Nat → ClassId) (dI : Nat → Nat → Nat) (cB cI cJ cZ cO : ClassId) (r : Nat → Nat) (x2 : Int32) : CI l yX0_doAgain wsX0_doAgain ({ frames := 0, cells := 0, slots := 0, locals := 0 }) (dC, dI) (tyL cB cI cJ cZ cO) [.ref (r 38)] [((r 38), .inr (0, [.ref (r 39), .int 0, .ref (r 40), .ref (r 41), .ref (r 42), .ref (r 43), .ref (r 44), .int 0, .int 1])), ((r 42), .inl (cI, 40, .inl (fun _ => 0))), ((r 41), .inl (cZ, 40, .inl (upd (fun _ => 0) 0 1))), ((r 44), .inl (cI, 40, .inl (upd (fun _ => 0) 0 x2))), ((r 40), .inl (cI, 6, .inl (upd (upd (upd (upd (upd (upd (fun _ => 0) 0 (-1)) 1 (-1)) 2 (-1)) 3 (-1)) 4 (-1)) 5 (-1))))] (fun u => [((r 38), .inr (0, [.ref (r 39), .int 0, .ref (r 40), .ref (r 41), .ref (r 42), .ref (r 43), .ref (r 44), .int 1, .int 1])), ((r 42), .inl (cI, 40, .inl (fun _ => 0))), ((r 41), .inl (cZ, 40, .inl (upd (fun _ => 0) 0 1))), ((r 44), .inl (cI, 40, .inl (upd (fun _ => 0) 0 x2))), ((r 40), .inl (cI, 6, .inl (upd (upd (upd (upd (upd (upd (upd (fun _ => 0) 0 (-1)) 1 (-1)) 2 (-1)) 3 (-1)) 4 (-1)) 5 (-1)) 0 x2)))]) 1 := by
  intro sz
  refine ct_open (cc := cX0_doAgain) (maxL := 2) (ret := (some .boolean)) (by decide) rfl (Nat.le_of_ble_eq_true rfl) ?_
  intro p e s m below meth c ls A hx hb hr hml hts hown hlocks hin hP hK hD hA hS hl
  have hl : lv_has ls 2 [(0, .ref (r 38))] := hl
  have hown : s.vm.findClass RX0 = some m.cls := hown
  have i0 : ∀ w ∈ u_ws RX0 TX0 9, w ∈ wsX0_doAgain := fun _ h => List.mem_cons_of_mem _ (List.mem_append_right _ h)
  have w1 := hts (.fieldLink RX0 44 "GuildCharter$Earnest" "done" "I") (List.mem_cons_of_mem _ (List.mem_append_left _ (List.mem_of_getElem? (i := 0) rfl)))
  have w2 := hts (.fieldLink RX0 47 "GuildCharter$Earnest" "kept" "I") (List.mem_cons_of_mem _ (List.mem_append_left _ (List.mem_of_getElem? (i := 1) rfl)))
  have w3 := hts (.fieldLink RX0 22 "GuildCharter$Earnest" "places" "[I") (List.mem_cons_of_mem _ (List.mem_append_left _ (List.mem_of_getElem? (i := 2) rfl)))
  have w4 := hts (.fieldLink RX0 18 "GuildCharter$Earnest" "sales" "[Z") (List.mem_cons_of_mem _ (List.mem_append_left _ (List.mem_of_getElem? (i := 3) rfl)))
  have w5 := hts (.fieldLink RX0 15 "GuildCharter$Earnest" "sold" "[I") (List.mem_cons_of_mem _ (List.mem_append_left _ (List.mem_of_getElem? (i := 4) rfl)))
  have w6 := hts (.fieldLink RX0 28 "GuildCharter$Earnest" "afters" "[I") (List.mem_cons_of_mem _ (List.mem_append_left _ (List.mem_of_getElem? (i := 5) rfl)))
  refine lv_aload_n hx hb dX0_doAgain_0 rfl (lv_at hl 0 rfl) ?_
  refine va_get (D := (dC, dI)) (ci := 0) (v := .int 0) (C := RX0) (T := TX0) (N := 9) hx hb hts i0 hown hK hP 0 rfl rfl 7 (nlt rfl) w1 (fun _ h9 => h9) rfl dX0_doAgain_1 ?_
  refine lv_aload_n hx hb dX0_doAgain_4 rfl (lv_at hl 0 rfl) ?_
  refine va_get (D := (dC, dI)) (ci := 0) (v := .int 1) (C := RX0) (T := TX0) (N := 9) hx hb hts i0 hown hK hP 0 rfl rfl 8 (nlt rfl) w2 (fun _ h9 => h9) rfl dX0_doAgain_5 ?_
  refine lv_icmp_lt (tgt := 13) hx hb dX0_doAgain_8 z630 (fun _ => ?_) (fun c1 => absurd (z629) c1)
  refine lv_aload_n hx hb dX0_doAgain_13 rfl (lv_at hl 0 rfl) ?_
  refine va_get (D := (dC, dI)) (ci := 0) (v := .ref (r 42)) (C := RX0) (T := TX0) (N := 9) hx hb hts i0 hown hK hP 0 rfl rfl 4 (nlt rfl) w3 (fun _ h9 => h9) rfl dX0_doAgain_14 ?_
  refine lv_aload_n hx hb dX0_doAgain_17 rfl (lv_at hl 0 rfl) ?_
  refine va_get (D := (dC, dI)) (ci := 0) (v := .int 0) (C := RX0) (T := TX0) (N := 9) hx hb hts i0 hown hK hP 0 rfl rfl 7 (nlt rfl) w1 (fun _ h9 => h9) rfl dX0_doAgain_18 ?_
  refine my_iald (v := 0) hx hb hK hP 1 1 rfl rfl z627 rfl dX0_doAgain_21 ?_
  refine lv_istore_n (lv' := [(1, .int 0), (0, .ref (r 38))]) hx hb dX0_doAgain_22 rfl hl (nlt rfl) rfl (fun ls hl => ?_)
  refine lv_aload_n hx hb dX0_doAgain_23 rfl (lv_at hl 1 rfl) ?_
  refine va_get (D := (dC, dI)) (ci := 0) (v := .ref (r 41)) (C := RX0) (T := TX0) (N := 9) hx hb hts i0 hown hK hP 0 rfl rfl 3 (nlt rfl) w4 (fun _ h9 => h9) rfl dX0_doAgain_24 ?_
  refine lv_aload_n hx hb dX0_doAgain_27 rfl (lv_at hl 1 rfl) ?_
  refine va_get (D := (dC, dI)) (ci := 0) (v := .int 0) (C := RX0) (T := TX0) (N := 9) hx hb hts i0 hown hK hP 0 rfl rfl 7 (nlt rfl) w1 (fun _ h9 => h9) rfl dX0_doAgain_28 ?_
  refine my_zald (v := 1) hx hb hK hP 2 3 rfl rfl z627 rfl dX0_doAgain_31 ?_
  refine lv_if_eq (tgt := 53) hx hb dX0_doAgain_32 z631 (fun c1 => absurd c1 (z525)) (fun _ => ?_)
  refine lv_aload_n hx hb dX0_doAgain_35 rfl (lv_at hl 1 rfl) ?_
  refine va_get (D := (dC, dI)) (ci := 0) (v := .ref (r 40)) (C := RX0) (T := TX0) (N := 9) hx hb hts i0 hown hK hP 0 rfl rfl 2 (nlt rfl) w5 (fun _ h9 => h9) rfl dX0_doAgain_36 ?_
  refine lv_iload_n hx hb dX0_doAgain_39 rfl (lv_at hl 0 rfl) ?_
  refine lv_aload_n hx hb dX0_doAgain_40 rfl (lv_at hl 1 rfl) ?_
  refine va_get (D := (dC, dI)) (ci := 0) (v := .ref (r 44)) (C := RX0) (T := TX0) (N := 9) hx hb hts i0 hown hK hP 0 rfl rfl 6 (nlt rfl) w6 (fun _ h9 => h9) rfl dX0_doAgain_41 ?_
  refine lv_aload_n hx hb dX0_doAgain_44 rfl (lv_at hl 1 rfl) ?_
  refine va_get (D := (dC, dI)) (ci := 0) (v := .int 0) (C := RX0) (T := TX0) (N := 9) hx hb hts i0 hown hK hP 0 rfl rfl 7 (nlt rfl) w1 (fun _ h9 => h9) rfl dX0_doAgain_45 ?_
  refine my_iald (v := x2) hx hb hK hP 3 1 rfl rfl z627 rfl dX0_doAgain_48 ?_
  refine my_iast hx hb hK hP hD hS 4 1 rfl rfl z38 dX0_doAgain_49 (fun H locs hP hD hS => ?_)
  refine lv_goto (tgt := 75) hx hb dX0_doAgain_50 z632 ?_
  refine lv_aload_n hx hb dX0_doAgain_75 rfl (lv_at hl 1 rfl) ?_
  refine lv_dup hx hb dX0_doAgain_76 rfl ?_
  refine va_get (D := (dC, dI)) (ci := 0) (v := .int 0) (C := RX0) (T := TX0) (N := 9) hx hb hts i0 hown hK hP 0 rfl rfl 7 (nlt rfl) w1 (fun _ h9 => h9) rfl dX0_doAgain_77 ?_
  refine lv_iconst (v := 1) hx hb dX0_doAgain_80 z39 ?_
  refine lv_iadd hx hb dX0_doAgain_81 ?_
  refine tpi z281 ?_
  refine va_put (D := (dC, dI)) (ci := 0) (v := .int 1) (ty := tyX0 7) (C := RX0) (T := TX0) (N := 9) hx hb hts i0 tyX0 tyX0_ok nmX0 hown hK hP hD hS 0 rfl rfl 7 (nlt rfl) w1 (fun _ h9 => h9) rfl (tyX0_ok 7 (nlt rfl)) rfl rfl (nlt rfl) dX0_doAgain_82 (fun H locs hP hD hS => ?_)
  refine lv_iconst (v := 1) hx hb dX0_doAgain_85 z39 ?_
  refine W.widen (k := 0) (n := 0) (by decide +kernel) (by decide +kernel) ?_
  exact ret_z hx hb hr rfl hlocks hS (u := (fun _ => 0)) (hP.sub [0, 1, 2, 3, 4] rfl) (hD.sub [0, 1, 2, 3, 4] (by decide +kernel) rfl) dX0_doAgain_86

set_option maxHeartbeats 4000000 in
set_option maxRecDepth 100000 in
theorem k139_X0_putSale (l : Launch) (dC : Nat → ClassId) (dI : Nat → Nat → Nat) (cB cI cJ cZ cO : ClassId) (r : Nat → Nat) (x2 : Int32) : CV l yX0_putSale wsX0_putSale ({ frames := 1, cells := 0, slots := 0, locals := 24 }) (dC, dI) (tyL cB cI cJ cZ cO) [.ref (r 38), .int 0, .int x2] [((r 38), .inr (0, [.ref (r 39), .int 0, .ref (r 40), .ref (r 41), .ref (r 42), .ref (r 43), .ref (r 44), .int 0, .int 0])), ((r 40), .inl (cI, 6, .inl (upd (upd (upd (upd (upd (upd (fun _ => 0) 0 (-1)) 1 (-1)) 2 (-1)) 3 (-1)) 4 (-1)) 5 (-1)))), ((r 41), .inl (cZ, 40, .inl (fun _ => 0))), ((r 42), .inl (cI, 40, .inl (fun _ => 0))), ((r 43), .inl (cI, 40, .inl (fun _ => 0))), ((r 44), .inl (cI, 40, .inl (fun _ => 0)))] (fun u => [((r 38), .inr (0, [.ref (r 39), .int 0, .ref (r 40), .ref (r 41), .ref (r 42), .ref (r 43), .ref (r 44), .int 1, .int 1])), ((r 40), .inl (cI, 6, .inl (upd (upd (upd (upd (upd (upd (upd (fun _ => 0) 0 (-1)) 1 (-1)) 2 (-1)) 3 (-1)) 4 (-1)) 5 (-1)) 0 x2))), ((r 41), .inl (cZ, 40, .inl (upd (fun _ => 0) 0 1))), ((r 42), .inl (cI, 40, .inl (fun _ => 0))), ((r 43), .inl (cI, 40, .inl (upd (fun _ => 0) 0 (-1)))), ((r 44), .inl (cI, 40, .inl (upd (fun _ => 0) 0 x2)))]) := by
  intro sz
  refine ct_open (cc := cX0_putSale) (maxL := 3) (ret := none) (by decide) rfl (Nat.le_of_ble_eq_true rfl) ?_
  intro p e s m below meth c ls A hx hb hr hml hts hown hlocks hin hP hK hD hA hS hl
  have hl : lv_has ls 3 [(0, .ref (r 38)), (1, .int 0), (2, .int x2)] := hl
  have hown : s.vm.findClass RX0 = some m.cls := hown
  have i0 : ∀ w ∈ u_ws RX0 TX0 9, w ∈ wsX0_putSale := fun _ h => List.mem_cons_of_mem _ (List.mem_append_right _ h)
  have w1 := hts (.fieldLink RX0 15 "GuildCharter$Earnest" "sold" "[I") (List.mem_cons_of_mem _ (List.mem_append_left _ (List.mem_of_getElem? (i := 0) rfl)))
  refine lv_aload_n hx hb dX0_putSale_0 rfl (lv_at hl 0 rfl) ?_
  refine lv_iconst (v := 1) hx hb dX0_putSale_1 z39 ?_
  refine lv_iload_n hx hb dX0_putSale_2 rfl (lv_at hl 1 rfl) ?_
  refine lv_aload_n hx hb dX0_putSale_3 rfl (lv_at hl 0 rfl) ?_
  refine va_get (D := (dC, dI)) (ci := 0) (v := .ref (r 40)) (C := RX0) (T := TX0) (N := 9) hx hb hts i0 hown hK hP 0 rfl rfl 2 (nlt rfl) w1 (fun _ h9 => h9) rfl dX0_putSale_4 ?_
  refine lv_iload_n hx hb dX0_putSale_7 rfl (lv_at hl 1 rfl) ?_
  refine my_iald (v := (-1)) hx hb hK hP 1 1 rfl rfl z38 rfl dX0_putSale_8 ?_
  refine lv_iload_n hx hb dX0_putSale_9 rfl (lv_at hl 2 rfl) ?_
  refine call_vV (ci := 0) (As := [.int 1, .int 0, .int (-1), .int x2]) (rest := []) (wr := [((r 40), .inl (cI, 6, .inl (upd (upd (upd (upd (upd (upd (fun _ => 0) 0 (-1)) 1 (-1)) 2 (-1)) 3 (-1)) 4 (-1)) 5 (-1))))]) ⟨hx, hb, hml, hown, hts⟩ (k137_X0_note l dC dI cB cI cJ cZ cO r x2) (cwV 4 hts gX0_putSale_X0_note rfl rfl rfl ⟨rfl, z633⟩ ⟨Nat.le_of_ble_eq_true rfl, Nat.le_of_ble_eq_true rfl⟩) hK hP hD hS hA [0, 2, 3, 4, 5] [1] rfl rfl (by decide +kernel) (by decide +kernel) (by decide +kernel) rfl rfl rfl hl.1 (Nat.le_of_ble_eq_true rfl) rfl rfl dX0_putSale_10 ⟨by decide +kernel, by decide +kernel⟩ (fun u0 H locs hP hD hS => ?_)
  refine lv_aload_n hx hb dX0_putSale_13 rfl (lv_at hl 0 rfl) ?_
  refine call_iV (ci := 0) (As := []) (rest := []) (wr := [((r 43), .inl (cI, 40, .inl (upd (fun _ => 0) 0 (-1))))]) ⟨hx, hb, hml, hown, hts⟩ (k138_X0_doAgain l dC dI cB cI cJ cZ cO r x2) (cwV 0 hts gX0_putSale_X0_doAgain rfl rfl rfl ⟨rfl, z634⟩ ⟨Nat.le_of_ble_eq_true rfl, Nat.le_of_ble_eq_true rfl⟩) hK hP hD hS hA [1, 3, 2, 5, 0] [4] rfl rfl (by decide +kernel) (by decide +kernel) (by decide +kernel) rfl rfl rfl hl.1 (Nat.le_of_ble_eq_true rfl) rfl rfl dX0_putSale_14 ⟨by decide +kernel, by decide +kernel⟩ (fun u1 H locs hP hD hS => ?_)
  refine lv_pop hx hb dX0_putSale_17 rfl ?_
  refine W.widen (k := 0) (n := 0) (by decide +kernel) (by decide +kernel) ?_
  exact ret_v hx hb hr hlocks hS (u := (fun _ => 0)) (hP.sub [1, 5, 3, 2, 0, 4] rfl) (hD.sub [1, 5, 3, 2, 0, 4] (by decide +kernel) rfl) dX0_putSale_18

set_option maxHeartbeats 4000000 in
set_option maxRecDepth 100000 in
theorem k140_X10_sell (l : Launch) (dC : Nat → ClassId) (dI : Nat → Nat → Nat) (cB cI cJ cZ cO : ClassId) (r : Nat → Nat) (x2 : Int32) (h0 : ¬ x2 < 0) (h1 : ¬ 3 ≤ x2) : CI l yX10_sell wsX10_sell ({ frames := 2, cells := 0, slots := 0, locals := 46 }) (dC, dI) (tyL cB cI cJ cZ cO) [.ref (r 0), .int 0, .int x2] [((r 0), .inr (10, fX r)), ((r 18), .inr (4, [.int 0, .ref (r 19), .ref (r 20), .int 0, .ref (r 21), .ref (r 22), .int 0, .ref (r 23), .ref (r 24), .int 0, .ref (r 25), .ref (r 26), .int 3, .int 0, .int 0, .ref (r 27)])), ((r 38), .inr (0, [.ref (r 39), .int 0, .ref (r 40), .ref (r 41), .ref (r 42), .ref (r 43), .ref (r 44), .int 0, .int 0])), ((r 40), .inl (cI, 6, .inl (upd (upd (upd (upd (upd (upd (fun _ => 0) 0 (-1)) 1 (-1)) 2 (-1)) 3 (-1)) 4 (-1)) 5 (-1)))), ((r 41), .inl (cZ, 40, .inl (fun _ => 0))), ((r 42), .inl (cI, 40, .inl (fun _ => 0))), ((r 43), .inl (cI, 40, .inl (fun _ => 0))), ((r 44), .inl (cI, 40, .inl (fun _ => 0)))] (fun _ => []) 0 := by
  intro sz
  refine ct_open (cc := cX10_sell) (maxL := 4) (ret := (some .int)) (by decide) rfl (Nat.le_of_ble_eq_true rfl) ?_
  intro p e s m below meth c ls A hx hb hr hml hts hown hlocks hin hP hK hD hA hS hl
  have hl : lv_has ls 4 [(0, .ref (r 0)), (1, .int 0), (2, .int x2)] := hl
  have hown : s.vm.findClass RX10 = some m.cls := hown
  have i10 : ∀ w ∈ u_ws RX10 TX10 18, w ∈ wsX10_sell := fun _ h => List.mem_cons_of_mem _ (List.mem_append_left _ (List.mem_append_left _ (List.mem_append_right _ h)))
  have w1 := hts (.fieldLink RX10 33 "GuildCharter" "earnest" "LGuildCharter$Earnest;") (List.mem_cons_of_mem _ (List.mem_append_left _ (List.mem_append_left _ (List.mem_append_left _ (List.mem_append_left _ (List.mem_of_getElem? (i := 0) rfl))))))
  refine lv_aload_n hx hb dX10_sell_0 rfl (lv_at hl 0 rfl) ?_
  refine lv_iload_n hx hb dX10_sell_1 rfl (lv_at hl 1 rfl) ?_
  refine call_iV (ci := 10) (As := [.int 0]) (rest := []) (wr := [((r 40), .inl (cI, 6, .inl (upd (upd (upd (upd (upd (upd (fun _ => 0) 0 (-1)) 1 (-1)) 2 (-1)) 3 (-1)) 4 (-1)) 5 (-1)))), ((r 41), .inl (cZ, 40, .inl (fun _ => 0))), ((r 42), .inl (cI, 40, .inl (fun _ => 0))), ((r 43), .inl (cI, 40, .inl (fun _ => 0))), ((r 44), .inl (cI, 40, .inl (fun _ => 0)))]) ⟨hx, hb, hml, hown, hts⟩ (k130_X10_isUnwritten l dC dI cB cI cJ cZ cO r) (cwV 1 hts gX10_sell_X10_isUnwritten rfl rfl rfl ⟨rfl, z615⟩ ⟨Nat.le_of_ble_eq_true rfl, Nat.le_of_ble_eq_true rfl⟩) hK hP hD hS hA [0, 1, 2] [3, 4, 5, 6, 7] rfl rfl (by decide +kernel) (by decide +kernel) (by decide +kernel) rfl rfl rfl hl.1 (Nat.le_of_ble_eq_true rfl) rfl rfl dX10_sell_2 ⟨by decide +kernel, by decide +kernel⟩ (fun u0 H locs hP hD hS => ?_)
  refine lv_if_eq (tgt := 15) hx hb dX10_sell_5 z614 (fun c1 => absurd c1 (z525)) (fun _ => ?_)
  refine lv_iload_n hx hb dX10_sell_8 rfl (lv_at hl 2 rfl) ?_
  refine call_iS (As := [.int x2]) (rest := []) (wr := [((r 40), .inl (cI, 6, .inl (upd (upd (upd (upd (upd (upd (fun _ => 0) 0 (-1)) 1 (-1)) 2 (-1)) 3 (-1)) 4 (-1)) 5 (-1)))), ((r 41), .inl (cZ, 40, .inl (fun _ => 0))), ((r 42), .inl (cI, 40, .inl (fun _ => 0))), ((r 43), .inl (cI, 40, .inl (fun _ => 0))), ((r 44), .inl (cI, 40, .inl (fun _ => 0))), ((r 0), .inr (10, fX r)), ((r 18), .inr (4, [.int 0, .ref (r 19), .ref (r 20), .int 0, .ref (r 21), .ref (r 22), .int 0, .ref (r 23), .ref (r 24), .int 0, .ref (r 25), .ref (r 26), .int 3, .int 0, .int 0, .ref (r 27)])), ((r 38), .inr (0, [.ref (r 39), .int 0, .ref (r 40), .ref (r 41), .ref (r 42), .ref (r 43), .ref (r 44), .int 0, .int 0]))]) ⟨hx, hb, hml, hown, hts⟩ (k136_X10_isGuild l dC dI cB cI cJ cZ cO x2 h0 h1) (va_cwS 1 hts gX10_sell_X10_isGuild rfl rfl rfl z621 ⟨Nat.le_of_ble_eq_true rfl, Nat.le_of_ble_eq_true rfl⟩) hK hP hD hS hA [] [0, 1, 2, 3, 4, 5, 6, 7] rfl rfl (by decide +kernel) (by decide +kernel) (by decide +kernel) hl.1 (Nat.le_of_ble_eq_true rfl) rfl rfl dX10_sell_9 ⟨by decide +kernel, by decide +kernel⟩ (fun u1 H locs hP hD hS => ?_)
  refine lv_if_ne (tgt := 17) hx hb dX10_sell_12 z620 (fun _ => ?_) (fun c1 => absurd c1 (z525))
  refine lv_aload_n hx hb dX10_sell_17 rfl (lv_at hl 0 rfl) ?_
  refine lv_iload_n hx hb dX10_sell_18 rfl (lv_at hl 1 rfl) ?_
  refine call_iV (ci := 10) (As := [.int 0]) (rest := []) (wr := [((r 41), .inl (cZ, 40, .inl (fun _ => 0))), ((r 42), .inl (cI, 40, .inl (fun _ => 0))), ((r 43), .inl (cI, 40, .inl (fun _ => 0))), ((r 44), .inl (cI, 40, .inl (fun _ => 0)))]) ⟨hx, hb, hml, hown, hts⟩ (k96_X10_ownerInEarnest l dC dI cB cI cJ cZ cO r) (cwV 1 hts gX10_sell_X10_ownerInEarnest rfl rfl rfl ⟨rfl, z605⟩ ⟨Nat.le_of_ble_eq_true rfl, Nat.le_of_ble_eq_true rfl⟩) hK hP hD hS hA [5, 7, 0, 6] [1, 2, 3, 4] rfl rfl (by decide +kernel) (by decide +kernel) (by decide +kernel) rfl rfl rfl hl.1 (Nat.le_of_ble_eq_true rfl) rfl rfl dX10_sell_19 ⟨by decide +kernel, by decide +kernel⟩ (fun u2 H locs hP hD hS => ?_)
  refine lv_istore_n (lv' := [(3, .int 0), (0, .ref (r 0)), (1, .int 0), (2, .int x2)]) hx hb dX10_sell_22 rfl hl (nlt rfl) rfl (fun ls hl => ?_)
  refine lv_aload_n hx hb dX10_sell_23 rfl (lv_at hl 1 rfl) ?_
  refine va_get (D := (dC, dI)) (ci := 10) (v := .ref (r 38)) (C := RX10) (T := TX10) (N := 18) hx hb hts i10 hown hK hP 4 rfl rfl 5 (nlt rfl) w1 (fun _ h9 => h9) rfl dX10_sell_24 ?_
  refine lv_iload_n hx hb dX10_sell_27 rfl (lv_at hl 2 rfl) ?_
  refine lv_iload_n hx hb dX10_sell_28 rfl (lv_at hl 3 rfl) ?_
  refine call_vV (ci := 0) (As := [.int 0, .int x2]) (rest := []) (wr := [((r 0), .inr (10, fX r)), ((r 18), .inr (4, [.int 0, .ref (r 19), .ref (r 20), .int 0, .ref (r 21), .ref (r 22), .int 0, .ref (r 23), .ref (r 24), .int 0, .ref (r 25), .ref (r 26), .int 3, .int 0, .int 0, .ref (r 27)]))]) ⟨hx, hb, hml, hown, hts⟩ (k139_X0_putSale l dC dI cB cI cJ cZ cO r x2) (cwV 2 hts gX10_sell_X0_putSale rfl rfl rfl ⟨rfl, z635⟩ ⟨Nat.le_of_ble_eq_true rfl, Nat.le_of_ble_eq_true rfl⟩) hK hP hD hS hA [5, 6, 0, 1, 2, 3] [4, 7] rfl rfl (by decide +kernel) (by decide +kernel) (by decide +kernel) rfl rfl rfl hl.1 (Nat.le_of_ble_eq_true rfl) rfl rfl dX10_sell_29 ⟨by decide +kernel, by decide +kernel⟩ (fun u3 H locs hP hD hS => ?_)
  refine lv_iload_n hx hb dX10_sell_32 rfl (lv_at hl 0 rfl) ?_
  refine W.widen (k := 0) (n := 0) (by decide +kernel) (by decide +kernel) ?_
  exact ret_i hx hb hr hlocks hS (u := (fun _ => 0)) (hP.sub [] rfl) (hD.sub [] (by decide +kernel) rfl) dX10_sell_33

set_option maxHeartbeats 4000000 in
set_option maxRecDepth 100000 in
theorem k141_X11_isIn (l : Launch) (dC : Nat → ClassId) (dI : Nat → Nat → Nat) (cB cI cJ cZ cO : ClassId) (x2 : Int32) (h0 : ¬ x2 < 0) (h1 : ¬ 2 < x2) : CI l yX11_isIn wsX11_isIn ({ frames := 0, cells := 0, slots := 0, locals := 0 }) (dC, dI) (tyL cB cI cJ cZ cO) [.int x2, .int 0, .int 2] [] (fun _ => []) 1 := by
  intro sz
  refine ct_open (cc := cX11_isIn) (maxL := 3) (ret := (some .boolean)) (by decide) rfl (Nat.le_of_ble_eq_true rfl) ?_
  intro p e s m below meth c ls A hx hb hr hml hts hown hlocks hin hP hK hD hA hS hl
  have hl : lv_has ls 3 [(0, .int x2), (1, .int 0), (2, .int 2)] := hl
  have hown : s.vm.findClass RX11 = some m.cls := hown
  refine lv_iload_n hx hb dX11_isIn_0 rfl (lv_at hl 0 rfl) ?_
  refine lv_iload_n hx hb dX11_isIn_1 rfl (lv_at hl 1 rfl) ?_
  refine lv_icmp_lt (tgt := 14) hx hb dX11_isIn_2 z586 (fun c1 => absurd c1 (h0)) (fun _ => ?_)
  refine lv_iload_n hx hb dX11_isIn_5 rfl (lv_at hl 0 rfl) ?_
  refine lv_iload_n hx hb dX11_isIn_6 rfl (lv_at hl 2 rfl) ?_
  refine lv_icmp_gt (tgt := 14) hx hb dX11_isIn_7 z591 (fun c1 => absurd c1 (h1)) (fun _ => ?_)
  refine lv_iconst (v := 1) hx hb dX11_isIn_10 z39 ?_
  refine lv_goto (tgt := 15) hx hb dX11_isIn_11 z606 ?_
  refine W.widen (k := 0) (n := 0) (by decide +kernel) (by decide +kernel) ?_
  exact ret_z hx hb hr rfl hlocks hS (u := (fun _ => 0)) (hP.sub [] rfl) (hD.sub [] (by decide +kernel) rfl) dX11_isIn_15
