set_option maxHeartbeats 4000000 in
set_option maxRecDepth 100000 in
theorem k294_X10_lots (l : Launch) (dC : Nat → ClassId) (dI : Nat → Nat → Nat) (cB cI cJ cZ cO : ClassId) (r : Nat → Nat) (x1 : Int32) (h0 : ¬ x1 < 0) (h1 : ¬ 3 ≤ x1) : CI l yX10_lots wsX10_lots ({ frames := 4, cells := 0, slots := 0, locals := 98 }) (dC, dI) (tyL cB cI cJ cZ cO) [.ref (r 0), .int x1] [((r 0), .inr (10, fX r)), ((r 38), .inr (0, [.ref (r 39), .int 0, .ref (r 40), .ref (r 41), .ref (r 42), .ref (r 43), .ref (r 44), .int 0, .int 0])), ((r 65), .inr (9, [.int 0, .int 0, .ref (r 66), .ref (r 67), .ref (r 68), .ref (r 69), .int 0, .int 0, .int 0, .int 0, .int 0])), ((r 18), .inr (4, [.int 0, .ref (r 19), .ref (r 20), .int 0, .ref (r 21), .ref (r 22), .int 0, .ref (r 23), .ref (r 24), .int 0, .ref (r 25), .ref (r 26), .int 3, .int 0, .int 0, .ref (r 27)])), ((r 66), .inl (cI, 3000, .inl (fun _ => 0))), ((r 67), .inl (cI, 3000, .inl (fun _ => 0))), ((r 69), .inl (cI, 3000, .inl (fun _ => 0))), ((r 68), .inl (cI, 9000, .inl (fun _ => 0))), ((r 55), .inr (5, [.ref (r 56), .ref (r 57)]))] (fun _ => []) (-1000000) := by
  intro sz
  refine ct_open (cc := cX10_lots) (maxL := 5) (ret := (some .int)) (by decide) rfl (Nat.le_of_ble_eq_true rfl) ?_
  intro p e s m below meth c ls A hx hb hr hml hts hown hlocks hin hP hK hD hA hS hl
  have hl : lv_has ls 5 [(0, .ref (r 0)), (1, .int x1)] := hl
  have hown : s.vm.findClass RX10 = some m.cls := hown
  have w0 := hts (.constant RX10 153 (-1000000)) (List.mem_cons_of_mem _ (List.mem_append_left _ (List.mem_append_left _ (List.mem_append_left _ (List.mem_append_left _ (List.mem_append_left _ (List.mem_append_left _ (List.mem_append_left _ (List.mem_of_getElem? (i := 0) rfl)))))))))
  refine lv_aload_n hx hb dX10_lots_0 rfl (lv_at hl 0 rfl) ?_
  refine call_rV (ci := 10) (As := []) (rest := []) (wr := []) ⟨hx, hb, hml, hown, hts⟩ (k288_X10_growWhole l dC dI cB cI cJ cZ cO r) (cwV 0 hts gX10_lots_X10_growWhole rfl rfl rfl ⟨rfl, z828⟩ ⟨Nat.le_of_ble_eq_true rfl, Nat.le_of_ble_eq_true rfl⟩) hK hP hD hS hA [0, 1, 2, 3, 4, 5, 6, 7, 8] [] rfl rfl (by decide +kernel) (by decide +kernel) (by decide +kernel) rfl rfl rfl hl.1 (Nat.le_of_ble_eq_true rfl) rfl rfl dX10_lots_1 ⟨by decide +kernel, by decide +kernel⟩ (fun u0 H locs hP hD hS => ?_)
  refine lv_astore_n (lv' := [(2, .ref (r 65)), (0, .ref (r 0)), (1, .int x1)]) hx hb dX10_lots_4 rfl hl (nlt rfl) rfl (fun ls hl => ?_)
  refine lv_iload_n hx hb dX10_lots_5 rfl (lv_at hl 2 rfl) ?_
  refine call_iS (As := [.int x1]) (rest := []) (wr := [((r 0), .inr (10, fX r)), ((r 38), .inr (0, [.ref (r 39), .int 0, .ref (r 40), .ref (r 41), .ref (r 42), .ref (r 43), .ref (r 44), .int 0, .int 0])), ((r 65), .inr (9, [.int 0, .int 0, .ref (r 66), .ref (r 67), .ref (r 68), .ref (r 69), .int 3, .int 1, .int 0, .int 0, .int 0])), ((r 18), .inr (4, [.int 0, .ref (r 19), .ref (r 20), .int 0, .ref (r 21), .ref (r 22), .int 0, .ref (r 23), .ref (r 24), .int 0, .ref (r 25), .ref (r 26), .int 3, .int 0, .int 0, .ref (r 27)])), ((r 66), .inl (cI, 3000, .inl (upd (fun _ => 0) 0 (-1)))), ((r 67), .inl (cI, 3000, .inl (fun _ => 0))), ((r 69), .inl (cI, 3000, .inl (fun _ => 0))), ((r 68), .inl (cI, 9000, .inl (fun _ => 0))), ((r 55), .inr (5, [.ref (r 56), .ref (r 57)]))]) ⟨hx, hb, hml, hown, hts⟩ (k205_X10_isGuild l dC dI cB cI cJ cZ cO x1 h0 h1) (va_cwS 1 hts gX10_lots_X10_isGuild rfl rfl rfl z621 ⟨Nat.le_of_ble_eq_true rfl, Nat.le_of_ble_eq_true rfl⟩) hK hP hD hS hA [] [0, 1, 2, 3, 4, 5, 6, 7, 8] rfl rfl (by decide +kernel) (by decide +kernel) (by decide +kernel) hl.1 (Nat.le_of_ble_eq_true rfl) rfl rfl dX10_lots_6 ⟨by decide +kernel, by decide +kernel⟩ (fun u1 H locs hP hD hS => ?_)
  refine lv_if_eq (tgt := 19) hx hb dX10_lots_9 z684 (fun c1 => absurd c1 (z525)) (fun _ => ?_)
  refine lv_aload_n hx hb dX10_lots_12 rfl (lv_at hl 0 rfl) ?_
  refine call_iV (ci := 9) (As := []) (rest := []) (wr := [((r 0), .inr (10, fX r)), ((r 38), .inr (0, [.ref (r 39), .int 0, .ref (r 40), .ref (r 41), .ref (r 42), .ref (r 43), .ref (r 44), .int 0, .int 0])), ((r 18), .inr (4, [.int 0, .ref (r 19), .ref (r 20), .int 0, .ref (r 21), .ref (r 22), .int 0, .ref (r 23), .ref (r 24), .int 0, .ref (r 25), .ref (r 26), .int 3, .int 0, .int 0, .ref (r 27)])), ((r 66), .inl (cI, 3000, .inl (upd (fun _ => 0) 0 (-1)))), ((r 67), .inl (cI, 3000, .inl (fun _ => 0))), ((r 69), .inl (cI, 3000, .inl (fun _ => 0))), ((r 68), .inl (cI, 9000, .inl (fun _ => 0))), ((r 55), .inr (5, [.ref (r 56), .ref (r 57)]))]) ⟨hx, hb, hml, hown, hts⟩ (k225_X9_hasCharters l dC dI cB cI cJ cZ cO r) (cwV 0 hts gX10_lots_X9_hasCharters rfl rfl rfl ⟨rfl, z688⟩ ⟨Nat.le_of_ble_eq_true rfl, Nat.le_of_ble_eq_true rfl⟩) hK hP hD hS hA [2] [0, 1, 3, 4, 5, 6, 7, 8] rfl rfl (by decide +kernel) (by decide +kernel) (by decide +kernel) rfl rfl rfl hl.1 (Nat.le_of_ble_eq_true rfl) rfl rfl dX10_lots_13 ⟨by decide +kernel, by decide +kernel⟩ (fun u2 H locs hP hD hS => ?_)
  refine lv_if_ne (tgt := 22) hx hb dX10_lots_16 z759 (fun c1 => absurd (rfl) c1) (fun _ => ?_)
  refine lv_ldc hx hb hown w0 dX10_lots_19 ?_
  refine W.widen (k := 0) (n := 0) (by decide +kernel) (by decide +kernel) ?_
  exact ret_i hx hb hr hlocks hS (u := (fun _ => 0)) (hP.sub [] rfl) (hD.sub [] (by decide +kernel) rfl) dX10_lots_21

set_option maxHeartbeats 4000000 in
set_option maxRecDepth 100000 in
theorem k295_X11_lots (l : Launch) (dC : Nat → ClassId) (dI : Nat → Nat → Nat) (cB cI cJ cZ cO : ClassId) (n : Nat → Nat) (x1 : Int32) (h0 : ¬ x1 < 0) (h1 : ¬ 2 < x1) : CI l yX11_lots wsX11_lots ({ frames := 5, cells := 0, slots := 0, locals := 110 }) (dC, dI) (tyL cB cI cJ cZ cO) [.ref (n 0), .int x1] [((n 0), .inr (11, fM n)), ((n 7), .inl (cI, 2, .inl (upd (fun _ => 0) 0 3))), ((n 21), .inl (cI, 6, .inl (fun _ => 0))), ((n 5), .inl (cI, 2, .inl (fun _ => 0)))] (fun _ => []) (-1000000) := by
  intro sz
  refine ct_open (cc := cX11_lots) (maxL := 4) (ret := (some .int)) (by decide) rfl (Nat.le_of_ble_eq_true rfl) ?_
  intro p e s m below meth c ls A hx hb hr hml hts hown hlocks hin hP hK hD hA hS hl
  have hl : lv_has ls 4 [(0, .ref (n 0)), (1, .int x1)] := hl
  have hown : s.vm.findClass RX11 = some m.cls := hown
  have i11 : ∀ w ∈ u_ws RX11 TX11 71, w ∈ wsX11_lots := fun _ h => List.mem_cons_of_mem _ (List.mem_append_right _ h)
  have w1 := hts (.fieldLink RX11 390 "GuildCharterModel" "listMany" "I") (List.mem_cons_of_mem _ (List.mem_append_left _ (List.mem_append_left _ (List.mem_of_getElem? (i := 0) rfl))))
  have w2 := hts (.constant RX11 311 (-1000000)) (List.mem_cons_of_mem _ (List.mem_append_left _ (List.mem_append_left _ (List.mem_of_getElem? (i := 1) rfl))))
  refine lv_iload_n hx hb dX11_lots_0 rfl (lv_at hl 1 rfl) ?_
  refine call_iS (As := [.int x1]) (rest := []) (wr := [((n 0), .inr (11, fM n)), ((n 7), .inl (cI, 2, .inl (upd (fun _ => 0) 0 3))), ((n 21), .inl (cI, 6, .inl (fun _ => 0))), ((n 5), .inl (cI, 2, .inl (fun _ => 0)))]) ⟨hx, hb, hml, hown, hts⟩ (k209_X11_isGuild l dC dI cB cI cJ cZ cO x1 h0 h1) (va_cwS 1 hts gX11_lots_X11_isGuild rfl rfl rfl z623 ⟨Nat.le_of_ble_eq_true rfl, Nat.le_of_ble_eq_true rfl⟩) hK hP hD hS hA [] [0, 1, 2, 3] rfl rfl (by decide +kernel) (by decide +kernel) (by decide +kernel) hl.1 (Nat.le_of_ble_eq_true rfl) rfl rfl dX11_lots_1 ⟨by decide +kernel, by decide +kernel⟩ (fun u0 H locs hP hD hS => ?_)
  refine lv_if_eq (tgt := 21) hx hb dX11_lots_4 z602 (fun c1 => absurd c1 (z525)) (fun _ => ?_)
  refine lv_aload_n hx hb dX11_lots_7 rfl (lv_at hl 0 rfl) ?_
  refine call_iV (ci := 11) (As := []) (rest := []) (wr := []) ⟨hx, hb, hml, hown, hts⟩ (k290_X11_layFromNone l dC dI cB cI cJ cZ cO n) (cwV 0 hts gX11_lots_X11_layFromNone rfl rfl rfl ⟨rfl, z831⟩ ⟨Nat.le_of_ble_eq_true rfl, Nat.le_of_ble_eq_true rfl⟩) hK hP hD hS hA [0, 1, 2, 3] [] rfl rfl (by decide +kernel) (by decide +kernel) (by decide +kernel) rfl rfl rfl hl.1 (Nat.le_of_ble_eq_true rfl) rfl rfl dX11_lots_8 ⟨by decide +kernel, by decide +kernel⟩ (fun u1 H locs hP hD hS => ?_)
  refine lv_if_eq (tgt := 21) hx hb dX11_lots_11 z832 (fun c1 => absurd c1 (z525)) (fun _ => ?_)
  refine lv_aload_n hx hb dX11_lots_14 rfl (lv_at hl 0 rfl) ?_
  refine va_get (D := (dC, dI)) (ci := 11) (v := .int 0) (C := RX11) (T := TX11) (N := 71) hx hb hts i11 hown hK hP 0 rfl rfl 48 (nlt rfl) w1 (fun _ h9 => h9) rfl dX11_lots_15 ?_
  refine lv_if_ne (tgt := 25) hx hb dX11_lots_18 z833 (fun c1 => absurd (rfl) c1) (fun _ => ?_)
  refine lv_ldcw hx hb hown w2 dX11_lots_21 ?_
  refine W.widen (k := 0) (n := 0) (by decide +kernel) (by decide +kernel) ?_
  exact ret_i hx hb hr hlocks hS (u := (fun _ => 0)) (hP.sub [] rfl) (hD.sub [] (by decide +kernel) rfl) dX11_lots_24

set_option maxHeartbeats 4000000 in
set_option maxRecDepth 100000 in
theorem k296_X10_lots (l : Launch) (dC : Nat → ClassId) (dI : Nat → Nat → Nat) (cB cI cJ cZ cO : ClassId) (r : Nat → Nat) (x1 : Int32) (h0 : ¬ x1 < 0) (h1 : 3 ≤ x1) : CI l yX10_lots wsX10_lots ({ frames := 4, cells := 0, slots := 0, locals := 98 }) (dC, dI) (tyL cB cI cJ cZ cO) [.ref (r 0), .int x1] [((r 0), .inr (10, fX r)), ((r 38), .inr (0, [.ref (r 39), .int 0, .ref (r 40), .ref (r 41), .ref (r 42), .ref (r 43), .ref (r 44), .int 0, .int 0])), ((r 65), .inr (9, [.int 0, .int 0, .ref (r 66), .ref (r 67), .ref (r 68), .ref (r 69), .int 0, .int 0, .int 0, .int 0, .int 0])), ((r 18), .inr (4, [.int 0, .ref (r 19), .ref (r 20), .int 0, .ref (r 21), .ref (r 22), .int 0, .ref (r 23), .ref (r 24), .int 0, .ref (r 25), .ref (r 26), .int 3, .int 0, .int 0, .ref (r 27)])), ((r 66), .inl (cI, 3000, .inl (fun _ => 0))), ((r 67), .inl (cI, 3000, .inl (fun _ => 0))), ((r 69), .inl (cI, 3000, .inl (fun _ => 0))), ((r 68), .inl (cI, 9000, .inl (fun _ => 0))), ((r 55), .inr (5, [.ref (r 56), .ref (r 57)]))] (fun _ => []) (-1000000) := by
  intro sz
  refine ct_open (cc := cX10_lots) (maxL := 5) (ret := (some .int)) (by decide) rfl (Nat.le_of_ble_eq_true rfl) ?_
  intro p e s m below meth c ls A hx hb hr hml hts hown hlocks hin hP hK hD hA hS hl
  have hl : lv_has ls 5 [(0, .ref (r 0)), (1, .int x1)] := hl
  have hown : s.vm.findClass RX10 = some m.cls := hown
  have w0 := hts (.constant RX10 153 (-1000000)) (List.mem_cons_of_mem _ (List.mem_append_left _ (List.mem_append_left _ (List.mem_append_left _ (List.mem_append_left _ (List.mem_append_left _ (List.mem_append_left _ (List.mem_append_left _ (List.mem_of_getElem? (i := 0) rfl)))))))))
  refine lv_aload_n hx hb dX10_lots_0 rfl (lv_at hl 0 rfl) ?_
  refine call_rV (ci := 10) (As := []) (rest := []) (wr := []) ⟨hx, hb, hml, hown, hts⟩ (k288_X10_growWhole l dC dI cB cI cJ cZ cO r) (cwV 0 hts gX10_lots_X10_growWhole rfl rfl rfl ⟨rfl, z828⟩ ⟨Nat.le_of_ble_eq_true rfl, Nat.le_of_ble_eq_true rfl⟩) hK hP hD hS hA [0, 1, 2, 3, 4, 5, 6, 7, 8] [] rfl rfl (by decide +kernel) (by decide +kernel) (by decide +kernel) rfl rfl rfl hl.1 (Nat.le_of_ble_eq_true rfl) rfl rfl dX10_lots_1 ⟨by decide +kernel, by decide +kernel⟩ (fun u0 H locs hP hD hS => ?_)
  refine lv_astore_n (lv' := [(2, .ref (r 65)), (0, .ref (r 0)), (1, .int x1)]) hx hb dX10_lots_4 rfl hl (nlt rfl) rfl (fun ls hl => ?_)
  refine lv_iload_n hx hb dX10_lots_5 rfl (lv_at hl 2 rfl) ?_
  refine call_iS (As := [.int x1]) (rest := []) (wr := [((r 0), .inr (10, fX r)), ((r 38), .inr (0, [.ref (r 39), .int 0, .ref (r 40), .ref (r 41), .ref (r 42), .ref (r 43), .ref (r 44), .int 0, .int 0])), ((r 65), .inr (9, [.int 0, .int 0, .ref (r 66), .ref (r 67), .ref (r 68), .ref (r 69), .int 3, .int 1, .int 0, .int 0, .int 0])), ((r 18), .inr (4, [.int 0, .ref (r 19), .ref (r 20), .int 0, .ref (r 21), .ref (r 22), .int 0, .ref (r 23), .ref (r 24), .int 0, .ref (r 25), .ref (r 26), .int 3, .int 0, .int 0, .ref (r 27)])), ((r 66), .inl (cI, 3000, .inl (upd (fun _ => 0) 0 (-1)))), ((r 67), .inl (cI, 3000, .inl (fun _ => 0))), ((r 69), .inl (cI, 3000, .inl (fun _ => 0))), ((r 68), .inl (cI, 9000, .inl (fun _ => 0))), ((r 55), .inr (5, [.ref (r 56), .ref (r 57)]))]) ⟨hx, hb, hml, hown, hts⟩ (k212_X10_isGuild l dC dI cB cI cJ cZ cO x1 h0 h1) (va_cwS 1 hts gX10_lots_X10_isGuild rfl rfl rfl z621 ⟨Nat.le_of_ble_eq_true rfl, Nat.le_of_ble_eq_true rfl⟩) hK hP hD hS hA [] [0, 1, 2, 3, 4, 5, 6, 7, 8] rfl rfl (by decide +kernel) (by decide +kernel) (by decide +kernel) hl.1 (Nat.le_of_ble_eq_true rfl) rfl rfl dX10_lots_6 ⟨by decide +kernel, by decide +kernel⟩ (fun u1 H locs hP hD hS => ?_)
  refine lv_if_eq (tgt := 19) hx hb dX10_lots_9 z684 (fun _ => ?_) (fun c1 => absurd (rfl) c1)
  refine lv_ldc hx hb hown w0 dX10_lots_19 ?_
  refine W.widen (k := 0) (n := 0) (by decide +kernel) (by decide +kernel) ?_
  exact ret_i hx hb hr hlocks hS (u := (fun _ => 0)) (hP.sub [] rfl) (hD.sub [] (by decide +kernel) rfl) dX10_lots_21

set_option maxHeartbeats 4000000 in
set_option maxRecDepth 100000 in
theorem k297_X11_lots (l : Launch) (dC : Nat → ClassId) (dI : Nat → Nat → Nat) (cB cI cJ cZ cO : ClassId) (n : Nat → Nat) (x1 : Int32) (h0 : ¬ x1 < 0) (h1 : 2 < x1) : CI l yX11_lots wsX11_lots ({ frames := 2, cells := 0, slots := 0, locals := 42 }) (dC, dI) (tyL cB cI cJ cZ cO) [.ref (n 0), .int x1] [((n 0), .inr (11, fM n))] (fun _ => []) (-1000000) := by
  intro sz
  refine ct_open (cc := cX11_lots) (maxL := 4) (ret := (some .int)) (by decide) rfl (Nat.le_of_ble_eq_true rfl) ?_
  intro p e s m below meth c ls A hx hb hr hml hts hown hlocks hin hP hK hD hA hS hl
  have hl : lv_has ls 4 [(0, .ref (n 0)), (1, .int x1)] := hl
  have hown : s.vm.findClass RX11 = some m.cls := hown
  have w0 := hts (.constant RX11 311 (-1000000)) (List.mem_cons_of_mem _ (List.mem_append_left _ (List.mem_append_left _ (List.mem_of_getElem? (i := 1) rfl))))
  refine lv_iload_n hx hb dX11_lots_0 rfl (lv_at hl 1 rfl) ?_
  refine call_iS (As := [.int x1]) (rest := []) (wr := [((n 0), .inr (11, fM n))]) ⟨hx, hb, hml, hown, hts⟩ (k214_X11_isGuild l dC dI cB cI cJ cZ cO x1 h0 h1) (va_cwS 1 hts gX11_lots_X11_isGuild rfl rfl rfl z623 ⟨Nat.le_of_ble_eq_true rfl, Nat.le_of_ble_eq_true rfl⟩) hK hP hD hS hA [] [0] rfl rfl (by decide +kernel) (by decide +kernel) (by decide +kernel) hl.1 (Nat.le_of_ble_eq_true rfl) rfl rfl dX11_lots_1 ⟨by decide +kernel, by decide +kernel⟩ (fun u0 H locs hP hD hS => ?_)
  refine lv_if_eq (tgt := 21) hx hb dX11_lots_4 z602 (fun _ => ?_) (fun c1 => absurd (rfl) c1)
  refine lv_ldcw hx hb hown w0 dX11_lots_21 ?_
  refine W.widen (k := 0) (n := 0) (by decide +kernel) (by decide +kernel) ?_
  exact ret_i hx hb hr hlocks hS (u := (fun _ => 0)) (hP.sub [] rfl) (hD.sub [] (by decide +kernel) rfl) dX11_lots_24

set_option maxHeartbeats 4000000 in
set_option maxRecDepth 100000 in
theorem k298_X10_hole (l : Launch) (dC : Nat → ClassId) (dI : Nat → Nat → Nat) (cB cI cJ cZ cO : ClassId) (r : Nat → Nat) (x1 : Int32) (x2 : Int32) (h0 : x1 < 0) : CI l yX10_hole wsX10_hole ({ frames := 1, cells := 0, slots := 0, locals := 21 }) (dC, dI) (tyL cB cI cJ cZ cO) [.ref (r 0), .int x1, .int x2] [((r 0), .inr (10, fX r)), ((r 18), .inr (4, [.int 0, .ref (r 19), .ref (r 20), .int 0, .ref (r 21), .ref (r 22), .int 0, .ref (r 23), .ref (r 24), .int 0, .ref (r 25), .ref (r 26), .int 3, .int 0, .int 0, .ref (r 27)]))] (fun _ => []) 0 := by
  intro sz
  refine ct_open (cc := cX10_hole) (maxL := 4) (ret := (some .boolean)) (by decide) rfl (Nat.le_of_ble_eq_true rfl) ?_
  intro p e s m below meth c ls A hx hb hr hml hts hown hlocks hin hP hK hD hA hS hl
  have hl : lv_has ls 4 [(0, .ref (r 0)), (1, .int x1), (2, .int x2)] := hl
  have hown : s.vm.findClass RX10 = some m.cls := hown
  have i10 : ∀ w ∈ u_ws RX10 TX10 18, w ∈ wsX10_hole := fun _ h => List.mem_cons_of_mem _ (List.mem_append_left _ (List.mem_append_right _ h))
  have w1 := hts (.fieldLink RX10 23 "GuildCharter" "told" "LGuildCharter$Port;") (List.mem_cons_of_mem _ (List.mem_append_left _ (List.mem_append_left _ (List.mem_of_getElem? (i := 0) rfl))))
  refine lv_aload_n hx hb dX10_hole_0 rfl (lv_at hl 0 rfl) ?_
  refine va_get (D := (dC, dI)) (ci := 10) (v := .ref (r 18)) (C := RX10) (T := TX10) (N := 18) hx hb hts i10 hown hK hP 0 rfl rfl 3 (nlt rfl) w1 (fun _ h9 => h9) rfl dX10_hole_1 ?_
  refine lv_iload_n hx hb dX10_hole_4 rfl (lv_at hl 1 rfl) ?_
  refine call_iV (ci := 4) (As := [.int x1]) (rest := []) (wr := [((r 0), .inr (10, fX r))]) ⟨hx, hb, hml, hown, hts⟩ (k88_X4_hasPlace l dC dI cB cI cJ cZ cO r x1 h0) (cwV 1 hts gX10_hole_X4_hasPlace rfl rfl rfl ⟨rfl, z595⟩ ⟨Nat.le_of_ble_eq_true rfl, Nat.le_of_ble_eq_true rfl⟩) hK hP hD hS hA [1] [0] rfl rfl (by decide +kernel) (by decide +kernel) (by decide +kernel) rfl rfl rfl hl.1 (Nat.le_of_ble_eq_true rfl) rfl rfl dX10_hole_5 ⟨by decide +kernel, by decide +kernel⟩ (fun u0 H locs hP hD hS => ?_)
  refine lv_if_eq (tgt := 27) hx hb dX10_hole_8 z834 (fun _ => ?_) (fun c1 => absurd (rfl) c1)
  refine lv_iconst (v := 0) hx hb dX10_hole_27 z8 ?_
  refine W.widen (k := 0) (n := 0) (by decide +kernel) (by decide +kernel) ?_
  exact ret_z hx hb hr rfl hlocks hS (u := (fun _ => 0)) (hP.sub [] rfl) (hD.sub [] (by decide +kernel) rfl) dX10_hole_28

set_option maxHeartbeats 4000000 in
set_option maxRecDepth 100000 in
theorem k299_X11_hole (l : Launch) (dC : Nat → ClassId) (dI : Nat → Nat → Nat) (cB cI cJ cZ cO : ClassId) (n : Nat → Nat) (x1 : Int32) (x2 : Int32) (h0 : x1 < 0) : CI l yX11_hole wsX11_hole ({ frames := 2, cells := 0, slots := 0, locals := 43 }) (dC, dI) (tyL cB cI cJ cZ cO) [.ref (n 0), .int x1, .int x2] [((n 0), .inr (11, fM n)), ((n 7), .inl (cI, 2, .inl (upd (fun _ => 0) 0 3)))] (fun _ => []) 0 := by
  intro sz
  refine ct_open (cc := cX11_hole) (maxL := 3) (ret := (some .boolean)) (by decide) rfl (Nat.le_of_ble_eq_true rfl) ?_
  intro p e s m below meth c ls A hx hb hr hml hts hown hlocks hin hP hK hD hA hS hl
  have hl : lv_has ls 3 [(0, .ref (n 0)), (1, .int x1), (2, .int x2)] := hl
  have hown : s.vm.findClass RX11 = some m.cls := hown
  refine lv_aload_n hx hb dX11_hole_0 rfl (lv_at hl 0 rfl) ?_
  refine lv_iload_n hx hb dX11_hole_1 rfl (lv_at hl 1 rfl) ?_
  refine call_iV (ci := 11) (As := [.int x1]) (rest := []) (wr := []) ⟨hx, hb, hml, hown, hts⟩ (k92_X11_isPlace l dC dI cB cI cJ cZ cO n x1 h0) (cwV 1 hts gX11_hole_X11_isPlace rfl rfl rfl ⟨rfl, z599⟩ ⟨Nat.le_of_ble_eq_true rfl, Nat.le_of_ble_eq_true rfl⟩) hK hP hD hS hA [0, 1] [] rfl rfl (by decide +kernel) (by decide +kernel) (by decide +kernel) rfl rfl rfl hl.1 (Nat.le_of_ble_eq_true rfl) rfl rfl dX11_hole_2 ⟨by decide +kernel, by decide +kernel⟩ (fun u0 H locs hP hD hS => ?_)
  refine lv_if_eq (tgt := 21) hx hb dX11_hole_5 z552 (fun _ => ?_) (fun c1 => absurd (rfl) c1)
  refine lv_iconst (v := 0) hx hb dX11_hole_21 z8 ?_
  refine W.widen (k := 0) (n := 0) (by decide +kernel) (by decide +kernel) ?_
  exact ret_z hx hb hr rfl hlocks hS (u := (fun _ => 0)) (hP.sub [] rfl) (hD.sub [] (by decide +kernel) rfl) dX11_hole_22

set_option maxHeartbeats 4000000 in
set_option maxRecDepth 100000 in
theorem k300_X10_hole (l : Launch) (dC : Nat → ClassId) (dI : Nat → Nat → Nat) (cB cI cJ cZ cO : ClassId) (r : Nat → Nat) (x1 : Int32) (x2 : Int32) (h0 : ¬ x1 < 0) (h1 : 3 ≤ x1) : CI l yX10_hole wsX10_hole ({ frames := 1, cells := 0, slots := 0, locals := 21 }) (dC, dI) (tyL cB cI cJ cZ cO) [.ref (r 0), .int x1, .int x2] [((r 0), .inr (10, fX r)), ((r 18), .inr (4, [.int 0, .ref (r 19), .ref (r 20), .int 0, .ref (r 21), .ref (r 22), .int 0, .ref (r 23), .ref (r 24), .int 0, .ref (r 25), .ref (r 26), .int 3, .int 0, .int 0, .ref (r 27)]))] (fun _ => []) 0 := by
  intro sz
  refine ct_open (cc := cX10_hole) (maxL := 4) (ret := (some .boolean)) (by decide) rfl (Nat.le_of_ble_eq_true rfl) ?_
  intro p e s m below meth c ls A hx hb hr hml hts hown hlocks hin hP hK hD hA hS hl
  have hl : lv_has ls 4 [(0, .ref (r 0)), (1, .int x1), (2, .int x2)] := hl
  have hown : s.vm.findClass RX10 = some m.cls := hown
  have i10 : ∀ w ∈ u_ws RX10 TX10 18, w ∈ wsX10_hole := fun _ h => List.mem_cons_of_mem _ (List.mem_append_left _ (List.mem_append_right _ h))
  have w1 := hts (.fieldLink RX10 23 "GuildCharter" "told" "LGuildCharter$Port;") (List.mem_cons_of_mem _ (List.mem_append_left _ (List.mem_append_left _ (List.mem_of_getElem? (i := 0) rfl))))
  refine lv_aload_n hx hb dX10_hole_0 rfl (lv_at hl 0 rfl) ?_
  refine va_get (D := (dC, dI)) (ci := 10) (v := .ref (r 18)) (C := RX10) (T := TX10) (N := 18) hx hb hts i10 hown hK hP 0 rfl rfl 3 (nlt rfl) w1 (fun _ h9 => h9) rfl dX10_hole_1 ?_
  refine lv_iload_n hx hb dX10_hole_4 rfl (lv_at hl 1 rfl) ?_
  refine call_iV (ci := 4) (As := [.int x1]) (rest := []) (wr := [((r 0), .inr (10, fX r))]) ⟨hx, hb, hml, hown, hts⟩ (k115_X4_hasPlace l dC dI cB cI cJ cZ cO r x1 h0 h1) (cwV 1 hts gX10_hole_X4_hasPlace rfl rfl rfl ⟨rfl, z595⟩ ⟨Nat.le_of_ble_eq_true rfl, Nat.le_of_ble_eq_true rfl⟩) hK hP hD hS hA [1] [0] rfl rfl (by decide +kernel) (by decide +kernel) (by decide +kernel) rfl rfl rfl hl.1 (Nat.le_of_ble_eq_true rfl) rfl rfl dX10_hole_5 ⟨by decide +kernel, by decide +kernel⟩ (fun u0 H locs hP hD hS => ?_)
  refine lv_if_eq (tgt := 27) hx hb dX10_hole_8 z834 (fun _ => ?_) (fun c1 => absurd (rfl) c1)
  refine lv_iconst (v := 0) hx hb dX10_hole_27 z8 ?_
  refine W.widen (k := 0) (n := 0) (by decide +kernel) (by decide +kernel) ?_
  exact ret_z hx hb hr rfl hlocks hS (u := (fun _ => 0)) (hP.sub [] rfl) (hD.sub [] (by decide +kernel) rfl) dX10_hole_28

set_option maxHeartbeats 4000000 in
set_option maxRecDepth 100000 in
theorem k301_X11_hole (l : Launch) (dC : Nat → ClassId) (dI : Nat → Nat → Nat) (cB cI cJ cZ cO : ClassId) (n : Nat → Nat) (x1 : Int32) (x2 : Int32) (h0 : ¬ x1 < 0) (h1 : 2 < x1) : CI l yX11_hole wsX11_hole ({ frames := 2, cells := 0, slots := 0, locals := 43 }) (dC, dI) (tyL cB cI cJ cZ cO) [.ref (n 0), .int x1, .int x2] [((n 0), .inr (11, fM n)), ((n 7), .inl (cI, 2, .inl (upd (fun _ => 0) 0 3)))] (fun _ => []) 0 := by
  intro sz
  refine ct_open (cc := cX11_hole) (maxL := 3) (ret := (some .boolean)) (by decide) rfl (Nat.le_of_ble_eq_true rfl) ?_
  intro p e s m below meth c ls A hx hb hr hml hts hown hlocks hin hP hK hD hA hS hl
  have hl : lv_has ls 3 [(0, .ref (n 0)), (1, .int x1), (2, .int x2)] := hl
  have hown : s.vm.findClass RX11 = some m.cls := hown
  refine lv_aload_n hx hb dX11_hole_0 rfl (lv_at hl 0 rfl) ?_
  refine lv_iload_n hx hb dX11_hole_1 rfl (lv_at hl 1 rfl) ?_
  refine call_iV (ci := 11) (As := [.int x1]) (rest := []) (wr := []) ⟨hx, hb, hml, hown, hts⟩ (k118_X11_isPlace l dC dI cB cI cJ cZ cO n x1 h0 h1) (cwV 1 hts gX11_hole_X11_isPlace rfl rfl rfl ⟨rfl, z599⟩ ⟨Nat.le_of_ble_eq_true rfl, Nat.le_of_ble_eq_true rfl⟩) hK hP hD hS hA [0, 1] [] rfl rfl (by decide +kernel) (by decide +kernel) (by decide +kernel) rfl rfl rfl hl.1 (Nat.le_of_ble_eq_true rfl) rfl rfl dX11_hole_2 ⟨by decide +kernel, by decide +kernel⟩ (fun u0 H locs hP hD hS => ?_)
  refine lv_if_eq (tgt := 21) hx hb dX11_hole_5 z552 (fun _ => ?_) (fun c1 => absurd (rfl) c1)
  refine lv_iconst (v := 0) hx hb dX11_hole_21 z8 ?_
  refine W.widen (k := 0) (n := 0) (by decide +kernel) (by decide +kernel) ?_
  exact ret_z hx hb hr rfl hlocks hS (u := (fun _ => 0)) (hP.sub [] rfl) (hD.sub [] (by decide +kernel) rfl) dX11_hole_22

set_option maxHeartbeats 4000000 in
set_option maxRecDepth 100000 in
theorem k302_X10_hole (l : Launch) (dC : Nat → ClassId) (dI : Nat → Nat → Nat) (cB cI cJ cZ cO : ClassId) (r : Nat → Nat) (x2 : Int32) (h0 : ¬ x2 = (-1)) (h1 : x2 < 0) : CI l yX10_hole wsX10_hole ({ frames := 1, cells := 0, slots := 0, locals := 21 }) (dC, dI) (tyL cB cI cJ cZ cO) [.ref (r 0), .int 0, .int x2] [((r 0), .inr (10, fX r)), ((r 18), .inr (4, [.int 0, .ref (r 19), .ref (r 20), .int 0, .ref (r 21), .ref (r 22), .int 0, .ref (r 23), .ref (r 24), .int 0, .ref (r 25), .ref (r 26), .int 3, .int 0, .int 0, .ref (r 27)]))] (fun _ => []) 0 := by
  intro sz
  refine ct_open (cc := cX10_hole) (maxL := 4) (ret := (some .boolean)) (by decide) rfl (Nat.le_of_ble_eq_true rfl) ?_
  intro p e s m below meth c ls A hx hb hr hml hts hown hlocks hin hP hK hD hA hS hl
  have hl : lv_has ls 4 [(0, .ref (r 0)), (1, .int 0), (2, .int x2)] := hl
  have hown : s.vm.findClass RX10 = some m.cls := hown
  have i10 : ∀ w ∈ u_ws RX10 TX10 18, w ∈ wsX10_hole := fun _ h => List.mem_cons_of_mem _ (List.mem_append_left _ (List.mem_append_right _ h))
  have w1 := hts (.fieldLink RX10 23 "GuildCharter" "told" "LGuildCharter$Port;") (List.mem_cons_of_mem _ (List.mem_append_left _ (List.mem_append_left _ (List.mem_of_getElem? (i := 0) rfl))))
  refine lv_aload_n hx hb dX10_hole_0 rfl (lv_at hl 0 rfl) ?_
  refine va_get (D := (dC, dI)) (ci := 10) (v := .ref (r 18)) (C := RX10) (T := TX10) (N := 18) hx hb hts i10 hown hK hP 0 rfl rfl 3 (nlt rfl) w1 (fun _ h9 => h9) rfl dX10_hole_1 ?_
  refine lv_iload_n hx hb dX10_hole_4 rfl (lv_at hl 1 rfl) ?_
  refine call_iV (ci := 4) (As := [.int 0]) (rest := []) (wr := [((r 0), .inr (10, fX r))]) ⟨hx, hb, hml, hown, hts⟩ (k94_X4_hasPlace l dC dI cB cI cJ cZ cO r) (cwV 1 hts gX10_hole_X4_hasPlace rfl rfl rfl ⟨rfl, z595⟩ ⟨Nat.le_of_ble_eq_true rfl, Nat.le_of_ble_eq_true rfl⟩) hK hP hD hS hA [1] [0] rfl rfl (by decide +kernel) (by decide +kernel) (by decide +kernel) rfl rfl rfl hl.1 (Nat.le_of_ble_eq_true rfl) rfl rfl dX10_hole_5 ⟨by decide +kernel, by decide +kernel⟩ (fun u0 H locs hP hD hS => ?_)
  refine lv_if_eq (tgt := 27) hx hb dX10_hole_8 z834 (fun c1 => absurd c1 (z525)) (fun _ => ?_)
  refine lv_iload_n hx hb dX10_hole_11 rfl (lv_at hl 2 rfl) ?_
  refine lv_iconst (v := (-1)) hx hb dX10_hole_12 z128 ?_
  refine lv_icmp_eq (tgt := 29) hx hb dX10_hole_13 z835 (fun c1 => absurd c1 (h0)) (fun _ => ?_)
  refine lv_aload_n hx hb dX10_hole_16 rfl (lv_at hl 0 rfl) ?_
  refine va_get (D := (dC, dI)) (ci := 10) (v := .ref (r 18)) (C := RX10) (T := TX10) (N := 18) hx hb hts i10 hown hK hP 0 rfl rfl 3 (nlt rfl) w1 (fun _ h9 => h9) rfl dX10_hole_17 ?_
  refine lv_iload_n hx hb dX10_hole_20 rfl (lv_at hl 2 rfl) ?_
  refine call_iV (ci := 4) (As := [.int x2]) (rest := []) (wr := [((r 0), .inr (10, fX r))]) ⟨hx, hb, hml, hown, hts⟩ (k269_X4_hasWord l dC dI cB cI cJ cZ cO r x2 h1) (cwV 1 hts gX10_hole_X4_hasWord rfl rfl rfl ⟨rfl, z584⟩ ⟨Nat.le_of_ble_eq_true rfl, Nat.le_of_ble_eq_true rfl⟩) hK hP hD hS hA [1] [0] rfl rfl (by decide +kernel) (by decide +kernel) (by decide +kernel) rfl rfl rfl hl.1 (Nat.le_of_ble_eq_true rfl) rfl rfl dX10_hole_21 ⟨by decide +kernel, by decide +kernel⟩ (fun u1 H locs hP hD hS => ?_)
  refine lv_if_ne (tgt := 29) hx hb dX10_hole_24 z836 (fun c1 => absurd (rfl) c1) (fun _ => ?_)
  refine lv_iconst (v := 0) hx hb dX10_hole_27 z8 ?_
  refine W.widen (k := 0) (n := 0) (by decide +kernel) (by decide +kernel) ?_
  exact ret_z hx hb hr rfl hlocks hS (u := (fun _ => 0)) (hP.sub [] rfl) (hD.sub [] (by decide +kernel) rfl) dX10_hole_28

set_option maxHeartbeats 4000000 in
set_option maxRecDepth 100000 in
theorem k303_X11_hole (l : Launch) (dC : Nat → ClassId) (dI : Nat → Nat → Nat) (cB cI cJ cZ cO : ClassId) (n : Nat → Nat) (x2 : Int32) (h0 : ¬ x2 = (-1)) (h1 : x2 < 0) : CI l yX11_hole wsX11_hole ({ frames := 2, cells := 0, slots := 0, locals := 43 }) (dC, dI) (tyL cB cI cJ cZ cO) [.ref (n 0), .int 0, .int x2] [((n 0), .inr (11, fM n)), ((n 7), .inl (cI, 2, .inl (upd (fun _ => 0) 0 3))), ((n 3), .inl (cI, 2, .inl (fun _ => 0)))] (fun _ => []) 0 := by
  intro sz
  refine ct_open (cc := cX11_hole) (maxL := 3) (ret := (some .boolean)) (by decide) rfl (Nat.le_of_ble_eq_true rfl) ?_
  intro p e s m below meth c ls A hx hb hr hml hts hown hlocks hin hP hK hD hA hS hl
  have hl : lv_has ls 3 [(0, .ref (n 0)), (1, .int 0), (2, .int x2)] := hl
  have hown : s.vm.findClass RX11 = some m.cls := hown
  refine lv_aload_n hx hb dX11_hole_0 rfl (lv_at hl 0 rfl) ?_
  refine lv_iload_n hx hb dX11_hole_1 rfl (lv_at hl 1 rfl) ?_
  refine call_iV (ci := 11) (As := [.int 0]) (rest := []) (wr := [((n 3), .inl (cI, 2, .inl (fun _ => 0)))]) ⟨hx, hb, hml, hown, hts⟩ (k99_X11_isPlace l dC dI cB cI cJ cZ cO n) (cwV 1 hts gX11_hole_X11_isPlace rfl rfl rfl ⟨rfl, z599⟩ ⟨Nat.le_of_ble_eq_true rfl, Nat.le_of_ble_eq_true rfl⟩) hK hP hD hS hA [0, 1] [2] rfl rfl (by decide +kernel) (by decide +kernel) (by decide +kernel) rfl rfl rfl hl.1 (Nat.le_of_ble_eq_true rfl) rfl rfl dX11_hole_2 ⟨by decide +kernel, by decide +kernel⟩ (fun u0 H locs hP hD hS => ?_)
  refine lv_if_eq (tgt := 21) hx hb dX11_hole_5 z552 (fun c1 => absurd c1 (z525)) (fun _ => ?_)
  refine lv_iload_n hx hb dX11_hole_8 rfl (lv_at hl 2 rfl) ?_
  refine lv_iconst (v := (-1)) hx hb dX11_hole_9 z128 ?_
  refine lv_icmp_eq (tgt := 23) hx hb dX11_hole_10 z837 (fun c1 => absurd c1 (h0)) (fun _ => ?_)
  refine lv_aload_n hx hb dX11_hole_13 rfl (lv_at hl 0 rfl) ?_
  refine lv_iload_n hx hb dX11_hole_14 rfl (lv_at hl 2 rfl) ?_
  refine call_iV (ci := 11) (As := [.int x2]) (rest := []) (wr := [((n 7), .inl (cI, 2, .inl (upd (fun _ => 0) 0 3)))]) ⟨hx, hb, hml, hown, hts⟩ (k272_X11_isWordOf l dC dI cB cI cJ cZ cO n x2 h1) (cwV 1 hts gX11_hole_X11_isWordOf rfl rfl rfl ⟨rfl, z589⟩ ⟨Nat.le_of_ble_eq_true rfl, Nat.le_of_ble_eq_true rfl⟩) hK hP hD hS hA [1, 0] [2] rfl rfl (by decide +kernel) (by decide +kernel) (by decide +kernel) rfl rfl rfl hl.1 (Nat.le_of_ble_eq_true rfl) rfl rfl dX11_hole_15 ⟨by decide +kernel, by decide +kernel⟩ (fun u1 H locs hP hD hS => ?_)
  refine lv_if_ne (tgt := 23) hx hb dX11_hole_18 z838 (fun c1 => absurd (rfl) c1) (fun _ => ?_)
  refine lv_iconst (v := 0) hx hb dX11_hole_21 z8 ?_
  refine W.widen (k := 0) (n := 0) (by decide +kernel) (by decide +kernel) ?_
  exact ret_z hx hb hr rfl hlocks hS (u := (fun _ => 0)) (hP.sub [] rfl) (hD.sub [] (by decide +kernel) rfl) dX11_hole_22

set_option maxHeartbeats 4000000 in
set_option maxRecDepth 100000 in
theorem k304_X10_hole (l : Launch) (dC : Nat → ClassId) (dI : Nat → Nat → Nat) (cB cI cJ cZ cO : ClassId) (r : Nat → Nat) : CI l yX10_hole wsX10_hole ({ frames := 1, cells := 0, slots := 0, locals := 21 }) (dC, dI) (tyL cB cI cJ cZ cO) [.ref (r 0), .int 0, .int (-1)] [((r 0), .inr (10, fX r)), ((r 18), .inr (4, [.int 0, .ref (r 19), .ref (r 20), .int 0, .ref (r 21), .ref (r 22), .int 0, .ref (r 23), .ref (r 24), .int 0, .ref (r 25), .ref (r 26), .int 3, .int 0, .int 0, .ref (r 27)]))] (fun _ => []) 1 := by
  intro sz
  refine ct_open (cc := cX10_hole) (maxL := 4) (ret := (some .boolean)) (by decide) rfl (Nat.le_of_ble_eq_true rfl) ?_
  intro p e s m below meth c ls A hx hb hr hml hts hown hlocks hin hP hK hD hA hS hl
  have hl : lv_has ls 4 [(0, .ref (r 0)), (1, .int 0), (2, .int (-1))] := hl
  have hown : s.vm.findClass RX10 = some m.cls := hown
  have i10 : ∀ w ∈ u_ws RX10 TX10 18, w ∈ wsX10_hole := fun _ h => List.mem_cons_of_mem _ (List.mem_append_left _ (List.mem_append_right _ h))
  have w1 := hts (.fieldLink RX10 23 "GuildCharter" "told" "LGuildCharter$Port;") (List.mem_cons_of_mem _ (List.mem_append_left _ (List.mem_append_left _ (List.mem_of_getElem? (i := 0) rfl))))
  have w2 := hts (.fieldLink RX10 122 "GuildCharter" "holes" "I") (List.mem_cons_of_mem _ (List.mem_append_left _ (List.mem_append_left _ (List.mem_of_getElem? (i := 1) rfl))))
  refine lv_aload_n hx hb dX10_hole_0 rfl (lv_at hl 0 rfl) ?_
  refine va_get (D := (dC, dI)) (ci := 10) (v := .ref (r 18)) (C := RX10) (T := TX10) (N := 18) hx hb hts i10 hown hK hP 0 rfl rfl 3 (nlt rfl) w1 (fun _ h9 => h9) rfl dX10_hole_1 ?_
  refine lv_iload_n hx hb dX10_hole_4 rfl (lv_at hl 1 rfl) ?_
  refine call_iV (ci := 4) (As := [.int 0]) (rest := []) (wr := [((r 0), .inr (10, fX r))]) ⟨hx, hb, hml, hown, hts⟩ (k94_X4_hasPlace l dC dI cB cI cJ cZ cO r) (cwV 1 hts gX10_hole_X4_hasPlace rfl rfl rfl ⟨rfl, z595⟩ ⟨Nat.le_of_ble_eq_true rfl, Nat.le_of_ble_eq_true rfl⟩) hK hP hD hS hA [1] [0] rfl rfl (by decide +kernel) (by decide +kernel) (by decide +kernel) rfl rfl rfl hl.1 (Nat.le_of_ble_eq_true rfl) rfl rfl dX10_hole_5 ⟨by decide +kernel, by decide +kernel⟩ (fun u0 H locs hP hD hS => ?_)
  refine lv_if_eq (tgt := 27) hx hb dX10_hole_8 z834 (fun c1 => absurd c1 (z525)) (fun _ => ?_)
  refine lv_iload_n hx hb dX10_hole_11 rfl (lv_at hl 2 rfl) ?_
  refine lv_iconst (v := (-1)) hx hb dX10_hole_12 z128 ?_
  refine lv_icmp_eq (tgt := 29) hx hb dX10_hole_13 z835 (fun _ => ?_) (fun c1 => absurd (rfl) c1)
  refine lv_iload_n hx hb dX10_hole_29 rfl (lv_at hl 1 rfl) ?_
  refine lv_iconst (v := 4) hx hb dX10_hole_30 z77 ?_
  refine lv_imul hx hb dX10_hole_31 ?_
  refine tpi z673 ?_
  refine lv_istore_n (lv' := [(3, .int 0), (0, .ref (r 0)), (1, .int 0), (2, .int (-1))]) hx hb dX10_hole_32 rfl hl (nlt rfl) rfl (fun ls hl => ?_)
  refine lv_aload_n hx hb dX10_hole_33 rfl (lv_at hl 1 rfl) ?_
  refine lv_aload_n hx hb dX10_hole_34 rfl (lv_at hl 1 rfl) ?_
  refine va_get (D := (dC, dI)) (ci := 10) (v := .int 0) (C := RX10) (T := TX10) (N := 18) hx hb hts i10 hown hK hP 0 rfl rfl 13 (nlt rfl) w2 (fun _ h9 => h9) rfl dX10_hole_35 ?_
  refine lv_bipush (v := 15) hx hb dX10_hole_38 z675 ?_
  refine lv_iload_n hx hb dX10_hole_40 rfl (lv_at hl 0 rfl) ?_
  refine lv_ishl hx hb dX10_hole_41 ?_
  refine tpi z839 ?_
  refine lv_iconst (v := (-1)) hx hb dX10_hole_42 z128 ?_
  refine lv_ixor hx hb dX10_hole_43 ?_
  refine tpi z840 ?_
  refine lv_iand hx hb dX10_hole_44 ?_
  refine tpi z841 ?_
  refine lv_iload_n hx hb dX10_hole_45 rfl (lv_at hl 3 rfl) ?_
  refine lv_iconst (v := 1) hx hb dX10_hole_46 z39 ?_
  refine lv_iadd hx hb dX10_hole_47 ?_
  refine tpi z842 ?_
  refine lv_iload_n hx hb dX10_hole_48 rfl (lv_at hl 0 rfl) ?_
  refine lv_ishl hx hb dX10_hole_49 ?_
  refine tpi z843 ?_
  refine lv_ior hx hb dX10_hole_50 ?_
  refine tpi z844 ?_
  refine va_put (D := (dC, dI)) (ci := 10) (v := .int 0) (ty := tyX10 13) (C := RX10) (T := TX10) (N := 18) hx hb hts i10 tyX10 tyX10_ok nmX10 hown hK hP hD hS 0 rfl rfl 13 (nlt rfl) w2 (fun _ h9 => h9) rfl (tyX10_ok 13 (nlt rfl)) rfl rfl (nlt rfl) dX10_hole_51 (fun H locs hP hD hS => ?_)
  refine lv_iconst (v := 1) hx hb dX10_hole_54 z39 ?_
  refine W.widen (k := 0) (n := 0) (by decide +kernel) (by decide +kernel) ?_
  exact ret_z hx hb hr rfl hlocks hS (u := (fun _ => 0)) (hP.sub [] rfl) (hD.sub [] (by decide +kernel) rfl) dX10_hole_55

set_option maxHeartbeats 4000000 in
set_option maxRecDepth 100000 in
theorem k305_X11_hole (l : Launch) (dC : Nat → ClassId) (dI : Nat → Nat → Nat) (cB cI cJ cZ cO : ClassId) (n : Nat → Nat) : CI l yX11_hole wsX11_hole ({ frames := 2, cells := 0, slots := 0, locals := 43 }) (dC, dI) (tyL cB cI cJ cZ cO) [.ref (n 0), .int 0, .int (-1)] [((n 0), .inr (11, fM n)), ((n 7), .inl (cI, 2, .inl (upd (fun _ => 0) 0 3))), ((n 28), .inl (cI, 6, .inl (upd (upd (upd (upd (upd (upd (fun _ => 0) 0 (-1)) 1 (-1)) 2 (-1)) 3 (-1)) 4 (-1)) 5 (-1))))] (fun _ => []) 1 := by
  intro sz
  refine ct_open (cc := cX11_hole) (maxL := 3) (ret := (some .boolean)) (by decide) rfl (Nat.le_of_ble_eq_true rfl) ?_
  intro p e s m below meth c ls A hx hb hr hml hts hown hlocks hin hP hK hD hA hS hl
  have hl : lv_has ls 3 [(0, .ref (n 0)), (1, .int 0), (2, .int (-1))] := hl
  have hown : s.vm.findClass RX11 = some m.cls := hown
  have i11 : ∀ w ∈ u_ws RX11 TX11 71, w ∈ wsX11_hole := fun _ h => List.mem_cons_of_mem _ (List.mem_append_right _ h)
  have w1 := hts (.fieldLink RX11 98 "GuildCharterModel" "holes" "[I") (List.mem_cons_of_mem _ (List.mem_append_left _ (List.mem_of_getElem? (i := 0) rfl)))
  refine lv_aload_n hx hb dX11_hole_0 rfl (lv_at hl 0 rfl) ?_
  refine lv_iload_n hx hb dX11_hole_1 rfl (lv_at hl 1 rfl) ?_
  refine call_iV (ci := 11) (As := [.int 0]) (rest := []) (wr := [((n 28), .inl (cI, 6, .inl (upd (upd (upd (upd (upd (upd (fun _ => 0) 0 (-1)) 1 (-1)) 2 (-1)) 3 (-1)) 4 (-1)) 5 (-1))))]) ⟨hx, hb, hml, hown, hts⟩ (k99_X11_isPlace l dC dI cB cI cJ cZ cO n) (cwV 1 hts gX11_hole_X11_isPlace rfl rfl rfl ⟨rfl, z599⟩ ⟨Nat.le_of_ble_eq_true rfl, Nat.le_of_ble_eq_true rfl⟩) hK hP hD hS hA [0, 1] [2] rfl rfl (by decide +kernel) (by decide +kernel) (by decide +kernel) rfl rfl rfl hl.1 (Nat.le_of_ble_eq_true rfl) rfl rfl dX11_hole_2 ⟨by decide +kernel, by decide +kernel⟩ (fun u0 H locs hP hD hS => ?_)
  refine lv_if_eq (tgt := 21) hx hb dX11_hole_5 z552 (fun c1 => absurd c1 (z525)) (fun _ => ?_)
  refine lv_iload_n hx hb dX11_hole_8 rfl (lv_at hl 2 rfl) ?_
  refine lv_iconst (v := (-1)) hx hb dX11_hole_9 z128 ?_
  refine lv_icmp_eq (tgt := 23) hx hb dX11_hole_10 z837 (fun _ => ?_) (fun c1 => absurd (rfl) c1)
  refine lv_aload_n hx hb dX11_hole_23 rfl (lv_at hl 0 rfl) ?_
  refine va_get (D := (dC, dI)) (ci := 11) (v := .ref (n 28)) (C := RX11) (T := TX11) (N := 71) hx hb hts i11 hown hK hP 1 rfl rfl 38 (nlt rfl) w1 (fun _ h9 => h9) rfl dX11_hole_24 ?_
  refine lv_iload_n hx hb dX11_hole_27 rfl (lv_at hl 1 rfl) ?_
  refine lv_iload_n hx hb dX11_hole_28 rfl (lv_at hl 2 rfl) ?_
  refine my_iastS hx hb hK hP hD hS 0 1 rfl rfl z38 rfl dX11_hole_29 (fun H locs hP hD hS => ?_)
  refine lv_iconst (v := 1) hx hb dX11_hole_30 z39 ?_
  refine W.widen (k := 0) (n := 0) (by decide +kernel) (by decide +kernel) ?_
  exact ret_z hx hb hr rfl hlocks hS (u := (fun _ => 0)) (hP.sub [] rfl) (hD.sub [] (by decide +kernel) rfl) dX11_hole_31

set_option maxHeartbeats 4000000 in
set_option maxRecDepth 100000 in
theorem k306_X10_hole (l : Launch) (dC : Nat → ClassId) (dI : Nat → Nat → Nat) (cB cI cJ cZ cO : ClassId) (r : Nat → Nat) (x2 : Int32) (h0 : ¬ x2 = (-1)) (h1 : ¬ x2 < 0) (h2 : 0 ≤ x2) : CI l yX10_hole wsX10_hole ({ frames := 1, cells := 0, slots := 0, locals := 21 }) (dC, dI) (tyL cB cI cJ cZ cO) [.ref (r 0), .int 0, .int x2] [((r 0), .inr (10, fX r)), ((r 18), .inr (4, [.int 0, .ref (r 19), .ref (r 20), .int 0, .ref (r 21), .ref (r 22), .int 0, .ref (r 23), .ref (r 24), .int 0, .ref (r 25), .ref (r 26), .int 3, .int 0, .int 0, .ref (r 27)]))] (fun _ => []) 0 := by
  intro sz
  refine ct_open (cc := cX10_hole) (maxL := 4) (ret := (some .boolean)) (by decide) rfl (Nat.le_of_ble_eq_true rfl) ?_
  intro p e s m below meth c ls A hx hb hr hml hts hown hlocks hin hP hK hD hA hS hl
  have hl : lv_has ls 4 [(0, .ref (r 0)), (1, .int 0), (2, .int x2)] := hl
  have hown : s.vm.findClass RX10 = some m.cls := hown
  have i10 : ∀ w ∈ u_ws RX10 TX10 18, w ∈ wsX10_hole := fun _ h => List.mem_cons_of_mem _ (List.mem_append_left _ (List.mem_append_right _ h))
  have w1 := hts (.fieldLink RX10 23 "GuildCharter" "told" "LGuildCharter$Port;") (List.mem_cons_of_mem _ (List.mem_append_left _ (List.mem_append_left _ (List.mem_of_getElem? (i := 0) rfl))))
  refine lv_aload_n hx hb dX10_hole_0 rfl (lv_at hl 0 rfl) ?_
  refine va_get (D := (dC, dI)) (ci := 10) (v := .ref (r 18)) (C := RX10) (T := TX10) (N := 18) hx hb hts i10 hown hK hP 0 rfl rfl 3 (nlt rfl) w1 (fun _ h9 => h9) rfl dX10_hole_1 ?_
  refine lv_iload_n hx hb dX10_hole_4 rfl (lv_at hl 1 rfl) ?_
  refine call_iV (ci := 4) (As := [.int 0]) (rest := []) (wr := [((r 0), .inr (10, fX r))]) ⟨hx, hb, hml, hown, hts⟩ (k94_X4_hasPlace l dC dI cB cI cJ cZ cO r) (cwV 1 hts gX10_hole_X4_hasPlace rfl rfl rfl ⟨rfl, z595⟩ ⟨Nat.le_of_ble_eq_true rfl, Nat.le_of_ble_eq_true rfl⟩) hK hP hD hS hA [1] [0] rfl rfl (by decide +kernel) (by decide +kernel) (by decide +kernel) rfl rfl rfl hl.1 (Nat.le_of_ble_eq_true rfl) rfl rfl dX10_hole_5 ⟨by decide +kernel, by decide +kernel⟩ (fun u0 H locs hP hD hS => ?_)
  refine lv_if_eq (tgt := 27) hx hb dX10_hole_8 z834 (fun c1 => absurd c1 (z525)) (fun _ => ?_)
  refine lv_iload_n hx hb dX10_hole_11 rfl (lv_at hl 2 rfl) ?_
  refine lv_iconst (v := (-1)) hx hb dX10_hole_12 z128 ?_
  refine lv_icmp_eq (tgt := 29) hx hb dX10_hole_13 z835 (fun c1 => absurd c1 (h0)) (fun _ => ?_)
  refine lv_aload_n hx hb dX10_hole_16 rfl (lv_at hl 0 rfl) ?_
  refine va_get (D := (dC, dI)) (ci := 10) (v := .ref (r 18)) (C := RX10) (T := TX10) (N := 18) hx hb hts i10 hown hK hP 0 rfl rfl 3 (nlt rfl) w1 (fun _ h9 => h9) rfl dX10_hole_17 ?_
  refine lv_iload_n hx hb dX10_hole_20 rfl (lv_at hl 2 rfl) ?_
  refine call_iV (ci := 4) (As := [.int x2]) (rest := []) (wr := [((r 0), .inr (10, fX r))]) ⟨hx, hb, hml, hown, hts⟩ (k274_X4_hasWord l dC dI cB cI cJ cZ cO r x2 h1 h2) (cwV 1 hts gX10_hole_X4_hasWord rfl rfl rfl ⟨rfl, z584⟩ ⟨Nat.le_of_ble_eq_true rfl, Nat.le_of_ble_eq_true rfl⟩) hK hP hD hS hA [1] [0] rfl rfl (by decide +kernel) (by decide +kernel) (by decide +kernel) rfl rfl rfl hl.1 (Nat.le_of_ble_eq_true rfl) rfl rfl dX10_hole_21 ⟨by decide +kernel, by decide +kernel⟩ (fun u1 H locs hP hD hS => ?_)
  refine lv_if_ne (tgt := 29) hx hb dX10_hole_24 z836 (fun c1 => absurd (rfl) c1) (fun _ => ?_)
  refine lv_iconst (v := 0) hx hb dX10_hole_27 z8 ?_
  refine W.widen (k := 0) (n := 0) (by decide +kernel) (by decide +kernel) ?_
  exact ret_z hx hb hr rfl hlocks hS (u := (fun _ => 0)) (hP.sub [] rfl) (hD.sub [] (by decide +kernel) rfl) dX10_hole_28

set_option maxHeartbeats 4000000 in
set_option maxRecDepth 100000 in
theorem k307_X11_hole (l : Launch) (dC : Nat → ClassId) (dI : Nat → Nat → Nat) (cB cI cJ cZ cO : ClassId) (n : Nat → Nat) (x2 : Int32) (h0 : ¬ x2 = (-1)) (h1 : ¬ x2 < 0) (h2 : (-1) < x2) : CI l yX11_hole wsX11_hole ({ frames := 2, cells := 0, slots := 0, locals := 43 }) (dC, dI) (tyL cB cI cJ cZ cO) [.ref (n 0), .int 0, .int x2] [((n 0), .inr (11, fM n)), ((n 7), .inl (cI, 2, .inl (upd (fun _ => 0) 0 3))), ((n 3), .inl (cI, 2, .inl (fun _ => 0)))] (fun _ => []) 0 := by
  intro sz
  refine ct_open (cc := cX11_hole) (maxL := 3) (ret := (some .boolean)) (by decide) rfl (Nat.le_of_ble_eq_true rfl) ?_
  intro p e s m below meth c ls A hx hb hr hml hts hown hlocks hin hP hK hD hA hS hl
  have hl : lv_has ls 3 [(0, .ref (n 0)), (1, .int 0), (2, .int x2)] := hl
  have hown : s.vm.findClass RX11 = some m.cls := hown
  refine lv_aload_n hx hb dX11_hole_0 rfl (lv_at hl 0 rfl) ?_
  refine lv_iload_n hx hb dX11_hole_1 rfl (lv_at hl 1 rfl) ?_
  refine call_iV (ci := 11) (As := [.int 0]) (rest := []) (wr := [((n 3), .inl (cI, 2, .inl (fun _ => 0)))]) ⟨hx, hb, hml, hown, hts⟩ (k99_X11_isPlace l dC dI cB cI cJ cZ cO n) (cwV 1 hts gX11_hole_X11_isPlace rfl rfl rfl ⟨rfl, z599⟩ ⟨Nat.le_of_ble_eq_true rfl, Nat.le_of_ble_eq_true rfl⟩) hK hP hD hS hA [0, 1] [2] rfl rfl (by decide +kernel) (by decide +kernel) (by decide +kernel) rfl rfl rfl hl.1 (Nat.le_of_ble_eq_true rfl) rfl rfl dX11_hole_2 ⟨by decide +kernel, by decide +kernel⟩ (fun u0 H locs hP hD hS => ?_)
  refine lv_if_eq (tgt := 21) hx hb dX11_hole_5 z552 (fun c1 => absurd c1 (z525)) (fun _ => ?_)
  refine lv_iload_n hx hb dX11_hole_8 rfl (lv_at hl 2 rfl) ?_
  refine lv_iconst (v := (-1)) hx hb dX11_hole_9 z128 ?_
  refine lv_icmp_eq (tgt := 23) hx hb dX11_hole_10 z837 (fun c1 => absurd c1 (h0)) (fun _ => ?_)
  refine lv_aload_n hx hb dX11_hole_13 rfl (lv_at hl 0 rfl) ?_
  refine lv_iload_n hx hb dX11_hole_14 rfl (lv_at hl 2 rfl) ?_
  refine call_iV (ci := 11) (As := [.int x2]) (rest := []) (wr := [((n 7), .inl (cI, 2, .inl (upd (fun _ => 0) 0 3)))]) ⟨hx, hb, hml, hown, hts⟩ (k277_X11_isWordOf l dC dI cB cI cJ cZ cO n x2 h1 h2) (cwV 1 hts gX11_hole_X11_isWordOf rfl rfl rfl ⟨rfl, z589⟩ ⟨Nat.le_of_ble_eq_true rfl, Nat.le_of_ble_eq_true rfl⟩) hK hP hD hS hA [1, 0] [2] rfl rfl (by decide +kernel) (by decide +kernel) (by decide +kernel) rfl rfl rfl hl.1 (Nat.le_of_ble_eq_true rfl) rfl rfl dX11_hole_15 ⟨by decide +kernel, by decide +kernel⟩ (fun u1 H locs hP hD hS => ?_)
  refine lv_if_ne (tgt := 23) hx hb dX11_hole_18 z838 (fun c1 => absurd (rfl) c1) (fun _ => ?_)
  refine lv_iconst (v := 0) hx hb dX11_hole_21 z8 ?_
  refine W.widen (k := 0) (n := 0) (by decide +kernel) (by decide +kernel) ?_
  exact ret_z hx hb hr rfl hlocks hS (u := (fun _ => 0)) (hP.sub [] rfl) (hD.sub [] (by decide +kernel) rfl) dX11_hole_22

set_option maxHeartbeats 4000000 in
set_option maxRecDepth 100000 in
theorem k308_X10_hole (l : Launch) (dC : Nat → ClassId) (dI : Nat → Nat → Nat) (cB cI cJ cZ cO : ClassId) (r : Nat → Nat) (x2 : Int32) (h0 : ¬ x2 = (-1)) (h1 : x2 < 0) : CI l yX10_hole wsX10_hole ({ frames := 1, cells := 0, slots := 0, locals := 21 }) (dC, dI) (tyL cB cI cJ cZ cO) [.ref (r 0), .int 1, .int x2] [((r 0), .inr (10, fX r)), ((r 18), .inr (4, [.int 0, .ref (r 19), .ref (r 20), .int 0, .ref (r 21), .ref (r 22), .int 0, .ref (r 23), .ref (r 24), .int 0, .ref (r 25), .ref (r 26), .int 3, .int 0, .int 0, .ref (r 27)]))] (fun _ => []) 0 := by
  intro sz
  refine ct_open (cc := cX10_hole) (maxL := 4) (ret := (some .boolean)) (by decide) rfl (Nat.le_of_ble_eq_true rfl) ?_
  intro p e s m below meth c ls A hx hb hr hml hts hown hlocks hin hP hK hD hA hS hl
  have hl : lv_has ls 4 [(0, .ref (r 0)), (1, .int 1), (2, .int x2)] := hl
  have hown : s.vm.findClass RX10 = some m.cls := hown
  have i10 : ∀ w ∈ u_ws RX10 TX10 18, w ∈ wsX10_hole := fun _ h => List.mem_cons_of_mem _ (List.mem_append_left _ (List.mem_append_right _ h))
  have w1 := hts (.fieldLink RX10 23 "GuildCharter" "told" "LGuildCharter$Port;") (List.mem_cons_of_mem _ (List.mem_append_left _ (List.mem_append_left _ (List.mem_of_getElem? (i := 0) rfl))))
  refine lv_aload_n hx hb dX10_hole_0 rfl (lv_at hl 0 rfl) ?_
  refine va_get (D := (dC, dI)) (ci := 10) (v := .ref (r 18)) (C := RX10) (T := TX10) (N := 18) hx hb hts i10 hown hK hP 0 rfl rfl 3 (nlt rfl) w1 (fun _ h9 => h9) rfl dX10_hole_1 ?_
  refine lv_iload_n hx hb dX10_hole_4 rfl (lv_at hl 1 rfl) ?_
  refine call_iV (ci := 4) (As := [.int 1]) (rest := []) (wr := [((r 0), .inr (10, fX r))]) ⟨hx, hb, hml, hown, hts⟩ (k101_X4_hasPlace l dC dI cB cI cJ cZ cO r) (cwV 1 hts gX10_hole_X4_hasPlace rfl rfl rfl ⟨rfl, z595⟩ ⟨Nat.le_of_ble_eq_true rfl, Nat.le_of_ble_eq_true rfl⟩) hK hP hD hS hA [1] [0] rfl rfl (by decide +kernel) (by decide +kernel) (by decide +kernel) rfl rfl rfl hl.1 (Nat.le_of_ble_eq_true rfl) rfl rfl dX10_hole_5 ⟨by decide +kernel, by decide +kernel⟩ (fun u0 H locs hP hD hS => ?_)
  refine lv_if_eq (tgt := 27) hx hb dX10_hole_8 z834 (fun c1 => absurd c1 (z525)) (fun _ => ?_)
  refine lv_iload_n hx hb dX10_hole_11 rfl (lv_at hl 2 rfl) ?_
  refine lv_iconst (v := (-1)) hx hb dX10_hole_12 z128 ?_
  refine lv_icmp_eq (tgt := 29) hx hb dX10_hole_13 z835 (fun c1 => absurd c1 (h0)) (fun _ => ?_)
  refine lv_aload_n hx hb dX10_hole_16 rfl (lv_at hl 0 rfl) ?_
  refine va_get (D := (dC, dI)) (ci := 10) (v := .ref (r 18)) (C := RX10) (T := TX10) (N := 18) hx hb hts i10 hown hK hP 0 rfl rfl 3 (nlt rfl) w1 (fun _ h9 => h9) rfl dX10_hole_17 ?_
  refine lv_iload_n hx hb dX10_hole_20 rfl (lv_at hl 2 rfl) ?_
  refine call_iV (ci := 4) (As := [.int x2]) (rest := []) (wr := [((r 0), .inr (10, fX r))]) ⟨hx, hb, hml, hown, hts⟩ (k269_X4_hasWord l dC dI cB cI cJ cZ cO r x2 h1) (cwV 1 hts gX10_hole_X4_hasWord rfl rfl rfl ⟨rfl, z584⟩ ⟨Nat.le_of_ble_eq_true rfl, Nat.le_of_ble_eq_true rfl⟩) hK hP hD hS hA [1] [0] rfl rfl (by decide +kernel) (by decide +kernel) (by decide +kernel) rfl rfl rfl hl.1 (Nat.le_of_ble_eq_true rfl) rfl rfl dX10_hole_21 ⟨by decide +kernel, by decide +kernel⟩ (fun u1 H locs hP hD hS => ?_)
  refine lv_if_ne (tgt := 29) hx hb dX10_hole_24 z836 (fun c1 => absurd (rfl) c1) (fun _ => ?_)
  refine lv_iconst (v := 0) hx hb dX10_hole_27 z8 ?_
  refine W.widen (k := 0) (n := 0) (by decide +kernel) (by decide +kernel) ?_
  exact ret_z hx hb hr rfl hlocks hS (u := (fun _ => 0)) (hP.sub [] rfl) (hD.sub [] (by decide +kernel) rfl) dX10_hole_28

set_option maxHeartbeats 4000000 in
set_option maxRecDepth 100000 in
theorem k309_X11_hole (l : Launch) (dC : Nat → ClassId) (dI : Nat → Nat → Nat) (cB cI cJ cZ cO : ClassId) (n : Nat → Nat) (x2 : Int32) (h0 : ¬ x2 = (-1)) (h1 : x2 < 0) : CI l yX11_hole wsX11_hole ({ frames := 2, cells := 0, slots := 0, locals := 43 }) (dC, dI) (tyL cB cI cJ cZ cO) [.ref (n 0), .int 1, .int x2] [((n 0), .inr (11, fM n)), ((n 7), .inl (cI, 2, .inl (upd (fun _ => 0) 0 3))), ((n 3), .inl (cI, 2, .inl (fun _ => 0)))] (fun _ => []) 0 := by
  intro sz
  refine ct_open (cc := cX11_hole) (maxL := 3) (ret := (some .boolean)) (by decide) rfl (Nat.le_of_ble_eq_true rfl) ?_
  intro p e s m below meth c ls A hx hb hr hml hts hown hlocks hin hP hK hD hA hS hl
  have hl : lv_has ls 3 [(0, .ref (n 0)), (1, .int 1), (2, .int x2)] := hl
  have hown : s.vm.findClass RX11 = some m.cls := hown
  refine lv_aload_n hx hb dX11_hole_0 rfl (lv_at hl 0 rfl) ?_
  refine lv_iload_n hx hb dX11_hole_1 rfl (lv_at hl 1 rfl) ?_
  refine call_iV (ci := 11) (As := [.int 1]) (rest := []) (wr := [((n 3), .inl (cI, 2, .inl (fun _ => 0)))]) ⟨hx, hb, hml, hown, hts⟩ (k106_X11_isPlace l dC dI cB cI cJ cZ cO n) (cwV 1 hts gX11_hole_X11_isPlace rfl rfl rfl ⟨rfl, z599⟩ ⟨Nat.le_of_ble_eq_true rfl, Nat.le_of_ble_eq_true rfl⟩) hK hP hD hS hA [0, 1] [2] rfl rfl (by decide +kernel) (by decide +kernel) (by decide +kernel) rfl rfl rfl hl.1 (Nat.le_of_ble_eq_true rfl) rfl rfl dX11_hole_2 ⟨by decide +kernel, by decide +kernel⟩ (fun u0 H locs hP hD hS => ?_)
  refine lv_if_eq (tgt := 21) hx hb dX11_hole_5 z552 (fun c1 => absurd c1 (z525)) (fun _ => ?_)
  refine lv_iload_n hx hb dX11_hole_8 rfl (lv_at hl 2 rfl) ?_
  refine lv_iconst (v := (-1)) hx hb dX11_hole_9 z128 ?_
  refine lv_icmp_eq (tgt := 23) hx hb dX11_hole_10 z837 (fun c1 => absurd c1 (h0)) (fun _ => ?_)
  refine lv_aload_n hx hb dX11_hole_13 rfl (lv_at hl 0 rfl) ?_
  refine lv_iload_n hx hb dX11_hole_14 rfl (lv_at hl 2 rfl) ?_
  refine call_iV (ci := 11) (As := [.int x2]) (rest := []) (wr := [((n 7), .inl (cI, 2, .inl (upd (fun _ => 0) 0 3)))]) ⟨hx, hb, hml, hown, hts⟩ (k272_X11_isWordOf l dC dI cB cI cJ cZ cO n x2 h1) (cwV 1 hts gX11_hole_X11_isWordOf rfl rfl rfl ⟨rfl, z589⟩ ⟨Nat.le_of_ble_eq_true rfl, Nat.le_of_ble_eq_true rfl⟩) hK hP hD hS hA [1, 0] [2] rfl rfl (by decide +kernel) (by decide +kernel) (by decide +kernel) rfl rfl rfl hl.1 (Nat.le_of_ble_eq_true rfl) rfl rfl dX11_hole_15 ⟨by decide +kernel, by decide +kernel⟩ (fun u1 H locs hP hD hS => ?_)
  refine lv_if_ne (tgt := 23) hx hb dX11_hole_18 z838 (fun c1 => absurd (rfl) c1) (fun _ => ?_)
  refine lv_iconst (v := 0) hx hb dX11_hole_21 z8 ?_
  refine W.widen (k := 0) (n := 0) (by decide +kernel) (by decide +kernel) ?_
  exact ret_z hx hb hr rfl hlocks hS (u := (fun _ => 0)) (hP.sub [] rfl) (hD.sub [] (by decide +kernel) rfl) dX11_hole_22

set_option maxHeartbeats 4000000 in
set_option maxRecDepth 100000 in
theorem k310_X10_hole (l : Launch) (dC : Nat → ClassId) (dI : Nat → Nat → Nat) (cB cI cJ cZ cO : ClassId) (r : Nat → Nat) : CI l yX10_hole wsX10_hole ({ frames := 1, cells := 0, slots := 0, locals := 21 }) (dC, dI) (tyL cB cI cJ cZ cO) [.ref (r 0), .int 1, .int (-1)] [((r 0), .inr (10, fX r)), ((r 18), .inr (4, [.int 0, .ref (r 19), .ref (r 20), .int 0, .ref (r 21), .ref (r 22), .int 0, .ref (r 23), .ref (r 24), .int 0, .ref (r 25), .ref (r 26), .int 3, .int 0, .int 0, .ref (r 27)]))] (fun _ => []) 1 := by
  intro sz
  refine ct_open (cc := cX10_hole) (maxL := 4) (ret := (some .boolean)) (by decide) rfl (Nat.le_of_ble_eq_true rfl) ?_
  intro p e s m below meth c ls A hx hb hr hml hts hown hlocks hin hP hK hD hA hS hl
  have hl : lv_has ls 4 [(0, .ref (r 0)), (1, .int 1), (2, .int (-1))] := hl
  have hown : s.vm.findClass RX10 = some m.cls := hown
  have i10 : ∀ w ∈ u_ws RX10 TX10 18, w ∈ wsX10_hole := fun _ h => List.mem_cons_of_mem _ (List.mem_append_left _ (List.mem_append_right _ h))
  have w1 := hts (.fieldLink RX10 23 "GuildCharter" "told" "LGuildCharter$Port;") (List.mem_cons_of_mem _ (List.mem_append_left _ (List.mem_append_left _ (List.mem_of_getElem? (i := 0) rfl))))
  have w2 := hts (.fieldLink RX10 122 "GuildCharter" "holes" "I") (List.mem_cons_of_mem _ (List.mem_append_left _ (List.mem_append_left _ (List.mem_of_getElem? (i := 1) rfl))))
  refine lv_aload_n hx hb dX10_hole_0 rfl (lv_at hl 0 rfl) ?_
  refine va_get (D := (dC, dI)) (ci := 10) (v := .ref (r 18)) (C := RX10) (T := TX10) (N := 18) hx hb hts i10 hown hK hP 0 rfl rfl 3 (nlt rfl) w1 (fun _ h9 => h9) rfl dX10_hole_1 ?_
  refine lv_iload_n hx hb dX10_hole_4 rfl (lv_at hl 1 rfl) ?_
  refine call_iV (ci := 4) (As := [.int 1]) (rest := []) (wr := [((r 0), .inr (10, fX r))]) ⟨hx, hb, hml, hown, hts⟩ (k101_X4_hasPlace l dC dI cB cI cJ cZ cO r) (cwV 1 hts gX10_hole_X4_hasPlace rfl rfl rfl ⟨rfl, z595⟩ ⟨Nat.le_of_ble_eq_true rfl, Nat.le_of_ble_eq_true rfl⟩) hK hP hD hS hA [1] [0] rfl rfl (by decide +kernel) (by decide +kernel) (by decide +kernel) rfl rfl rfl hl.1 (Nat.le_of_ble_eq_true rfl) rfl rfl dX10_hole_5 ⟨by decide +kernel, by decide +kernel⟩ (fun u0 H locs hP hD hS => ?_)
  refine lv_if_eq (tgt := 27) hx hb dX10_hole_8 z834 (fun c1 => absurd c1 (z525)) (fun _ => ?_)
  refine lv_iload_n hx hb dX10_hole_11 rfl (lv_at hl 2 rfl) ?_
  refine lv_iconst (v := (-1)) hx hb dX10_hole_12 z128 ?_
  refine lv_icmp_eq (tgt := 29) hx hb dX10_hole_13 z835 (fun _ => ?_) (fun c1 => absurd (rfl) c1)
  refine lv_iload_n hx hb dX10_hole_29 rfl (lv_at hl 1 rfl) ?_
  refine lv_iconst (v := 4) hx hb dX10_hole_30 z77 ?_
  refine lv_imul hx hb dX10_hole_31 ?_
  refine tpi z845 ?_
  refine lv_istore_n (lv' := [(3, .int 4), (0, .ref (r 0)), (1, .int 1), (2, .int (-1))]) hx hb dX10_hole_32 rfl hl (nlt rfl) rfl (fun ls hl => ?_)
  refine lv_aload_n hx hb dX10_hole_33 rfl (lv_at hl 1 rfl) ?_
  refine lv_aload_n hx hb dX10_hole_34 rfl (lv_at hl 1 rfl) ?_
  refine va_get (D := (dC, dI)) (ci := 10) (v := .int 0) (C := RX10) (T := TX10) (N := 18) hx hb hts i10 hown hK hP 0 rfl rfl 13 (nlt rfl) w2 (fun _ h9 => h9) rfl dX10_hole_35 ?_
  refine lv_bipush (v := 15) hx hb dX10_hole_38 z675 ?_
  refine lv_iload_n hx hb dX10_hole_40 rfl (lv_at hl 0 rfl) ?_
  refine lv_ishl hx hb dX10_hole_41 ?_
  refine tpi z846 ?_
  refine lv_iconst (v := (-1)) hx hb dX10_hole_42 z128 ?_
  refine lv_ixor hx hb dX10_hole_43 ?_
  refine tpi z847 ?_
  refine lv_iand hx hb dX10_hole_44 ?_
  refine tpi z848 ?_
  refine lv_iload_n hx hb dX10_hole_45 rfl (lv_at hl 3 rfl) ?_
  refine lv_iconst (v := 1) hx hb dX10_hole_46 z39 ?_
  refine lv_iadd hx hb dX10_hole_47 ?_
  refine tpi z842 ?_
  refine lv_iload_n hx hb dX10_hole_48 rfl (lv_at hl 0 rfl) ?_
  refine lv_ishl hx hb dX10_hole_49 ?_
  refine tpi z849 ?_
  refine lv_ior hx hb dX10_hole_50 ?_
  refine tpi z844 ?_
  refine va_put (D := (dC, dI)) (ci := 10) (v := .int 0) (ty := tyX10 13) (C := RX10) (T := TX10) (N := 18) hx hb hts i10 tyX10 tyX10_ok nmX10 hown hK hP hD hS 0 rfl rfl 13 (nlt rfl) w2 (fun _ h9 => h9) rfl (tyX10_ok 13 (nlt rfl)) rfl rfl (nlt rfl) dX10_hole_51 (fun H locs hP hD hS => ?_)
  refine lv_iconst (v := 1) hx hb dX10_hole_54 z39 ?_
  refine W.widen (k := 0) (n := 0) (by decide +kernel) (by decide +kernel) ?_
  exact ret_z hx hb hr rfl hlocks hS (u := (fun _ => 0)) (hP.sub [] rfl) (hD.sub [] (by decide +kernel) rfl) dX10_hole_55

set_option maxHeartbeats 4000000 in
set_option maxRecDepth 100000 in
theorem k311_X11_hole (l : Launch) (dC : Nat → ClassId) (dI : Nat → Nat → Nat) (cB cI cJ cZ cO : ClassId) (n : Nat → Nat) : CI l yX11_hole wsX11_hole ({ frames := 2, cells := 0, slots := 0, locals := 43 }) (dC, dI) (tyL cB cI cJ cZ cO) [.ref (n 0), .int 1, .int (-1)] [((n 0), .inr (11, fM n)), ((n 7), .inl (cI, 2, .inl (upd (fun _ => 0) 0 3))), ((n 28), .inl (cI, 6, .inl (upd (upd (upd (upd (upd (upd (fun _ => 0) 0 (-1)) 1 (-1)) 2 (-1)) 3 (-1)) 4 (-1)) 5 (-1))))] (fun _ => []) 1 := by
  intro sz
  refine ct_open (cc := cX11_hole) (maxL := 3) (ret := (some .boolean)) (by decide) rfl (Nat.le_of_ble_eq_true rfl) ?_
  intro p e s m below meth c ls A hx hb hr hml hts hown hlocks hin hP hK hD hA hS hl
  have hl : lv_has ls 3 [(0, .ref (n 0)), (1, .int 1), (2, .int (-1))] := hl
  have hown : s.vm.findClass RX11 = some m.cls := hown
  have i11 : ∀ w ∈ u_ws RX11 TX11 71, w ∈ wsX11_hole := fun _ h => List.mem_cons_of_mem _ (List.mem_append_right _ h)
  have w1 := hts (.fieldLink RX11 98 "GuildCharterModel" "holes" "[I") (List.mem_cons_of_mem _ (List.mem_append_left _ (List.mem_of_getElem? (i := 0) rfl)))
  refine lv_aload_n hx hb dX11_hole_0 rfl (lv_at hl 0 rfl) ?_
  refine lv_iload_n hx hb dX11_hole_1 rfl (lv_at hl 1 rfl) ?_
  refine call_iV (ci := 11) (As := [.int 1]) (rest := []) (wr := [((n 28), .inl (cI, 6, .inl (upd (upd (upd (upd (upd (upd (fun _ => 0) 0 (-1)) 1 (-1)) 2 (-1)) 3 (-1)) 4 (-1)) 5 (-1))))]) ⟨hx, hb, hml, hown, hts⟩ (k106_X11_isPlace l dC dI cB cI cJ cZ cO n) (cwV 1 hts gX11_hole_X11_isPlace rfl rfl rfl ⟨rfl, z599⟩ ⟨Nat.le_of_ble_eq_true rfl, Nat.le_of_ble_eq_true rfl⟩) hK hP hD hS hA [0, 1] [2] rfl rfl (by decide +kernel) (by decide +kernel) (by decide +kernel) rfl rfl rfl hl.1 (Nat.le_of_ble_eq_true rfl) rfl rfl dX11_hole_2 ⟨by decide +kernel, by decide +kernel⟩ (fun u0 H locs hP hD hS => ?_)
  refine lv_if_eq (tgt := 21) hx hb dX11_hole_5 z552 (fun c1 => absurd c1 (z525)) (fun _ => ?_)
  refine lv_iload_n hx hb dX11_hole_8 rfl (lv_at hl 2 rfl) ?_
  refine lv_iconst (v := (-1)) hx hb dX11_hole_9 z128 ?_
  refine lv_icmp_eq (tgt := 23) hx hb dX11_hole_10 z837 (fun _ => ?_) (fun c1 => absurd (rfl) c1)
  refine lv_aload_n hx hb dX11_hole_23 rfl (lv_at hl 0 rfl) ?_
  refine va_get (D := (dC, dI)) (ci := 11) (v := .ref (n 28)) (C := RX11) (T := TX11) (N := 71) hx hb hts i11 hown hK hP 1 rfl rfl 38 (nlt rfl) w1 (fun _ h9 => h9) rfl dX11_hole_24 ?_
  refine lv_iload_n hx hb dX11_hole_27 rfl (lv_at hl 1 rfl) ?_
  refine lv_iload_n hx hb dX11_hole_28 rfl (lv_at hl 2 rfl) ?_
  refine my_iastS hx hb hK hP hD hS 0 1 rfl rfl z53 rfl dX11_hole_29 (fun H locs hP hD hS => ?_)
  refine lv_iconst (v := 1) hx hb dX11_hole_30 z39 ?_
  refine W.widen (k := 0) (n := 0) (by decide +kernel) (by decide +kernel) ?_
  exact ret_z hx hb hr rfl hlocks hS (u := (fun _ => 0)) (hP.sub [] rfl) (hD.sub [] (by decide +kernel) rfl) dX11_hole_31

set_option maxHeartbeats 4000000 in
set_option maxRecDepth 100000 in
theorem k312_X10_hole (l : Launch) (dC : Nat → ClassId) (dI : Nat → Nat → Nat) (cB cI cJ cZ cO : ClassId) (r : Nat → Nat) (x2 : Int32) (h0 : ¬ x2 = (-1)) (h1 : ¬ x2 < 0) (h2 : 0 ≤ x2) : CI l yX10_hole wsX10_hole ({ frames := 1, cells := 0, slots := 0, locals := 21 }) (dC, dI) (tyL cB cI cJ cZ cO) [.ref (r 0), .int 1, .int x2] [((r 0), .inr (10, fX r)), ((r 18), .inr (4, [.int 0, .ref (r 19), .ref (r 20), .int 0, .ref (r 21), .ref (r 22), .int 0, .ref (r 23), .ref (r 24), .int 0, .ref (r 25), .ref (r 26), .int 3, .int 0, .int 0, .ref (r 27)]))] (fun _ => []) 0 := by
  intro sz
  refine ct_open (cc := cX10_hole) (maxL := 4) (ret := (some .boolean)) (by decide) rfl (Nat.le_of_ble_eq_true rfl) ?_
  intro p e s m below meth c ls A hx hb hr hml hts hown hlocks hin hP hK hD hA hS hl
  have hl : lv_has ls 4 [(0, .ref (r 0)), (1, .int 1), (2, .int x2)] := hl
  have hown : s.vm.findClass RX10 = some m.cls := hown
  have i10 : ∀ w ∈ u_ws RX10 TX10 18, w ∈ wsX10_hole := fun _ h => List.mem_cons_of_mem _ (List.mem_append_left _ (List.mem_append_right _ h))
  have w1 := hts (.fieldLink RX10 23 "GuildCharter" "told" "LGuildCharter$Port;") (List.mem_cons_of_mem _ (List.mem_append_left _ (List.mem_append_left _ (List.mem_of_getElem? (i := 0) rfl))))
  refine lv_aload_n hx hb dX10_hole_0 rfl (lv_at hl 0 rfl) ?_
  refine va_get (D := (dC, dI)) (ci := 10) (v := .ref (r 18)) (C := RX10) (T := TX10) (N := 18) hx hb hts i10 hown hK hP 0 rfl rfl 3 (nlt rfl) w1 (fun _ h9 => h9) rfl dX10_hole_1 ?_
  refine lv_iload_n hx hb dX10_hole_4 rfl (lv_at hl 1 rfl) ?_
  refine call_iV (ci := 4) (As := [.int 1]) (rest := []) (wr := [((r 0), .inr (10, fX r))]) ⟨hx, hb, hml, hown, hts⟩ (k101_X4_hasPlace l dC dI cB cI cJ cZ cO r) (cwV 1 hts gX10_hole_X4_hasPlace rfl rfl rfl ⟨rfl, z595⟩ ⟨Nat.le_of_ble_eq_true rfl, Nat.le_of_ble_eq_true rfl⟩) hK hP hD hS hA [1] [0] rfl rfl (by decide +kernel) (by decide +kernel) (by decide +kernel) rfl rfl rfl hl.1 (Nat.le_of_ble_eq_true rfl) rfl rfl dX10_hole_5 ⟨by decide +kernel, by decide +kernel⟩ (fun u0 H locs hP hD hS => ?_)
  refine lv_if_eq (tgt := 27) hx hb dX10_hole_8 z834 (fun c1 => absurd c1 (z525)) (fun _ => ?_)
  refine lv_iload_n hx hb dX10_hole_11 rfl (lv_at hl 2 rfl) ?_
  refine lv_iconst (v := (-1)) hx hb dX10_hole_12 z128 ?_
  refine lv_icmp_eq (tgt := 29) hx hb dX10_hole_13 z835 (fun c1 => absurd c1 (h0)) (fun _ => ?_)
  refine lv_aload_n hx hb dX10_hole_16 rfl (lv_at hl 0 rfl) ?_
  refine va_get (D := (dC, dI)) (ci := 10) (v := .ref (r 18)) (C := RX10) (T := TX10) (N := 18) hx hb hts i10 hown hK hP 0 rfl rfl 3 (nlt rfl) w1 (fun _ h9 => h9) rfl dX10_hole_17 ?_
  refine lv_iload_n hx hb dX10_hole_20 rfl (lv_at hl 2 rfl) ?_
  refine call_iV (ci := 4) (As := [.int x2]) (rest := []) (wr := [((r 0), .inr (10, fX r))]) ⟨hx, hb, hml, hown, hts⟩ (k274_X4_hasWord l dC dI cB cI cJ cZ cO r x2 h1 h2) (cwV 1 hts gX10_hole_X4_hasWord rfl rfl rfl ⟨rfl, z584⟩ ⟨Nat.le_of_ble_eq_true rfl, Nat.le_of_ble_eq_true rfl⟩) hK hP hD hS hA [1] [0] rfl rfl (by decide +kernel) (by decide +kernel) (by decide +kernel) rfl rfl rfl hl.1 (Nat.le_of_ble_eq_true rfl) rfl rfl dX10_hole_21 ⟨by decide +kernel, by decide +kernel⟩ (fun u1 H locs hP hD hS => ?_)
  refine lv_if_ne (tgt := 29) hx hb dX10_hole_24 z836 (fun c1 => absurd (rfl) c1) (fun _ => ?_)
  refine lv_iconst (v := 0) hx hb dX10_hole_27 z8 ?_
  refine W.widen (k := 0) (n := 0) (by decide +kernel) (by decide +kernel) ?_
  exact ret_z hx hb hr rfl hlocks hS (u := (fun _ => 0)) (hP.sub [] rfl) (hD.sub [] (by decide +kernel) rfl) dX10_hole_28

set_option maxHeartbeats 4000000 in
set_option maxRecDepth 100000 in
theorem k313_X11_hole (l : Launch) (dC : Nat → ClassId) (dI : Nat → Nat → Nat) (cB cI cJ cZ cO : ClassId) (n : Nat → Nat) (x2 : Int32) (h0 : ¬ x2 = (-1)) (h1 : ¬ x2 < 0) (h2 : (-1) < x2) : CI l yX11_hole wsX11_hole ({ frames := 2, cells := 0, slots := 0, locals := 43 }) (dC, dI) (tyL cB cI cJ cZ cO) [.ref (n 0), .int 1, .int x2] [((n 0), .inr (11, fM n)), ((n 7), .inl (cI, 2, .inl (upd (fun _ => 0) 0 3))), ((n 3), .inl (cI, 2, .inl (fun _ => 0)))] (fun _ => []) 0 := by
  intro sz
  refine ct_open (cc := cX11_hole) (maxL := 3) (ret := (some .boolean)) (by decide) rfl (Nat.le_of_ble_eq_true rfl) ?_
  intro p e s m below meth c ls A hx hb hr hml hts hown hlocks hin hP hK hD hA hS hl
  have hl : lv_has ls 3 [(0, .ref (n 0)), (1, .int 1), (2, .int x2)] := hl
  have hown : s.vm.findClass RX11 = some m.cls := hown
  refine lv_aload_n hx hb dX11_hole_0 rfl (lv_at hl 0 rfl) ?_
  refine lv_iload_n hx hb dX11_hole_1 rfl (lv_at hl 1 rfl) ?_
  refine call_iV (ci := 11) (As := [.int 1]) (rest := []) (wr := [((n 3), .inl (cI, 2, .inl (fun _ => 0)))]) ⟨hx, hb, hml, hown, hts⟩ (k106_X11_isPlace l dC dI cB cI cJ cZ cO n) (cwV 1 hts gX11_hole_X11_isPlace rfl rfl rfl ⟨rfl, z599⟩ ⟨Nat.le_of_ble_eq_true rfl, Nat.le_of_ble_eq_true rfl⟩) hK hP hD hS hA [0, 1] [2] rfl rfl (by decide +kernel) (by decide +kernel) (by decide +kernel) rfl rfl rfl hl.1 (Nat.le_of_ble_eq_true rfl) rfl rfl dX11_hole_2 ⟨by decide +kernel, by decide +kernel⟩ (fun u0 H locs hP hD hS => ?_)
  refine lv_if_eq (tgt := 21) hx hb dX11_hole_5 z552 (fun c1 => absurd c1 (z525)) (fun _ => ?_)
  refine lv_iload_n hx hb dX11_hole_8 rfl (lv_at hl 2 rfl) ?_
  refine lv_iconst (v := (-1)) hx hb dX11_hole_9 z128 ?_
  refine lv_icmp_eq (tgt := 23) hx hb dX11_hole_10 z837 (fun c1 => absurd c1 (h0)) (fun _ => ?_)
  refine lv_aload_n hx hb dX11_hole_13 rfl (lv_at hl 0 rfl) ?_
  refine lv_iload_n hx hb dX11_hole_14 rfl (lv_at hl 2 rfl) ?_
  refine call_iV (ci := 11) (As := [.int x2]) (rest := []) (wr := [((n 7), .inl (cI, 2, .inl (upd (fun _ => 0) 0 3)))]) ⟨hx, hb, hml, hown, hts⟩ (k277_X11_isWordOf l dC dI cB cI cJ cZ cO n x2 h1 h2) (cwV 1 hts gX11_hole_X11_isWordOf rfl rfl rfl ⟨rfl, z589⟩ ⟨Nat.le_of_ble_eq_true rfl, Nat.le_of_ble_eq_true rfl⟩) hK hP hD hS hA [1, 0] [2] rfl rfl (by decide +kernel) (by decide +kernel) (by decide +kernel) rfl rfl rfl hl.1 (Nat.le_of_ble_eq_true rfl) rfl rfl dX11_hole_15 ⟨by decide +kernel, by decide +kernel⟩ (fun u1 H locs hP hD hS => ?_)
  refine lv_if_ne (tgt := 23) hx hb dX11_hole_18 z838 (fun c1 => absurd (rfl) c1) (fun _ => ?_)
  refine lv_iconst (v := 0) hx hb dX11_hole_21 z8 ?_
  refine W.widen (k := 0) (n := 0) (by decide +kernel) (by decide +kernel) ?_
  exact ret_z hx hb hr rfl hlocks hS (u := (fun _ => 0)) (hP.sub [] rfl) (hD.sub [] (by decide +kernel) rfl) dX11_hole_22

set_option maxHeartbeats 4000000 in
set_option maxRecDepth 100000 in
theorem k314_X10_hole (l : Launch) (dC : Nat → ClassId) (dI : Nat → Nat → Nat) (cB cI cJ cZ cO : ClassId) (r : Nat → Nat) (x2 : Int32) (h0 : ¬ x2 = (-1)) (h1 : x2 < 0) : CI l yX10_hole wsX10_hole ({ frames := 1, cells := 0, slots := 0, locals := 21 }) (dC, dI) (tyL cB cI cJ cZ cO) [.ref (r 0), .int 2, .int x2] [((r 0), .inr (10, fX r)), ((r 18), .inr (4, [.int 0, .ref (r 19), .ref (r 20), .int 0, .ref (r 21), .ref (r 22), .int 0, .ref (r 23), .ref (r 24), .int 0, .ref (r 25), .ref (r 26), .int 3, .int 0, .int 0, .ref (r 27)]))] (fun _ => []) 0 := by
  intro sz
  refine ct_open (cc := cX10_hole) (maxL := 4) (ret := (some .boolean)) (by decide) rfl (Nat.le_of_ble_eq_true rfl) ?_
  intro p e s m below meth c ls A hx hb hr hml hts hown hlocks hin hP hK hD hA hS hl
  have hl : lv_has ls 4 [(0, .ref (r 0)), (1, .int 2), (2, .int x2)] := hl
  have hown : s.vm.findClass RX10 = some m.cls := hown
  have i10 : ∀ w ∈ u_ws RX10 TX10 18, w ∈ wsX10_hole := fun _ h => List.mem_cons_of_mem _ (List.mem_append_left _ (List.mem_append_right _ h))
  have w1 := hts (.fieldLink RX10 23 "GuildCharter" "told" "LGuildCharter$Port;") (List.mem_cons_of_mem _ (List.mem_append_left _ (List.mem_append_left _ (List.mem_of_getElem? (i := 0) rfl))))
  refine lv_aload_n hx hb dX10_hole_0 rfl (lv_at hl 0 rfl) ?_
  refine va_get (D := (dC, dI)) (ci := 10) (v := .ref (r 18)) (C := RX10) (T := TX10) (N := 18) hx hb hts i10 hown hK hP 0 rfl rfl 3 (nlt rfl) w1 (fun _ h9 => h9) rfl dX10_hole_1 ?_
  refine lv_iload_n hx hb dX10_hole_4 rfl (lv_at hl 1 rfl) ?_
  refine call_iV (ci := 4) (As := [.int 2]) (rest := []) (wr := [((r 0), .inr (10, fX r))]) ⟨hx, hb, hml, hown, hts⟩ (k108_X4_hasPlace l dC dI cB cI cJ cZ cO r) (cwV 1 hts gX10_hole_X4_hasPlace rfl rfl rfl ⟨rfl, z595⟩ ⟨Nat.le_of_ble_eq_true rfl, Nat.le_of_ble_eq_true rfl⟩) hK hP hD hS hA [1] [0] rfl rfl (by decide +kernel) (by decide +kernel) (by decide +kernel) rfl rfl rfl hl.1 (Nat.le_of_ble_eq_true rfl) rfl rfl dX10_hole_5 ⟨by decide +kernel, by decide +kernel⟩ (fun u0 H locs hP hD hS => ?_)
  refine lv_if_eq (tgt := 27) hx hb dX10_hole_8 z834 (fun c1 => absurd c1 (z525)) (fun _ => ?_)
  refine lv_iload_n hx hb dX10_hole_11 rfl (lv_at hl 2 rfl) ?_
  refine lv_iconst (v := (-1)) hx hb dX10_hole_12 z128 ?_
  refine lv_icmp_eq (tgt := 29) hx hb dX10_hole_13 z835 (fun c1 => absurd c1 (h0)) (fun _ => ?_)
  refine lv_aload_n hx hb dX10_hole_16 rfl (lv_at hl 0 rfl) ?_
  refine va_get (D := (dC, dI)) (ci := 10) (v := .ref (r 18)) (C := RX10) (T := TX10) (N := 18) hx hb hts i10 hown hK hP 0 rfl rfl 3 (nlt rfl) w1 (fun _ h9 => h9) rfl dX10_hole_17 ?_
  refine lv_iload_n hx hb dX10_hole_20 rfl (lv_at hl 2 rfl) ?_
  refine call_iV (ci := 4) (As := [.int x2]) (rest := []) (wr := [((r 0), .inr (10, fX r))]) ⟨hx, hb, hml, hown, hts⟩ (k269_X4_hasWord l dC dI cB cI cJ cZ cO r x2 h1) (cwV 1 hts gX10_hole_X4_hasWord rfl rfl rfl ⟨rfl, z584⟩ ⟨Nat.le_of_ble_eq_true rfl, Nat.le_of_ble_eq_true rfl⟩) hK hP hD hS hA [1] [0] rfl rfl (by decide +kernel) (by decide +kernel) (by decide +kernel) rfl rfl rfl hl.1 (Nat.le_of_ble_eq_true rfl) rfl rfl dX10_hole_21 ⟨by decide +kernel, by decide +kernel⟩ (fun u1 H locs hP hD hS => ?_)
  refine lv_if_ne (tgt := 29) hx hb dX10_hole_24 z836 (fun c1 => absurd (rfl) c1) (fun _ => ?_)
  refine lv_iconst (v := 0) hx hb dX10_hole_27 z8 ?_
  refine W.widen (k := 0) (n := 0) (by decide +kernel) (by decide +kernel) ?_
  exact ret_z hx hb hr rfl hlocks hS (u := (fun _ => 0)) (hP.sub [] rfl) (hD.sub [] (by decide +kernel) rfl) dX10_hole_28

set_option maxHeartbeats 4000000 in
set_option maxRecDepth 100000 in
theorem k315_X11_hole (l : Launch) (dC : Nat → ClassId) (dI : Nat → Nat → Nat) (cB cI cJ cZ cO : ClassId) (n : Nat → Nat) (x2 : Int32) (h0 : ¬ x2 = (-1)) (h1 : x2 < 0) : CI l yX11_hole wsX11_hole ({ frames := 2, cells := 0, slots := 0, locals := 43 }) (dC, dI) (tyL cB cI cJ cZ cO) [.ref (n 0), .int 2, .int x2] [((n 0), .inr (11, fM n)), ((n 7), .inl (cI, 2, .inl (upd (fun _ => 0) 0 3))), ((n 3), .inl (cI, 2, .inl (fun _ => 0)))] (fun _ => []) 0 := by
  intro sz
  refine ct_open (cc := cX11_hole) (maxL := 3) (ret := (some .boolean)) (by decide) rfl (Nat.le_of_ble_eq_true rfl) ?_
  intro p e s m below meth c ls A hx hb hr hml hts hown hlocks hin hP hK hD hA hS hl
  have hl : lv_has ls 3 [(0, .ref (n 0)), (1, .int 2), (2, .int x2)] := hl
  have hown : s.vm.findClass RX11 = some m.cls := hown
  refine lv_aload_n hx hb dX11_hole_0 rfl (lv_at hl 0 rfl) ?_
  refine lv_iload_n hx hb dX11_hole_1 rfl (lv_at hl 1 rfl) ?_
  refine call_iV (ci := 11) (As := [.int 2]) (rest := []) (wr := [((n 3), .inl (cI, 2, .inl (fun _ => 0)))]) ⟨hx, hb, hml, hown, hts⟩ (k113_X11_isPlace l dC dI cB cI cJ cZ cO n) (cwV 1 hts gX11_hole_X11_isPlace rfl rfl rfl ⟨rfl, z599⟩ ⟨Nat.le_of_ble_eq_true rfl, Nat.le_of_ble_eq_true rfl⟩) hK hP hD hS hA [0, 1] [2] rfl rfl (by decide +kernel) (by decide +kernel) (by decide +kernel) rfl rfl rfl hl.1 (Nat.le_of_ble_eq_true rfl) rfl rfl dX11_hole_2 ⟨by decide +kernel, by decide +kernel⟩ (fun u0 H locs hP hD hS => ?_)
  refine lv_if_eq (tgt := 21) hx hb dX11_hole_5 z552 (fun c1 => absurd c1 (z525)) (fun _ => ?_)
  refine lv_iload_n hx hb dX11_hole_8 rfl (lv_at hl 2 rfl) ?_
  refine lv_iconst (v := (-1)) hx hb dX11_hole_9 z128 ?_
  refine lv_icmp_eq (tgt := 23) hx hb dX11_hole_10 z837 (fun c1 => absurd c1 (h0)) (fun _ => ?_)
  refine lv_aload_n hx hb dX11_hole_13 rfl (lv_at hl 0 rfl) ?_
  refine lv_iload_n hx hb dX11_hole_14 rfl (lv_at hl 2 rfl) ?_
  refine call_iV (ci := 11) (As := [.int x2]) (rest := []) (wr := [((n 7), .inl (cI, 2, .inl (upd (fun _ => 0) 0 3)))]) ⟨hx, hb, hml, hown, hts⟩ (k272_X11_isWordOf l dC dI cB cI cJ cZ cO n x2 h1) (cwV 1 hts gX11_hole_X11_isWordOf rfl rfl rfl ⟨rfl, z589⟩ ⟨Nat.le_of_ble_eq_true rfl, Nat.le_of_ble_eq_true rfl⟩) hK hP hD hS hA [1, 0] [2] rfl rfl (by decide +kernel) (by decide +kernel) (by decide +kernel) rfl rfl rfl hl.1 (Nat.le_of_ble_eq_true rfl) rfl rfl dX11_hole_15 ⟨by decide +kernel, by decide +kernel⟩ (fun u1 H locs hP hD hS => ?_)
  refine lv_if_ne (tgt := 23) hx hb dX11_hole_18 z838 (fun c1 => absurd (rfl) c1) (fun _ => ?_)
  refine lv_iconst (v := 0) hx hb dX11_hole_21 z8 ?_
  refine W.widen (k := 0) (n := 0) (by decide +kernel) (by decide +kernel) ?_
  exact ret_z hx hb hr rfl hlocks hS (u := (fun _ => 0)) (hP.sub [] rfl) (hD.sub [] (by decide +kernel) rfl) dX11_hole_22

set_option maxHeartbeats 4000000 in
set_option maxRecDepth 100000 in
theorem k316_X10_hole (l : Launch) (dC : Nat → ClassId) (dI : Nat → Nat → Nat) (cB cI cJ cZ cO : ClassId) (r : Nat → Nat) : CI l yX10_hole wsX10_hole ({ frames := 1, cells := 0, slots := 0, locals := 21 }) (dC, dI) (tyL cB cI cJ cZ cO) [.ref (r 0), .int 2, .int (-1)] [((r 0), .inr (10, fX r)), ((r 18), .inr (4, [.int 0, .ref (r 19), .ref (r 20), .int 0, .ref (r 21), .ref (r 22), .int 0, .ref (r 23), .ref (r 24), .int 0, .ref (r 25), .ref (r 26), .int 3, .int 0, .int 0, .ref (r 27)]))] (fun _ => []) 1 := by
  intro sz
  refine ct_open (cc := cX10_hole) (maxL := 4) (ret := (some .boolean)) (by decide) rfl (Nat.le_of_ble_eq_true rfl) ?_
  intro p e s m below meth c ls A hx hb hr hml hts hown hlocks hin hP hK hD hA hS hl
  have hl : lv_has ls 4 [(0, .ref (r 0)), (1, .int 2), (2, .int (-1))] := hl
  have hown : s.vm.findClass RX10 = some m.cls := hown
  have i10 : ∀ w ∈ u_ws RX10 TX10 18, w ∈ wsX10_hole := fun _ h => List.mem_cons_of_mem _ (List.mem_append_left _ (List.mem_append_right _ h))
  have w1 := hts (.fieldLink RX10 23 "GuildCharter" "told" "LGuildCharter$Port;") (List.mem_cons_of_mem _ (List.mem_append_left _ (List.mem_append_left _ (List.mem_of_getElem? (i := 0) rfl))))
  have w2 := hts (.fieldLink RX10 122 "GuildCharter" "holes" "I") (List.mem_cons_of_mem _ (List.mem_append_left _ (List.mem_append_left _ (List.mem_of_getElem? (i := 1) rfl))))
  refine lv_aload_n hx hb dX10_hole_0 rfl (lv_at hl 0 rfl) ?_
  refine va_get (D := (dC, dI)) (ci := 10) (v := .ref (r 18)) (C := RX10) (T := TX10) (N := 18) hx hb hts i10 hown hK hP 0 rfl rfl 3 (nlt rfl) w1 (fun _ h9 => h9) rfl dX10_hole_1 ?_
  refine lv_iload_n hx hb dX10_hole_4 rfl (lv_at hl 1 rfl) ?_
  refine call_iV (ci := 4) (As := [.int 2]) (rest := []) (wr := [((r 0), .inr (10, fX r))]) ⟨hx, hb, hml, hown, hts⟩ (k108_X4_hasPlace l dC dI cB cI cJ cZ cO r) (cwV 1 hts gX10_hole_X4_hasPlace rfl rfl rfl ⟨rfl, z595⟩ ⟨Nat.le_of_ble_eq_true rfl, Nat.le_of_ble_eq_true rfl⟩) hK hP hD hS hA [1] [0] rfl rfl (by decide +kernel) (by decide +kernel) (by decide +kernel) rfl rfl rfl hl.1 (Nat.le_of_ble_eq_true rfl) rfl rfl dX10_hole_5 ⟨by decide +kernel, by decide +kernel⟩ (fun u0 H locs hP hD hS => ?_)
  refine lv_if_eq (tgt := 27) hx hb dX10_hole_8 z834 (fun c1 => absurd c1 (z525)) (fun _ => ?_)
  refine lv_iload_n hx hb dX10_hole_11 rfl (lv_at hl 2 rfl) ?_
  refine lv_iconst (v := (-1)) hx hb dX10_hole_12 z128 ?_
  refine lv_icmp_eq (tgt := 29) hx hb dX10_hole_13 z835 (fun _ => ?_) (fun c1 => absurd (rfl) c1)
  refine lv_iload_n hx hb dX10_hole_29 rfl (lv_at hl 1 rfl) ?_
  refine lv_iconst (v := 4) hx hb dX10_hole_30 z77 ?_
  refine lv_imul hx hb dX10_hole_31 ?_
  refine tpi z850 ?_
  refine lv_istore_n (lv' := [(3, .int 8), (0, .ref (r 0)), (1, .int 2), (2, .int (-1))]) hx hb dX10_hole_32 rfl hl (nlt rfl) rfl (fun ls hl => ?_)
  refine lv_aload_n hx hb dX10_hole_33 rfl (lv_at hl 1 rfl) ?_
  refine lv_aload_n hx hb dX10_hole_34 rfl (lv_at hl 1 rfl) ?_
  refine va_get (D := (dC, dI)) (ci := 10) (v := .int 0) (C := RX10) (T := TX10) (N := 18) hx hb hts i10 hown hK hP 0 rfl rfl 13 (nlt rfl) w2 (fun _ h9 => h9) rfl dX10_hole_35 ?_
  refine lv_bipush (v := 15) hx hb dX10_hole_38 z675 ?_
  refine lv_iload_n hx hb dX10_hole_40 rfl (lv_at hl 0 rfl) ?_
  refine lv_ishl hx hb dX10_hole_41 ?_
  refine tpi z851 ?_
  refine lv_iconst (v := (-1)) hx hb dX10_hole_42 z128 ?_
  refine lv_ixor hx hb dX10_hole_43 ?_
  refine tpi z852 ?_
  refine lv_iand hx hb dX10_hole_44 ?_
  refine tpi z853 ?_
  refine lv_iload_n hx hb dX10_hole_45 rfl (lv_at hl 3 rfl) ?_
  refine lv_iconst (v := 1) hx hb dX10_hole_46 z39 ?_
  refine lv_iadd hx hb dX10_hole_47 ?_
  refine tpi z842 ?_
  refine lv_iload_n hx hb dX10_hole_48 rfl (lv_at hl 0 rfl) ?_
  refine lv_ishl hx hb dX10_hole_49 ?_
  refine tpi z854 ?_
  refine lv_ior hx hb dX10_hole_50 ?_
  refine tpi z844 ?_
  refine va_put (D := (dC, dI)) (ci := 10) (v := .int 0) (ty := tyX10 13) (C := RX10) (T := TX10) (N := 18) hx hb hts i10 tyX10 tyX10_ok nmX10 hown hK hP hD hS 0 rfl rfl 13 (nlt rfl) w2 (fun _ h9 => h9) rfl (tyX10_ok 13 (nlt rfl)) rfl rfl (nlt rfl) dX10_hole_51 (fun H locs hP hD hS => ?_)
  refine lv_iconst (v := 1) hx hb dX10_hole_54 z39 ?_
  refine W.widen (k := 0) (n := 0) (by decide +kernel) (by decide +kernel) ?_
  exact ret_z hx hb hr rfl hlocks hS (u := (fun _ => 0)) (hP.sub [] rfl) (hD.sub [] (by decide +kernel) rfl) dX10_hole_55

set_option maxHeartbeats 4000000 in
set_option maxRecDepth 100000 in
theorem k317_X11_hole (l : Launch) (dC : Nat → ClassId) (dI : Nat → Nat → Nat) (cB cI cJ cZ cO : ClassId) (n : Nat → Nat) : CI l yX11_hole wsX11_hole ({ frames := 2, cells := 0, slots := 0, locals := 43 }) (dC, dI) (tyL cB cI cJ cZ cO) [.ref (n 0), .int 2, .int (-1)] [((n 0), .inr (11, fM n)), ((n 7), .inl (cI, 2, .inl (upd (fun _ => 0) 0 3))), ((n 28), .inl (cI, 6, .inl (upd (upd (upd (upd (upd (upd (fun _ => 0) 0 (-1)) 1 (-1)) 2 (-1)) 3 (-1)) 4 (-1)) 5 (-1))))] (fun _ => []) 1 := by
  intro sz
  refine ct_open (cc := cX11_hole) (maxL := 3) (ret := (some .boolean)) (by decide) rfl (Nat.le_of_ble_eq_true rfl) ?_
  intro p e s m below meth c ls A hx hb hr hml hts hown hlocks hin hP hK hD hA hS hl
  have hl : lv_has ls 3 [(0, .ref (n 0)), (1, .int 2), (2, .int (-1))] := hl
  have hown : s.vm.findClass RX11 = some m.cls := hown
  have i11 : ∀ w ∈ u_ws RX11 TX11 71, w ∈ wsX11_hole := fun _ h => List.mem_cons_of_mem _ (List.mem_append_right _ h)
  have w1 := hts (.fieldLink RX11 98 "GuildCharterModel" "holes" "[I") (List.mem_cons_of_mem _ (List.mem_append_left _ (List.mem_of_getElem? (i := 0) rfl)))
  refine lv_aload_n hx hb dX11_hole_0 rfl (lv_at hl 0 rfl) ?_
  refine lv_iload_n hx hb dX11_hole_1 rfl (lv_at hl 1 rfl) ?_
  refine call_iV (ci := 11) (As := [.int 2]) (rest := []) (wr := [((n 28), .inl (cI, 6, .inl (upd (upd (upd (upd (upd (upd (fun _ => 0) 0 (-1)) 1 (-1)) 2 (-1)) 3 (-1)) 4 (-1)) 5 (-1))))]) ⟨hx, hb, hml, hown, hts⟩ (k113_X11_isPlace l dC dI cB cI cJ cZ cO n) (cwV 1 hts gX11_hole_X11_isPlace rfl rfl rfl ⟨rfl, z599⟩ ⟨Nat.le_of_ble_eq_true rfl, Nat.le_of_ble_eq_true rfl⟩) hK hP hD hS hA [0, 1] [2] rfl rfl (by decide +kernel) (by decide +kernel) (by decide +kernel) rfl rfl rfl hl.1 (Nat.le_of_ble_eq_true rfl) rfl rfl dX11_hole_2 ⟨by decide +kernel, by decide +kernel⟩ (fun u0 H locs hP hD hS => ?_)
  refine lv_if_eq (tgt := 21) hx hb dX11_hole_5 z552 (fun c1 => absurd c1 (z525)) (fun _ => ?_)
  refine lv_iload_n hx hb dX11_hole_8 rfl (lv_at hl 2 rfl) ?_
  refine lv_iconst (v := (-1)) hx hb dX11_hole_9 z128 ?_
  refine lv_icmp_eq (tgt := 23) hx hb dX11_hole_10 z837 (fun _ => ?_) (fun c1 => absurd (rfl) c1)
  refine lv_aload_n hx hb dX11_hole_23 rfl (lv_at hl 0 rfl) ?_
  refine va_get (D := (dC, dI)) (ci := 11) (v := .ref (n 28)) (C := RX11) (T := TX11) (N := 71) hx hb hts i11 hown hK hP 1 rfl rfl 38 (nlt rfl) w1 (fun _ h9 => h9) rfl dX11_hole_24 ?_
  refine lv_iload_n hx hb dX11_hole_27 rfl (lv_at hl 1 rfl) ?_
  refine lv_iload_n hx hb dX11_hole_28 rfl (lv_at hl 2 rfl) ?_
  refine my_iastS hx hb hK hP hD hS 0 1 rfl rfl z68 rfl dX11_hole_29 (fun H locs hP hD hS => ?_)
  refine lv_iconst (v := 1) hx hb dX11_hole_30 z39 ?_
  refine W.widen (k := 0) (n := 0) (by decide +kernel) (by decide +kernel) ?_
  exact ret_z hx hb hr rfl hlocks hS (u := (fun _ => 0)) (hP.sub [] rfl) (hD.sub [] (by decide +kernel) rfl) dX11_hole_31

set_option maxHeartbeats 4000000 in
set_option maxRecDepth 100000 in
theorem k318_X10_hole (l : Launch) (dC : Nat → ClassId) (dI : Nat → Nat → Nat) (cB cI cJ cZ cO : ClassId) (r : Nat → Nat) (x2 : Int32) (h0 : ¬ x2 = (-1)) (h1 : ¬ x2 < 0) (h2 : 0 ≤ x2) : CI l yX10_hole wsX10_hole ({ frames := 1, cells := 0, slots := 0, locals := 21 }) (dC, dI) (tyL cB cI cJ cZ cO) [.ref (r 0), .int 2, .int x2] [((r 0), .inr (10, fX r)), ((r 18), .inr (4, [.int 0, .ref (r 19), .ref (r 20), .int 0, .ref (r 21), .ref (r 22), .int 0, .ref (r 23), .ref (r 24), .int 0, .ref (r 25), .ref (r 26), .int 3, .int 0, .int 0, .ref (r 27)]))] (fun _ => []) 0 := by
  intro sz
  refine ct_open (cc := cX10_hole) (maxL := 4) (ret := (some .boolean)) (by decide) rfl (Nat.le_of_ble_eq_true rfl) ?_
  intro p e s m below meth c ls A hx hb hr hml hts hown hlocks hin hP hK hD hA hS hl
  have hl : lv_has ls 4 [(0, .ref (r 0)), (1, .int 2), (2, .int x2)] := hl
  have hown : s.vm.findClass RX10 = some m.cls := hown
  have i10 : ∀ w ∈ u_ws RX10 TX10 18, w ∈ wsX10_hole := fun _ h => List.mem_cons_of_mem _ (List.mem_append_left _ (List.mem_append_right _ h))
  have w1 := hts (.fieldLink RX10 23 "GuildCharter" "told" "LGuildCharter$Port;") (List.mem_cons_of_mem _ (List.mem_append_left _ (List.mem_append_left _ (List.mem_of_getElem? (i := 0) rfl))))
  refine lv_aload_n hx hb dX10_hole_0 rfl (lv_at hl 0 rfl) ?_
  refine va_get (D := (dC, dI)) (ci := 10) (v := .ref (r 18)) (C := RX10) (T := TX10) (N := 18) hx hb hts i10 hown hK hP 0 rfl rfl 3 (nlt rfl) w1 (fun _ h9 => h9) rfl dX10_hole_1 ?_
  refine lv_iload_n hx hb dX10_hole_4 rfl (lv_at hl 1 rfl) ?_
  refine call_iV (ci := 4) (As := [.int 2]) (rest := []) (wr := [((r 0), .inr (10, fX r))]) ⟨hx, hb, hml, hown, hts⟩ (k108_X4_hasPlace l dC dI cB cI cJ cZ cO r) (cwV 1 hts gX10_hole_X4_hasPlace rfl rfl rfl ⟨rfl, z595⟩ ⟨Nat.le_of_ble_eq_true rfl, Nat.le_of_ble_eq_true rfl⟩) hK hP hD hS hA [1] [0] rfl rfl (by decide +kernel) (by decide +kernel) (by decide +kernel) rfl rfl rfl hl.1 (Nat.le_of_ble_eq_true rfl) rfl rfl dX10_hole_5 ⟨by decide +kernel, by decide +kernel⟩ (fun u0 H locs hP hD hS => ?_)
  refine lv_if_eq (tgt := 27) hx hb dX10_hole_8 z834 (fun c1 => absurd c1 (z525)) (fun _ => ?_)
  refine lv_iload_n hx hb dX10_hole_11 rfl (lv_at hl 2 rfl) ?_
  refine lv_iconst (v := (-1)) hx hb dX10_hole_12 z128 ?_
  refine lv_icmp_eq (tgt := 29) hx hb dX10_hole_13 z835 (fun c1 => absurd c1 (h0)) (fun _ => ?_)
  refine lv_aload_n hx hb dX10_hole_16 rfl (lv_at hl 0 rfl) ?_
  refine va_get (D := (dC, dI)) (ci := 10) (v := .ref (r 18)) (C := RX10) (T := TX10) (N := 18) hx hb hts i10 hown hK hP 0 rfl rfl 3 (nlt rfl) w1 (fun _ h9 => h9) rfl dX10_hole_17 ?_
  refine lv_iload_n hx hb dX10_hole_20 rfl (lv_at hl 2 rfl) ?_
  refine call_iV (ci := 4) (As := [.int x2]) (rest := []) (wr := [((r 0), .inr (10, fX r))]) ⟨hx, hb, hml, hown, hts⟩ (k274_X4_hasWord l dC dI cB cI cJ cZ cO r x2 h1 h2) (cwV 1 hts gX10_hole_X4_hasWord rfl rfl rfl ⟨rfl, z584⟩ ⟨Nat.le_of_ble_eq_true rfl, Nat.le_of_ble_eq_true rfl⟩) hK hP hD hS hA [1] [0] rfl rfl (by decide +kernel) (by decide +kernel) (by decide +kernel) rfl rfl rfl hl.1 (Nat.le_of_ble_eq_true rfl) rfl rfl dX10_hole_21 ⟨by decide +kernel, by decide +kernel⟩ (fun u1 H locs hP hD hS => ?_)
  refine lv_if_ne (tgt := 29) hx hb dX10_hole_24 z836 (fun c1 => absurd (rfl) c1) (fun _ => ?_)
  refine lv_iconst (v := 0) hx hb dX10_hole_27 z8 ?_
  refine W.widen (k := 0) (n := 0) (by decide +kernel) (by decide +kernel) ?_
  exact ret_z hx hb hr rfl hlocks hS (u := (fun _ => 0)) (hP.sub [] rfl) (hD.sub [] (by decide +kernel) rfl) dX10_hole_28

set_option maxHeartbeats 4000000 in
set_option maxRecDepth 100000 in
theorem k319_X11_hole (l : Launch) (dC : Nat → ClassId) (dI : Nat → Nat → Nat) (cB cI cJ cZ cO : ClassId) (n : Nat → Nat) (x2 : Int32) (h0 : ¬ x2 = (-1)) (h1 : ¬ x2 < 0) (h2 : (-1) < x2) : CI l yX11_hole wsX11_hole ({ frames := 2, cells := 0, slots := 0, locals := 43 }) (dC, dI) (tyL cB cI cJ cZ cO) [.ref (n 0), .int 2, .int x2] [((n 0), .inr (11, fM n)), ((n 7), .inl (cI, 2, .inl (upd (fun _ => 0) 0 3))), ((n 3), .inl (cI, 2, .inl (fun _ => 0)))] (fun _ => []) 0 := by
  intro sz
  refine ct_open (cc := cX11_hole) (maxL := 3) (ret := (some .boolean)) (by decide) rfl (Nat.le_of_ble_eq_true rfl) ?_
  intro p e s m below meth c ls A hx hb hr hml hts hown hlocks hin hP hK hD hA hS hl
  have hl : lv_has ls 3 [(0, .ref (n 0)), (1, .int 2), (2, .int x2)] := hl
  have hown : s.vm.findClass RX11 = some m.cls := hown
  refine lv_aload_n hx hb dX11_hole_0 rfl (lv_at hl 0 rfl) ?_
  refine lv_iload_n hx hb dX11_hole_1 rfl (lv_at hl 1 rfl) ?_
  refine call_iV (ci := 11) (As := [.int 2]) (rest := []) (wr := [((n 3), .inl (cI, 2, .inl (fun _ => 0)))]) ⟨hx, hb, hml, hown, hts⟩ (k113_X11_isPlace l dC dI cB cI cJ cZ cO n) (cwV 1 hts gX11_hole_X11_isPlace rfl rfl rfl ⟨rfl, z599⟩ ⟨Nat.le_of_ble_eq_true rfl, Nat.le_of_ble_eq_true rfl⟩) hK hP hD hS hA [0, 1] [2] rfl rfl (by decide +kernel) (by decide +kernel) (by decide +kernel) rfl rfl rfl hl.1 (Nat.le_of_ble_eq_true rfl) rfl rfl dX11_hole_2 ⟨by decide +kernel, by decide +kernel⟩ (fun u0 H locs hP hD hS => ?_)
  refine lv_if_eq (tgt := 21) hx hb dX11_hole_5 z552 (fun c1 => absurd c1 (z525)) (fun _ => ?_)
  refine lv_iload_n hx hb dX11_hole_8 rfl (lv_at hl 2 rfl) ?_
  refine lv_iconst (v := (-1)) hx hb dX11_hole_9 z128 ?_
  refine lv_icmp_eq (tgt := 23) hx hb dX11_hole_10 z837 (fun c1 => absurd c1 (h0)) (fun _ => ?_)
  refine lv_aload_n hx hb dX11_hole_13 rfl (lv_at hl 0 rfl) ?_
  refine lv_iload_n hx hb dX11_hole_14 rfl (lv_at hl 2 rfl) ?_
  refine call_iV (ci := 11) (As := [.int x2]) (rest := []) (wr := [((n 7), .inl (cI, 2, .inl (upd (fun _ => 0) 0 3)))]) ⟨hx, hb, hml, hown, hts⟩ (k277_X11_isWordOf l dC dI cB cI cJ cZ cO n x2 h1 h2) (cwV 1 hts gX11_hole_X11_isWordOf rfl rfl rfl ⟨rfl, z589⟩ ⟨Nat.le_of_ble_eq_true rfl, Nat.le_of_ble_eq_true rfl⟩) hK hP hD hS hA [1, 0] [2] rfl rfl (by decide +kernel) (by decide +kernel) (by decide +kernel) rfl rfl rfl hl.1 (Nat.le_of_ble_eq_true rfl) rfl rfl dX11_hole_15 ⟨by decide +kernel, by decide +kernel⟩ (fun u1 H locs hP hD hS => ?_)
  refine lv_if_ne (tgt := 23) hx hb dX11_hole_18 z838 (fun c1 => absurd (rfl) c1) (fun _ => ?_)
  refine lv_iconst (v := 0) hx hb dX11_hole_21 z8 ?_
  refine W.widen (k := 0) (n := 0) (by decide +kernel) (by decide +kernel) ?_
  exact ret_z hx hb hr rfl hlocks hS (u := (fun _ => 0)) (hP.sub [] rfl) (hD.sub [] (by decide +kernel) rfl) dX11_hole_22

set_option maxHeartbeats 4000000 in
set_option maxRecDepth 100000 in
theorem k320_X10_growHoles (l : Launch) (dC : Nat → ClassId) (dI : Nat → Nat → Nat) (cB cI cJ cZ cO : ClassId) (r : Nat → Nat) : CR l yX10_growHoles wsX10_growHoles ({ frames := 3, cells := 0, slots := 0, locals := 78 }) (dC, dI) (tyL cB cI cJ cZ cO) [.ref (r 0)] [((r 0), .inr (10, fX r)), ((r 38), .inr (0, [.ref (r 39), .int 0, .ref (r 40), .ref (r 41), .ref (r 42), .ref (r 43), .ref (r 44), .int 0, .int 0])), ((r 65), .inr (9, [.int 0, .int 0, .ref (r 66), .ref (r 67), .ref (r 68), .ref (r 69), .int 0, .int 0, .int 0, .int 0, .int 0])), ((r 18), .inr (4, [.int 0, .ref (r 19), .ref (r 20), .int 0, .ref (r 21), .ref (r 22), .int 0, .ref (r 23), .ref (r 24), .int 0, .ref (r 25), .ref (r 26), .int 3, .int 0, .int 0, .ref (r 27)])), ((r 66), .inl (cI, 3000, .inl (fun _ => 0))), ((r 67), .inl (cI, 3000, .inl (fun _ => 0))), ((r 69), .inl (cI, 3000, .inl (fun _ => 0))), ((r 68), .inl (cI, 9000, .inl (fun _ => 0))), ((r 55), .inr (5, [.ref (r 56), .ref (r 57)]))] (fun u => [((r 0), .inr (10, fX r)), ((r 38), .inr (0, [.ref (r 39), .int 0, .ref (r 40), .ref (r 41), .ref (r 42), .ref (r 43), .ref (r 44), .int 0, .int 0])), ((r 65), .inr (9, [.int 0, .int 0, .ref (r 66), .ref (r 67), .ref (r 68), .ref (r 69), .int 3, .int 1, .int 0, .int 0, .int 0])), ((r 18), .inr (4, [.int 0, .ref (r 19), .ref (r 20), .int 0, .ref (r 21), .ref (r 22), .int 0, .ref (r 23), .ref (r 24), .int 0, .ref (r 25), .ref (r 26), .int 3, .int 0, .int 0, .ref (r 27)])), ((r 66), .inl (cI, 3000, .inl (upd (fun _ => 0) 0 (-1)))), ((r 67), .inl (cI, 3000, .inl (fun _ => 0))), ((r 69), .inl (cI, 3000, .inl (fun _ => 0))), ((r 68), .inl (cI, 9000, .inl (fun _ => 0))), ((r 55), .inr (5, [.ref (r 56), .ref (r 57)]))]) (r 65) := by
  intro sz
  refine ct_open (cc := cX10_growHoles) (maxL := 2) (ret := (some (.object "GuildCharter$Tree"))) (by decide) rfl (Nat.le_of_ble_eq_true rfl) ?_
  intro p e s m below meth c ls A hx hb hr hml hts hown hlocks hin hP hK hD hA hS hl
  have hl : lv_has ls 2 [(0, .ref (r 0))] := hl
  have hown : s.vm.findClass RX10 = some m.cls := hown
  have i10 : ∀ w ∈ u_ws RX10 TX10 18, w ∈ wsX10_growHoles := fun _ h => List.mem_cons_of_mem _ (List.mem_append_left _ (List.mem_append_left _ (List.mem_append_left _ (List.mem_append_left _ (List.mem_append_right _ h)))))
  have w1 := hts (.fieldLink RX10 122 "GuildCharter" "holes" "I") (List.mem_cons_of_mem _ (List.mem_append_left _ (List.mem_append_left _ (List.mem_append_left _ (List.mem_append_left _ (List.mem_append_left _ (List.mem_append_left _ (List.mem_of_getElem? (i := 0) rfl))))))))
  have w2 := hts (.fieldLink RX10 68 "GuildCharter" "wholeTree" "LGuildCharter$Tree;") (List.mem_cons_of_mem _ (List.mem_append_left _ (List.mem_append_left _ (List.mem_append_left _ (List.mem_append_left _ (List.mem_append_left _ (List.mem_append_left _ (List.mem_of_getElem? (i := 1) rfl))))))))
  have w3 := hts (.fieldLink RX10 23 "GuildCharter" "told" "LGuildCharter$Port;") (List.mem_cons_of_mem _ (List.mem_append_left _ (List.mem_append_left _ (List.mem_append_left _ (List.mem_append_left _ (List.mem_append_left _ (List.mem_append_left _ (List.mem_of_getElem? (i := 3) rfl))))))))
  have w4 := hts (.fieldLink RX10 47 "GuildCharter" "reader" "LGuildCharter$Reader;") (List.mem_cons_of_mem _ (List.mem_append_left _ (List.mem_append_left _ (List.mem_append_left _ (List.mem_append_left _ (List.mem_append_left _ (List.mem_append_left _ (List.mem_of_getElem? (i := 4) rfl))))))))
  have w5 := hts (.fieldLink RX10 33 "GuildCharter" "earnest" "LGuildCharter$Earnest;") (List.mem_cons_of_mem _ (List.mem_append_left _ (List.mem_append_left _ (List.mem_append_left _ (List.mem_append_left _ (List.mem_append_left _ (List.mem_append_left _ (List.mem_of_getElem? (i := 5) rfl))))))))
  have i0 : ∀ w ∈ u_ws RX0 TX0 9, w ∈ wsX10_growHoles := fun _ h => List.mem_cons_of_mem _ (List.mem_append_left _ (List.mem_append_left _ (List.mem_append_left _ (List.mem_append_right _ h))))
  have w7 := hts (.fieldLink RX10 194 "GuildCharter$Earnest" "row" "[I") (List.mem_cons_of_mem _ (List.mem_append_left _ (List.mem_append_left _ (List.mem_append_left _ (List.mem_append_left _ (List.mem_append_left _ (List.mem_append_left _ (List.mem_of_getElem? (i := 6) rfl))))))))
  refine lv_aload_n hx hb dX10_growHoles_0 rfl (lv_at hl 0 rfl) ?_
  refine va_get (D := (dC, dI)) (ci := 10) (v := .int 0) (C := RX10) (T := TX10) (N := 18) hx hb hts i10 hown hK hP 0 rfl rfl 13 (nlt rfl) w1 (fun _ h9 => h9) rfl dX10_growHoles_1 ?_
  refine lv_if_ne (tgt := 14) hx hb dX10_growHoles_4 z754 (fun c1 => absurd (rfl) c1) (fun _ => ?_)
  refine lv_aload_n hx hb dX10_growHoles_7 rfl (lv_at hl 0 rfl) ?_
  refine va_get (D := (dC, dI)) (ci := 10) (v := .ref (r 65)) (C := RX10) (T := TX10) (N := 18) hx hb hts i10 hown hK hP 0 rfl rfl 10 (nlt rfl) w2 (fun _ h9 => h9) rfl dX10_growHoles_8 ?_
  refine lv_goto (tgt := 18) hx hb dX10_growHoles_11 z686 ?_
  refine lv_astore_n (lv' := [(1, .ref (r 65)), (0, .ref (r 0))]) hx hb dX10_growHoles_18 rfl hl (nlt rfl) rfl (fun ls hl => ?_)
  refine lv_aload_n hx hb dX10_growHoles_19 rfl (lv_at hl 0 rfl) ?_
  refine lv_aload_n hx hb dX10_growHoles_20 rfl (lv_at hl 1 rfl) ?_
  refine va_get (D := (dC, dI)) (ci := 10) (v := .ref (r 18)) (C := RX10) (T := TX10) (N := 18) hx hb hts i10 hown hK hP 0 rfl rfl 3 (nlt rfl) w3 (fun _ h9 => h9) rfl dX10_growHoles_21 ?_
  refine lv_aload_n hx hb dX10_growHoles_24 rfl (lv_at hl 1 rfl) ?_
  refine va_get (D := (dC, dI)) (ci := 10) (v := .ref (r 55)) (C := RX10) (T := TX10) (N := 18) hx hb hts i10 hown hK hP 0 rfl rfl 7 (nlt rfl) w4 (fun _ h9 => h9) rfl dX10_growHoles_25 ?_
  refine lv_aload_n hx hb dX10_growHoles_28 rfl (lv_at hl 1 rfl) ?_
  refine va_get (D := (dC, dI)) (ci := 10) (v := .ref (r 38)) (C := RX10) (T := TX10) (N := 18) hx hb hts i10 hown hK hP 0 rfl rfl 5 (nlt rfl) w5 (fun _ h9 => h9) rfl dX10_growHoles_29 ?_
  refine va_get (D := (dC, dI)) (ci := 0) (v := .ref (r 39)) (C := RX0) (T := TX0) (N := 9) hx hb hts i0 hown hK hP 1 rfl rfl 0 (nlt rfl) w7 (fun _ h9 => h9) rfl dX10_growHoles_32 ?_
  refine lv_iconst (v := 0) hx hb dX10_growHoles_35 z8 ?_
  refine lv_aload_n hx hb dX10_growHoles_36 rfl (lv_at hl 1 rfl) ?_
  refine va_get (D := (dC, dI)) (ci := 10) (v := .int 0) (C := RX10) (T := TX10) (N := 18) hx hb hts i10 hown hK hP 0 rfl rfl 13 (nlt rfl) w1 (fun _ h9 => h9) rfl dX10_growHoles_37 ?_
  refine call_vV (ci := 9) (As := [.ref (r 18), .ref (r 55), .ref (r 39), .int 0, .int 0]) (rest := []) (wr := [((r 0), .inr (10, fX r)), ((r 38), .inr (0, [.ref (r 39), .int 0, .ref (r 40), .ref (r 41), .ref (r 42), .ref (r 43), .ref (r 44), .int 0, .int 0]))]) ⟨hx, hb, hml, hown, hts⟩ (k221_X9_growFrom l dC dI cB cI cJ cZ cO r) (cwV 5 hts gX10_growHoles_X9_growFrom rfl rfl rfl ⟨rfl, z682⟩ ⟨Nat.le_of_ble_eq_true rfl, Nat.le_of_ble_eq_true rfl⟩) hK hP hD hS hA [2, 3, 4, 5, 6, 7, 8] [0, 1] rfl rfl (by decide +kernel) (by decide +kernel) (by decide +kernel) rfl rfl rfl hl.1 (Nat.le_of_ble_eq_true rfl) rfl rfl dX10_growHoles_40 ⟨by decide +kernel, by decide +kernel⟩ (fun u0 H locs hP hD hS => ?_)
  refine lv_aload_n hx hb dX10_growHoles_43 rfl (lv_at hl 0 rfl) ?_
  refine W.widen (k := 0) (n := 0) (by decide +kernel) (by decide +kernel) ?_
  exact ret_r hx hb hr hlocks hS (u := (fun _ => 0)) (hP.sub [0, 1, 2, 3, 4, 5, 6, 7, 8] rfl) (hD.sub [0, 1, 2, 3, 4, 5, 6, 7, 8] (by decide +kernel) rfl) dX10_growHoles_44

set_option maxHeartbeats 4000000 in
set_option maxRecDepth 100000 in
theorem k321_X10_fit (l : Launch) (dC : Nat → ClassId) (dI : Nat → Nat → Nat) (cB cI cJ cZ cO : ClassId) (r : Nat → Nat) : CI l yX10_fit wsX10_fit ({ frames := 4, cells := 0, slots := 0, locals := 99 }) (dC, dI) (tyL cB cI cJ cZ cO) [.ref (r 0)] [((r 0), .inr (10, fX r)), ((r 38), .inr (0, [.ref (r 39), .int 0, .ref (r 40), .ref (r 41), .ref (r 42), .ref (r 43), .ref (r 44), .int 0, .int 0])), ((r 65), .inr (9, [.int 0, .int 0, .ref (r 66), .ref (r 67), .ref (r 68), .ref (r 69), .int 0, .int 0, .int 0, .int 0, .int 0])), ((r 18), .inr (4, [.int 0, .ref (r 19), .ref (r 20), .int 0, .ref (r 21), .ref (r 22), .int 0, .ref (r 23), .ref (r 24), .int 0, .ref (r 25), .ref (r 26), .int 3, .int 0, .int 0, .ref (r 27)])), ((r 66), .inl (cI, 3000, .inl (fun _ => 0))), ((r 67), .inl (cI, 3000, .inl (fun _ => 0))), ((r 69), .inl (cI, 3000, .inl (fun _ => 0))), ((r 68), .inl (cI, 9000, .inl (fun _ => 0))), ((r 55), .inr (5, [.ref (r 56), .ref (r 57)]))] (fun _ => []) 0 := by
  intro sz
  refine ct_open (cc := cX10_fit) (maxL := 4) (ret := (some .int)) (by decide) rfl (Nat.le_of_ble_eq_true rfl) ?_
  intro p e s m below meth c ls A hx hb hr hml hts hown hlocks hin hP hK hD hA hS hl
  have hl : lv_has ls 4 [(0, .ref (r 0))] := hl
  have hown : s.vm.findClass RX10 = some m.cls := hown
  have i9 : ∀ w ∈ u_ws RX9 TX9 11, w ∈ wsX10_fit := fun _ h => List.mem_cons_of_mem _ (List.mem_append_left _ (List.mem_append_left _ (List.mem_append_left _ (List.mem_append_left _ (List.mem_append_right _ h)))))
  have w1 := hts (.fieldLink RX10 279 "GuildCharter$Tree" "spent" "Z") (List.mem_cons_of_mem _ (List.mem_append_left _ (List.mem_append_left _ (List.mem_append_left _ (List.mem_append_left _ (List.mem_append_left _ (List.mem_append_left _ (List.mem_of_getElem? (i := 0) rfl))))))))
  have w2 := hts (.fieldLink RX10 282 "GuildCharter$Tree" "size" "I") (List.mem_cons_of_mem _ (List.mem_append_left _ (List.mem_append_left _ (List.mem_append_left _ (List.mem_append_left _ (List.mem_append_left _ (List.mem_append_left _ (List.mem_of_getElem? (i := 1) rfl))))))))
  refine lv_aload_n hx hb dX10_fit_0 rfl (lv_at hl 0 rfl) ?_
  refine call_rV (ci := 10) (As := []) (rest := []) (wr := []) ⟨hx, hb, hml, hown, hts⟩ (k320_X10_growHoles l dC dI cB cI cJ cZ cO r) (cwV 0 hts gX10_fit_X10_growHoles rfl rfl rfl ⟨rfl, z856⟩ ⟨Nat.le_of_ble_eq_true rfl, Nat.le_of_ble_eq_true rfl⟩) hK hP hD hS hA [0, 1, 2, 3, 4, 5, 6, 7, 8] [] rfl rfl (by decide +kernel) (by decide +kernel) (by decide +kernel) rfl rfl rfl hl.1 (Nat.le_of_ble_eq_true rfl) rfl rfl dX10_fit_1 ⟨by decide +kernel, by decide +kernel⟩ (fun u0 H locs hP hD hS => ?_)
  refine lv_astore_n (lv' := [(1, .ref (r 65)), (0, .ref (r 0))]) hx hb dX10_fit_4 rfl hl (nlt rfl) rfl (fun ls hl => ?_)
  refine lv_aload_n hx hb dX10_fit_5 rfl (lv_at hl 0 rfl) ?_
  refine va_get (D := (dC, dI)) (ci := 9) (v := .int 0) (C := RX9) (T := TX9) (N := 11) hx hb hts i9 hown hK hP 2 rfl rfl 1 (nlt rfl) w1 (fun _ h9 => h9) rfl dX10_fit_6 ?_
  refine lv_if_eq (tgt := 15) hx hb dX10_fit_9 z829 (fun _ => ?_) (fun c1 => absurd (rfl) c1)
  refine lv_iconst (v := 0) hx hb dX10_fit_15 z8 ?_
  refine lv_istore_n (lv' := [(2, .int 0), (1, .ref (r 65)), (0, .ref (r 0))]) hx hb dX10_fit_16 rfl hl (nlt rfl) rfl (fun ls hl => ?_)
  refine lv_iconst (v := 0) hx hb dX10_fit_17 z8 ?_
  refine lv_istore_n (lv' := [(3, .int 0), (2, .int 0), (1, .ref (r 65)), (0, .ref (r 0))]) hx hb dX10_fit_18 rfl hl (nlt rfl) rfl (fun ls hl => ?_)
  refine lv_iload_n hx hb dX10_fit_19 rfl (lv_at hl 0 rfl) ?_
  refine lv_aload_n hx hb dX10_fit_20 rfl (lv_at hl 2 rfl) ?_
  refine va_get (D := (dC, dI)) (ci := 9) (v := .int 0) (C := RX9) (T := TX9) (N := 11) hx hb hts i9 hown hK hP 2 rfl rfl 0 (nlt rfl) w2 (fun _ h9 => h9) rfl dX10_fit_21 ?_
  refine lv_icmp_ge (tgt := 44) hx hb dX10_fit_24 z855 (fun _ => ?_) (fun c1 => absurd (z510) c1)
  refine lv_iload_n hx hb dX10_fit_44 rfl (lv_at hl 1 rfl) ?_
  refine W.widen (k := 0) (n := 0) (by decide +kernel) (by decide +kernel) ?_
  exact ret_i hx hb hr hlocks hS (u := (fun _ => 0)) (hP.sub [] rfl) (hD.sub [] (by decide +kernel) rfl) dX10_fit_45
