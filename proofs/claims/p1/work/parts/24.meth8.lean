set_option maxHeartbeats 4000000 in
set_option maxRecDepth 100000 in
theorem k223_X10_written (l : Launch) (dC : Nat → ClassId) (dI : Nat → Nat → Nat) (cB cI cJ cZ cO : ClassId) (r : Nat → Nat) (x1 : Int32) (h0 : x1 < 0) : CI l yX10_written wsX10_written ({ frames := 4, cells := 0, slots := 0, locals := 99 }) (dC, dI) (tyL cB cI cJ cZ cO) [.ref (r 0), .int x1] [((r 0), .inr (10, fX r)), ((r 38), .inr (0, [.ref (r 39), .int 0, .ref (r 40), .ref (r 41), .ref (r 42), .ref (r 43), .ref (r 44), .int 0, .int 0])), ((r 65), .inr (9, [.int 0, .int 0, .ref (r 66), .ref (r 67), .ref (r 68), .ref (r 69), .int 0, .int 0, .int 0, .int 0, .int 0])), ((r 18), .inr (4, [.int 0, .ref (r 19), .ref (r 20), .int 0, .ref (r 21), .ref (r 22), .int 0, .ref (r 23), .ref (r 24), .int 0, .ref (r 25), .ref (r 26), .int 3, .int 0, .int 0, .ref (r 27)])), ((r 66), .inl (cI, 3000, .inl (fun _ => 0))), ((r 67), .inl (cI, 3000, .inl (fun _ => 0))), ((r 69), .inl (cI, 3000, .inl (fun _ => 0))), ((r 68), .inl (cI, 9000, .inl (fun _ => 0))), ((r 55), .inr (5, [.ref (r 56), .ref (r 57)]))] (fun _ => []) (-1000000) := by
  intro sz
  refine ct_open (cc := cX10_written) (maxL := 4) (ret := (some .int)) (by decide) rfl (Nat.le_of_ble_eq_true rfl) ?_
  intro p e s m below meth c ls A hx hb hr hml hts hown hlocks hin hP hK hD hA hS hl
  have hl : lv_has ls 4 [(0, .ref (r 0)), (1, .int x1)] := hl
  have hown : s.vm.findClass RX10 = some m.cls := hown
  have i10 : ∀ w ∈ u_ws RX10 TX10 18, w ∈ wsX10_written := fun _ h => List.mem_cons_of_mem _ (List.mem_append_left _ (List.mem_append_left _ (List.mem_append_left _ (List.mem_append_left _ (List.mem_append_left _ (List.mem_append_right _ h))))))
  have w1 := hts (.fieldLink RX10 128 "GuildCharter" "lyingSize" "I") (List.mem_cons_of_mem _ (List.mem_append_left _ (List.mem_append_left _ (List.mem_append_left _ (List.mem_append_left _ (List.mem_append_left _ (List.mem_append_left _ (List.mem_append_left _ (List.mem_of_getElem? (i := 0) rfl)))))))))
  have w2 := hts (.constant RX10 153 (-1000000)) (List.mem_cons_of_mem _ (List.mem_append_left _ (List.mem_append_left _ (List.mem_append_left _ (List.mem_append_left _ (List.mem_append_left _ (List.mem_append_left _ (List.mem_append_left _ (List.mem_of_getElem? (i := 1) rfl)))))))))
  refine lv_aload_n hx hb dX10_written_0 rfl (lv_at hl 0 rfl) ?_
  refine lv_iconst (v := 0) hx hb dX10_written_1 z8 ?_
  refine va_put (D := (dC, dI)) (ci := 10) (v := .int 0) (ty := tyX10 16) (C := RX10) (T := TX10) (N := 18) hx hb hts i10 tyX10 tyX10_ok nmX10 hown hK hP hD hS 0 rfl rfl 16 (nlt rfl) w1 (fun _ h9 => h9) rfl (tyX10_ok 16 (nlt rfl)) rfl rfl (nlt rfl) dX10_written_2 (fun H locs hP hD hS => ?_)
  refine lv_aload_n hx hb dX10_written_5 rfl (lv_at hl 0 rfl) ?_
  refine call_rV (ci := 10) (As := []) (rest := []) (wr := []) ⟨hx, hb, hml, hown, hts⟩ (k222_X10_growEarnest l dC dI cB cI cJ cZ cO r) (cwV 0 hts gX10_written_X10_growEarnest rfl rfl rfl ⟨rfl, z683⟩ ⟨Nat.le_of_ble_eq_true rfl, Nat.le_of_ble_eq_true rfl⟩) hK hP hD hS hA [0, 1, 2, 3, 4, 5, 6, 7, 8] [] rfl rfl (by decide +kernel) (by decide +kernel) (by decide +kernel) rfl rfl rfl hl.1 (Nat.le_of_ble_eq_true rfl) rfl rfl dX10_written_6 ⟨by decide +kernel, by decide +kernel⟩ (fun u0 H locs hP hD hS => ?_)
  refine lv_astore_n (lv' := [(2, .ref (r 65)), (0, .ref (r 0)), (1, .int x1)]) hx hb dX10_written_9 rfl hl (nlt rfl) rfl (fun ls hl => ?_)
  refine lv_iload_n hx hb dX10_written_10 rfl (lv_at hl 2 rfl) ?_
  refine call_iS (As := [.int x1]) (rest := []) (wr := [((r 0), .inr (10, fX r)), ((r 38), .inr (0, [.ref (r 39), .int 0, .ref (r 40), .ref (r 41), .ref (r 42), .ref (r 43), .ref (r 44), .int 0, .int 0])), ((r 65), .inr (9, [.int 0, .int 0, .ref (r 66), .ref (r 67), .ref (r 68), .ref (r 69), .int 3, .int 1, .int 0, .int 0, .int 0])), ((r 18), .inr (4, [.int 0, .ref (r 19), .ref (r 20), .int 0, .ref (r 21), .ref (r 22), .int 0, .ref (r 23), .ref (r 24), .int 0, .ref (r 25), .ref (r 26), .int 3, .int 0, .int 0, .ref (r 27)])), ((r 66), .inl (cI, 3000, .inl (upd (fun _ => 0) 0 (-1)))), ((r 67), .inl (cI, 3000, .inl (fun _ => 0))), ((r 69), .inl (cI, 3000, .inl (fun _ => 0))), ((r 68), .inl (cI, 9000, .inl (fun _ => 0))), ((r 55), .inr (5, [.ref (r 56), .ref (r 57)]))]) ⟨hx, hb, hml, hown, hts⟩ (k201_X10_isGuild l dC dI cB cI cJ cZ cO x1 h0) (va_cwS 1 hts gX10_written_X10_isGuild rfl rfl rfl z621 ⟨Nat.le_of_ble_eq_true rfl, Nat.le_of_ble_eq_true rfl⟩) hK hP hD hS hA [] [0, 1, 2, 3, 4, 5, 6, 7, 8] rfl rfl (by decide +kernel) (by decide +kernel) (by decide +kernel) hl.1 (Nat.le_of_ble_eq_true rfl) rfl rfl dX10_written_11 ⟨by decide +kernel, by decide +kernel⟩ (fun u1 H locs hP hD hS => ?_)
  refine lv_if_eq (tgt := 24) hx hb dX10_written_14 z616 (fun _ => ?_) (fun c1 => absurd (rfl) c1)
  refine lv_ldc hx hb hown w2 dX10_written_24 ?_
  refine W.widen (k := 0) (n := 0) (by decide +kernel) (by decide +kernel) ?_
  exact ret_i hx hb hr hlocks hS (u := (fun _ => 0)) (hP.sub [] rfl) (hD.sub [] (by decide +kernel) rfl) dX10_written_26

set_option maxHeartbeats 4000000 in
set_option maxRecDepth 100000 in
theorem k224_X11_written (l : Launch) (dC : Nat → ClassId) (dI : Nat → Nat → Nat) (cB cI cJ cZ cO : ClassId) (n : Nat → Nat) (x1 : Int32) (h0 : x1 < 0) : CI l yX11_written wsX11_written ({ frames := 2, cells := 0, slots := 0, locals := 42 }) (dC, dI) (tyL cB cI cJ cZ cO) [.ref (n 0), .int x1] [((n 0), .inr (11, fM n))] (fun _ => []) (-1000000) := by
  intro sz
  refine ct_open (cc := cX11_written) (maxL := 3) (ret := (some .int)) (by decide) rfl (Nat.le_of_ble_eq_true rfl) ?_
  intro p e s m below meth c ls A hx hb hr hml hts hown hlocks hin hP hK hD hA hS hl
  have hl : lv_has ls 3 [(0, .ref (n 0)), (1, .int x1)] := hl
  have hown : s.vm.findClass RX11 = some m.cls := hown
  have i11 : ∀ w ∈ u_ws RX11 TX11 71, w ∈ wsX11_written := fun _ h => List.mem_cons_of_mem _ (List.mem_append_right _ h)
  have w1 := hts (.fieldLink RX11 248 "GuildCharterModel" "laid" "I") (List.mem_cons_of_mem _ (List.mem_append_left _ (List.mem_append_left _ (List.mem_of_getElem? (i := 0) rfl))))
  have w2 := hts (.constant RX11 311 (-1000000)) (List.mem_cons_of_mem _ (List.mem_append_left _ (List.mem_append_left _ (List.mem_of_getElem? (i := 1) rfl))))
  refine lv_aload_n hx hb dX11_written_0 rfl (lv_at hl 0 rfl) ?_
  refine lv_iconst (v := 0) hx hb dX11_written_1 z8 ?_
  refine va_put (D := (dC, dI)) (ci := 11) (v := .int 0) (ty := tyX11 59) (C := RX11) (T := TX11) (N := 71) hx hb hts i11 tyX11 tyX11_ok nmX11 hown hK hP hD hS 0 rfl rfl 59 (nlt rfl) w1 (fun _ h9 => h9) rfl (tyX11_ok 59 (nlt rfl)) rfl rfl (nlt rfl) dX11_written_2 (fun H locs hP hD hS => ?_)
  refine lv_iload_n hx hb dX11_written_5 rfl (lv_at hl 1 rfl) ?_
  refine call_iS (As := [.int x1]) (rest := []) (wr := [((n 0), .inr (11, fM n))]) ⟨hx, hb, hml, hown, hts⟩ (k203_X11_isGuild l dC dI cB cI cJ cZ cO x1 h0) (va_cwS 1 hts gX11_written_X11_isGuild rfl rfl rfl z623 ⟨Nat.le_of_ble_eq_true rfl, Nat.le_of_ble_eq_true rfl⟩) hK hP hD hS hA [] [0] rfl rfl (by decide +kernel) (by decide +kernel) (by decide +kernel) hl.1 (Nat.le_of_ble_eq_true rfl) rfl rfl dX11_written_6 ⟨by decide +kernel, by decide +kernel⟩ (fun u0 H locs hP hD hS => ?_)
  refine lv_if_eq (tgt := 19) hx hb dX11_written_9 z684 (fun _ => ?_) (fun c1 => absurd (rfl) c1)
  refine lv_ldcw hx hb hown w2 dX11_written_19 ?_
  refine W.widen (k := 0) (n := 0) (by decide +kernel) (by decide +kernel) ?_
  exact ret_i hx hb hr hlocks hS (u := (fun _ => 0)) (hP.sub [] rfl) (hD.sub [] (by decide +kernel) rfl) dX11_written_22

set_option maxHeartbeats 4000000 in
set_option maxRecDepth 100000 in
theorem k225_X9_hasCharters (l : Launch) (dC : Nat → ClassId) (dI : Nat → Nat → Nat) (cB cI cJ cZ cO : ClassId) (r : Nat → Nat) : CI l yX9_hasCharters wsX9_hasCharters ({ frames := 0, cells := 0, slots := 0, locals := 0 }) (dC, dI) (tyL cB cI cJ cZ cO) [.ref (r 65)] [((r 65), .inr (9, [.int 0, .int 0, .ref (r 66), .ref (r 67), .ref (r 68), .ref (r 69), .int 3, .int 1, .int 0, .int 0, .int 0]))] (fun u => [((r 65), .inr (9, [.int 0, .int 0, .ref (r 66), .ref (r 67), .ref (r 68), .ref (r 69), .int 3, .int 1, .int 0, .int 0, .int 0]))]) 0 := by
  intro sz
  refine ct_open (cc := cX9_hasCharters) (maxL := 1) (ret := (some .boolean)) (by decide) rfl (Nat.le_of_ble_eq_true rfl) ?_
  intro p e s m below meth c ls A hx hb hr hml hts hown hlocks hin hP hK hD hA hS hl
  have hl : lv_has ls 1 [(0, .ref (r 65))] := hl
  have hown : s.vm.findClass RX9 = some m.cls := hown
  have i9 : ∀ w ∈ u_ws RX9 TX9 11, w ∈ wsX9_hasCharters := fun _ h => List.mem_cons_of_mem _ (List.mem_append_right _ h)
  have w1 := hts (.fieldLink RX9 44 "GuildCharter$Tree" "spent" "Z") (List.mem_cons_of_mem _ (List.mem_append_left _ (List.mem_of_getElem? (i := 0) rfl)))
  have w2 := hts (.fieldLink RX9 61 "GuildCharter$Tree" "size" "I") (List.mem_cons_of_mem _ (List.mem_append_left _ (List.mem_of_getElem? (i := 1) rfl)))
  refine lv_aload_n hx hb dX9_hasCharters_0 rfl (lv_at hl 0 rfl) ?_
  refine va_get (D := (dC, dI)) (ci := 9) (v := .int 0) (C := RX9) (T := TX9) (N := 11) hx hb hts i9 hown hK hP 0 rfl rfl 1 (nlt rfl) w1 (fun _ h9 => h9) rfl dX9_hasCharters_1 ?_
  refine lv_if_ne (tgt := 18) hx hb dX9_hasCharters_4 z685 (fun c1 => absurd (rfl) c1) (fun _ => ?_)
  refine lv_aload_n hx hb dX9_hasCharters_7 rfl (lv_at hl 0 rfl) ?_
  refine va_get (D := (dC, dI)) (ci := 9) (v := .int 0) (C := RX9) (T := TX9) (N := 11) hx hb hts i9 hown hK hP 0 rfl rfl 0 (nlt rfl) w2 (fun _ h9 => h9) rfl dX9_hasCharters_8 ?_
  refine lv_if_le (tgt := 18) hx hb dX9_hasCharters_11 z686 (fun _ => ?_) (fun c1 => absurd (z510) c1)
  refine lv_iconst (v := 0) hx hb dX9_hasCharters_18 z8 ?_
  refine W.widen (k := 0) (n := 0) (by decide +kernel) (by decide +kernel) ?_
  exact ret_z hx hb hr rfl hlocks hS (u := (fun _ => 0)) (hP.sub [0] rfl) (hD.sub [0] (by decide +kernel) rfl) dX9_hasCharters_19

set_option maxHeartbeats 4000000 in
set_option maxRecDepth 100000 in
theorem k226_X10_written (l : Launch) (dC : Nat → ClassId) (dI : Nat → Nat → Nat) (cB cI cJ cZ cO : ClassId) (r : Nat → Nat) (x1 : Int32) (h0 : ¬ x1 < 0) (h1 : ¬ 3 ≤ x1) : CI l yX10_written wsX10_written ({ frames := 4, cells := 0, slots := 0, locals := 99 }) (dC, dI) (tyL cB cI cJ cZ cO) [.ref (r 0), .int x1] [((r 0), .inr (10, fX r)), ((r 38), .inr (0, [.ref (r 39), .int 0, .ref (r 40), .ref (r 41), .ref (r 42), .ref (r 43), .ref (r 44), .int 0, .int 0])), ((r 65), .inr (9, [.int 0, .int 0, .ref (r 66), .ref (r 67), .ref (r 68), .ref (r 69), .int 0, .int 0, .int 0, .int 0, .int 0])), ((r 18), .inr (4, [.int 0, .ref (r 19), .ref (r 20), .int 0, .ref (r 21), .ref (r 22), .int 0, .ref (r 23), .ref (r 24), .int 0, .ref (r 25), .ref (r 26), .int 3, .int 0, .int 0, .ref (r 27)])), ((r 66), .inl (cI, 3000, .inl (fun _ => 0))), ((r 67), .inl (cI, 3000, .inl (fun _ => 0))), ((r 69), .inl (cI, 3000, .inl (fun _ => 0))), ((r 68), .inl (cI, 9000, .inl (fun _ => 0))), ((r 55), .inr (5, [.ref (r 56), .ref (r 57)]))] (fun _ => []) (-1000000) := by
  intro sz
  refine ct_open (cc := cX10_written) (maxL := 4) (ret := (some .int)) (by decide) rfl (Nat.le_of_ble_eq_true rfl) ?_
  intro p e s m below meth c ls A hx hb hr hml hts hown hlocks hin hP hK hD hA hS hl
  have hl : lv_has ls 4 [(0, .ref (r 0)), (1, .int x1)] := hl
  have hown : s.vm.findClass RX10 = some m.cls := hown
  have i10 : ∀ w ∈ u_ws RX10 TX10 18, w ∈ wsX10_written := fun _ h => List.mem_cons_of_mem _ (List.mem_append_left _ (List.mem_append_left _ (List.mem_append_left _ (List.mem_append_left _ (List.mem_append_left _ (List.mem_append_right _ h))))))
  have w1 := hts (.fieldLink RX10 128 "GuildCharter" "lyingSize" "I") (List.mem_cons_of_mem _ (List.mem_append_left _ (List.mem_append_left _ (List.mem_append_left _ (List.mem_append_left _ (List.mem_append_left _ (List.mem_append_left _ (List.mem_append_left _ (List.mem_of_getElem? (i := 0) rfl)))))))))
  have w2 := hts (.constant RX10 153 (-1000000)) (List.mem_cons_of_mem _ (List.mem_append_left _ (List.mem_append_left _ (List.mem_append_left _ (List.mem_append_left _ (List.mem_append_left _ (List.mem_append_left _ (List.mem_append_left _ (List.mem_of_getElem? (i := 1) rfl)))))))))
  refine lv_aload_n hx hb dX10_written_0 rfl (lv_at hl 0 rfl) ?_
  refine lv_iconst (v := 0) hx hb dX10_written_1 z8 ?_
  refine va_put (D := (dC, dI)) (ci := 10) (v := .int 0) (ty := tyX10 16) (C := RX10) (T := TX10) (N := 18) hx hb hts i10 tyX10 tyX10_ok nmX10 hown hK hP hD hS 0 rfl rfl 16 (nlt rfl) w1 (fun _ h9 => h9) rfl (tyX10_ok 16 (nlt rfl)) rfl rfl (nlt rfl) dX10_written_2 (fun H locs hP hD hS => ?_)
  refine lv_aload_n hx hb dX10_written_5 rfl (lv_at hl 0 rfl) ?_
  refine call_rV (ci := 10) (As := []) (rest := []) (wr := []) ⟨hx, hb, hml, hown, hts⟩ (k222_X10_growEarnest l dC dI cB cI cJ cZ cO r) (cwV 0 hts gX10_written_X10_growEarnest rfl rfl rfl ⟨rfl, z683⟩ ⟨Nat.le_of_ble_eq_true rfl, Nat.le_of_ble_eq_true rfl⟩) hK hP hD hS hA [0, 1, 2, 3, 4, 5, 6, 7, 8] [] rfl rfl (by decide +kernel) (by decide +kernel) (by decide +kernel) rfl rfl rfl hl.1 (Nat.le_of_ble_eq_true rfl) rfl rfl dX10_written_6 ⟨by decide +kernel, by decide +kernel⟩ (fun u0 H locs hP hD hS => ?_)
  refine lv_astore_n (lv' := [(2, .ref (r 65)), (0, .ref (r 0)), (1, .int x1)]) hx hb dX10_written_9 rfl hl (nlt rfl) rfl (fun ls hl => ?_)
  refine lv_iload_n hx hb dX10_written_10 rfl (lv_at hl 2 rfl) ?_
  refine call_iS (As := [.int x1]) (rest := []) (wr := [((r 0), .inr (10, fX r)), ((r 38), .inr (0, [.ref (r 39), .int 0, .ref (r 40), .ref (r 41), .ref (r 42), .ref (r 43), .ref (r 44), .int 0, .int 0])), ((r 65), .inr (9, [.int 0, .int 0, .ref (r 66), .ref (r 67), .ref (r 68), .ref (r 69), .int 3, .int 1, .int 0, .int 0, .int 0])), ((r 18), .inr (4, [.int 0, .ref (r 19), .ref (r 20), .int 0, .ref (r 21), .ref (r 22), .int 0, .ref (r 23), .ref (r 24), .int 0, .ref (r 25), .ref (r 26), .int 3, .int 0, .int 0, .ref (r 27)])), ((r 66), .inl (cI, 3000, .inl (upd (fun _ => 0) 0 (-1)))), ((r 67), .inl (cI, 3000, .inl (fun _ => 0))), ((r 69), .inl (cI, 3000, .inl (fun _ => 0))), ((r 68), .inl (cI, 9000, .inl (fun _ => 0))), ((r 55), .inr (5, [.ref (r 56), .ref (r 57)]))]) ⟨hx, hb, hml, hown, hts⟩ (k205_X10_isGuild l dC dI cB cI cJ cZ cO x1 h0 h1) (va_cwS 1 hts gX10_written_X10_isGuild rfl rfl rfl z621 ⟨Nat.le_of_ble_eq_true rfl, Nat.le_of_ble_eq_true rfl⟩) hK hP hD hS hA [] [0, 1, 2, 3, 4, 5, 6, 7, 8] rfl rfl (by decide +kernel) (by decide +kernel) (by decide +kernel) hl.1 (Nat.le_of_ble_eq_true rfl) rfl rfl dX10_written_11 ⟨by decide +kernel, by decide +kernel⟩ (fun u1 H locs hP hD hS => ?_)
  refine lv_if_eq (tgt := 24) hx hb dX10_written_14 z616 (fun c1 => absurd c1 (z525)) (fun _ => ?_)
  refine lv_aload_n hx hb dX10_written_17 rfl (lv_at hl 0 rfl) ?_
  refine call_iV (ci := 9) (As := []) (rest := []) (wr := [((r 0), .inr (10, fX r)), ((r 38), .inr (0, [.ref (r 39), .int 0, .ref (r 40), .ref (r 41), .ref (r 42), .ref (r 43), .ref (r 44), .int 0, .int 0])), ((r 18), .inr (4, [.int 0, .ref (r 19), .ref (r 20), .int 0, .ref (r 21), .ref (r 22), .int 0, .ref (r 23), .ref (r 24), .int 0, .ref (r 25), .ref (r 26), .int 3, .int 0, .int 0, .ref (r 27)])), ((r 66), .inl (cI, 3000, .inl (upd (fun _ => 0) 0 (-1)))), ((r 67), .inl (cI, 3000, .inl (fun _ => 0))), ((r 69), .inl (cI, 3000, .inl (fun _ => 0))), ((r 68), .inl (cI, 9000, .inl (fun _ => 0))), ((r 55), .inr (5, [.ref (r 56), .ref (r 57)]))]) ⟨hx, hb, hml, hown, hts⟩ (k225_X9_hasCharters l dC dI cB cI cJ cZ cO r) (cwV 0 hts gX10_written_X9_hasCharters rfl rfl rfl ⟨rfl, z688⟩ ⟨Nat.le_of_ble_eq_true rfl, Nat.le_of_ble_eq_true rfl⟩) hK hP hD hS hA [2] [0, 1, 3, 4, 5, 6, 7, 8] rfl rfl (by decide +kernel) (by decide +kernel) (by decide +kernel) rfl rfl rfl hl.1 (Nat.le_of_ble_eq_true rfl) rfl rfl dX10_written_18 ⟨by decide +kernel, by decide +kernel⟩ (fun u2 H locs hP hD hS => ?_)
  refine lv_if_ne (tgt := 27) hx hb dX10_written_21 z687 (fun c1 => absurd (rfl) c1) (fun _ => ?_)
  refine lv_ldc hx hb hown w2 dX10_written_24 ?_
  refine W.widen (k := 0) (n := 0) (by decide +kernel) (by decide +kernel) ?_
  exact ret_i hx hb hr hlocks hS (u := (fun _ => 0)) (hP.sub [] rfl) (hD.sub [] (by decide +kernel) rfl) dX10_written_26

set_option maxHeartbeats 4000000 in
set_option maxRecDepth 100000 in
theorem k227_X11_keyOf (l : Launch) (dC : Nat → ClassId) (dI : Nat → Nat → Nat) (cB cI cJ cZ cO : ClassId) (n : Nat → Nat) : CL l yX11_keyOf wsX11_keyOf ({ frames := 0, cells := 0, slots := 0, locals := 0 }) (dC, dI) (tyL cB cI cJ cZ cO) [.ref (n 0), .int 0, .int 0] [((n 0), .inr (11, fM n))] (fun u => [((n 0), .inr (11, fM n))]) 1000000 := by
  intro sz
  refine ct_open (cc := cX11_keyOf) (maxL := 6) (ret := (some .long)) (by decide) rfl (Nat.le_of_ble_eq_true rfl) ?_
  intro p e s m below meth c ls A hx hb hr hml hts hown hlocks hin hP hK hD hA hS hl
  have hl : lv_has ls 6 [(0, .ref (n 0)), (1, .int 0), (2, .int 0)] := hl
  have hown : s.vm.findClass RX11 = some m.cls := hown
  have w0 := hts (.constantLong RX11 378 10) (by decide +kernel)
  refine lv_iload_n hx hb dX11_keyOf_0 rfl (lv_at hl 2 rfl) ?_
  refine lv_if_eq (tgt := 10) hx hb dX11_keyOf_1 z689 (fun _ => ?_) (fun c1 => absurd (rfl) c1)
  refine lv_lconst (v := 1) hx hb dX11_keyOf_10 rfl ?_
  refine lv_iload_n hx hb dX11_keyOf_11 rfl (lv_at hl 1 rfl) ?_
  refine lv_i2l (v := 0) hx hb dX11_keyOf_12 z690 ?_
  refine lv_ladd hx hb dX11_keyOf_13 ?_
  refine tpl z691 ?_
  refine lv_lstore_n (lv' := [(3, .long 1), (0, .ref (n 0)), (1, .int 0), (2, .int 0)]) hx hb dX11_keyOf_14 rfl hl (nlt rfl) rfl (fun ls hl => ?_)
  refine lv_iconst (v := 0) hx hb dX11_keyOf_15 z8 ?_
  refine lv_istore (lv' := [(5, .int 0), (3, .long 1), (0, .ref (n 0)), (1, .int 0), (2, .int 0)]) hx hb dX11_keyOf_16 hl (nlt rfl) rfl (fun ls hl => ?_)
  refine lv_iload hx hb dX11_keyOf_18 (lv_at hl 0 rfl) ?_
  refine lv_bipush (v := 6) hx hb dX11_keyOf_20 z4 ?_
  refine lv_icmp_ge (tgt := 74) hx hb dX11_keyOf_22 z692 (fun c1 => absurd c1 (z78)) (fun _ => ?_)
  refine lv_lload_n hx hb dX11_keyOf_25 rfl (lv_at hl 1 rfl) ?_
  refine lv_ldc2 hx hb hown w0 dX11_keyOf_26 ?_
  refine lv_lmul hx hb dX11_keyOf_29 ?_
  refine tpl z693 ?_
  refine lv_iload_n hx hb dX11_keyOf_30 rfl (lv_at hl 4 rfl) ?_
  refine lv_if_eq (tgt := 46) hx hb dX11_keyOf_31 z694 (fun _ => ?_) (fun c1 => absurd (rfl) c1)
  refine lv_iload hx hb dX11_keyOf_46 (lv_at hl 0 rfl) ?_
  refine lv_iload_n hx hb dX11_keyOf_48 rfl (lv_at hl 3 rfl) ?_
  refine lv_icmp_ge (tgt := 64) hx hb dX11_keyOf_49 z695 (fun _ => ?_) (fun c1 => absurd (z510) c1)
  refine lv_iconst (v := 0) hx hb dX11_keyOf_64 z8 ?_
  refine lv_i2l (v := 0) hx hb dX11_keyOf_65 z690 ?_
  refine lv_ladd hx hb dX11_keyOf_66 ?_
  refine tpl z696 ?_
  refine lv_lstore_n (lv' := [(3, .long 10), (5, .int 0), (0, .ref (n 0)), (1, .int 0), (2, .int 0)]) hx hb dX11_keyOf_67 rfl hl (nlt rfl) rfl (fun ls hl => ?_)
  refine lv_iinc (v := 1) (lv' := [(5, .int 1), (3, .long 10), (0, .ref (n 0)), (1, .int 0), (2, .int 0)]) hx hb dX11_keyOf_68 hl (k := 1) rfl z17 (nlt rfl) rfl (fun ls hl => ?_)
  refine lv_goto (tgt := 18) hx hb dX11_keyOf_71 z697 ?_
  refine lv_iload hx hb dX11_keyOf_18 (lv_at hl 0 rfl) ?_
  refine lv_bipush (v := 6) hx hb dX11_keyOf_20 z4 ?_
  refine lv_icmp_ge (tgt := 74) hx hb dX11_keyOf_22 z692 (fun c1 => absurd c1 (z80)) (fun _ => ?_)
  refine lv_lload_n hx hb dX11_keyOf_25 rfl (lv_at hl 1 rfl) ?_
  refine lv_ldc2 hx hb hown w0 dX11_keyOf_26 ?_
  refine lv_lmul hx hb dX11_keyOf_29 ?_
  refine tpl z698 ?_
  refine lv_iload_n hx hb dX11_keyOf_30 rfl (lv_at hl 4 rfl) ?_
  refine lv_if_eq (tgt := 46) hx hb dX11_keyOf_31 z694 (fun _ => ?_) (fun c1 => absurd (rfl) c1)
  refine lv_iload hx hb dX11_keyOf_46 (lv_at hl 0 rfl) ?_
  refine lv_iload_n hx hb dX11_keyOf_48 rfl (lv_at hl 3 rfl) ?_
  refine lv_icmp_ge (tgt := 64) hx hb dX11_keyOf_49 z695 (fun _ => ?_) (fun c1 => absurd (z699) c1)
  refine lv_iconst (v := 0) hx hb dX11_keyOf_64 z8 ?_
  refine lv_i2l (v := 0) hx hb dX11_keyOf_65 z690 ?_
  refine lv_ladd hx hb dX11_keyOf_66 ?_
  refine tpl z700 ?_
  refine lv_lstore_n (lv' := [(3, .long 100), (5, .int 1), (0, .ref (n 0)), (1, .int 0), (2, .int 0)]) hx hb dX11_keyOf_67 rfl hl (nlt rfl) rfl (fun ls hl => ?_)
  refine lv_iinc (v := 2) (lv' := [(5, .int 2), (3, .long 100), (0, .ref (n 0)), (1, .int 0), (2, .int 0)]) hx hb dX11_keyOf_68 hl (k := 1) rfl z24 (nlt rfl) rfl (fun ls hl => ?_)
  refine lv_goto (tgt := 18) hx hb dX11_keyOf_71 z697 ?_
  refine lv_iload hx hb dX11_keyOf_18 (lv_at hl 0 rfl) ?_
  refine lv_bipush (v := 6) hx hb dX11_keyOf_20 z4 ?_
  refine lv_icmp_ge (tgt := 74) hx hb dX11_keyOf_22 z692 (fun c1 => absurd c1 (z83)) (fun _ => ?_)
  refine lv_lload_n hx hb dX11_keyOf_25 rfl (lv_at hl 1 rfl) ?_
  refine lv_ldc2 hx hb hown w0 dX11_keyOf_26 ?_
  refine lv_lmul hx hb dX11_keyOf_29 ?_
  refine tpl z701 ?_
  refine lv_iload_n hx hb dX11_keyOf_30 rfl (lv_at hl 4 rfl) ?_
  refine lv_if_eq (tgt := 46) hx hb dX11_keyOf_31 z694 (fun _ => ?_) (fun c1 => absurd (rfl) c1)
  refine lv_iload hx hb dX11_keyOf_46 (lv_at hl 0 rfl) ?_
  refine lv_iload_n hx hb dX11_keyOf_48 rfl (lv_at hl 3 rfl) ?_
  refine lv_icmp_ge (tgt := 64) hx hb dX11_keyOf_49 z695 (fun _ => ?_) (fun c1 => absurd (z702) c1)
  refine lv_iconst (v := 0) hx hb dX11_keyOf_64 z8 ?_
  refine lv_i2l (v := 0) hx hb dX11_keyOf_65 z690 ?_
  refine lv_ladd hx hb dX11_keyOf_66 ?_
  refine tpl z703 ?_
  refine lv_lstore_n (lv' := [(3, .long 1000), (5, .int 2), (0, .ref (n 0)), (1, .int 0), (2, .int 0)]) hx hb dX11_keyOf_67 rfl hl (nlt rfl) rfl (fun ls hl => ?_)
  refine lv_iinc (v := 3) (lv' := [(5, .int 3), (3, .long 1000), (0, .ref (n 0)), (1, .int 0), (2, .int 0)]) hx hb dX11_keyOf_68 hl (k := 1) rfl z30 (nlt rfl) rfl (fun ls hl => ?_)
  refine lv_goto (tgt := 18) hx hb dX11_keyOf_71 z697 ?_
  refine lv_iload hx hb dX11_keyOf_18 (lv_at hl 0 rfl) ?_
  refine lv_bipush (v := 6) hx hb dX11_keyOf_20 z4 ?_
  refine lv_icmp_ge (tgt := 74) hx hb dX11_keyOf_22 z692 (fun c1 => absurd c1 (z88)) (fun _ => ?_)
  refine lv_lload_n hx hb dX11_keyOf_25 rfl (lv_at hl 1 rfl) ?_
  refine lv_ldc2 hx hb hown w0 dX11_keyOf_26 ?_
  refine lv_lmul hx hb dX11_keyOf_29 ?_
  refine tpl z704 ?_
  refine lv_iload_n hx hb dX11_keyOf_30 rfl (lv_at hl 4 rfl) ?_
  refine lv_if_eq (tgt := 46) hx hb dX11_keyOf_31 z694 (fun _ => ?_) (fun c1 => absurd (rfl) c1)
  refine lv_iload hx hb dX11_keyOf_46 (lv_at hl 0 rfl) ?_
  refine lv_iload_n hx hb dX11_keyOf_48 rfl (lv_at hl 3 rfl) ?_
  refine lv_icmp_ge (tgt := 64) hx hb dX11_keyOf_49 z695 (fun _ => ?_) (fun c1 => absurd (z705) c1)
  refine lv_iconst (v := 0) hx hb dX11_keyOf_64 z8 ?_
  refine lv_i2l (v := 0) hx hb dX11_keyOf_65 z690 ?_
  refine lv_ladd hx hb dX11_keyOf_66 ?_
  refine tpl z706 ?_
  refine lv_lstore_n (lv' := [(3, .long 10000), (5, .int 3), (0, .ref (n 0)), (1, .int 0), (2, .int 0)]) hx hb dX11_keyOf_67 rfl hl (nlt rfl) rfl (fun ls hl => ?_)
  refine lv_iinc (v := 4) (lv' := [(5, .int 4), (3, .long 10000), (0, .ref (n 0)), (1, .int 0), (2, .int 0)]) hx hb dX11_keyOf_68 hl (k := 1) rfl z36 (nlt rfl) rfl (fun ls hl => ?_)
  refine lv_goto (tgt := 18) hx hb dX11_keyOf_71 z697 ?_
  refine lv_iload hx hb dX11_keyOf_18 (lv_at hl 0 rfl) ?_
  refine lv_bipush (v := 6) hx hb dX11_keyOf_20 z4 ?_
  refine lv_icmp_ge (tgt := 74) hx hb dX11_keyOf_22 z692 (fun c1 => absurd c1 (z93)) (fun _ => ?_)
  refine lv_lload_n hx hb dX11_keyOf_25 rfl (lv_at hl 1 rfl) ?_
  refine lv_ldc2 hx hb hown w0 dX11_keyOf_26 ?_
  refine lv_lmul hx hb dX11_keyOf_29 ?_
  refine tpl z707 ?_
  refine lv_iload_n hx hb dX11_keyOf_30 rfl (lv_at hl 4 rfl) ?_
  refine lv_if_eq (tgt := 46) hx hb dX11_keyOf_31 z694 (fun _ => ?_) (fun c1 => absurd (rfl) c1)
  refine lv_iload hx hb dX11_keyOf_46 (lv_at hl 0 rfl) ?_
  refine lv_iload_n hx hb dX11_keyOf_48 rfl (lv_at hl 3 rfl) ?_
  refine lv_icmp_ge (tgt := 64) hx hb dX11_keyOf_49 z695 (fun _ => ?_) (fun c1 => absurd (z708) c1)
  refine lv_iconst (v := 0) hx hb dX11_keyOf_64 z8 ?_
  refine lv_i2l (v := 0) hx hb dX11_keyOf_65 z690 ?_
  refine lv_ladd hx hb dX11_keyOf_66 ?_
  refine tpl z709 ?_
  refine lv_lstore_n (lv' := [(3, .long 100000), (5, .int 4), (0, .ref (n 0)), (1, .int 0), (2, .int 0)]) hx hb dX11_keyOf_67 rfl hl (nlt rfl) rfl (fun ls hl => ?_)
  refine lv_iinc (v := 5) (lv' := [(5, .int 5), (3, .long 100000), (0, .ref (n 0)), (1, .int 0), (2, .int 0)]) hx hb dX11_keyOf_68 hl (k := 1) rfl z98 (nlt rfl) rfl (fun ls hl => ?_)
  refine lv_goto (tgt := 18) hx hb dX11_keyOf_71 z697 ?_
  refine lv_iload hx hb dX11_keyOf_18 (lv_at hl 0 rfl) ?_
  refine lv_bipush (v := 6) hx hb dX11_keyOf_20 z4 ?_
  refine lv_icmp_ge (tgt := 74) hx hb dX11_keyOf_22 z692 (fun c1 => absurd c1 (z99)) (fun _ => ?_)
  refine lv_lload_n hx hb dX11_keyOf_25 rfl (lv_at hl 1 rfl) ?_
  refine lv_ldc2 hx hb hown w0 dX11_keyOf_26 ?_
  refine lv_lmul hx hb dX11_keyOf_29 ?_
  refine tpl z710 ?_
  refine lv_iload_n hx hb dX11_keyOf_30 rfl (lv_at hl 4 rfl) ?_
  refine lv_if_eq (tgt := 46) hx hb dX11_keyOf_31 z694 (fun _ => ?_) (fun c1 => absurd (rfl) c1)
  refine lv_iload hx hb dX11_keyOf_46 (lv_at hl 0 rfl) ?_
  refine lv_iload_n hx hb dX11_keyOf_48 rfl (lv_at hl 3 rfl) ?_
  refine lv_icmp_ge (tgt := 64) hx hb dX11_keyOf_49 z695 (fun _ => ?_) (fun c1 => absurd (z711) c1)
  refine lv_iconst (v := 0) hx hb dX11_keyOf_64 z8 ?_
  refine lv_i2l (v := 0) hx hb dX11_keyOf_65 z690 ?_
  refine lv_ladd hx hb dX11_keyOf_66 ?_
  refine tpl z712 ?_
  refine lv_lstore_n (lv' := [(3, .long 1000000), (5, .int 5), (0, .ref (n 0)), (1, .int 0), (2, .int 0)]) hx hb dX11_keyOf_67 rfl hl (nlt rfl) rfl (fun ls hl => ?_)
  refine lv_iinc (v := 6) (lv' := [(5, .int 6), (3, .long 1000000), (0, .ref (n 0)), (1, .int 0), (2, .int 0)]) hx hb dX11_keyOf_68 hl (k := 1) rfl z104 (nlt rfl) rfl (fun ls hl => ?_)
  refine lv_goto (tgt := 18) hx hb dX11_keyOf_71 z697 ?_
  refine lv_iload hx hb dX11_keyOf_18 (lv_at hl 0 rfl) ?_
  refine lv_bipush (v := 6) hx hb dX11_keyOf_20 z4 ?_
  refine lv_icmp_ge (tgt := 74) hx hb dX11_keyOf_22 z692 (fun _ => ?_) (fun c1 => absurd (z105) c1)
  refine lv_lload_n hx hb dX11_keyOf_74 rfl (lv_at hl 1 rfl) ?_
  refine W.widen (k := 0) (n := 0) (by decide +kernel) (by decide +kernel) ?_
  exact ret_l hx hb hr hlocks hS (u := (fun _ => 0)) (hP.sub [0] rfl) (hD.sub [0] (by decide +kernel) rfl) dX11_keyOf_75

set_option maxHeartbeats 4000000 in
set_option maxRecDepth 100000 in
theorem k228_X11_longOf (l : Launch) (dC : Nat → ClassId) (dI : Nat → Nat → Nat) (cB cI cJ cZ cO : ClassId) (n : Nat → Nat) : CI l yX11_longOf wsX11_longOf ({ frames := 0, cells := 0, slots := 0, locals := 0 }) (dC, dI) (tyL cB cI cJ cZ cO) [.ref (n 0)] [((n 0), .inr (11, [.ref (n 1), .ref (n 2), .int 0, .int 0, .int 0, .int (-1), .int 0, .int 0, .int 0, .int 0, .long 0, .ref (n 3), .ref (n 4), .ref (n 5), .ref (n 6), .ref (n 7), .ref (n 8), .ref (n 9), .ref (n 10), .ref (n 11), .ref (n 12), .ref (n 13), .ref (n 14), .ref (n 15), .ref (n 16), .ref (n 17), .ref (n 18), .ref (n 19), .ref (n 20), .int 0, .int 0, .ref (n 21), .ref (n 22), .ref (n 23), .ref (n 24), .ref (n 25), .ref (n 26), .ref (n 27), .ref (n 28), .int 0, .ref (n 29), .ref (n 30), .int 0, .int 0, .ref (n 31), .ref (n 32), .ref (n 33), .ref (n 34), .int 0, .int 0, .int 0, .long 1000000, .ref (n 35), .ref (n 36), .int (-1), .int 0, .int 0, .int 0, .ref (n 37), .int 0, .ref (n 38), .ref (n 39), .ref (n 40), .ref (n 41), .ref (n 42), .ref (n 43), .int 0, .int 0, .ref (n 44), .ref (n 45), .ref (n 46)])), ((n 7), .inl (cI, 2, .inl (upd (fun _ => 0) 0 3)))] (fun u => [((n 0), .inr (11, [.ref (n 1), .ref (n 2), .int 0, .int 0, .int 0, .int (-1), .int 0, .int 0, .int 0, .int 0, .long 0, .ref (n 3), .ref (n 4), .ref (n 5), .ref (n 6), .ref (n 7), .ref (n 8), .ref (n 9), .ref (n 10), .ref (n 11), .ref (n 12), .ref (n 13), .ref (n 14), .ref (n 15), .ref (n 16), .ref (n 17), .ref (n 18), .ref (n 19), .ref (n 20), .int 0, .int 0, .ref (n 21), .ref (n 22), .ref (n 23), .ref (n 24), .ref (n 25), .ref (n 26), .ref (n 27), .ref (n 28), .int 0, .ref (n 29), .ref (n 30), .int 0, .int 0, .ref (n 31), .ref (n 32), .ref (n 33), .ref (n 34), .int 0, .int 0, .int 0, .long 1000000, .ref (n 35), .ref (n 36), .int (-1), .int 0, .int 0, .int 0, .ref (n 37), .int 0, .ref (n 38), .ref (n 39), .ref (n 40), .ref (n 41), .ref (n 42), .ref (n 43), .int 0, .int 0, .ref (n 44), .ref (n 45), .ref (n 46)])), ((n 7), .inl (cI, 2, .inl (upd (fun _ => 0) 0 3)))]) 3 := by
  intro sz
  refine ct_open (cc := cX11_longOf) (maxL := 1) (ret := (some .int)) (by decide) rfl (Nat.le_of_ble_eq_true rfl) ?_
  intro p e s m below meth c ls A hx hb hr hml hts hown hlocks hin hP hK hD hA hS hl
  have hl : lv_has ls 1 [(0, .ref (n 0))] := hl
  have hown : s.vm.findClass RX11 = some m.cls := hown
  have i11 : ∀ w ∈ u_ws RX11 TX11 71, w ∈ wsX11_longOf := fun _ h => List.mem_cons_of_mem _ (List.mem_append_right _ h)
  have w1 := hts (.fieldLink RX11 33 "GuildCharterModel" "length" "[I") (List.mem_cons_of_mem _ (List.mem_append_left _ (List.mem_of_getElem? (i := 0) rfl)))
  have w2 := hts (.fieldLink RX11 233 "GuildCharterModel" "bank" "I") (List.mem_cons_of_mem _ (List.mem_append_left _ (List.mem_of_getElem? (i := 1) rfl)))
  refine lv_aload_n hx hb dX11_longOf_0 rfl (lv_at hl 0 rfl) ?_
  refine va_get (D := (dC, dI)) (ci := 11) (v := .ref (n 7)) (C := RX11) (T := TX11) (N := 71) hx hb hts i11 hown hK hP 0 rfl rfl 15 (nlt rfl) w1 (fun _ h9 => h9) rfl dX11_longOf_1 ?_
  refine lv_aload_n hx hb dX11_longOf_4 rfl (lv_at hl 0 rfl) ?_
  refine va_get (D := (dC, dI)) (ci := 11) (v := .int 0) (C := RX11) (T := TX11) (N := 71) hx hb hts i11 hown hK hP 0 rfl rfl 29 (nlt rfl) w2 (fun _ h9 => h9) rfl dX11_longOf_5 ?_
  refine my_iald (v := 3) hx hb hK hP 1 1 rfl rfl z248 rfl dX11_longOf_8 ?_
  refine W.widen (k := 0) (n := 0) (by decide +kernel) (by decide +kernel) ?_
  exact ret_i hx hb hr hlocks hS (u := (fun _ => 0)) (hP.sub [0, 1] rfl) (hD.sub [0, 1] (by decide +kernel) rfl) dX11_longOf_9

set_option maxHeartbeats 4000000 in
set_option maxRecDepth 100000 in
theorem k229_X11_isRead (l : Launch) (dC : Nat → ClassId) (dI : Nat → Nat → Nat) (cB cI cJ cZ cO : ClassId) (n : Nat → Nat) : CI l yX11_isRead wsX11_isRead ({ frames := 0, cells := 0, slots := 0, locals := 0 }) (dC, dI) (tyL cB cI cJ cZ cO) [.ref (n 0), .int 3] [((n 0), .inr (11, [.ref (n 1), .ref (n 2), .int 0, .int 0, .int 0, .int (-1), .int 0, .int 0, .int 0, .int 0, .long 0, .ref (n 3), .ref (n 4), .ref (n 5), .ref (n 6), .ref (n 7), .ref (n 8), .ref (n 9), .ref (n 10), .ref (n 11), .ref (n 12), .ref (n 13), .ref (n 14), .ref (n 15), .ref (n 16), .ref (n 17), .ref (n 18), .ref (n 19), .ref (n 20), .int 0, .int 0, .ref (n 21), .ref (n 22), .ref (n 23), .ref (n 24), .ref (n 25), .ref (n 26), .ref (n 27), .ref (n 28), .int 0, .ref (n 29), .ref (n 30), .int 0, .int 0, .ref (n 31), .ref (n 32), .ref (n 33), .ref (n 34), .int 0, .int 0, .int 0, .long 1000000, .ref (n 35), .ref (n 36), .int (-1), .int 0, .int 0, .int 0, .ref (n 37), .int 0, .ref (n 38), .ref (n 39), .ref (n 40), .ref (n 41), .ref (n 42), .ref (n 43), .int 0, .int 0, .ref (n 44), .ref (n 45), .ref (n 46)])), ((n 5), .inl (cI, 2, .inl (fun _ => 0)))] (fun u => [((n 0), .inr (11, [.ref (n 1), .ref (n 2), .int 0, .int 0, .int 0, .int (-1), .int 0, .int 0, .int 0, .int 0, .long 0, .ref (n 3), .ref (n 4), .ref (n 5), .ref (n 6), .ref (n 7), .ref (n 8), .ref (n 9), .ref (n 10), .ref (n 11), .ref (n 12), .ref (n 13), .ref (n 14), .ref (n 15), .ref (n 16), .ref (n 17), .ref (n 18), .ref (n 19), .ref (n 20), .int 0, .int 0, .ref (n 21), .ref (n 22), .ref (n 23), .ref (n 24), .ref (n 25), .ref (n 26), .ref (n 27), .ref (n 28), .int 0, .ref (n 29), .ref (n 30), .int 0, .int 0, .ref (n 31), .ref (n 32), .ref (n 33), .ref (n 34), .int 0, .int 0, .int 0, .long 1000000, .ref (n 35), .ref (n 36), .int (-1), .int 0, .int 0, .int 0, .ref (n 37), .int 0, .ref (n 38), .ref (n 39), .ref (n 40), .ref (n 41), .ref (n 42), .ref (n 43), .int 0, .int 0, .ref (n 44), .ref (n 45), .ref (n 46)])), ((n 5), .inl (cI, 2, .inl (fun _ => 0)))]) 0 := by
  intro sz
  refine ct_open (cc := cX11_isRead) (maxL := 2) (ret := (some .boolean)) (by decide) rfl (Nat.le_of_ble_eq_true rfl) ?_
  intro p e s m below meth c ls A hx hb hr hml hts hown hlocks hin hP hK hD hA hS hl
  have hl : lv_has ls 2 [(0, .ref (n 0)), (1, .int 3)] := hl
  have hown : s.vm.findClass RX11 = some m.cls := hown
  have i11 : ∀ w ∈ u_ws RX11 TX11 71, w ∈ wsX11_isRead := fun _ h => List.mem_cons_of_mem _ (List.mem_append_right _ h)
  have w1 := hts (.fieldLink RX11 27 "GuildCharterModel" "rules" "[I") (List.mem_cons_of_mem _ (List.mem_append_left _ (List.mem_of_getElem? (i := 0) rfl)))
  have w2 := hts (.fieldLink RX11 233 "GuildCharterModel" "bank" "I") (List.mem_cons_of_mem _ (List.mem_append_left _ (List.mem_of_getElem? (i := 1) rfl)))
  refine lv_aload_n hx hb dX11_isRead_0 rfl (lv_at hl 0 rfl) ?_
  refine va_get (D := (dC, dI)) (ci := 11) (v := .ref (n 5)) (C := RX11) (T := TX11) (N := 71) hx hb hts i11 hown hK hP 0 rfl rfl 13 (nlt rfl) w1 (fun _ h9 => h9) rfl dX11_isRead_1 ?_
  refine lv_aload_n hx hb dX11_isRead_4 rfl (lv_at hl 0 rfl) ?_
  refine va_get (D := (dC, dI)) (ci := 11) (v := .int 0) (C := RX11) (T := TX11) (N := 71) hx hb hts i11 hown hK hP 0 rfl rfl 29 (nlt rfl) w2 (fun _ h9 => h9) rfl dX11_isRead_5 ?_
  refine my_iald (v := 0) hx hb hK hP 1 1 rfl rfl z248 rfl dX11_isRead_8 ?_
  refine lv_if_eq (tgt := 16) hx hb dX11_isRead_9 z590 (fun _ => ?_) (fun c1 => absurd (rfl) c1)
  refine lv_iconst (v := 0) hx hb dX11_isRead_16 z8 ?_
  refine W.widen (k := 0) (n := 0) (by decide +kernel) (by decide +kernel) ?_
  exact ret_z hx hb hr rfl hlocks hS (u := (fun _ => 0)) (hP.sub [0, 1] rfl) (hD.sub [0, 1] (by decide +kernel) rfl) dX11_isRead_17

set_option maxHeartbeats 4000000 in
set_option maxRecDepth 100000 in
theorem k230_X11_canGoOn (l : Launch) (dC : Nat → ClassId) (dI : Nat → Nat → Nat) (cB cI cJ cZ cO : ClassId) (n : Nat → Nat) : CI l yX11_canGoOn wsX11_canGoOn ({ frames := 1, cells := 0, slots := 0, locals := 21 }) (dC, dI) (tyL cB cI cJ cZ cO) [.ref (n 0), .int 0] [((n 0), .inr (11, [.ref (n 1), .ref (n 2), .int 0, .int 0, .int 0, .int (-1), .int 0, .int 0, .int 0, .int 0, .long 0, .ref (n 3), .ref (n 4), .ref (n 5), .ref (n 6), .ref (n 7), .ref (n 8), .ref (n 9), .ref (n 10), .ref (n 11), .ref (n 12), .ref (n 13), .ref (n 14), .ref (n 15), .ref (n 16), .ref (n 17), .ref (n 18), .ref (n 19), .ref (n 20), .int 0, .int 0, .ref (n 21), .ref (n 22), .ref (n 23), .ref (n 24), .ref (n 25), .ref (n 26), .ref (n 27), .ref (n 28), .int 0, .ref (n 29), .ref (n 30), .int 0, .int 0, .ref (n 31), .ref (n 32), .ref (n 33), .ref (n 34), .int 0, .int 0, .int 0, .long 1000000, .ref (n 35), .ref (n 36), .int (-1), .int 0, .int 0, .int 0, .ref (n 37), .int 0, .ref (n 38), .ref (n 39), .ref (n 40), .ref (n 41), .ref (n 42), .ref (n 43), .int 0, .int 0, .ref (n 44), .ref (n 45), .ref (n 46)])), ((n 7), .inl (cI, 2, .inl (upd (fun _ => 0) 0 3))), ((n 21), .inl (cI, 6, .inl (fun _ => 0))), ((n 5), .inl (cI, 2, .inl (fun _ => 0)))] (fun u => [((n 0), .inr (11, [.ref (n 1), .ref (n 2), .int 0, .int 0, .int 0, .int (-1), .int 0, .int 0, .int 0, .int 0, .long 0, .ref (n 3), .ref (n 4), .ref (n 5), .ref (n 6), .ref (n 7), .ref (n 8), .ref (n 9), .ref (n 10), .ref (n 11), .ref (n 12), .ref (n 13), .ref (n 14), .ref (n 15), .ref (n 16), .ref (n 17), .ref (n 18), .ref (n 19), .ref (n 20), .int 0, .int 0, .ref (n 21), .ref (n 22), .ref (n 23), .ref (n 24), .ref (n 25), .ref (n 26), .ref (n 27), .ref (n 28), .int 0, .ref (n 29), .ref (n 30), .int 0, .int 0, .ref (n 31), .ref (n 32), .ref (n 33), .ref (n 34), .int 0, .int 0, .int 0, .long 1000000, .ref (n 35), .ref (n 36), .int (-1), .int 0, .int 0, .int 0, .ref (n 37), .int 0, .ref (n 38), .ref (n 39), .ref (n 40), .ref (n 41), .ref (n 42), .ref (n 43), .int 0, .int 0, .ref (n 44), .ref (n 45), .ref (n 46)])), ((n 7), .inl (cI, 2, .inl (upd (fun _ => 0) 0 3))), ((n 21), .inl (cI, 6, .inl (upd (upd (upd (fun _ => 0) 0 (-1)) 1 (-1)) 2 (-1)))), ((n 5), .inl (cI, 2, .inl (fun _ => 0)))]) 0 := by
  intro sz
  refine ct_open (cc := cX11_canGoOn) (maxL := 3) (ret := (some .boolean)) (by decide) rfl (Nat.le_of_ble_eq_true rfl) ?_
  intro p e s m below meth c ls A hx hb hr hml hts hown hlocks hin hP hK hD hA hS hl
  have hl : lv_has ls 3 [(0, .ref (n 0)), (1, .int 0)] := hl
  have hown : s.vm.findClass RX11 = some m.cls := hown
  have i11 : ∀ w ∈ u_ws RX11 TX11 71, w ∈ wsX11_canGoOn := fun _ h => List.mem_cons_of_mem _ (List.mem_append_right _ h)
  have w1 := hts (.fieldLink RX11 77 "GuildCharterModel" "tried" "[I") (List.mem_cons_of_mem _ (List.mem_append_left _ (List.mem_append_left _ (List.mem_of_getElem? (i := 0) rfl))))
  refine lv_iload_n hx hb dX11_canGoOn_0 rfl (lv_at hl 1 rfl) ?_
  refine lv_istore_n (lv' := [(2, .int 0), (0, .ref (n 0)), (1, .int 0)]) hx hb dX11_canGoOn_1 rfl hl (nlt rfl) rfl (fun ls hl => ?_)
  refine lv_iload_n hx hb dX11_canGoOn_2 rfl (lv_at hl 0 rfl) ?_
  refine lv_aload_n hx hb dX11_canGoOn_3 rfl (lv_at hl 1 rfl) ?_
  refine call_iV (ci := 11) (As := []) (rest := [.int 0]) (wr := [((n 21), .inl (cI, 6, .inl (fun _ => 0))), ((n 5), .inl (cI, 2, .inl (fun _ => 0)))]) ⟨hx, hb, hml, hown, hts⟩ (k228_X11_longOf l dC dI cB cI cJ cZ cO n) (cwV 0 hts gX11_canGoOn_X11_longOf rfl rfl rfl ⟨rfl, z597⟩ ⟨Nat.le_of_ble_eq_true rfl, Nat.le_of_ble_eq_true rfl⟩) hK hP hD hS hA [0, 1] [2, 3] rfl rfl (by decide +kernel) (by decide +kernel) (by decide +kernel) rfl rfl rfl hl.1 (Nat.le_of_ble_eq_true rfl) rfl rfl dX11_canGoOn_4 ⟨by decide +kernel, by decide +kernel⟩ (fun u0 H locs hP hD hS => ?_)
  refine lv_icmp_ge (tgt := 23) hx hb dX11_canGoOn_7 z715 (fun c1 => absurd c1 (z267)) (fun _ => ?_)
  refine lv_aload_n hx hb dX11_canGoOn_10 rfl (lv_at hl 1 rfl) ?_
  refine va_get (D := (dC, dI)) (ci := 11) (v := .ref (n 21)) (C := RX11) (T := TX11) (N := 71) hx hb hts i11 hown hK hP 2 rfl rfl 31 (nlt rfl) w1 (fun _ h9 => h9) rfl dX11_canGoOn_11 ?_
  refine lv_iload_n hx hb dX11_canGoOn_14 rfl (lv_at hl 0 rfl) ?_
  refine lv_iconst (v := (-1)) hx hb dX11_canGoOn_15 z128 ?_
  refine my_iast hx hb hK hP hD hS 0 1 rfl rfl z38 dX11_canGoOn_16 (fun H locs hP hD hS => ?_)
  refine lv_iinc (v := 1) (lv' := [(2, .int 1), (0, .ref (n 0)), (1, .int 0)]) hx hb dX11_canGoOn_17 hl (k := 0) rfl z17 (nlt rfl) rfl (fun ls hl => ?_)
  refine lv_goto (tgt := 2) hx hb dX11_canGoOn_20 z716 ?_
  refine lv_iload_n hx hb dX11_canGoOn_2 rfl (lv_at hl 0 rfl) ?_
  refine lv_aload_n hx hb dX11_canGoOn_3 rfl (lv_at hl 1 rfl) ?_
  refine call_iV (ci := 11) (As := []) (rest := [.int 1]) (wr := [((n 21), .inl (cI, 6, .inl (upd (fun _ => 0) 0 (-1)))), ((n 5), .inl (cI, 2, .inl (fun _ => 0)))]) ⟨hx, hb, hml, hown, hts⟩ (k228_X11_longOf l dC dI cB cI cJ cZ cO n) (cwV 0 hts gX11_canGoOn_X11_longOf rfl rfl rfl ⟨rfl, z597⟩ ⟨Nat.le_of_ble_eq_true rfl, Nat.le_of_ble_eq_true rfl⟩) hK hP hD hS hA [2, 3] [0, 1] rfl rfl (by decide +kernel) (by decide +kernel) (by decide +kernel) rfl rfl rfl hl.1 (Nat.le_of_ble_eq_true rfl) rfl rfl dX11_canGoOn_4 ⟨by decide +kernel, by decide +kernel⟩ (fun u1 H locs hP hD hS => ?_)
  refine lv_icmp_ge (tgt := 23) hx hb dX11_canGoOn_7 z715 (fun c1 => absurd c1 (z270)) (fun _ => ?_)
  refine lv_aload_n hx hb dX11_canGoOn_10 rfl (lv_at hl 1 rfl) ?_
  refine va_get (D := (dC, dI)) (ci := 11) (v := .ref (n 21)) (C := RX11) (T := TX11) (N := 71) hx hb hts i11 hown hK hP 2 rfl rfl 31 (nlt rfl) w1 (fun _ h9 => h9) rfl dX11_canGoOn_11 ?_
  refine lv_iload_n hx hb dX11_canGoOn_14 rfl (lv_at hl 0 rfl) ?_
  refine lv_iconst (v := (-1)) hx hb dX11_canGoOn_15 z128 ?_
  refine my_iast hx hb hK hP hD hS 0 1 rfl rfl z53 dX11_canGoOn_16 (fun H locs hP hD hS => ?_)
  refine lv_iinc (v := 2) (lv' := [(2, .int 2), (0, .ref (n 0)), (1, .int 0)]) hx hb dX11_canGoOn_17 hl (k := 0) rfl z24 (nlt rfl) rfl (fun ls hl => ?_)
  refine lv_goto (tgt := 2) hx hb dX11_canGoOn_20 z716 ?_
  refine lv_iload_n hx hb dX11_canGoOn_2 rfl (lv_at hl 0 rfl) ?_
  refine lv_aload_n hx hb dX11_canGoOn_3 rfl (lv_at hl 1 rfl) ?_
  refine call_iV (ci := 11) (As := []) (rest := [.int 2]) (wr := [((n 21), .inl (cI, 6, .inl (upd (upd (fun _ => 0) 0 (-1)) 1 (-1)))), ((n 5), .inl (cI, 2, .inl (fun _ => 0)))]) ⟨hx, hb, hml, hown, hts⟩ (k228_X11_longOf l dC dI cB cI cJ cZ cO n) (cwV 0 hts gX11_canGoOn_X11_longOf rfl rfl rfl ⟨rfl, z597⟩ ⟨Nat.le_of_ble_eq_true rfl, Nat.le_of_ble_eq_true rfl⟩) hK hP hD hS hA [2, 3] [0, 1] rfl rfl (by decide +kernel) (by decide +kernel) (by decide +kernel) rfl rfl rfl hl.1 (Nat.le_of_ble_eq_true rfl) rfl rfl dX11_canGoOn_4 ⟨by decide +kernel, by decide +kernel⟩ (fun u2 H locs hP hD hS => ?_)
  refine lv_icmp_ge (tgt := 23) hx hb dX11_canGoOn_7 z715 (fun c1 => absurd c1 (z271)) (fun _ => ?_)
  refine lv_aload_n hx hb dX11_canGoOn_10 rfl (lv_at hl 1 rfl) ?_
  refine va_get (D := (dC, dI)) (ci := 11) (v := .ref (n 21)) (C := RX11) (T := TX11) (N := 71) hx hb hts i11 hown hK hP 2 rfl rfl 31 (nlt rfl) w1 (fun _ h9 => h9) rfl dX11_canGoOn_11 ?_
  refine lv_iload_n hx hb dX11_canGoOn_14 rfl (lv_at hl 0 rfl) ?_
  refine lv_iconst (v := (-1)) hx hb dX11_canGoOn_15 z128 ?_
  refine my_iast hx hb hK hP hD hS 0 1 rfl rfl z68 dX11_canGoOn_16 (fun H locs hP hD hS => ?_)
  refine lv_iinc (v := 3) (lv' := [(2, .int 3), (0, .ref (n 0)), (1, .int 0)]) hx hb dX11_canGoOn_17 hl (k := 0) rfl z30 (nlt rfl) rfl (fun ls hl => ?_)
  refine lv_goto (tgt := 2) hx hb dX11_canGoOn_20 z716 ?_
  refine lv_iload_n hx hb dX11_canGoOn_2 rfl (lv_at hl 0 rfl) ?_
  refine lv_aload_n hx hb dX11_canGoOn_3 rfl (lv_at hl 1 rfl) ?_
  refine call_iV (ci := 11) (As := []) (rest := [.int 3]) (wr := [((n 21), .inl (cI, 6, .inl (upd (upd (upd (fun _ => 0) 0 (-1)) 1 (-1)) 2 (-1)))), ((n 5), .inl (cI, 2, .inl (fun _ => 0)))]) ⟨hx, hb, hml, hown, hts⟩ (k228_X11_longOf l dC dI cB cI cJ cZ cO n) (cwV 0 hts gX11_canGoOn_X11_longOf rfl rfl rfl ⟨rfl, z597⟩ ⟨Nat.le_of_ble_eq_true rfl, Nat.le_of_ble_eq_true rfl⟩) hK hP hD hS hA [2, 3] [0, 1] rfl rfl (by decide +kernel) (by decide +kernel) (by decide +kernel) rfl rfl rfl hl.1 (Nat.le_of_ble_eq_true rfl) rfl rfl dX11_canGoOn_4 ⟨by decide +kernel, by decide +kernel⟩ (fun u3 H locs hP hD hS => ?_)
  refine lv_icmp_ge (tgt := 23) hx hb dX11_canGoOn_7 z715 (fun _ => ?_) (fun c1 => absurd (z272) c1)
  refine lv_iload_n hx hb dX11_canGoOn_23 rfl (lv_at hl 2 rfl) ?_
  refine lv_aload_n hx hb dX11_canGoOn_24 rfl (lv_at hl 1 rfl) ?_
  refine call_iV (ci := 11) (As := []) (rest := [.int 0]) (wr := [((n 21), .inl (cI, 6, .inl (upd (upd (upd (fun _ => 0) 0 (-1)) 1 (-1)) 2 (-1)))), ((n 5), .inl (cI, 2, .inl (fun _ => 0)))]) ⟨hx, hb, hml, hown, hts⟩ (k228_X11_longOf l dC dI cB cI cJ cZ cO n) (cwV 0 hts gX11_canGoOn_X11_longOf rfl rfl rfl ⟨rfl, z597⟩ ⟨Nat.le_of_ble_eq_true rfl, Nat.le_of_ble_eq_true rfl⟩) hK hP hD hS hA [2, 3] [0, 1] rfl rfl (by decide +kernel) (by decide +kernel) (by decide +kernel) rfl rfl rfl hl.1 (Nat.le_of_ble_eq_true rfl) rfl rfl dX11_canGoOn_25 ⟨by decide +kernel, by decide +kernel⟩ (fun u4 H locs hP hD hS => ?_)
  refine lv_icmp_gt (tgt := 46) hx hb dX11_canGoOn_28 z717 (fun c1 => absurd c1 (z241)) (fun _ => ?_)
  refine lv_aload_n hx hb dX11_canGoOn_31 rfl (lv_at hl 1 rfl) ?_
  refine lv_aload_n hx hb dX11_canGoOn_32 rfl (lv_at hl 1 rfl) ?_
  refine call_iV (ci := 11) (As := []) (rest := [.ref (n 0)]) (wr := [((n 21), .inl (cI, 6, .inl (upd (upd (upd (fun _ => 0) 0 (-1)) 1 (-1)) 2 (-1)))), ((n 5), .inl (cI, 2, .inl (fun _ => 0)))]) ⟨hx, hb, hml, hown, hts⟩ (k228_X11_longOf l dC dI cB cI cJ cZ cO n) (cwV 0 hts gX11_canGoOn_X11_longOf rfl rfl rfl ⟨rfl, z597⟩ ⟨Nat.le_of_ble_eq_true rfl, Nat.le_of_ble_eq_true rfl⟩) hK hP hD hS hA [2, 3] [0, 1] rfl rfl (by decide +kernel) (by decide +kernel) (by decide +kernel) rfl rfl rfl hl.1 (Nat.le_of_ble_eq_true rfl) rfl rfl dX11_canGoOn_33 ⟨by decide +kernel, by decide +kernel⟩ (fun u5 H locs hP hD hS => ?_)
  refine call_iV (ci := 11) (As := [.int 3]) (rest := []) (wr := [((n 21), .inl (cI, 6, .inl (upd (upd (upd (fun _ => 0) 0 (-1)) 1 (-1)) 2 (-1)))), ((n 7), .inl (cI, 2, .inl (upd (fun _ => 0) 0 3)))]) ⟨hx, hb, hml, hown, hts⟩ (k229_X11_isRead l dC dI cB cI cJ cZ cO n) (cwV 1 hts gX11_canGoOn_X11_isRead rfl rfl rfl ⟨rfl, z718⟩ ⟨Nat.le_of_ble_eq_true rfl, Nat.le_of_ble_eq_true rfl⟩) hK hP hD hS hA [2, 1] [0, 3] rfl rfl (by decide +kernel) (by decide +kernel) (by decide +kernel) rfl rfl rfl hl.1 (Nat.le_of_ble_eq_true rfl) rfl rfl dX11_canGoOn_36 ⟨by decide +kernel, by decide +kernel⟩ (fun u6 H locs hP hD hS => ?_)
  refine lv_if_eq (tgt := 46) hx hb dX11_canGoOn_39 z375 (fun _ => ?_) (fun c1 => absurd (rfl) c1)
  refine lv_iconst (v := 0) hx hb dX11_canGoOn_46 z8 ?_
  refine W.widen (k := 0) (n := 0) (by decide +kernel) (by decide +kernel) ?_
  exact ret_z hx hb hr rfl hlocks hS (u := (fun _ => 0)) (hP.sub [2, 1, 0, 3] rfl) (hD.sub [2, 1, 0, 3] (by decide +kernel) rfl) dX11_canGoOn_47

set_option maxHeartbeats 4000000 in
set_option maxRecDepth 100000 in
theorem k231_X11_isOnPath (l : Launch) (dC : Nat → ClassId) (dI : Nat → Nat → Nat) (cB cI cJ cZ cO : ClassId) (n : Nat → Nat) : CI l yX11_isOnPath wsX11_isOnPath ({ frames := 2, cells := 0, slots := 0, locals := 43 }) (dC, dI) (tyL cB cI cJ cZ cO) [.ref (n 0), .int 0] [((n 0), .inr (11, [.ref (n 1), .ref (n 2), .int 0, .int 0, .int 0, .int (-1), .int 0, .int 0, .int 0, .int 0, .long 0, .ref (n 3), .ref (n 4), .ref (n 5), .ref (n 6), .ref (n 7), .ref (n 8), .ref (n 9), .ref (n 10), .ref (n 11), .ref (n 12), .ref (n 13), .ref (n 14), .ref (n 15), .ref (n 16), .ref (n 17), .ref (n 18), .ref (n 19), .ref (n 20), .int 0, .int 0, .ref (n 21), .ref (n 22), .ref (n 23), .ref (n 24), .ref (n 25), .ref (n 26), .ref (n 27), .ref (n 28), .int 0, .ref (n 29), .ref (n 30), .int 0, .int 0, .ref (n 31), .ref (n 32), .ref (n 33), .ref (n 34), .int 0, .int 0, .int 0, .long 1000000, .ref (n 35), .ref (n 36), .int (-1), .int 0, .int 0, .int 0, .ref (n 37), .int 0, .ref (n 38), .ref (n 39), .ref (n 40), .ref (n 41), .ref (n 42), .ref (n 43), .int 0, .int 0, .ref (n 44), .ref (n 45), .ref (n 46)])), ((n 7), .inl (cI, 2, .inl (upd (fun _ => 0) 0 3))), ((n 21), .inl (cI, 6, .inl (fun _ => 0))), ((n 5), .inl (cI, 2, .inl (fun _ => 0)))] (fun u => [((n 0), .inr (11, [.ref (n 1), .ref (n 2), .int 0, .int 0, .int 0, .int (-1), .int 0, .int 0, .int 0, .int 0, .long 0, .ref (n 3), .ref (n 4), .ref (n 5), .ref (n 6), .ref (n 7), .ref (n 8), .ref (n 9), .ref (n 10), .ref (n 11), .ref (n 12), .ref (n 13), .ref (n 14), .ref (n 15), .ref (n 16), .ref (n 17), .ref (n 18), .ref (n 19), .ref (n 20), .int 0, .int 0, .ref (n 21), .ref (n 22), .ref (n 23), .ref (n 24), .ref (n 25), .ref (n 26), .ref (n 27), .ref (n 28), .int 0, .ref (n 29), .ref (n 30), .int 0, .int 0, .ref (n 31), .ref (n 32), .ref (n 33), .ref (n 34), .int 0, .int 0, .int 0, .long 1000000, .ref (n 35), .ref (n 36), .int (-1), .int 0, .int 0, .int 0, .ref (n 37), .int 0, .ref (n 38), .ref (n 39), .ref (n 40), .ref (n 41), .ref (n 42), .ref (n 43), .int 0, .int 0, .ref (n 44), .ref (n 45), .ref (n 46)])), ((n 7), .inl (cI, 2, .inl (upd (fun _ => 0) 0 3))), ((n 21), .inl (cI, 6, .inl (upd (upd (upd (fun _ => 0) 0 (-1)) 1 (-1)) 2 (-1)))), ((n 5), .inl (cI, 2, .inl (fun _ => 0)))]) 0 := by
  intro sz
  refine ct_open (cc := cX11_isOnPath) (maxL := 3) (ret := (some .boolean)) (by decide) rfl (Nat.le_of_ble_eq_true rfl) ?_
  intro p e s m below meth c ls A hx hb hr hml hts hown hlocks hin hP hK hD hA hS hl
  have hl : lv_has ls 3 [(0, .ref (n 0)), (1, .int 0)] := hl
  have hown : s.vm.findClass RX11 = some m.cls := hown
  refine lv_iconst (v := 0) hx hb dX11_isOnPath_0 z8 ?_
  refine lv_istore_n (lv' := [(2, .int 0), (0, .ref (n 0)), (1, .int 0)]) hx hb dX11_isOnPath_1 rfl hl (nlt rfl) rfl (fun ls hl => ?_)
  refine lv_iload_n hx hb dX11_isOnPath_2 rfl (lv_at hl 0 rfl) ?_
  refine lv_iload_n hx hb dX11_isOnPath_3 rfl (lv_at hl 2 rfl) ?_
  refine lv_icmp_ge (tgt := 25) hx hb dX11_isOnPath_4 z714 (fun _ => ?_) (fun c1 => absurd (z510) c1)
  refine lv_aload_n hx hb dX11_isOnPath_25 rfl (lv_at hl 1 rfl) ?_
  refine lv_iload_n hx hb dX11_isOnPath_26 rfl (lv_at hl 2 rfl) ?_
  refine call_iV (ci := 11) (As := [.int 0]) (rest := []) (wr := []) ⟨hx, hb, hml, hown, hts⟩ (k230_X11_canGoOn l dC dI cB cI cJ cZ cO n) (cwV 1 hts gX11_isOnPath_X11_canGoOn rfl rfl rfl ⟨rfl, z719⟩ ⟨Nat.le_of_ble_eq_true rfl, Nat.le_of_ble_eq_true rfl⟩) hK hP hD hS hA [0, 1, 2, 3] [] rfl rfl (by decide +kernel) (by decide +kernel) (by decide +kernel) rfl rfl rfl hl.1 (Nat.le_of_ble_eq_true rfl) rfl rfl dX11_isOnPath_27 ⟨by decide +kernel, by decide +kernel⟩ (fun u0 H locs hP hD hS => ?_)
  refine W.widen (k := 0) (n := 0) (by decide +kernel) (by decide +kernel) ?_
  exact ret_z hx hb hr rfl hlocks hS (u := (fun _ => 0)) (hP.sub [0, 1, 2, 3] rfl) (hD.sub [0, 1, 2, 3] (by decide +kernel) rfl) dX11_isOnPath_30

set_option maxHeartbeats 4000000 in
set_option maxRecDepth 100000 in
theorem k232_X11_layList (l : Launch) (dC : Nat → ClassId) (dI : Nat → Nat → Nat) (cB cI cJ cZ cO : ClassId) (n : Nat → Nat) : CI l yX11_layList wsX11_layList ({ frames := 3, cells := 0, slots := 0, locals := 65 }) (dC, dI) (tyL cB cI cJ cZ cO) [.ref (n 0), .int 0, .int 0] [((n 0), .inr (11, fM n)), ((n 7), .inl (cI, 2, .inl (upd (fun _ => 0) 0 3))), ((n 21), .inl (cI, 6, .inl (fun _ => 0))), ((n 5), .inl (cI, 2, .inl (fun _ => 0)))] (fun u => [((n 0), .inr (11, [.ref (n 1), .ref (n 2), .int 0, .int 0, .int 0, .int (-1), .int 0, .int 0, .int 0, .int 0, .long 0, .ref (n 3), .ref (n 4), .ref (n 5), .ref (n 6), .ref (n 7), .ref (n 8), .ref (n 9), .ref (n 10), .ref (n 11), .ref (n 12), .ref (n 13), .ref (n 14), .ref (n 15), .ref (n 16), .ref (n 17), .ref (n 18), .ref (n 19), .ref (n 20), .int 0, .int 0, .ref (n 21), .ref (n 22), .ref (n 23), .ref (n 24), .ref (n 25), .ref (n 26), .ref (n 27), .ref (n 28), .int 0, .ref (n 29), .ref (n 30), .int 0, .int 0, .ref (n 31), .ref (n 32), .ref (n 33), .ref (n 34), .int 0, .int 0, .int 0, .long 1000000, .ref (n 35), .ref (n 36), .int (-1), .int 0, .int 0, .int 0, .ref (n 37), .int 0, .ref (n 38), .ref (n 39), .ref (n 40), .ref (n 41), .ref (n 42), .ref (n 43), .int 0, .int 0, .ref (n 44), .ref (n 45), .ref (n 46)])), ((n 7), .inl (cI, 2, .inl (upd (fun _ => 0) 0 3))), ((n 21), .inl (cI, 6, .inl (upd (upd (upd (fun _ => 0) 0 (-1)) 1 (-1)) 2 (-1)))), ((n 5), .inl (cI, 2, .inl (fun _ => 0)))]) 1 := by
  intro sz
  refine ct_open (cc := cX11_layList) (maxL := 6) (ret := (some .boolean)) (by decide) rfl (Nat.le_of_ble_eq_true rfl) ?_
  intro p e s m below meth c ls A hx hb hr hml hts hown hlocks hin hP hK hD hA hS hl
  have hl : lv_has ls 6 [(0, .ref (n 0)), (1, .int 0), (2, .int 0)] := hl
  have hown : s.vm.findClass RX11 = some m.cls := hown
  have i11 : ∀ w ∈ u_ws RX11 TX11 71, w ∈ wsX11_layList := fun _ h => List.mem_cons_of_mem _ (List.mem_append_right _ h)
  have w1 := hts (.fieldLink RX11 242 "GuildCharterModel" "listKey" "J") (List.mem_cons_of_mem _ (List.mem_append_left _ (List.mem_append_left _ (List.mem_of_getElem? (i := 0) rfl))))
  have w2 := hts (.fieldLink RX11 390 "GuildCharterModel" "listMany" "I") (List.mem_cons_of_mem _ (List.mem_append_left _ (List.mem_append_left _ (List.mem_of_getElem? (i := 2) rfl))))
  have w3 := hts (.fieldLink RX11 387 "GuildCharterModel" "rowsMet" "I") (List.mem_cons_of_mem _ (List.mem_append_left _ (List.mem_append_left _ (List.mem_of_getElem? (i := 1) rfl))))
  have w4 := hts (.fieldLink RX11 393 "GuildCharterModel" "listFrom" "I") (List.mem_cons_of_mem _ (List.mem_append_left _ (List.mem_append_left _ (List.mem_of_getElem? (i := 3) rfl))))
  refine lv_aload_n hx hb dX11_layList_0 rfl (lv_at hl 0 rfl) ?_
  refine lv_iload_n hx hb dX11_layList_1 rfl (lv_at hl 1 rfl) ?_
  refine lv_iload_n hx hb dX11_layList_2 rfl (lv_at hl 2 rfl) ?_
  refine call_lV (ci := 11) (As := [.int 0, .int 0]) (rest := []) (wr := [((n 7), .inl (cI, 2, .inl (upd (fun _ => 0) 0 3))), ((n 21), .inl (cI, 6, .inl (fun _ => 0))), ((n 5), .inl (cI, 2, .inl (fun _ => 0)))]) ⟨hx, hb, hml, hown, hts⟩ (k227_X11_keyOf l dC dI cB cI cJ cZ cO n) (cwV 2 hts gX11_layList_X11_keyOf rfl rfl rfl ⟨rfl, z721⟩ ⟨Nat.le_of_ble_eq_true rfl, Nat.le_of_ble_eq_true rfl⟩) hK hP hD hS hA [0] [1, 2, 3] rfl rfl (by decide +kernel) (by decide +kernel) (by decide +kernel) rfl rfl rfl hl.1 (Nat.le_of_ble_eq_true rfl) rfl rfl dX11_layList_3 ⟨by decide +kernel, by decide +kernel⟩ (fun u0 H locs hP hD hS => ?_)
  refine lv_lstore_n (lv' := [(3, .long 1000000), (0, .ref (n 0)), (1, .int 0), (2, .int 0)]) hx hb dX11_layList_6 rfl hl (nlt rfl) rfl (fun ls hl => ?_)
  refine lv_lload_n hx hb dX11_layList_7 rfl (lv_at hl 0 rfl) ?_
  refine lv_aload_n hx hb dX11_layList_8 rfl (lv_at hl 1 rfl) ?_
  refine va_get (D := (dC, dI)) (ci := 11) (v := .long 0) (C := RX11) (T := TX11) (N := 71) hx hb hts i11 hown hK hP 3 rfl rfl 51 (nlt rfl) w1 (fun _ h9 => h9) rfl dX11_layList_9 ?_
  refine W.lcmp hx hb dX11_layList_12 ?_
  refine tpi (v := 1) (by decide +kernel) ?_
  refine lv_if_ne (tgt := 32) hx hb dX11_layList_13 z713 (fun _ => ?_) (fun c1 => absurd c1 (z525))
  refine lv_aload_n hx hb dX11_layList_32 rfl (lv_at hl 1 rfl) ?_
  refine lv_lload_n hx hb dX11_layList_33 rfl (lv_at hl 0 rfl) ?_
  refine va_put (D := (dC, dI)) (ci := 11) (v := .long 1000000) (ty := tyX11 51) (C := RX11) (T := TX11) (N := 71) hx hb hts i11 tyX11 tyX11_ok nmX11 hown hK hP hD hS 3 rfl rfl 51 (nlt rfl) w1 (fun _ h9 => h9) rfl (tyX11_ok 51 (nlt rfl)) rfl rfl (nlt rfl) dX11_layList_34 (fun H locs hP hD hS => ?_)
  refine lv_aload_n hx hb dX11_layList_37 rfl (lv_at hl 1 rfl) ?_
  refine lv_iconst (v := 0) hx hb dX11_layList_38 z8 ?_
  refine va_put (D := (dC, dI)) (ci := 11) (v := .int 0) (ty := tyX11 48) (C := RX11) (T := TX11) (N := 71) hx hb hts i11 tyX11 tyX11_ok nmX11 hown hK hP hD hS 3 rfl rfl 48 (nlt rfl) w2 (fun _ h9 => h9) rfl (tyX11_ok 48 (nlt rfl)) rfl rfl (nlt rfl) dX11_layList_39 (fun H locs hP hD hS => ?_)
  refine lv_aload_n hx hb dX11_layList_42 rfl (lv_at hl 1 rfl) ?_
  refine lv_iconst (v := 0) hx hb dX11_layList_43 z8 ?_
  refine va_put (D := (dC, dI)) (ci := 11) (v := .int 0) (ty := tyX11 50) (C := RX11) (T := TX11) (N := 71) hx hb hts i11 tyX11 tyX11_ok nmX11 hown hK hP hD hS 3 rfl rfl 50 (nlt rfl) w3 (fun _ h9 => h9) rfl (tyX11_ok 50 (nlt rfl)) rfl rfl (nlt rfl) dX11_layList_44 (fun H locs hP hD hS => ?_)
  have hP : va_P (dC, dI) vwCl [((n 7), .inl (cI, 2, .inl (upd (fun _ => 0) 0 3))), ((n 21), .inl (cI, 6, .inl (fun _ => 0))), ((n 5), .inl (cI, 2, .inl (fun _ => 0))), ((n 0), .inr (11, [.ref (n 1), .ref (n 2), .int 0, .int 0, .int 0, .int (-1), .int 0, .int 0, .int 0, .int 0, .long 0, .ref (n 3), .ref (n 4), .ref (n 5), .ref (n 6), .ref (n 7), .ref (n 8), .ref (n 9), .ref (n 10), .ref (n 11), .ref (n 12), .ref (n 13), .ref (n 14), .ref (n 15), .ref (n 16), .ref (n 17), .ref (n 18), .ref (n 19), .ref (n 20), .int 0, .int 0, .ref (n 21), .ref (n 22), .ref (n 23), .ref (n 24), .ref (n 25), .ref (n 26), .ref (n 27), .ref (n 28), .int 0, .ref (n 29), .ref (n 30), .int 0, .int 0, .ref (n 31), .ref (n 32), .ref (n 33), .ref (n 34), .int 0, .int 0, .int 0, .long 1000000, .ref (n 35), .ref (n 36), .int (-1), .int 0, .int 0, .int 0, .ref (n 37), .int 0, .ref (n 38), .ref (n 39), .ref (n 40), .ref (n 41), .ref (n 42), .ref (n 43), .int 0, .int 0, .ref (n 44), .ref (n 45), .ref (n 46)]))] H := hP
  have hD : va_D A [((n 7), .inl (cI, 2, .inl (upd (fun _ => 0) 0 3))), ((n 21), .inl (cI, 6, .inl (fun _ => 0))), ((n 5), .inl (cI, 2, .inl (fun _ => 0))), ((n 0), .inr (11, [.ref (n 1), .ref (n 2), .int 0, .int 0, .int 0, .int (-1), .int 0, .int 0, .int 0, .int 0, .long 0, .ref (n 3), .ref (n 4), .ref (n 5), .ref (n 6), .ref (n 7), .ref (n 8), .ref (n 9), .ref (n 10), .ref (n 11), .ref (n 12), .ref (n 13), .ref (n 14), .ref (n 15), .ref (n 16), .ref (n 17), .ref (n 18), .ref (n 19), .ref (n 20), .int 0, .int 0, .ref (n 21), .ref (n 22), .ref (n 23), .ref (n 24), .ref (n 25), .ref (n 26), .ref (n 27), .ref (n 28), .int 0, .ref (n 29), .ref (n 30), .int 0, .int 0, .ref (n 31), .ref (n 32), .ref (n 33), .ref (n 34), .int 0, .int 0, .int 0, .long 1000000, .ref (n 35), .ref (n 36), .int (-1), .int 0, .int 0, .int 0, .ref (n 37), .int 0, .ref (n 38), .ref (n 39), .ref (n 40), .ref (n 41), .ref (n 42), .ref (n 43), .int 0, .int 0, .ref (n 44), .ref (n 45), .ref (n 46)]))] := hD
  refine lv_aload_n hx hb dX11_layList_47 rfl (lv_at hl 1 rfl) ?_
  refine lv_iload_n hx hb dX11_layList_48 rfl (lv_at hl 2 rfl) ?_
  refine va_put (D := (dC, dI)) (ci := 11) (v := .int 0) (ty := tyX11 49) (C := RX11) (T := TX11) (N := 71) hx hb hts i11 tyX11 tyX11_ok nmX11 hown hK hP hD hS 3 rfl rfl 49 (nlt rfl) w4 (fun _ h9 => h9) rfl (tyX11_ok 49 (nlt rfl)) rfl rfl (nlt rfl) dX11_layList_49 (fun H locs hP hD hS => ?_)
  refine lv_aload_n hx hb dX11_layList_52 rfl (lv_at hl 1 rfl) ?_
  refine lv_iload_n hx hb dX11_layList_53 rfl (lv_at hl 2 rfl) ?_
  refine call_iV (ci := 11) (As := [.int 0]) (rest := []) (wr := []) ⟨hx, hb, hml, hown, hts⟩ (k231_X11_isOnPath l dC dI cB cI cJ cZ cO n) (cwV 1 hts gX11_layList_X11_isOnPath rfl rfl rfl ⟨rfl, z722⟩ ⟨Nat.le_of_ble_eq_true rfl, Nat.le_of_ble_eq_true rfl⟩) hK hP hD hS hA [3, 0, 1, 2] [] rfl rfl (by decide +kernel) (by decide +kernel) (by decide +kernel) rfl rfl rfl hl.1 (Nat.le_of_ble_eq_true rfl) rfl rfl dX11_layList_54 ⟨by decide +kernel, by decide +kernel⟩ (fun u1 H locs hP hD hS => ?_)
  refine lv_if_ne (tgt := 62) hx hb dX11_layList_57 z720 (fun c1 => absurd (rfl) c1) (fun _ => ?_)
  refine lv_iconst (v := 1) hx hb dX11_layList_60 z39 ?_
  refine W.widen (k := 0) (n := 0) (by decide +kernel) (by decide +kernel) ?_
  exact ret_z hx hb hr rfl hlocks hS (u := (fun _ => 0)) (hP.sub [0, 1, 2, 3] rfl) (hD.sub [0, 1, 2, 3] (by decide +kernel) rfl) dX11_layList_61

set_option maxHeartbeats 4000000 in
set_option maxRecDepth 100000 in
theorem k233_X11_layFromRow (l : Launch) (dC : Nat → ClassId) (dI : Nat → Nat → Nat) (cB cI cJ cZ cO : ClassId) (n : Nat → Nat) : CI l yX11_layFromRow wsX11_layFromRow ({ frames := 4, cells := 0, slots := 0, locals := 90 }) (dC, dI) (tyL cB cI cJ cZ cO) [.ref (n 0)] [((n 0), .inr (11, fM n)), ((n 7), .inl (cI, 2, .inl (upd (fun _ => 0) 0 3))), ((n 21), .inl (cI, 6, .inl (fun _ => 0))), ((n 5), .inl (cI, 2, .inl (fun _ => 0)))] (fun u => [((n 0), .inr (11, [.ref (n 1), .ref (n 2), .int 0, .int 0, .int 0, .int (-1), .int 0, .int 0, .int 0, .int 0, .long 0, .ref (n 3), .ref (n 4), .ref (n 5), .ref (n 6), .ref (n 7), .ref (n 8), .ref (n 9), .ref (n 10), .ref (n 11), .ref (n 12), .ref (n 13), .ref (n 14), .ref (n 15), .ref (n 16), .ref (n 17), .ref (n 18), .ref (n 19), .ref (n 20), .int 0, .int 0, .ref (n 21), .ref (n 22), .ref (n 23), .ref (n 24), .ref (n 25), .ref (n 26), .ref (n 27), .ref (n 28), .int 0, .ref (n 29), .ref (n 30), .int 0, .int 0, .ref (n 31), .ref (n 32), .ref (n 33), .ref (n 34), .int 0, .int 0, .int 0, .long 1000000, .ref (n 35), .ref (n 36), .int (-1), .int 0, .int 0, .int 0, .ref (n 37), .int 0, .ref (n 38), .ref (n 39), .ref (n 40), .ref (n 41), .ref (n 42), .ref (n 43), .int 0, .int 0, .ref (n 44), .ref (n 45), .ref (n 46)])), ((n 7), .inl (cI, 2, .inl (upd (fun _ => 0) 0 3))), ((n 21), .inl (cI, 6, .inl (upd (upd (upd (fun _ => 0) 0 (-1)) 1 (-1)) 2 (-1)))), ((n 5), .inl (cI, 2, .inl (fun _ => 0)))]) 1 := by
  intro sz
  refine ct_open (cc := cX11_layFromRow) (maxL := 2) (ret := (some .boolean)) (by decide) rfl (Nat.le_of_ble_eq_true rfl) ?_
  intro p e s m below meth c ls A hx hb hr hml hts hown hlocks hin hP hK hD hA hS hl
  have hl : lv_has ls 2 [(0, .ref (n 0))] := hl
  have hown : s.vm.findClass RX11 = some m.cls := hown
  have i11 : ∀ w ∈ u_ws RX11 TX11 71, w ∈ wsX11_layFromRow := fun _ h => List.mem_cons_of_mem _ (List.mem_append_right _ h)
  have w1 := hts (.fieldLink RX11 336 "GuildCharterModel" "many" "I") (List.mem_cons_of_mem _ (List.mem_append_left _ (List.mem_append_left _ (List.mem_of_getElem? (i := 0) rfl))))
  refine lv_iconst (v := 0) hx hb dX11_layFromRow_0 z8 ?_
  refine lv_istore_n (lv' := [(1, .int 0), (0, .ref (n 0))]) hx hb dX11_layFromRow_1 rfl hl (nlt rfl) rfl (fun ls hl => ?_)
  refine lv_iload_n hx hb dX11_layFromRow_2 rfl (lv_at hl 0 rfl) ?_
  refine lv_aload_n hx hb dX11_layFromRow_3 rfl (lv_at hl 1 rfl) ?_
  refine va_get (D := (dC, dI)) (ci := 11) (v := .int 0) (C := RX11) (T := TX11) (N := 71) hx hb hts i11 hown hK hP 0 rfl rfl 39 (nlt rfl) w1 (fun _ h9 => h9) rfl dX11_layFromRow_4 ?_
  refine lv_icmp_ge (tgt := 28) hx hb dX11_layFromRow_7 z653 (fun _ => ?_) (fun c1 => absurd (z510) c1)
  refine lv_aload_n hx hb dX11_layFromRow_28 rfl (lv_at hl 1 rfl) ?_
  refine lv_aload_n hx hb dX11_layFromRow_29 rfl (lv_at hl 1 rfl) ?_
  refine va_get (D := (dC, dI)) (ci := 11) (v := .int 0) (C := RX11) (T := TX11) (N := 71) hx hb hts i11 hown hK hP 0 rfl rfl 39 (nlt rfl) w1 (fun _ h9 => h9) rfl dX11_layFromRow_30 ?_
  refine lv_iconst (v := 0) hx hb dX11_layFromRow_33 z8 ?_
  refine call_iV (ci := 11) (As := [.int 0, .int 0]) (rest := []) (wr := []) ⟨hx, hb, hml, hown, hts⟩ (k232_X11_layList l dC dI cB cI cJ cZ cO n) (cwV 2 hts gX11_layFromRow_X11_layList rfl rfl rfl ⟨rfl, z723⟩ ⟨Nat.le_of_ble_eq_true rfl, Nat.le_of_ble_eq_true rfl⟩) hK hP hD hS hA [0, 1, 2, 3] [] rfl rfl (by decide +kernel) (by decide +kernel) (by decide +kernel) rfl rfl rfl hl.1 (Nat.le_of_ble_eq_true rfl) rfl rfl dX11_layFromRow_34 ⟨by decide +kernel, by decide +kernel⟩ (fun u0 H locs hP hD hS => ?_)
  refine W.widen (k := 0) (n := 0) (by decide +kernel) (by decide +kernel) ?_
  exact ret_z hx hb hr rfl hlocks hS (u := (fun _ => 0)) (hP.sub [0, 1, 2, 3] rfl) (hD.sub [0, 1, 2, 3] (by decide +kernel) rfl) dX11_layFromRow_37

set_option maxHeartbeats 4000000 in
set_option maxRecDepth 100000 in
theorem k234_X11_turnsNow (l : Launch) (dC : Nat → ClassId) (dI : Nat → Nat → Nat) (cB cI cJ cZ cO : ClassId) (n : Nat → Nat) : CV l yX11_turnsNow wsX11_turnsNow ({ frames := 0, cells := 0, slots := 0, locals := 0 }) (dC, dI) (tyL cB cI cJ cZ cO) [.ref (n 0)] [((n 0), .inr (11, [.ref (n 1), .ref (n 2), .int 0, .int 0, .int 0, .int (-1), .int 0, .int 0, .int 0, .int 0, .long 0, .ref (n 3), .ref (n 4), .ref (n 5), .ref (n 6), .ref (n 7), .ref (n 8), .ref (n 9), .ref (n 10), .ref (n 11), .ref (n 12), .ref (n 13), .ref (n 14), .ref (n 15), .ref (n 16), .ref (n 17), .ref (n 18), .ref (n 19), .ref (n 20), .int 0, .int 0, .ref (n 21), .ref (n 22), .ref (n 23), .ref (n 24), .ref (n 25), .ref (n 26), .ref (n 27), .ref (n 28), .int 0, .ref (n 29), .ref (n 30), .int 0, .int 0, .ref (n 31), .ref (n 32), .ref (n 33), .ref (n 34), .int 0, .int 0, .int 0, .long 1000000, .ref (n 35), .ref (n 36), .int (-1), .int 0, .int 0, .int 0, .ref (n 37), .int 0, .ref (n 38), .ref (n 39), .ref (n 40), .ref (n 41), .ref (n 42), .ref (n 43), .int 0, .int 0, .ref (n 44), .ref (n 45), .ref (n 46)])), ((n 27), .inl (cI, 6, .inl (upd (upd (upd (upd (fun _ => 0) 1 1) 2 2) 4 1) 5 2))), ((n 36), .inl (cI, 6, .inl (fun _ => 0)))] (fun u => [((n 0), .inr (11, [.ref (n 1), .ref (n 2), .int 0, .int 0, .int 0, .int (-1), .int 0, .int 0, .int 0, .int 0, .long 0, .ref (n 3), .ref (n 4), .ref (n 5), .ref (n 6), .ref (n 7), .ref (n 8), .ref (n 9), .ref (n 10), .ref (n 11), .ref (n 12), .ref (n 13), .ref (n 14), .ref (n 15), .ref (n 16), .ref (n 17), .ref (n 18), .ref (n 19), .ref (n 20), .int 0, .int 0, .ref (n 21), .ref (n 22), .ref (n 23), .ref (n 24), .ref (n 25), .ref (n 26), .ref (n 27), .ref (n 28), .int 0, .ref (n 29), .ref (n 30), .int 0, .int 0, .ref (n 31), .ref (n 32), .ref (n 33), .ref (n 34), .int 0, .int 0, .int 0, .long 1000000, .ref (n 35), .ref (n 36), .int (-1), .int 0, .int 0, .int 0, .ref (n 37), .int 0, .ref (n 38), .ref (n 39), .ref (n 40), .ref (n 41), .ref (n 42), .ref (n 43), .int 0, .int 0, .ref (n 44), .ref (n 45), .ref (n 46)])), ((n 27), .inl (cI, 6, .inl (upd (upd (upd (upd (fun _ => 0) 1 1) 2 2) 4 1) 5 2))), ((n 36), .inl (cI, 6, .inl (upd (upd (upd (upd (fun _ => 0) 1 1) 2 2) 4 1) 5 2)))]) := by
  intro sz
  refine ct_open (cc := cX11_turnsNow) (maxL := 2) (ret := none) (by decide) rfl (Nat.le_of_ble_eq_true rfl) ?_
  intro p e s m below meth c ls A hx hb hr hml hts hown hlocks hin hP hK hD hA hS hl
  have hl : lv_has ls 2 [(0, .ref (n 0))] := hl
  have hown : s.vm.findClass RX11 = some m.cls := hown
  have i11 : ∀ w ∈ u_ws RX11 TX11 71, w ∈ wsX11_turnsNow := fun _ h => List.mem_cons_of_mem _ (List.mem_append_right _ h)
  have w1 := hts (.fieldLink RX11 122 "GuildCharterModel" "playTurn" "[I") (List.mem_cons_of_mem _ (List.mem_append_left _ (List.mem_of_getElem? (i := 0) rfl)))
  have w2 := hts (.fieldLink RX11 95 "GuildCharterModel" "turnNow" "[I") (List.mem_cons_of_mem _ (List.mem_append_left _ (List.mem_of_getElem? (i := 1) rfl)))
  refine lv_iconst (v := 0) hx hb dX11_turnsNow_0 z8 ?_
  refine lv_istore_n (lv' := [(1, .int 0), (0, .ref (n 0))]) hx hb dX11_turnsNow_1 rfl hl (nlt rfl) rfl (fun ls hl => ?_)
  refine lv_iload_n hx hb dX11_turnsNow_2 rfl (lv_at hl 0 rfl) ?_
  refine lv_bipush (v := 6) hx hb dX11_turnsNow_3 z4 ?_
  refine lv_icmp_ge (tgt := 26) hx hb dX11_turnsNow_5 z725 (fun c1 => absurd c1 (z78)) (fun _ => ?_)
  refine lv_aload_n hx hb dX11_turnsNow_8 rfl (lv_at hl 1 rfl) ?_
  refine va_get (D := (dC, dI)) (ci := 11) (v := .ref (n 36)) (C := RX11) (T := TX11) (N := 71) hx hb hts i11 hown hK hP 0 rfl rfl 53 (nlt rfl) w1 (fun _ h9 => h9) rfl dX11_turnsNow_9 ?_
  refine lv_iload_n hx hb dX11_turnsNow_12 rfl (lv_at hl 0 rfl) ?_
  refine lv_aload_n hx hb dX11_turnsNow_13 rfl (lv_at hl 1 rfl) ?_
  refine va_get (D := (dC, dI)) (ci := 11) (v := .ref (n 27)) (C := RX11) (T := TX11) (N := 71) hx hb hts i11 hown hK hP 0 rfl rfl 37 (nlt rfl) w2 (fun _ h9 => h9) rfl dX11_turnsNow_14 ?_
  refine lv_iload_n hx hb dX11_turnsNow_17 rfl (lv_at hl 0 rfl) ?_
  refine my_iald (v := 0) hx hb hK hP 1 1 rfl rfl z38 rfl dX11_turnsNow_18 ?_
  refine my_iastS hx hb hK hP hD hS 2 1 rfl rfl z38 rfl dX11_turnsNow_19 (fun H locs hP hD hS => ?_)
  refine lv_iinc (v := 1) (lv' := [(1, .int 1), (0, .ref (n 0))]) hx hb dX11_turnsNow_20 hl (k := 0) rfl z17 (nlt rfl) rfl (fun ls hl => ?_)
  refine lv_goto (tgt := 2) hx hb dX11_turnsNow_23 z726 ?_
  refine lv_iload_n hx hb dX11_turnsNow_2 rfl (lv_at hl 0 rfl) ?_
  refine lv_bipush (v := 6) hx hb dX11_turnsNow_3 z4 ?_
  refine lv_icmp_ge (tgt := 26) hx hb dX11_turnsNow_5 z725 (fun c1 => absurd c1 (z80)) (fun _ => ?_)
  refine lv_aload_n hx hb dX11_turnsNow_8 rfl (lv_at hl 1 rfl) ?_
  refine va_get (D := (dC, dI)) (ci := 11) (v := .ref (n 36)) (C := RX11) (T := TX11) (N := 71) hx hb hts i11 hown hK hP 0 rfl rfl 53 (nlt rfl) w1 (fun _ h9 => h9) rfl dX11_turnsNow_9 ?_
  refine lv_iload_n hx hb dX11_turnsNow_12 rfl (lv_at hl 0 rfl) ?_
  refine lv_aload_n hx hb dX11_turnsNow_13 rfl (lv_at hl 1 rfl) ?_
  refine va_get (D := (dC, dI)) (ci := 11) (v := .ref (n 27)) (C := RX11) (T := TX11) (N := 71) hx hb hts i11 hown hK hP 0 rfl rfl 37 (nlt rfl) w2 (fun _ h9 => h9) rfl dX11_turnsNow_14 ?_
  refine lv_iload_n hx hb dX11_turnsNow_17 rfl (lv_at hl 0 rfl) ?_
  refine my_iald (v := 1) hx hb hK hP 1 1 rfl rfl z53 rfl dX11_turnsNow_18 ?_
  refine my_iast hx hb hK hP hD hS 2 1 rfl rfl z53 dX11_turnsNow_19 (fun H locs hP hD hS => ?_)
  refine lv_iinc (v := 2) (lv' := [(1, .int 2), (0, .ref (n 0))]) hx hb dX11_turnsNow_20 hl (k := 0) rfl z24 (nlt rfl) rfl (fun ls hl => ?_)
  refine lv_goto (tgt := 2) hx hb dX11_turnsNow_23 z726 ?_
  refine lv_iload_n hx hb dX11_turnsNow_2 rfl (lv_at hl 0 rfl) ?_
  refine lv_bipush (v := 6) hx hb dX11_turnsNow_3 z4 ?_
  refine lv_icmp_ge (tgt := 26) hx hb dX11_turnsNow_5 z725 (fun c1 => absurd c1 (z83)) (fun _ => ?_)
  refine lv_aload_n hx hb dX11_turnsNow_8 rfl (lv_at hl 1 rfl) ?_
  refine va_get (D := (dC, dI)) (ci := 11) (v := .ref (n 36)) (C := RX11) (T := TX11) (N := 71) hx hb hts i11 hown hK hP 0 rfl rfl 53 (nlt rfl) w1 (fun _ h9 => h9) rfl dX11_turnsNow_9 ?_
  refine lv_iload_n hx hb dX11_turnsNow_12 rfl (lv_at hl 0 rfl) ?_
  refine lv_aload_n hx hb dX11_turnsNow_13 rfl (lv_at hl 1 rfl) ?_
  refine va_get (D := (dC, dI)) (ci := 11) (v := .ref (n 27)) (C := RX11) (T := TX11) (N := 71) hx hb hts i11 hown hK hP 0 rfl rfl 37 (nlt rfl) w2 (fun _ h9 => h9) rfl dX11_turnsNow_14 ?_
  refine lv_iload_n hx hb dX11_turnsNow_17 rfl (lv_at hl 0 rfl) ?_
  refine my_iald (v := 2) hx hb hK hP 1 1 rfl rfl z68 rfl dX11_turnsNow_18 ?_
  refine my_iast hx hb hK hP hD hS 2 1 rfl rfl z68 dX11_turnsNow_19 (fun H locs hP hD hS => ?_)
  refine lv_iinc (v := 3) (lv' := [(1, .int 3), (0, .ref (n 0))]) hx hb dX11_turnsNow_20 hl (k := 0) rfl z30 (nlt rfl) rfl (fun ls hl => ?_)
  refine lv_goto (tgt := 2) hx hb dX11_turnsNow_23 z726 ?_
  refine lv_iload_n hx hb dX11_turnsNow_2 rfl (lv_at hl 0 rfl) ?_
  refine lv_bipush (v := 6) hx hb dX11_turnsNow_3 z4 ?_
  refine lv_icmp_ge (tgt := 26) hx hb dX11_turnsNow_5 z725 (fun c1 => absurd c1 (z88)) (fun _ => ?_)
  refine lv_aload_n hx hb dX11_turnsNow_8 rfl (lv_at hl 1 rfl) ?_
  refine va_get (D := (dC, dI)) (ci := 11) (v := .ref (n 36)) (C := RX11) (T := TX11) (N := 71) hx hb hts i11 hown hK hP 0 rfl rfl 53 (nlt rfl) w1 (fun _ h9 => h9) rfl dX11_turnsNow_9 ?_
  refine lv_iload_n hx hb dX11_turnsNow_12 rfl (lv_at hl 0 rfl) ?_
  refine lv_aload_n hx hb dX11_turnsNow_13 rfl (lv_at hl 1 rfl) ?_
  refine va_get (D := (dC, dI)) (ci := 11) (v := .ref (n 27)) (C := RX11) (T := TX11) (N := 71) hx hb hts i11 hown hK hP 0 rfl rfl 37 (nlt rfl) w2 (fun _ h9 => h9) rfl dX11_turnsNow_14 ?_
  refine lv_iload_n hx hb dX11_turnsNow_17 rfl (lv_at hl 0 rfl) ?_
  refine my_iald (v := 0) hx hb hK hP 1 1 rfl rfl z76 rfl dX11_turnsNow_18 ?_
  refine my_iastS hx hb hK hP hD hS 2 1 rfl rfl z76 rfl dX11_turnsNow_19 (fun H locs hP hD hS => ?_)
  refine lv_iinc (v := 4) (lv' := [(1, .int 4), (0, .ref (n 0))]) hx hb dX11_turnsNow_20 hl (k := 0) rfl z36 (nlt rfl) rfl (fun ls hl => ?_)
  refine lv_goto (tgt := 2) hx hb dX11_turnsNow_23 z726 ?_
  refine lv_iload_n hx hb dX11_turnsNow_2 rfl (lv_at hl 0 rfl) ?_
  refine lv_bipush (v := 6) hx hb dX11_turnsNow_3 z4 ?_
  refine lv_icmp_ge (tgt := 26) hx hb dX11_turnsNow_5 z725 (fun c1 => absurd c1 (z93)) (fun _ => ?_)
  refine lv_aload_n hx hb dX11_turnsNow_8 rfl (lv_at hl 1 rfl) ?_
  refine va_get (D := (dC, dI)) (ci := 11) (v := .ref (n 36)) (C := RX11) (T := TX11) (N := 71) hx hb hts i11 hown hK hP 0 rfl rfl 53 (nlt rfl) w1 (fun _ h9 => h9) rfl dX11_turnsNow_9 ?_
  refine lv_iload_n hx hb dX11_turnsNow_12 rfl (lv_at hl 0 rfl) ?_
  refine lv_aload_n hx hb dX11_turnsNow_13 rfl (lv_at hl 1 rfl) ?_
  refine va_get (D := (dC, dI)) (ci := 11) (v := .ref (n 27)) (C := RX11) (T := TX11) (N := 71) hx hb hts i11 hown hK hP 0 rfl rfl 37 (nlt rfl) w2 (fun _ h9 => h9) rfl dX11_turnsNow_14 ?_
  refine lv_iload_n hx hb dX11_turnsNow_17 rfl (lv_at hl 0 rfl) ?_
  refine my_iald (v := 1) hx hb hK hP 1 1 rfl rfl z106 rfl dX11_turnsNow_18 ?_
  refine my_iast hx hb hK hP hD hS 2 1 rfl rfl z106 dX11_turnsNow_19 (fun H locs hP hD hS => ?_)
  have hP : va_P (dC, dI) vwCl [((n 0), .inr (11, [.ref (n 1), .ref (n 2), .int 0, .int 0, .int 0, .int (-1), .int 0, .int 0, .int 0, .int 0, .long 0, .ref (n 3), .ref (n 4), .ref (n 5), .ref (n 6), .ref (n 7), .ref (n 8), .ref (n 9), .ref (n 10), .ref (n 11), .ref (n 12), .ref (n 13), .ref (n 14), .ref (n 15), .ref (n 16), .ref (n 17), .ref (n 18), .ref (n 19), .ref (n 20), .int 0, .int 0, .ref (n 21), .ref (n 22), .ref (n 23), .ref (n 24), .ref (n 25), .ref (n 26), .ref (n 27), .ref (n 28), .int 0, .ref (n 29), .ref (n 30), .int 0, .int 0, .ref (n 31), .ref (n 32), .ref (n 33), .ref (n 34), .int 0, .int 0, .int 0, .long 1000000, .ref (n 35), .ref (n 36), .int (-1), .int 0, .int 0, .int 0, .ref (n 37), .int 0, .ref (n 38), .ref (n 39), .ref (n 40), .ref (n 41), .ref (n 42), .ref (n 43), .int 0, .int 0, .ref (n 44), .ref (n 45), .ref (n 46)])), ((n 27), .inl (cI, 6, .inl (upd (upd (upd (upd (fun _ => 0) 1 1) 2 2) 4 1) 5 2))), ((n 36), .inl (cI, 6, .inl (upd (upd (upd (fun _ => 0) 1 1) 2 2) 4 1)))] H := hP
  have hD : va_D A [((n 0), .inr (11, [.ref (n 1), .ref (n 2), .int 0, .int 0, .int 0, .int (-1), .int 0, .int 0, .int 0, .int 0, .long 0, .ref (n 3), .ref (n 4), .ref (n 5), .ref (n 6), .ref (n 7), .ref (n 8), .ref (n 9), .ref (n 10), .ref (n 11), .ref (n 12), .ref (n 13), .ref (n 14), .ref (n 15), .ref (n 16), .ref (n 17), .ref (n 18), .ref (n 19), .ref (n 20), .int 0, .int 0, .ref (n 21), .ref (n 22), .ref (n 23), .ref (n 24), .ref (n 25), .ref (n 26), .ref (n 27), .ref (n 28), .int 0, .ref (n 29), .ref (n 30), .int 0, .int 0, .ref (n 31), .ref (n 32), .ref (n 33), .ref (n 34), .int 0, .int 0, .int 0, .long 1000000, .ref (n 35), .ref (n 36), .int (-1), .int 0, .int 0, .int 0, .ref (n 37), .int 0, .ref (n 38), .ref (n 39), .ref (n 40), .ref (n 41), .ref (n 42), .ref (n 43), .int 0, .int 0, .ref (n 44), .ref (n 45), .ref (n 46)])), ((n 27), .inl (cI, 6, .inl (upd (upd (upd (upd (fun _ => 0) 1 1) 2 2) 4 1) 5 2))), ((n 36), .inl (cI, 6, .inl (upd (upd (upd (fun _ => 0) 1 1) 2 2) 4 1)))] := hD
  refine lv_iinc (v := 5) (lv' := [(1, .int 5), (0, .ref (n 0))]) hx hb dX11_turnsNow_20 hl (k := 0) rfl z98 (nlt rfl) rfl (fun ls hl => ?_)
  refine lv_goto (tgt := 2) hx hb dX11_turnsNow_23 z726 ?_
  refine lv_iload_n hx hb dX11_turnsNow_2 rfl (lv_at hl 0 rfl) ?_
  refine lv_bipush (v := 6) hx hb dX11_turnsNow_3 z4 ?_
  refine lv_icmp_ge (tgt := 26) hx hb dX11_turnsNow_5 z725 (fun c1 => absurd c1 (z99)) (fun _ => ?_)
  refine lv_aload_n hx hb dX11_turnsNow_8 rfl (lv_at hl 1 rfl) ?_
  refine va_get (D := (dC, dI)) (ci := 11) (v := .ref (n 36)) (C := RX11) (T := TX11) (N := 71) hx hb hts i11 hown hK hP 0 rfl rfl 53 (nlt rfl) w1 (fun _ h9 => h9) rfl dX11_turnsNow_9 ?_
  refine lv_iload_n hx hb dX11_turnsNow_12 rfl (lv_at hl 0 rfl) ?_
  refine lv_aload_n hx hb dX11_turnsNow_13 rfl (lv_at hl 1 rfl) ?_
  refine va_get (D := (dC, dI)) (ci := 11) (v := .ref (n 27)) (C := RX11) (T := TX11) (N := 71) hx hb hts i11 hown hK hP 0 rfl rfl 37 (nlt rfl) w2 (fun _ h9 => h9) rfl dX11_turnsNow_14 ?_
  refine lv_iload_n hx hb dX11_turnsNow_17 rfl (lv_at hl 0 rfl) ?_
  refine my_iald (v := 2) hx hb hK hP 1 1 rfl rfl z124 rfl dX11_turnsNow_18 ?_
  refine my_iast hx hb hK hP hD hS 2 1 rfl rfl z124 dX11_turnsNow_19 (fun H locs hP hD hS => ?_)
  refine lv_iinc (v := 6) (lv' := [(1, .int 6), (0, .ref (n 0))]) hx hb dX11_turnsNow_20 hl (k := 0) rfl z104 (nlt rfl) rfl (fun ls hl => ?_)
  refine lv_goto (tgt := 2) hx hb dX11_turnsNow_23 z726 ?_
  refine lv_iload_n hx hb dX11_turnsNow_2 rfl (lv_at hl 0 rfl) ?_
  refine lv_bipush (v := 6) hx hb dX11_turnsNow_3 z4 ?_
  refine lv_icmp_ge (tgt := 26) hx hb dX11_turnsNow_5 z725 (fun _ => ?_) (fun c1 => absurd (z105) c1)
  refine W.widen (k := 0) (n := 0) (by decide +kernel) (by decide +kernel) ?_
  exact ret_v hx hb hr hlocks hS (u := (fun _ => 0)) (hP.sub [0, 1, 2] rfl) (hD.sub [0, 1, 2] (by decide +kernel) rfl) dX11_turnsNow_26

set_option maxHeartbeats 4000000 in
set_option maxRecDepth 100000 in
theorem k235_X11_plays (l : Launch) (dC : Nat → ClassId) (dI : Nat → Nat → Nat) (cB cI cJ cZ cO : ClassId) (n : Nat → Nat) : CI l yX11_plays wsX11_plays ({ frames := 1, cells := 0, slots := 0, locals := 20 }) (dC, dI) (tyL cB cI cJ cZ cO) [.ref (n 0), .int 0] [((n 0), .inr (11, [.ref (n 1), .ref (n 2), .int 0, .int 0, .int 0, .int (-1), .int 0, .int 0, .int 0, .int 0, .long 0, .ref (n 3), .ref (n 4), .ref (n 5), .ref (n 6), .ref (n 7), .ref (n 8), .ref (n 9), .ref (n 10), .ref (n 11), .ref (n 12), .ref (n 13), .ref (n 14), .ref (n 15), .ref (n 16), .ref (n 17), .ref (n 18), .ref (n 19), .ref (n 20), .int 0, .int 0, .ref (n 21), .ref (n 22), .ref (n 23), .ref (n 24), .ref (n 25), .ref (n 26), .ref (n 27), .ref (n 28), .int 0, .ref (n 29), .ref (n 30), .int 0, .int 0, .ref (n 31), .ref (n 32), .ref (n 33), .ref (n 34), .int 0, .int 0, .int 0, .long 1000000, .ref (n 35), .ref (n 36), .int (-1), .int 0, .int 0, .int 0, .ref (n 37), .int 0, .ref (n 38), .ref (n 39), .ref (n 40), .ref (n 41), .ref (n 42), .ref (n 43), .int 0, .int 0, .ref (n 44), .ref (n 45), .ref (n 46)])), ((n 7), .inl (cI, 2, .inl (upd (fun _ => 0) 0 3)))] (fun u => [((n 0), .inr (11, [.ref (n 1), .ref (n 2), .int 0, .int 0, .int 0, .int (-1), .int 0, .int 0, .int 0, .int 0, .long 0, .ref (n 3), .ref (n 4), .ref (n 5), .ref (n 6), .ref (n 7), .ref (n 8), .ref (n 9), .ref (n 10), .ref (n 11), .ref (n 12), .ref (n 13), .ref (n 14), .ref (n 15), .ref (n 16), .ref (n 17), .ref (n 18), .ref (n 19), .ref (n 20), .int 0, .int 0, .ref (n 21), .ref (n 22), .ref (n 23), .ref (n 24), .ref (n 25), .ref (n 26), .ref (n 27), .ref (n 28), .int 0, .ref (n 29), .ref (n 30), .int 0, .int 0, .ref (n 31), .ref (n 32), .ref (n 33), .ref (n 34), .int 0, .int 0, .int 0, .long 1000000, .ref (n 35), .ref (n 36), .int (-1), .int 0, .int 0, .int 0, .ref (n 37), .int 0, .ref (n 38), .ref (n 39), .ref (n 40), .ref (n 41), .ref (n 42), .ref (n 43), .int 0, .int 0, .ref (n 44), .ref (n 45), .ref (n 46)])), ((n 7), .inl (cI, 2, .inl (upd (fun _ => 0) 0 3)))]) (-1) := by
  intro sz
  refine ct_open (cc := cX11_plays) (maxL := 6) (ret := (some .int)) (by decide) rfl (Nat.le_of_ble_eq_true rfl) ?_
  intro p e s m below meth c ls A hx hb hr hml hts hown hlocks hin hP hK hD hA hS hl
  have hl : lv_has ls 6 [(0, .ref (n 0)), (1, .int 0)] := hl
  have hown : s.vm.findClass RX11 = some m.cls := hown
  have i11 : ∀ w ∈ u_ws RX11 TX11 71, w ∈ wsX11_plays := fun _ h => List.mem_cons_of_mem _ (List.mem_append_right _ h)
  have w1 := hts (.fieldLink RX11 390 "GuildCharterModel" "listMany" "I") (List.mem_cons_of_mem _ (List.mem_append_left _ (List.mem_append_left _ (List.mem_of_getElem? (i := 0) rfl))))
  have w2 := hts (.fieldLink RX11 393 "GuildCharterModel" "listFrom" "I") (List.mem_cons_of_mem _ (List.mem_append_left _ (List.mem_append_left _ (List.mem_of_getElem? (i := 2) rfl))))
  refine lv_aload_n hx hb dX11_plays_0 rfl (lv_at hl 0 rfl) ?_
  refine va_get (D := (dC, dI)) (ci := 11) (v := .int 0) (C := RX11) (T := TX11) (N := 71) hx hb hts i11 hown hK hP 0 rfl rfl 48 (nlt rfl) w1 (fun _ h9 => h9) rfl dX11_plays_1 ?_
  refine lv_istore_n (lv' := [(2, .int 0), (0, .ref (n 0)), (1, .int 0)]) hx hb dX11_plays_4 rfl hl (nlt rfl) rfl (fun ls hl => ?_)
  refine lv_iconst (v := 0) hx hb dX11_plays_5 z8 ?_
  refine lv_istore_n (lv' := [(3, .int 0), (2, .int 0), (0, .ref (n 0)), (1, .int 0)]) hx hb dX11_plays_6 rfl hl (nlt rfl) rfl (fun ls hl => ?_)
  refine lv_iload_n hx hb dX11_plays_7 rfl (lv_at hl 0 rfl) ?_
  refine lv_iload_n hx hb dX11_plays_8 rfl (lv_at hl 1 rfl) ?_
  refine lv_icmp_ge (tgt := 25) hx hb dX11_plays_9 z727 (fun _ => ?_) (fun c1 => absurd (z510) c1)
  refine lv_aload_n hx hb dX11_plays_25 rfl (lv_at hl 2 rfl) ?_
  refine call_iV (ci := 11) (As := []) (rest := []) (wr := []) ⟨hx, hb, hml, hown, hts⟩ (k228_X11_longOf l dC dI cB cI cJ cZ cO n) (cwV 0 hts gX11_plays_X11_longOf rfl rfl rfl ⟨rfl, z597⟩ ⟨Nat.le_of_ble_eq_true rfl, Nat.le_of_ble_eq_true rfl⟩) hK hP hD hS hA [0, 1] [] rfl rfl (by decide +kernel) (by decide +kernel) (by decide +kernel) rfl rfl rfl hl.1 (Nat.le_of_ble_eq_true rfl) rfl rfl dX11_plays_26 ⟨by decide +kernel, by decide +kernel⟩ (fun u0 H locs hP hD hS => ?_)
  refine lv_iconst (v := 1) hx hb dX11_plays_29 z39 ?_
  refine lv_isub hx hb dX11_plays_30 ?_
  refine tpi z596 ?_
  refine lv_istore_n (lv' := [(3, .int 2), (2, .int 0), (0, .ref (n 0)), (1, .int 0)]) hx hb dX11_plays_31 rfl hl (nlt rfl) rfl (fun ls hl => ?_)
  refine lv_iload_n hx hb dX11_plays_32 rfl (lv_at hl 0 rfl) ?_
  refine lv_aload_n hx hb dX11_plays_33 rfl (lv_at hl 2 rfl) ?_
  refine va_get (D := (dC, dI)) (ci := 11) (v := .int 0) (C := RX11) (T := TX11) (N := 71) hx hb hts i11 hown hK hP 0 rfl rfl 49 (nlt rfl) w2 (fun _ h9 => h9) rfl dX11_plays_34 ?_
  refine lv_icmp_lt (tgt := 186) hx hb dX11_plays_37 z728 (fun c1 => absurd c1 (z197)) (fun _ => ?_)
  refine lv_iconst (v := 0) hx hb dX11_plays_40 z8 ?_
  refine lv_istore (lv' := [(4, .int 0), (3, .int 2), (2, .int 0), (0, .ref (n 0)), (1, .int 0)]) hx hb dX11_plays_41 hl (nlt rfl) rfl (fun ls hl => ?_)
  refine lv_iconst (v := 0) hx hb dX11_plays_43 z8 ?_
  refine lv_istore (lv' := [(5, .int 0), (4, .int 0), (3, .int 2), (2, .int 0), (0, .ref (n 0)), (1, .int 0)]) hx hb dX11_plays_44 hl (nlt rfl) rfl (fun ls hl => ?_)
  refine lv_iload hx hb dX11_plays_46 (lv_at hl 0 rfl) ?_
  refine lv_iload_n hx hb dX11_plays_48 rfl (lv_at hl 3 rfl) ?_
  refine lv_icmp_ge (tgt := 148) hx hb dX11_plays_49 z729 (fun _ => ?_) (fun c1 => absurd (z510) c1)
  refine lv_iload hx hb dX11_plays_148 (lv_at hl 1 rfl) ?_
  refine lv_istore_n (lv' := [(2, .int 0), (5, .int 0), (4, .int 0), (3, .int 2), (0, .ref (n 0)), (1, .int 0)]) hx hb dX11_plays_150 rfl hl (nlt rfl) rfl (fun ls hl => ?_)
  refine lv_iconst (v := 0) hx hb dX11_plays_151 z8 ?_
  refine lv_istore (lv' := [(5, .int 0), (2, .int 0), (4, .int 0), (3, .int 2), (0, .ref (n 0)), (1, .int 0)]) hx hb dX11_plays_152 hl (nlt rfl) rfl (fun ls hl => ?_)
  refine lv_iload hx hb dX11_plays_154 (lv_at hl 0 rfl) ?_
  refine lv_iload_n hx hb dX11_plays_156 rfl (lv_at hl 1 rfl) ?_
  refine lv_icmp_ge (tgt := 180) hx hb dX11_plays_157 z730 (fun _ => ?_) (fun c1 => absurd (z510) c1)
  refine lv_iinc (v := 1) (lv' := [(3, .int 1), (5, .int 0), (2, .int 0), (4, .int 0), (0, .ref (n 0)), (1, .int 0)]) hx hb dX11_plays_180 hl (k := 3) rfl z731 (nlt rfl) rfl (fun ls hl => ?_)
  refine lv_goto (tgt := 32) hx hb dX11_plays_183 z732 ?_
  refine lv_iload_n hx hb dX11_plays_32 rfl (lv_at hl 0 rfl) ?_
  refine lv_aload_n hx hb dX11_plays_33 rfl (lv_at hl 4 rfl) ?_
  refine va_get (D := (dC, dI)) (ci := 11) (v := .int 0) (C := RX11) (T := TX11) (N := 71) hx hb hts i11 hown hK hP 0 rfl rfl 49 (nlt rfl) w2 (fun _ h9 => h9) rfl dX11_plays_34 ?_
  refine lv_icmp_lt (tgt := 186) hx hb dX11_plays_37 z728 (fun c1 => absurd c1 (z608)) (fun _ => ?_)
  refine lv_iconst (v := 0) hx hb dX11_plays_40 z8 ?_
  refine lv_istore (lv' := [(4, .int 0), (3, .int 1), (5, .int 0), (2, .int 0), (0, .ref (n 0)), (1, .int 0)]) hx hb dX11_plays_41 hl (nlt rfl) rfl (fun ls hl => ?_)
  refine lv_iconst (v := 0) hx hb dX11_plays_43 z8 ?_
  refine lv_istore (lv' := [(5, .int 0), (4, .int 0), (3, .int 1), (2, .int 0), (0, .ref (n 0)), (1, .int 0)]) hx hb dX11_plays_44 hl (nlt rfl) rfl (fun ls hl => ?_)
  refine lv_iload hx hb dX11_plays_46 (lv_at hl 0 rfl) ?_
  refine lv_iload_n hx hb dX11_plays_48 rfl (lv_at hl 3 rfl) ?_
  refine lv_icmp_ge (tgt := 148) hx hb dX11_plays_49 z729 (fun _ => ?_) (fun c1 => absurd (z510) c1)
  refine lv_iload hx hb dX11_plays_148 (lv_at hl 1 rfl) ?_
  refine lv_istore_n (lv' := [(2, .int 0), (5, .int 0), (4, .int 0), (3, .int 1), (0, .ref (n 0)), (1, .int 0)]) hx hb dX11_plays_150 rfl hl (nlt rfl) rfl (fun ls hl => ?_)
  refine lv_iconst (v := 0) hx hb dX11_plays_151 z8 ?_
  refine lv_istore (lv' := [(5, .int 0), (2, .int 0), (4, .int 0), (3, .int 1), (0, .ref (n 0)), (1, .int 0)]) hx hb dX11_plays_152 hl (nlt rfl) rfl (fun ls hl => ?_)
  refine lv_iload hx hb dX11_plays_154 (lv_at hl 0 rfl) ?_
  refine lv_iload_n hx hb dX11_plays_156 rfl (lv_at hl 1 rfl) ?_
  refine lv_icmp_ge (tgt := 180) hx hb dX11_plays_157 z730 (fun _ => ?_) (fun c1 => absurd (z510) c1)
  refine lv_iinc (v := 0) (lv' := [(3, .int 0), (5, .int 0), (2, .int 0), (4, .int 0), (0, .ref (n 0)), (1, .int 0)]) hx hb dX11_plays_180 hl (k := 3) rfl z733 (nlt rfl) rfl (fun ls hl => ?_)
  refine lv_goto (tgt := 32) hx hb dX11_plays_183 z732 ?_
  refine lv_iload_n hx hb dX11_plays_32 rfl (lv_at hl 0 rfl) ?_
  refine lv_aload_n hx hb dX11_plays_33 rfl (lv_at hl 4 rfl) ?_
  refine va_get (D := (dC, dI)) (ci := 11) (v := .int 0) (C := RX11) (T := TX11) (N := 71) hx hb hts i11 hown hK hP 0 rfl rfl 49 (nlt rfl) w2 (fun _ h9 => h9) rfl dX11_plays_34 ?_
  refine lv_icmp_lt (tgt := 186) hx hb dX11_plays_37 z728 (fun c1 => absurd c1 (z125)) (fun _ => ?_)
  refine lv_iconst (v := 0) hx hb dX11_plays_40 z8 ?_
  refine lv_istore (lv' := [(4, .int 0), (3, .int 0), (5, .int 0), (2, .int 0), (0, .ref (n 0)), (1, .int 0)]) hx hb dX11_plays_41 hl (nlt rfl) rfl (fun ls hl => ?_)
  refine lv_iconst (v := 0) hx hb dX11_plays_43 z8 ?_
  refine lv_istore (lv' := [(5, .int 0), (4, .int 0), (3, .int 0), (2, .int 0), (0, .ref (n 0)), (1, .int 0)]) hx hb dX11_plays_44 hl (nlt rfl) rfl (fun ls hl => ?_)
  refine lv_iload hx hb dX11_plays_46 (lv_at hl 0 rfl) ?_
  refine lv_iload_n hx hb dX11_plays_48 rfl (lv_at hl 3 rfl) ?_
  refine lv_icmp_ge (tgt := 148) hx hb dX11_plays_49 z729 (fun _ => ?_) (fun c1 => absurd (z510) c1)
  refine lv_iload hx hb dX11_plays_148 (lv_at hl 1 rfl) ?_
  refine lv_istore_n (lv' := [(2, .int 0), (5, .int 0), (4, .int 0), (3, .int 0), (0, .ref (n 0)), (1, .int 0)]) hx hb dX11_plays_150 rfl hl (nlt rfl) rfl (fun ls hl => ?_)
  refine lv_iconst (v := 0) hx hb dX11_plays_151 z8 ?_
  refine lv_istore (lv' := [(5, .int 0), (2, .int 0), (4, .int 0), (3, .int 0), (0, .ref (n 0)), (1, .int 0)]) hx hb dX11_plays_152 hl (nlt rfl) rfl (fun ls hl => ?_)
  refine lv_iload hx hb dX11_plays_154 (lv_at hl 0 rfl) ?_
  refine lv_iload_n hx hb dX11_plays_156 rfl (lv_at hl 1 rfl) ?_
  refine lv_icmp_ge (tgt := 180) hx hb dX11_plays_157 z730 (fun _ => ?_) (fun c1 => absurd (z510) c1)
  refine lv_iinc (v := (-1)) (lv' := [(3, .int (-1)), (5, .int 0), (2, .int 0), (4, .int 0), (0, .ref (n 0)), (1, .int 0)]) hx hb dX11_plays_180 hl (k := 3) rfl z734 (nlt rfl) rfl (fun ls hl => ?_)
  refine lv_goto (tgt := 32) hx hb dX11_plays_183 z732 ?_
  refine lv_iload_n hx hb dX11_plays_32 rfl (lv_at hl 0 rfl) ?_
  refine lv_aload_n hx hb dX11_plays_33 rfl (lv_at hl 4 rfl) ?_
  refine va_get (D := (dC, dI)) (ci := 11) (v := .int 0) (C := RX11) (T := TX11) (N := 71) hx hb hts i11 hown hK hP 0 rfl rfl 49 (nlt rfl) w2 (fun _ h9 => h9) rfl dX11_plays_34 ?_
  refine lv_icmp_lt (tgt := 186) hx hb dX11_plays_37 z728 (fun _ => ?_) (fun c1 => absurd (z735) c1)
  refine lv_iload_n hx hb dX11_plays_186 rfl (lv_at hl 2 rfl) ?_
  refine lv_if_ne (tgt := 194) hx hb dX11_plays_187 z736 (fun c1 => absurd (rfl) c1) (fun _ => ?_)
  refine lv_iconst (v := (-1)) hx hb dX11_plays_190 z128 ?_
  refine lv_goto (tgt := 200) hx hb dX11_plays_191 z737 ?_
  refine W.widen (k := 0) (n := 0) (by decide +kernel) (by decide +kernel) ?_
  exact ret_i hx hb hr hlocks hS (u := (fun _ => 0)) (hP.sub [0, 1] rfl) (hD.sub [0, 1] (by decide +kernel) rfl) dX11_plays_200

set_option maxHeartbeats 4000000 in
set_option maxRecDepth 100000 in
theorem k236_X11_written (l : Launch) (dC : Nat → ClassId) (dI : Nat → Nat → Nat) (cB cI cJ cZ cO : ClassId) (n : Nat → Nat) (x1 : Int32) (h0 : ¬ x1 < 0) (h1 : ¬ 2 < x1) : CI l yX11_written wsX11_written ({ frames := 5, cells := 0, slots := 0, locals := 111 }) (dC, dI) (tyL cB cI cJ cZ cO) [.ref (n 0), .int x1] [((n 0), .inr (11, fM n)), ((n 7), .inl (cI, 2, .inl (upd (fun _ => 0) 0 3))), ((n 21), .inl (cI, 6, .inl (fun _ => 0))), ((n 5), .inl (cI, 2, .inl (fun _ => 0))), ((n 27), .inl (cI, 6, .inl (upd (upd (upd (upd (fun _ => 0) 1 1) 2 2) 4 1) 5 2))), ((n 36), .inl (cI, 6, .inl (fun _ => 0)))] (fun _ => []) (-1000000) := by
  intro sz
  refine ct_open (cc := cX11_written) (maxL := 3) (ret := (some .int)) (by decide) rfl (Nat.le_of_ble_eq_true rfl) ?_
  intro p e s m below meth c ls A hx hb hr hml hts hown hlocks hin hP hK hD hA hS hl
  have hl : lv_has ls 3 [(0, .ref (n 0)), (1, .int x1)] := hl
  have hown : s.vm.findClass RX11 = some m.cls := hown
  have i11 : ∀ w ∈ u_ws RX11 TX11 71, w ∈ wsX11_written := fun _ h => List.mem_cons_of_mem _ (List.mem_append_right _ h)
  have w1 := hts (.fieldLink RX11 248 "GuildCharterModel" "laid" "I") (List.mem_cons_of_mem _ (List.mem_append_left _ (List.mem_append_left _ (List.mem_of_getElem? (i := 0) rfl))))
  have w2 := hts (.constant RX11 311 (-1000000)) (List.mem_cons_of_mem _ (List.mem_append_left _ (List.mem_append_left _ (List.mem_of_getElem? (i := 1) rfl))))
  refine lv_aload_n hx hb dX11_written_0 rfl (lv_at hl 0 rfl) ?_
  refine lv_iconst (v := 0) hx hb dX11_written_1 z8 ?_
  refine va_put (D := (dC, dI)) (ci := 11) (v := .int 0) (ty := tyX11 59) (C := RX11) (T := TX11) (N := 71) hx hb hts i11 tyX11 tyX11_ok nmX11 hown hK hP hD hS 0 rfl rfl 59 (nlt rfl) w1 (fun _ h9 => h9) rfl (tyX11_ok 59 (nlt rfl)) rfl rfl (nlt rfl) dX11_written_2 (fun H locs hP hD hS => ?_)
  refine lv_iload_n hx hb dX11_written_5 rfl (lv_at hl 1 rfl) ?_
  refine call_iS (As := [.int x1]) (rest := []) (wr := [((n 0), .inr (11, fM n)), ((n 7), .inl (cI, 2, .inl (upd (fun _ => 0) 0 3))), ((n 21), .inl (cI, 6, .inl (fun _ => 0))), ((n 5), .inl (cI, 2, .inl (fun _ => 0))), ((n 27), .inl (cI, 6, .inl (upd (upd (upd (upd (fun _ => 0) 1 1) 2 2) 4 1) 5 2))), ((n 36), .inl (cI, 6, .inl (fun _ => 0)))]) ⟨hx, hb, hml, hown, hts⟩ (k209_X11_isGuild l dC dI cB cI cJ cZ cO x1 h0 h1) (va_cwS 1 hts gX11_written_X11_isGuild rfl rfl rfl z623 ⟨Nat.le_of_ble_eq_true rfl, Nat.le_of_ble_eq_true rfl⟩) hK hP hD hS hA [] [0, 1, 2, 3, 4, 5] rfl rfl (by decide +kernel) (by decide +kernel) (by decide +kernel) hl.1 (Nat.le_of_ble_eq_true rfl) rfl rfl dX11_written_6 ⟨by decide +kernel, by decide +kernel⟩ (fun u0 H locs hP hD hS => ?_)
  refine lv_if_eq (tgt := 19) hx hb dX11_written_9 z684 (fun c1 => absurd c1 (z525)) (fun _ => ?_)
  refine lv_aload_n hx hb dX11_written_12 rfl (lv_at hl 0 rfl) ?_
  refine call_iV (ci := 11) (As := []) (rest := []) (wr := [((n 27), .inl (cI, 6, .inl (upd (upd (upd (upd (fun _ => 0) 1 1) 2 2) 4 1) 5 2))), ((n 36), .inl (cI, 6, .inl (fun _ => 0)))]) ⟨hx, hb, hml, hown, hts⟩ (k233_X11_layFromRow l dC dI cB cI cJ cZ cO n) (cwV 0 hts gX11_written_X11_layFromRow rfl rfl rfl ⟨rfl, z740⟩ ⟨Nat.le_of_ble_eq_true rfl, Nat.le_of_ble_eq_true rfl⟩) hK hP hD hS hA [0, 1, 2, 3] [4, 5] rfl rfl (by decide +kernel) (by decide +kernel) (by decide +kernel) rfl rfl rfl hl.1 (Nat.le_of_ble_eq_true rfl) rfl rfl dX11_written_13 ⟨by decide +kernel, by decide +kernel⟩ (fun u1 H locs hP hD hS => ?_)
  refine lv_if_ne (tgt := 23) hx hb dX11_written_16 z724 (fun _ => ?_) (fun c1 => absurd c1 (z525))
  refine lv_aload_n hx hb dX11_written_23 rfl (lv_at hl 0 rfl) ?_
  refine call_vV (ci := 11) (As := []) (rest := []) (wr := [((n 7), .inl (cI, 2, .inl (upd (fun _ => 0) 0 3))), ((n 21), .inl (cI, 6, .inl (upd (upd (upd (fun _ => 0) 0 (-1)) 1 (-1)) 2 (-1)))), ((n 5), .inl (cI, 2, .inl (fun _ => 0)))]) ⟨hx, hb, hml, hown, hts⟩ (k234_X11_turnsNow l dC dI cB cI cJ cZ cO n) (cwV 0 hts gX11_written_X11_turnsNow rfl rfl rfl ⟨rfl, z741⟩ ⟨Nat.le_of_ble_eq_true rfl, Nat.le_of_ble_eq_true rfl⟩) hK hP hD hS hA [2, 0, 1] [3, 4, 5] rfl rfl (by decide +kernel) (by decide +kernel) (by decide +kernel) rfl rfl rfl hl.1 (Nat.le_of_ble_eq_true rfl) rfl rfl dX11_written_24 ⟨by decide +kernel, by decide +kernel⟩ (fun u2 H locs hP hD hS => ?_)
  refine lv_aload_n hx hb dX11_written_27 rfl (lv_at hl 0 rfl) ?_
  refine lv_iconst (v := 0) hx hb dX11_written_28 z8 ?_
  refine call_iV (ci := 11) (As := [.int 0]) (rest := []) (wr := [((n 21), .inl (cI, 6, .inl (upd (upd (upd (fun _ => 0) 0 (-1)) 1 (-1)) 2 (-1)))), ((n 5), .inl (cI, 2, .inl (fun _ => 0))), ((n 27), .inl (cI, 6, .inl (upd (upd (upd (upd (fun _ => 0) 1 1) 2 2) 4 1) 5 2))), ((n 36), .inl (cI, 6, .inl (upd (upd (upd (upd (fun _ => 0) 1 1) 2 2) 4 1) 5 2)))]) ⟨hx, hb, hml, hown, hts⟩ (k235_X11_plays l dC dI cB cI cJ cZ cO n) (cwV 1 hts gX11_written_X11_plays rfl rfl rfl ⟨rfl, z742⟩ ⟨Nat.le_of_ble_eq_true rfl, Nat.le_of_ble_eq_true rfl⟩) hK hP hD hS hA [3, 0] [1, 2, 4, 5] rfl rfl (by decide +kernel) (by decide +kernel) (by decide +kernel) rfl rfl rfl hl.1 (Nat.le_of_ble_eq_true rfl) rfl rfl dX11_written_29 ⟨by decide +kernel, by decide +kernel⟩ (fun u3 H locs hP hD hS => ?_)
  refine lv_istore_n (lv' := [(2, .int (-1)), (0, .ref (n 0)), (1, .int x1)]) hx hb dX11_written_32 rfl hl (nlt rfl) rfl (fun ls hl => ?_)
  refine lv_iload_n hx hb dX11_written_33 rfl (lv_at hl 0 rfl) ?_
  refine lv_if_ge (tgt := 41) hx hb dX11_written_34 z739 (fun c1 => absurd c1 (z738)) (fun _ => ?_)
  refine lv_ldcw hx hb hown w2 dX11_written_37 ?_
  refine W.widen (k := 0) (n := 0) (by decide +kernel) (by decide +kernel) ?_
  exact ret_i hx hb hr hlocks hS (u := (fun _ => 0)) (hP.sub [] rfl) (hD.sub [] (by decide +kernel) rfl) dX11_written_40

set_option maxHeartbeats 4000000 in
set_option maxRecDepth 100000 in
theorem k237_X10_written (l : Launch) (dC : Nat → ClassId) (dI : Nat → Nat → Nat) (cB cI cJ cZ cO : ClassId) (r : Nat → Nat) (x1 : Int32) (h0 : ¬ x1 < 0) (h1 : 3 ≤ x1) : CI l yX10_written wsX10_written ({ frames := 4, cells := 0, slots := 0, locals := 99 }) (dC, dI) (tyL cB cI cJ cZ cO) [.ref (r 0), .int x1] [((r 0), .inr (10, fX r)), ((r 38), .inr (0, [.ref (r 39), .int 0, .ref (r 40), .ref (r 41), .ref (r 42), .ref (r 43), .ref (r 44), .int 0, .int 0])), ((r 65), .inr (9, [.int 0, .int 0, .ref (r 66), .ref (r 67), .ref (r 68), .ref (r 69), .int 0, .int 0, .int 0, .int 0, .int 0])), ((r 18), .inr (4, [.int 0, .ref (r 19), .ref (r 20), .int 0, .ref (r 21), .ref (r 22), .int 0, .ref (r 23), .ref (r 24), .int 0, .ref (r 25), .ref (r 26), .int 3, .int 0, .int 0, .ref (r 27)])), ((r 66), .inl (cI, 3000, .inl (fun _ => 0))), ((r 67), .inl (cI, 3000, .inl (fun _ => 0))), ((r 69), .inl (cI, 3000, .inl (fun _ => 0))), ((r 68), .inl (cI, 9000, .inl (fun _ => 0))), ((r 55), .inr (5, [.ref (r 56), .ref (r 57)]))] (fun _ => []) (-1000000) := by
  intro sz
  refine ct_open (cc := cX10_written) (maxL := 4) (ret := (some .int)) (by decide) rfl (Nat.le_of_ble_eq_true rfl) ?_
  intro p e s m below meth c ls A hx hb hr hml hts hown hlocks hin hP hK hD hA hS hl
  have hl : lv_has ls 4 [(0, .ref (r 0)), (1, .int x1)] := hl
  have hown : s.vm.findClass RX10 = some m.cls := hown
  have i10 : ∀ w ∈ u_ws RX10 TX10 18, w ∈ wsX10_written := fun _ h => List.mem_cons_of_mem _ (List.mem_append_left _ (List.mem_append_left _ (List.mem_append_left _ (List.mem_append_left _ (List.mem_append_left _ (List.mem_append_right _ h))))))
  have w1 := hts (.fieldLink RX10 128 "GuildCharter" "lyingSize" "I") (List.mem_cons_of_mem _ (List.mem_append_left _ (List.mem_append_left _ (List.mem_append_left _ (List.mem_append_left _ (List.mem_append_left _ (List.mem_append_left _ (List.mem_append_left _ (List.mem_of_getElem? (i := 0) rfl)))))))))
  have w2 := hts (.constant RX10 153 (-1000000)) (List.mem_cons_of_mem _ (List.mem_append_left _ (List.mem_append_left _ (List.mem_append_left _ (List.mem_append_left _ (List.mem_append_left _ (List.mem_append_left _ (List.mem_append_left _ (List.mem_of_getElem? (i := 1) rfl)))))))))
  refine lv_aload_n hx hb dX10_written_0 rfl (lv_at hl 0 rfl) ?_
  refine lv_iconst (v := 0) hx hb dX10_written_1 z8 ?_
  refine va_put (D := (dC, dI)) (ci := 10) (v := .int 0) (ty := tyX10 16) (C := RX10) (T := TX10) (N := 18) hx hb hts i10 tyX10 tyX10_ok nmX10 hown hK hP hD hS 0 rfl rfl 16 (nlt rfl) w1 (fun _ h9 => h9) rfl (tyX10_ok 16 (nlt rfl)) rfl rfl (nlt rfl) dX10_written_2 (fun H locs hP hD hS => ?_)
  refine lv_aload_n hx hb dX10_written_5 rfl (lv_at hl 0 rfl) ?_
  refine call_rV (ci := 10) (As := []) (rest := []) (wr := []) ⟨hx, hb, hml, hown, hts⟩ (k222_X10_growEarnest l dC dI cB cI cJ cZ cO r) (cwV 0 hts gX10_written_X10_growEarnest rfl rfl rfl ⟨rfl, z683⟩ ⟨Nat.le_of_ble_eq_true rfl, Nat.le_of_ble_eq_true rfl⟩) hK hP hD hS hA [0, 1, 2, 3, 4, 5, 6, 7, 8] [] rfl rfl (by decide +kernel) (by decide +kernel) (by decide +kernel) rfl rfl rfl hl.1 (Nat.le_of_ble_eq_true rfl) rfl rfl dX10_written_6 ⟨by decide +kernel, by decide +kernel⟩ (fun u0 H locs hP hD hS => ?_)
  refine lv_astore_n (lv' := [(2, .ref (r 65)), (0, .ref (r 0)), (1, .int x1)]) hx hb dX10_written_9 rfl hl (nlt rfl) rfl (fun ls hl => ?_)
  refine lv_iload_n hx hb dX10_written_10 rfl (lv_at hl 2 rfl) ?_
  refine call_iS (As := [.int x1]) (rest := []) (wr := [((r 0), .inr (10, fX r)), ((r 38), .inr (0, [.ref (r 39), .int 0, .ref (r 40), .ref (r 41), .ref (r 42), .ref (r 43), .ref (r 44), .int 0, .int 0])), ((r 65), .inr (9, [.int 0, .int 0, .ref (r 66), .ref (r 67), .ref (r 68), .ref (r 69), .int 3, .int 1, .int 0, .int 0, .int 0])), ((r 18), .inr (4, [.int 0, .ref (r 19), .ref (r 20), .int 0, .ref (r 21), .ref (r 22), .int 0, .ref (r 23), .ref (r 24), .int 0, .ref (r 25), .ref (r 26), .int 3, .int 0, .int 0, .ref (r 27)])), ((r 66), .inl (cI, 3000, .inl (upd (fun _ => 0) 0 (-1)))), ((r 67), .inl (cI, 3000, .inl (fun _ => 0))), ((r 69), .inl (cI, 3000, .inl (fun _ => 0))), ((r 68), .inl (cI, 9000, .inl (fun _ => 0))), ((r 55), .inr (5, [.ref (r 56), .ref (r 57)]))]) ⟨hx, hb, hml, hown, hts⟩ (k212_X10_isGuild l dC dI cB cI cJ cZ cO x1 h0 h1) (va_cwS 1 hts gX10_written_X10_isGuild rfl rfl rfl z621 ⟨Nat.le_of_ble_eq_true rfl, Nat.le_of_ble_eq_true rfl⟩) hK hP hD hS hA [] [0, 1, 2, 3, 4, 5, 6, 7, 8] rfl rfl (by decide +kernel) (by decide +kernel) (by decide +kernel) hl.1 (Nat.le_of_ble_eq_true rfl) rfl rfl dX10_written_11 ⟨by decide +kernel, by decide +kernel⟩ (fun u1 H locs hP hD hS => ?_)
  refine lv_if_eq (tgt := 24) hx hb dX10_written_14 z616 (fun _ => ?_) (fun c1 => absurd (rfl) c1)
  refine lv_ldc hx hb hown w2 dX10_written_24 ?_
  refine W.widen (k := 0) (n := 0) (by decide +kernel) (by decide +kernel) ?_
  exact ret_i hx hb hr hlocks hS (u := (fun _ => 0)) (hP.sub [] rfl) (hD.sub [] (by decide +kernel) rfl) dX10_written_26

set_option maxHeartbeats 4000000 in
set_option maxRecDepth 100000 in
theorem k238_X11_written (l : Launch) (dC : Nat → ClassId) (dI : Nat → Nat → Nat) (cB cI cJ cZ cO : ClassId) (n : Nat → Nat) (x1 : Int32) (h0 : ¬ x1 < 0) (h1 : 2 < x1) : CI l yX11_written wsX11_written ({ frames := 2, cells := 0, slots := 0, locals := 42 }) (dC, dI) (tyL cB cI cJ cZ cO) [.ref (n 0), .int x1] [((n 0), .inr (11, fM n))] (fun _ => []) (-1000000) := by
  intro sz
  refine ct_open (cc := cX11_written) (maxL := 3) (ret := (some .int)) (by decide) rfl (Nat.le_of_ble_eq_true rfl) ?_
  intro p e s m below meth c ls A hx hb hr hml hts hown hlocks hin hP hK hD hA hS hl
  have hl : lv_has ls 3 [(0, .ref (n 0)), (1, .int x1)] := hl
  have hown : s.vm.findClass RX11 = some m.cls := hown
  have i11 : ∀ w ∈ u_ws RX11 TX11 71, w ∈ wsX11_written := fun _ h => List.mem_cons_of_mem _ (List.mem_append_right _ h)
  have w1 := hts (.fieldLink RX11 248 "GuildCharterModel" "laid" "I") (List.mem_cons_of_mem _ (List.mem_append_left _ (List.mem_append_left _ (List.mem_of_getElem? (i := 0) rfl))))
  have w2 := hts (.constant RX11 311 (-1000000)) (List.mem_cons_of_mem _ (List.mem_append_left _ (List.mem_append_left _ (List.mem_of_getElem? (i := 1) rfl))))
  refine lv_aload_n hx hb dX11_written_0 rfl (lv_at hl 0 rfl) ?_
  refine lv_iconst (v := 0) hx hb dX11_written_1 z8 ?_
  refine va_put (D := (dC, dI)) (ci := 11) (v := .int 0) (ty := tyX11 59) (C := RX11) (T := TX11) (N := 71) hx hb hts i11 tyX11 tyX11_ok nmX11 hown hK hP hD hS 0 rfl rfl 59 (nlt rfl) w1 (fun _ h9 => h9) rfl (tyX11_ok 59 (nlt rfl)) rfl rfl (nlt rfl) dX11_written_2 (fun H locs hP hD hS => ?_)
  refine lv_iload_n hx hb dX11_written_5 rfl (lv_at hl 1 rfl) ?_
  refine call_iS (As := [.int x1]) (rest := []) (wr := [((n 0), .inr (11, fM n))]) ⟨hx, hb, hml, hown, hts⟩ (k214_X11_isGuild l dC dI cB cI cJ cZ cO x1 h0 h1) (va_cwS 1 hts gX11_written_X11_isGuild rfl rfl rfl z623 ⟨Nat.le_of_ble_eq_true rfl, Nat.le_of_ble_eq_true rfl⟩) hK hP hD hS hA [] [0] rfl rfl (by decide +kernel) (by decide +kernel) (by decide +kernel) hl.1 (Nat.le_of_ble_eq_true rfl) rfl rfl dX11_written_6 ⟨by decide +kernel, by decide +kernel⟩ (fun u0 H locs hP hD hS => ?_)
  refine lv_if_eq (tgt := 19) hx hb dX11_written_9 z684 (fun _ => ?_) (fun c1 => absurd (rfl) c1)
  refine lv_ldcw hx hb hown w2 dX11_written_19 ?_
  refine W.widen (k := 0) (n := 0) (by decide +kernel) (by decide +kernel) ?_
  exact ret_i hx hb hr hlocks hS (u := (fun _ => 0)) (hP.sub [] rfl) (hD.sub [] (by decide +kernel) rfl) dX11_written_22

set_option maxHeartbeats 4000000 in
set_option maxRecDepth 100000 in
theorem k239_X10_held (l : Launch) (dC : Nat → ClassId) (dI : Nat → Nat → Nat) (cB cI cJ cZ cO : ClassId) (r : Nat → Nat) (x1 : Int32) (h0 : x1 < 1) : CI l yX10_held wsX10_held ({ frames := 4, cells := 0, slots := 0, locals := 99 }) (dC, dI) (tyL cB cI cJ cZ cO) [.ref (r 0), .int x1] [((r 0), .inr (10, fX r)), ((r 38), .inr (0, [.ref (r 39), .int 0, .ref (r 40), .ref (r 41), .ref (r 42), .ref (r 43), .ref (r 44), .int 0, .int 0])), ((r 65), .inr (9, [.int 0, .int 0, .ref (r 66), .ref (r 67), .ref (r 68), .ref (r 69), .int 0, .int 0, .int 0, .int 0, .int 0])), ((r 18), .inr (4, [.int 0, .ref (r 19), .ref (r 20), .int 0, .ref (r 21), .ref (r 22), .int 0, .ref (r 23), .ref (r 24), .int 0, .ref (r 25), .ref (r 26), .int 3, .int 0, .int 0, .ref (r 27)])), ((r 66), .inl (cI, 3000, .inl (fun _ => 0))), ((r 67), .inl (cI, 3000, .inl (fun _ => 0))), ((r 69), .inl (cI, 3000, .inl (fun _ => 0))), ((r 68), .inl (cI, 9000, .inl (fun _ => 0))), ((r 55), .inr (5, [.ref (r 56), .ref (r 57)]))] (fun _ => []) (-1000000) := by
  intro sz
  refine ct_open (cc := cX10_held) (maxL := 3) (ret := (some .int)) (by decide) rfl (Nat.le_of_ble_eq_true rfl) ?_
  intro p e s m below meth c ls A hx hb hr hml hts hown hlocks hin hP hK hD hA hS hl
  have hl : lv_has ls 3 [(0, .ref (r 0)), (1, .int x1)] := hl
  have hown : s.vm.findClass RX10 = some m.cls := hown
  have w0 := hts (.constant RX10 153 (-1000000)) (List.mem_cons_of_mem _ (List.mem_append_left _ (List.mem_append_left _ (List.mem_append_left _ (List.mem_append_left _ (List.mem_append_left _ (List.mem_append_left _ (List.mem_append_left _ (List.mem_of_getElem? (i := 0) rfl)))))))))
  refine lv_aload_n hx hb dX10_held_0 rfl (lv_at hl 0 rfl) ?_
  refine call_rV (ci := 10) (As := []) (rest := []) (wr := []) ⟨hx, hb, hml, hown, hts⟩ (k222_X10_growEarnest l dC dI cB cI cJ cZ cO r) (cwV 0 hts gX10_held_X10_growEarnest rfl rfl rfl ⟨rfl, z683⟩ ⟨Nat.le_of_ble_eq_true rfl, Nat.le_of_ble_eq_true rfl⟩) hK hP hD hS hA [0, 1, 2, 3, 4, 5, 6, 7, 8] [] rfl rfl (by decide +kernel) (by decide +kernel) (by decide +kernel) rfl rfl rfl hl.1 (Nat.le_of_ble_eq_true rfl) rfl rfl dX10_held_1 ⟨by decide +kernel, by decide +kernel⟩ (fun u0 H locs hP hD hS => ?_)
  refine lv_astore_n (lv' := [(2, .ref (r 65)), (0, .ref (r 0)), (1, .int x1)]) hx hb dX10_held_4 rfl hl (nlt rfl) rfl (fun ls hl => ?_)
  refine lv_iload_n hx hb dX10_held_5 rfl (lv_at hl 2 rfl) ?_
  refine lv_iconst (v := 1) hx hb dX10_held_6 z39 ?_
  refine lv_icmp_lt (tgt := 23) hx hb dX10_held_7 z715 (fun _ => ?_) (fun c1 => absurd (h0) c1)
  refine lv_ldc hx hb hown w0 dX10_held_23 ?_
  refine W.widen (k := 0) (n := 0) (by decide +kernel) (by decide +kernel) ?_
  exact ret_i hx hb hr hlocks hS (u := (fun _ => 0)) (hP.sub [] rfl) (hD.sub [] (by decide +kernel) rfl) dX10_held_25

set_option maxHeartbeats 4000000 in
set_option maxRecDepth 100000 in
theorem k240_X11_isIn (l : Launch) (dC : Nat → ClassId) (dI : Nat → Nat → Nat) (cB cI cJ cZ cO : ClassId) (x1 : Int32) (h0 : x1 < 1) : CI l yX11_isIn wsX11_isIn ({ frames := 0, cells := 0, slots := 0, locals := 0 }) (dC, dI) (tyL cB cI cJ cZ cO) [.int x1, .int 1, .int 7] [] (fun _ => []) 0 := by
  intro sz
  refine ct_open (cc := cX11_isIn) (maxL := 3) (ret := (some .boolean)) (by decide) rfl (Nat.le_of_ble_eq_true rfl) ?_
  intro p e s m below meth c ls A hx hb hr hml hts hown hlocks hin hP hK hD hA hS hl
  have hl : lv_has ls 3 [(0, .int x1), (1, .int 1), (2, .int 7)] := hl
  have hown : s.vm.findClass RX11 = some m.cls := hown
  refine lv_iload_n hx hb dX11_isIn_0 rfl (lv_at hl 0 rfl) ?_
  refine lv_iload_n hx hb dX11_isIn_1 rfl (lv_at hl 1 rfl) ?_
  refine lv_icmp_lt (tgt := 14) hx hb dX11_isIn_2 z586 (fun _ => ?_) (fun c1 => absurd (h0) c1)
  refine lv_iconst (v := 0) hx hb dX11_isIn_14 z8 ?_
  refine W.widen (k := 0) (n := 0) (by decide +kernel) (by decide +kernel) ?_
  exact ret_z hx hb hr rfl hlocks hS (u := (fun _ => 0)) (hP.sub [] rfl) (hD.sub [] (by decide +kernel) rfl) dX11_isIn_15
