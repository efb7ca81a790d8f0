set_option maxHeartbeats 4000000 in
set_option maxRecDepth 100000 in
theorem k194_X10_next (l : Launch) (dC : Nat → ClassId) (dI : Nat → Nat → Nat) (cB cI cJ cZ cO : ClassId) (r : Nat → Nat) : CI l yX10_next wsX10_next ({ frames := 2, cells := 0, slots := 0, locals := 44 }) (dC, dI) (tyL cB cI cJ cZ cO) [.ref (r 0)] [((r 0), .inr (10, fX r)), ((r 38), .inr (0, [.ref (r 39), .int 0, .ref (r 40), .ref (r 41), .ref (r 42), .ref (r 43), .ref (r 44), .int 0, .int 0])), ((r 55), .inr (5, [.ref (r 56), .ref (r 57)])), ((r 18), .inr (4, [.int 0, .ref (r 19), .ref (r 20), .int 0, .ref (r 21), .ref (r 22), .int 0, .ref (r 23), .ref (r 24), .int 0, .ref (r 25), .ref (r 26), .int 3, .int 0, .int 0, .ref (r 27)]))] (fun _ => []) 0 := by
  intro sz
  refine ct_open (cc := cX10_next) (maxL := 1) (ret := (some .int)) (by decide) rfl (Nat.le_of_ble_eq_true rfl) ?_
  intro p e s m below meth c ls A hx hb hr hml hts hown hlocks hin hP hK hD hA hS hl
  have hl : lv_has ls 1 [(0, .ref (r 0))] := hl
  have hown : s.vm.findClass RX10 = some m.cls := hown
  refine lv_aload_n hx hb dX10_next_0 rfl (lv_at hl 0 rfl) ?_
  refine call_iV (ci := 10) (As := []) (rest := []) (wr := []) ⟨hx, hb, hml, hown, hts⟩ (k193_X10_nextInEarnest l dC dI cB cI cJ cZ cO r) (cwV 0 hts gX10_next_X10_nextInEarnest rfl rfl rfl ⟨rfl, z647⟩ ⟨Nat.le_of_ble_eq_true rfl, Nat.le_of_ble_eq_true rfl⟩) hK hP hD hS hA [0, 1, 2, 3] [] rfl rfl (by decide +kernel) (by decide +kernel) (by decide +kernel) rfl rfl rfl hl.1 (Nat.le_of_ble_eq_true rfl) rfl rfl dX10_next_1 ⟨by decide +kernel, by decide +kernel⟩ (fun u0 H locs hP hD hS => ?_)
  refine W.widen (k := 0) (n := 0) (by decide +kernel) (by decide +kernel) ?_
  exact ret_i hx hb hr hlocks hS (u := (fun _ => 0)) (hP.sub [] rfl) (hD.sub [] (by decide +kernel) rfl) dX10_next_4

set_option maxHeartbeats 4000000 in
set_option maxRecDepth 100000 in
theorem k195_X11_next (l : Launch) (dC : Nat → ClassId) (dI : Nat → Nat → Nat) (cB cI cJ cZ cO : ClassId) (n : Nat → Nat) : CI l yX11_next wsX11_next ({ frames := 0, cells := 0, slots := 0, locals := 0 }) (dC, dI) (tyL cB cI cJ cZ cO) [.ref (n 0)] [((n 0), .inr (11, fM n)), ((n 3), .inl (cI, 2, .inl (fun _ => 0)))] (fun _ => []) 0 := by
  intro sz
  refine ct_open (cc := cX11_next) (maxL := 3) (ret := (some .int)) (by decide) rfl (Nat.le_of_ble_eq_true rfl) ?_
  intro p e s m below meth c ls A hx hb hr hml hts hown hlocks hin hP hK hD hA hS hl
  have hl : lv_has ls 3 [(0, .ref (n 0))] := hl
  have hown : s.vm.findClass RX11 = some m.cls := hown
  have i11 : ∀ w ∈ u_ws RX11 TX11 71, w ∈ wsX11_next := fun _ h => List.mem_cons_of_mem _ (List.mem_append_right _ h)
  have w1 := hts (.fieldLink RX11 20 "GuildCharterModel" "words" "[I") (List.mem_cons_of_mem _ (List.mem_append_left _ (List.mem_append_left _ (List.mem_of_getElem? (i := 0) rfl))))
  have w2 := hts (.fieldLink RX11 233 "GuildCharterModel" "bank" "I") (List.mem_cons_of_mem _ (List.mem_append_left _ (List.mem_append_left _ (List.mem_of_getElem? (i := 1) rfl))))
  refine lv_iconst (v := 0) hx hb dX11_next_0 z8 ?_
  refine lv_istore_n (lv' := [(1, .int 0), (0, .ref (n 0))]) hx hb dX11_next_1 rfl hl (nlt rfl) rfl (fun ls hl => ?_)
  refine lv_iconst (v := 0) hx hb dX11_next_2 z8 ?_
  refine lv_istore_n (lv' := [(2, .int 0), (1, .int 0), (0, .ref (n 0))]) hx hb dX11_next_3 rfl hl (nlt rfl) rfl (fun ls hl => ?_)
  refine lv_iload_n hx hb dX11_next_4 rfl (lv_at hl 0 rfl) ?_
  refine lv_aload_n hx hb dX11_next_5 rfl (lv_at hl 2 rfl) ?_
  refine va_get (D := (dC, dI)) (ci := 11) (v := .ref (n 3)) (C := RX11) (T := TX11) (N := 71) hx hb hts i11 hown hK hP 0 rfl rfl 11 (nlt rfl) w1 (fun _ h9 => h9) rfl dX11_next_6 ?_
  refine lv_aload_n hx hb dX11_next_9 rfl (lv_at hl 2 rfl) ?_
  refine va_get (D := (dC, dI)) (ci := 11) (v := .int 0) (C := RX11) (T := TX11) (N := 71) hx hb hts i11 hown hK hP 0 rfl rfl 29 (nlt rfl) w2 (fun _ h9 => h9) rfl dX11_next_10 ?_
  refine my_iald (v := 0) hx hb hK hP 1 1 rfl rfl z248 rfl dX11_next_13 ?_
  refine lv_icmp_ge (tgt := 41) hx hb dX11_next_14 z648 (fun _ => ?_) (fun c1 => absurd (z510) c1)
  refine lv_iload_n hx hb dX11_next_41 rfl (lv_at hl 1 rfl) ?_
  refine W.widen (k := 0) (n := 0) (by decide +kernel) (by decide +kernel) ?_
  exact ret_i hx hb hr hlocks hS (u := (fun _ => 0)) (hP.sub [] rfl) (hD.sub [] (by decide +kernel) rfl) dX11_next_42

set_option maxHeartbeats 4000000 in
set_option maxRecDepth 100000 in
theorem k196_X7_countOf (l : Launch) (dC : Nat → ClassId) (dI : Nat → Nat → Nat) (cB cI cJ cZ cO : ClassId) (r : Nat → Nat) : CI l yX7_countOf wsX7_countOf ({ frames := 0, cells := 0, slots := 0, locals := 0 }) (dC, dI) (tyL cB cI cJ cZ cO) [.ref (r 58), .ref (r 18), .ref (r 39), .int 0] [((r 58), .inr (7, [.ref (r 59), .int 0, .ref (r 60)]))] (fun u => [((r 58), .inr (7, [.ref (r 59), .int 0, .ref (r 60)]))]) 0 := by
  intro sz
  refine ct_open (cc := cX7_countOf) (maxL := 6) (ret := (some .int)) (by decide) rfl (Nat.le_of_ble_eq_true rfl) ?_
  intro p e s m below meth c ls A hx hb hr hml hts hown hlocks hin hP hK hD hA hS hl
  have hl : lv_has ls 6 [(0, .ref (r 58)), (1, .ref (r 18)), (2, .ref (r 39)), (3, .int 0)] := hl
  have hown : s.vm.findClass RX7 = some m.cls := hown
  have i7 : ∀ w ∈ u_ws RX7 TX7 3, w ∈ wsX7_countOf := fun _ h => List.mem_cons_of_mem _ (List.mem_append_left _ (List.mem_append_right _ h))
  have w1 := hts (.fieldLink RX7 18 "GuildCharter$Tally" "size" "I") (List.mem_cons_of_mem _ (List.mem_append_left _ (List.mem_append_left _ (List.mem_of_getElem? (i := 0) rfl))))
  refine lv_iconst (v := 0) hx hb dX7_countOf_0 z8 ?_
  refine lv_istore (lv' := [(4, .int 0), (0, .ref (r 58)), (1, .ref (r 18)), (2, .ref (r 39)), (3, .int 0)]) hx hb dX7_countOf_1 hl (nlt rfl) rfl (fun ls hl => ?_)
  refine lv_iload hx hb dX7_countOf_3 (lv_at hl 0 rfl) ?_
  refine lv_aload_n hx hb dX7_countOf_5 rfl (lv_at hl 1 rfl) ?_
  refine va_get (D := (dC, dI)) (ci := 7) (v := .int 0) (C := RX7) (T := TX7) (N := 3) hx hb hts i7 hown hK hP 0 rfl rfl 1 (nlt rfl) w1 (fun _ h9 => h9) rfl dX7_countOf_6 ?_
  refine lv_icmp_ge (tgt := 38) hx hb dX7_countOf_9 z649 (fun _ => ?_) (fun c1 => absurd (z510) c1)
  refine lv_iload hx hb dX7_countOf_38 (lv_at hl 0 rfl) ?_
  refine lv_istore (lv' := [(5, .int 0), (4, .int 0), (0, .ref (r 58)), (1, .ref (r 18)), (2, .ref (r 39)), (3, .int 0)]) hx hb dX7_countOf_40 hl (nlt rfl) rfl (fun ls hl => ?_)
  refine lv_iload hx hb dX7_countOf_42 (lv_at hl 0 rfl) ?_
  refine lv_iload_n hx hb dX7_countOf_44 rfl (lv_at hl 5 rfl) ?_
  refine lv_icmp_ge (tgt := 74) hx hb dX7_countOf_45 z650 (fun _ => ?_) (fun c1 => absurd (z510) c1)
  refine lv_aload_n hx hb dX7_countOf_74 rfl (lv_at hl 2 rfl) ?_
  refine lv_iload_n hx hb dX7_countOf_75 rfl (lv_at hl 5 rfl) ?_
  refine va_put (D := (dC, dI)) (ci := 7) (v := .int 0) (ty := tyX7 1) (C := RX7) (T := TX7) (N := 3) hx hb hts i7 tyX7 tyX7_ok nmX7 hown hK hP hD hS 0 rfl rfl 1 (nlt rfl) w1 (fun _ h9 => h9) rfl (tyX7_ok 1 (nlt rfl)) rfl rfl (nlt rfl) dX7_countOf_76 (fun H locs hP hD hS => ?_)
  refine lv_iload_n hx hb dX7_countOf_79 rfl (lv_at hl 5 rfl) ?_
  refine lv_if_le (tgt := 105) hx hb dX7_countOf_80 z651 (fun _ => ?_) (fun c1 => absurd (z510) c1)
  refine lv_iconst (v := 0) hx hb dX7_countOf_105 z8 ?_
  refine W.widen (k := 0) (n := 0) (by decide +kernel) (by decide +kernel) ?_
  exact ret_i hx hb hr hlocks hS (u := (fun _ => 0)) (hP.sub [0] rfl) (hD.sub [0] (by decide +kernel) rfl) dX7_countOf_106

set_option maxHeartbeats 4000000 in
set_option maxRecDepth 100000 in
theorem k197_X10_readings (l : Launch) (dC : Nat → ClassId) (dI : Nat → Nat → Nat) (cB cI cJ cZ cO : ClassId) (r : Nat → Nat) : CI l yX10_readings wsX10_readings ({ frames := 1, cells := 0, slots := 0, locals := 25 }) (dC, dI) (tyL cB cI cJ cZ cO) [.ref (r 0)] [((r 0), .inr (10, fX r)), ((r 38), .inr (0, [.ref (r 39), .int 0, .ref (r 40), .ref (r 41), .ref (r 42), .ref (r 43), .ref (r 44), .int 0, .int 0])), ((r 58), .inr (7, [.ref (r 59), .int 0, .ref (r 60)]))] (fun _ => []) 0 := by
  intro sz
  refine ct_open (cc := cX10_readings) (maxL := 1) (ret := (some .int)) (by decide) rfl (Nat.le_of_ble_eq_true rfl) ?_
  intro p e s m below meth c ls A hx hb hr hml hts hown hlocks hin hP hK hD hA hS hl
  have hl : lv_has ls 1 [(0, .ref (r 0))] := hl
  have hown : s.vm.findClass RX10 = some m.cls := hown
  have i10 : ∀ w ∈ u_ws RX10 TX10 18, w ∈ wsX10_readings := fun _ h => List.mem_cons_of_mem _ (List.mem_append_left _ (List.mem_append_left _ (List.mem_append_left _ (List.mem_append_right _ h))))
  have w1 := hts (.fieldLink RX10 54 "GuildCharter" "tally" "LGuildCharter$Tally;") (List.mem_cons_of_mem _ (List.mem_append_left _ (List.mem_append_left _ (List.mem_append_left _ (List.mem_append_left _ (List.mem_append_left _ (List.mem_of_getElem? (i := 0) rfl)))))))
  have w2 := hts (.fieldLink RX10 23 "GuildCharter" "told" "LGuildCharter$Port;") (List.mem_cons_of_mem _ (List.mem_append_left _ (List.mem_append_left _ (List.mem_append_left _ (List.mem_append_left _ (List.mem_append_left _ (List.mem_of_getElem? (i := 1) rfl)))))))
  have w3 := hts (.fieldLink RX10 33 "GuildCharter" "earnest" "LGuildCharter$Earnest;") (List.mem_cons_of_mem _ (List.mem_append_left _ (List.mem_append_left _ (List.mem_append_left _ (List.mem_append_left _ (List.mem_append_left _ (List.mem_of_getElem? (i := 2) rfl)))))))
  have i0 : ∀ w ∈ u_ws RX0 TX0 9, w ∈ wsX10_readings := fun _ h => List.mem_cons_of_mem _ (List.mem_append_left _ (List.mem_append_left _ (List.mem_append_right _ h)))
  have w5 := hts (.fieldLink RX10 194 "GuildCharter$Earnest" "row" "[I") (List.mem_cons_of_mem _ (List.mem_append_left _ (List.mem_append_left _ (List.mem_append_left _ (List.mem_append_left _ (List.mem_append_left _ (List.mem_of_getElem? (i := 3) rfl)))))))
  have w6 := hts (.fieldLink RX10 177 "GuildCharter$Earnest" "size" "I") (List.mem_cons_of_mem _ (List.mem_append_left _ (List.mem_append_left _ (List.mem_append_left _ (List.mem_append_left _ (List.mem_append_left _ (List.mem_of_getElem? (i := 4) rfl)))))))
  refine lv_aload_n hx hb dX10_readings_0 rfl (lv_at hl 0 rfl) ?_
  refine va_get (D := (dC, dI)) (ci := 10) (v := .ref (r 58)) (C := RX10) (T := TX10) (N := 18) hx hb hts i10 hown hK hP 0 rfl rfl 8 (nlt rfl) w1 (fun _ h9 => h9) rfl dX10_readings_1 ?_
  refine lv_aload_n hx hb dX10_readings_4 rfl (lv_at hl 0 rfl) ?_
  refine va_get (D := (dC, dI)) (ci := 10) (v := .ref (r 18)) (C := RX10) (T := TX10) (N := 18) hx hb hts i10 hown hK hP 0 rfl rfl 3 (nlt rfl) w2 (fun _ h9 => h9) rfl dX10_readings_5 ?_
  refine lv_aload_n hx hb dX10_readings_8 rfl (lv_at hl 0 rfl) ?_
  refine va_get (D := (dC, dI)) (ci := 10) (v := .ref (r 38)) (C := RX10) (T := TX10) (N := 18) hx hb hts i10 hown hK hP 0 rfl rfl 5 (nlt rfl) w3 (fun _ h9 => h9) rfl dX10_readings_9 ?_
  refine va_get (D := (dC, dI)) (ci := 0) (v := .ref (r 39)) (C := RX0) (T := TX0) (N := 9) hx hb hts i0 hown hK hP 1 rfl rfl 0 (nlt rfl) w5 (fun _ h9 => h9) rfl dX10_readings_12 ?_
  refine lv_aload_n hx hb dX10_readings_15 rfl (lv_at hl 0 rfl) ?_
  refine va_get (D := (dC, dI)) (ci := 10) (v := .ref (r 38)) (C := RX10) (T := TX10) (N := 18) hx hb hts i10 hown hK hP 0 rfl rfl 5 (nlt rfl) w3 (fun _ h9 => h9) rfl dX10_readings_16 ?_
  refine va_get (D := (dC, dI)) (ci := 0) (v := .int 0) (C := RX0) (T := TX0) (N := 9) hx hb hts i0 hown hK hP 1 rfl rfl 1 (nlt rfl) w6 (fun _ h9 => h9) rfl dX10_readings_19 ?_
  refine call_iV (ci := 7) (As := [.ref (r 18), .ref (r 39), .int 0]) (rest := []) (wr := [((r 0), .inr (10, fX r)), ((r 38), .inr (0, [.ref (r 39), .int 0, .ref (r 40), .ref (r 41), .ref (r 42), .ref (r 43), .ref (r 44), .int 0, .int 0]))]) ⟨hx, hb, hml, hown, hts⟩ (k196_X7_countOf l dC dI cB cI cJ cZ cO r) (cwV 3 hts gX10_readings_X7_countOf rfl rfl rfl ⟨rfl, z652⟩ ⟨Nat.le_of_ble_eq_true rfl, Nat.le_of_ble_eq_true rfl⟩) hK hP hD hS hA [2] [0, 1] rfl rfl (by decide +kernel) (by decide +kernel) (by decide +kernel) rfl rfl rfl hl.1 (Nat.le_of_ble_eq_true rfl) rfl rfl dX10_readings_22 ⟨by decide +kernel, by decide +kernel⟩ (fun u0 H locs hP hD hS => ?_)
  refine W.widen (k := 0) (n := 0) (by decide +kernel) (by decide +kernel) ?_
  exact ret_i hx hb hr hlocks hS (u := (fun _ => 0)) (hP.sub [] rfl) (hD.sub [] (by decide +kernel) rfl) dX10_readings_25

set_option maxHeartbeats 4000000 in
set_option maxRecDepth 100000 in
theorem k198_X11_tryRow (l : Launch) (dC : Nat → ClassId) (dI : Nat → Nat → Nat) (cB cI cJ cZ cO : ClassId) (n : Nat → Nat) : CV l yX11_tryRow wsX11_tryRow ({ frames := 0, cells := 0, slots := 0, locals := 0 }) (dC, dI) (tyL cB cI cJ cZ cO) [.ref (n 0)] [((n 0), .inr (11, fM n))] (fun u => [((n 0), .inr (11, fM n))]) := by
  intro sz
  refine ct_open (cc := cX11_tryRow) (maxL := 2) (ret := none) (by decide) rfl (Nat.le_of_ble_eq_true rfl) ?_
  intro p e s m below meth c ls A hx hb hr hml hts hown hlocks hin hP hK hD hA hS hl
  have hl : lv_has ls 2 [(0, .ref (n 0))] := hl
  have hown : s.vm.findClass RX11 = some m.cls := hown
  have i11 : ∀ w ∈ u_ws RX11 TX11 71, w ∈ wsX11_tryRow := fun _ h => List.mem_cons_of_mem _ (List.mem_append_right _ h)
  have w1 := hts (.fieldLink RX11 336 "GuildCharterModel" "many" "I") (List.mem_cons_of_mem _ (List.mem_append_left _ (List.mem_of_getElem? (i := 0) rfl)))
  refine lv_iconst (v := 0) hx hb dX11_tryRow_0 z8 ?_
  refine lv_istore_n (lv' := [(1, .int 0), (0, .ref (n 0))]) hx hb dX11_tryRow_1 rfl hl (nlt rfl) rfl (fun ls hl => ?_)
  refine lv_iload_n hx hb dX11_tryRow_2 rfl (lv_at hl 0 rfl) ?_
  refine lv_aload_n hx hb dX11_tryRow_3 rfl (lv_at hl 1 rfl) ?_
  refine va_get (D := (dC, dI)) (ci := 11) (v := .int 0) (C := RX11) (T := TX11) (N := 71) hx hb hts i11 hown hK hP 0 rfl rfl 39 (nlt rfl) w1 (fun _ h9 => h9) rfl dX11_tryRow_4 ?_
  refine lv_icmp_ge (tgt := 28) hx hb dX11_tryRow_7 z653 (fun _ => ?_) (fun c1 => absurd (z510) c1)
  refine W.widen (k := 0) (n := 0) (by decide +kernel) (by decide +kernel) ?_
  exact ret_v hx hb hr hlocks hS (u := (fun _ => 0)) (hP.sub [0] rfl) (hD.sub [0] (by decide +kernel) rfl) dX11_tryRow_28

set_option maxHeartbeats 4000000 in
set_option maxRecDepth 100000 in
theorem k199_X11_readingsOf (l : Launch) (dC : Nat → ClassId) (dI : Nat → Nat → Nat) (cB cI cJ cZ cO : ClassId) (n : Nat → Nat) : CL l yX11_readingsOf wsX11_readingsOf ({ frames := 0, cells := 0, slots := 0, locals := 0 }) (dC, dI) (tyL cB cI cJ cZ cO) [.ref (n 0), .int 0] [((n 0), .inr (11, fM n)), ((n 5), .inl (cI, 2, .inl (fun _ => 0)))] (fun u => [((n 0), .inr (11, fM n)), ((n 5), .inl (cI, 2, .inl (fun _ => 0)))]) 0 := by
  intro sz
  refine ct_open (cc := cX11_readingsOf) (maxL := 6) (ret := (some .long)) (by decide) rfl (Nat.le_of_ble_eq_true rfl) ?_
  intro p e s m below meth c ls A hx hb hr hml hts hown hlocks hin hP hK hD hA hS hl
  have hl : lv_has ls 6 [(0, .ref (n 0)), (1, .int 0)] := hl
  have hown : s.vm.findClass RX11 = some m.cls := hown
  have i11 : ∀ w ∈ u_ws RX11 TX11 71, w ∈ wsX11_readingsOf := fun _ h => List.mem_cons_of_mem _ (List.mem_append_right _ h)
  have w1 := hts (.fieldLink RX11 27 "GuildCharterModel" "rules" "[I") (List.mem_cons_of_mem _ (List.mem_append_left _ (List.mem_of_getElem? (i := 0) rfl)))
  have w2 := hts (.fieldLink RX11 233 "GuildCharterModel" "bank" "I") (List.mem_cons_of_mem _ (List.mem_append_left _ (List.mem_of_getElem? (i := 1) rfl)))
  refine lv_aload_n hx hb dX11_readingsOf_0 rfl (lv_at hl 0 rfl) ?_
  refine va_get (D := (dC, dI)) (ci := 11) (v := .ref (n 5)) (C := RX11) (T := TX11) (N := 71) hx hb hts i11 hown hK hP 0 rfl rfl 13 (nlt rfl) w1 (fun _ h9 => h9) rfl dX11_readingsOf_1 ?_
  refine lv_aload_n hx hb dX11_readingsOf_4 rfl (lv_at hl 0 rfl) ?_
  refine va_get (D := (dC, dI)) (ci := 11) (v := .int 0) (C := RX11) (T := TX11) (N := 71) hx hb hts i11 hown hK hP 0 rfl rfl 29 (nlt rfl) w2 (fun _ h9 => h9) rfl dX11_readingsOf_5 ?_
  refine my_iald (v := 0) hx hb hK hP 1 1 rfl rfl z248 rfl dX11_readingsOf_8 ?_
  refine lv_if_eq (tgt := 16) hx hb dX11_readingsOf_9 z590 (fun _ => ?_) (fun c1 => absurd (rfl) c1)
  refine lv_lconst (v := 0) hx hb dX11_readingsOf_16 rfl ?_
  refine W.widen (k := 0) (n := 0) (by decide +kernel) (by decide +kernel) ?_
  exact ret_l hx hb hr hlocks hS (u := (fun _ => 0)) (hP.sub [0, 1] rfl) (hD.sub [0, 1] (by decide +kernel) rfl) dX11_readingsOf_17

set_option maxHeartbeats 4000000 in
set_option maxRecDepth 100000 in
theorem k200_X11_readings (l : Launch) (dC : Nat → ClassId) (dI : Nat → Nat → Nat) (cB cI cJ cZ cO : ClassId) (n : Nat → Nat) : CI l yX11_readings wsX11_readings ({ frames := 1, cells := 0, slots := 0, locals := 25 }) (dC, dI) (tyL cB cI cJ cZ cO) [.ref (n 0)] [((n 0), .inr (11, fM n)), ((n 5), .inl (cI, 2, .inl (fun _ => 0)))] (fun _ => []) 0 := by
  intro sz
  refine ct_open (cc := cX11_readings) (maxL := 1) (ret := (some .int)) (by decide) rfl (Nat.le_of_ble_eq_true rfl) ?_
  intro p e s m below meth c ls A hx hb hr hml hts hown hlocks hin hP hK hD hA hS hl
  have hl : lv_has ls 1 [(0, .ref (n 0))] := hl
  have hown : s.vm.findClass RX11 = some m.cls := hown
  have i11 : ∀ w ∈ u_ws RX11 TX11 71, w ∈ wsX11_readings := fun _ h => List.mem_cons_of_mem _ (List.mem_append_right _ h)
  have w1 := hts (.fieldLink RX11 336 "GuildCharterModel" "many" "I") (List.mem_cons_of_mem _ (List.mem_append_left _ (List.mem_append_left _ (List.mem_of_getElem? (i := 0) rfl))))
  refine lv_aload_n hx hb dX11_readings_0 rfl (lv_at hl 0 rfl) ?_
  refine call_vV (ci := 11) (As := []) (rest := []) (wr := [((n 5), .inl (cI, 2, .inl (fun _ => 0)))]) ⟨hx, hb, hml, hown, hts⟩ (k198_X11_tryRow l dC dI cB cI cJ cZ cO n) (cwV 0 hts gX11_readings_X11_tryRow rfl rfl rfl ⟨rfl, z655⟩ ⟨Nat.le_of_ble_eq_true rfl, Nat.le_of_ble_eq_true rfl⟩) hK hP hD hS hA [0] [1] rfl rfl (by decide +kernel) (by decide +kernel) (by decide +kernel) rfl rfl rfl hl.1 (Nat.le_of_ble_eq_true rfl) rfl rfl dX11_readings_1 ⟨by decide +kernel, by decide +kernel⟩ (fun u0 H locs hP hD hS => ?_)
  refine lv_aload_n hx hb dX11_readings_4 rfl (lv_at hl 0 rfl) ?_
  refine lv_aload_n hx hb dX11_readings_5 rfl (lv_at hl 0 rfl) ?_
  refine va_get (D := (dC, dI)) (ci := 11) (v := .int 0) (C := RX11) (T := TX11) (N := 71) hx hb hts i11 hown hK hP 1 rfl rfl 39 (nlt rfl) w1 (fun _ h9 => h9) rfl dX11_readings_6 ?_
  refine call_lV (ci := 11) (As := [.int 0]) (rest := []) (wr := []) ⟨hx, hb, hml, hown, hts⟩ (k199_X11_readingsOf l dC dI cB cI cJ cZ cO n) (cwV 1 hts gX11_readings_X11_readingsOf rfl rfl rfl ⟨rfl, z656⟩ ⟨Nat.le_of_ble_eq_true rfl, Nat.le_of_ble_eq_true rfl⟩) hK hP hD hS hA [1, 0] [] rfl rfl (by decide +kernel) (by decide +kernel) (by decide +kernel) rfl rfl rfl hl.1 (Nat.le_of_ble_eq_true rfl) rfl rfl dX11_readings_9 ⟨by decide +kernel, by decide +kernel⟩ (fun u1 H locs hP hD hS => ?_)
  refine lv_l2i (v := 0) hx hb dX11_readings_12 z654 ?_
  refine W.widen (k := 0) (n := 0) (by decide +kernel) (by decide +kernel) ?_
  exact ret_i hx hb hr hlocks hS (u := (fun _ => 0)) (hP.sub [] rfl) (hD.sub [] (by decide +kernel) rfl) dX11_readings_13

set_option maxHeartbeats 4000000 in
set_option maxRecDepth 100000 in
theorem k201_X10_isGuild (l : Launch) (dC : Nat → ClassId) (dI : Nat → Nat → Nat) (cB cI cJ cZ cO : ClassId) (x1 : Int32) (h0 : x1 < 0) : CI l yX10_isGuild wsX10_isGuild ({ frames := 0, cells := 0, slots := 0, locals := 0 }) (dC, dI) (tyL cB cI cJ cZ cO) [.int x1] [] (fun _ => []) 0 := by
  intro sz
  refine ct_open (cc := cX10_isGuild) (maxL := 1) (ret := (some .boolean)) (by decide) rfl (Nat.le_of_ble_eq_true rfl) ?_
  intro p e s m below meth c ls A hx hb hr hml hts hown hlocks hin hP hK hD hA hS hl
  have hl : lv_has ls 1 [(0, .int x1)] := hl
  have hown : s.vm.findClass RX10 = some m.cls := hown
  refine lv_iload_n hx hb dX10_isGuild_0 rfl (lv_at hl 0 rfl) ?_
  refine lv_if_lt (tgt := 13) hx hb dX10_isGuild_1 z619 (fun _ => ?_) (fun c1 => absurd (h0) c1)
  refine lv_iconst (v := 0) hx hb dX10_isGuild_13 z8 ?_
  refine W.widen (k := 0) (n := 0) (by decide +kernel) (by decide +kernel) ?_
  exact ret_z hx hb hr rfl hlocks hS (u := (fun _ => 0)) (hP.sub [] rfl) (hD.sub [] (by decide +kernel) rfl) dX10_isGuild_14

set_option maxHeartbeats 4000000 in
set_option maxRecDepth 100000 in
theorem k202_X10_means (l : Launch) (dC : Nat → ClassId) (dI : Nat → Nat → Nat) (cB cI cJ cZ cO : ClassId) (r : Nat → Nat) (x1 : Int32) (h0 : x1 < 0) : CI l yX10_means wsX10_means ({ frames := 1, cells := 0, slots := 0, locals := 20 }) (dC, dI) (tyL cB cI cJ cZ cO) [.ref (r 0), .int x1] [((r 0), .inr (10, fX r))] (fun _ => []) (-1000000) := by
  intro sz
  refine ct_open (cc := cX10_means) (maxL := 2) (ret := (some .int)) (by decide) rfl (Nat.le_of_ble_eq_true rfl) ?_
  intro p e s m below meth c ls A hx hb hr hml hts hown hlocks hin hP hK hD hA hS hl
  have hl : lv_has ls 2 [(0, .ref (r 0)), (1, .int x1)] := hl
  have hown : s.vm.findClass RX10 = some m.cls := hown
  have w0 := hts (.constant RX10 153 (-1000000)) (List.mem_cons_of_mem _ (List.mem_append_left _ (List.mem_append_left _ (List.mem_append_left _ (List.mem_of_getElem? (i := 4) rfl)))))
  refine lv_iload_n hx hb dX10_means_0 rfl (lv_at hl 1 rfl) ?_
  refine call_iS (As := [.int x1]) (rest := []) (wr := [((r 0), .inr (10, fX r))]) ⟨hx, hb, hml, hown, hts⟩ (k201_X10_isGuild l dC dI cB cI cJ cZ cO x1 h0) (va_cwS 1 hts gX10_means_X10_isGuild rfl rfl rfl z621 ⟨Nat.le_of_ble_eq_true rfl, Nat.le_of_ble_eq_true rfl⟩) hK hP hD hS hA [] [0] rfl rfl (by decide +kernel) (by decide +kernel) (by decide +kernel) hl.1 (Nat.le_of_ble_eq_true rfl) rfl rfl dX10_means_1 ⟨by decide +kernel, by decide +kernel⟩ (fun u0 H locs hP hD hS => ?_)
  refine lv_if_eq (tgt := 32) hx hb dX10_means_4 z657 (fun _ => ?_) (fun c1 => absurd (rfl) c1)
  refine lv_ldc hx hb hown w0 dX10_means_32 ?_
  refine W.widen (k := 0) (n := 0) (by decide +kernel) (by decide +kernel) ?_
  exact ret_i hx hb hr hlocks hS (u := (fun _ => 0)) (hP.sub [] rfl) (hD.sub [] (by decide +kernel) rfl) dX10_means_34

set_option maxHeartbeats 4000000 in
set_option maxRecDepth 100000 in
theorem k203_X11_isGuild (l : Launch) (dC : Nat → ClassId) (dI : Nat → Nat → Nat) (cB cI cJ cZ cO : ClassId) (x1 : Int32) (h0 : x1 < 0) : CI l yX11_isGuild wsX11_isGuild ({ frames := 1, cells := 0, slots := 0, locals := 22 }) (dC, dI) (tyL cB cI cJ cZ cO) [.int x1] [] (fun _ => []) 0 := by
  intro sz
  refine ct_open (cc := cX11_isGuild) (maxL := 1) (ret := (some .boolean)) (by decide) rfl (Nat.le_of_ble_eq_true rfl) ?_
  intro p e s m below meth c ls A hx hb hr hml hts hown hlocks hin hP hK hD hA hS hl
  have hl : lv_has ls 1 [(0, .int x1)] := hl
  have hown : s.vm.findClass RX11 = some m.cls := hown
  refine lv_iload_n hx hb dX11_isGuild_0 rfl (lv_at hl 0 rfl) ?_
  refine lv_iconst (v := 0) hx hb dX11_isGuild_1 z8 ?_
  refine lv_iconst (v := 2) hx hb dX11_isGuild_2 z54 ?_
  refine call_iS (As := [.int x1, .int 0, .int 2]) (rest := []) (wr := []) ⟨hx, hb, hml, hown, hts⟩ (k91_X11_isIn l dC dI cB cI cJ cZ cO x1 h0) (va_cwS 3 hts gX11_isGuild_X11_isIn rfl rfl rfl z587 ⟨Nat.le_of_ble_eq_true rfl, Nat.le_of_ble_eq_true rfl⟩) hK hP hD hS hA [] [] rfl rfl (by decide +kernel) (by decide +kernel) (by decide +kernel) hl.1 (Nat.le_of_ble_eq_true rfl) rfl rfl dX11_isGuild_3 ⟨by decide +kernel, by decide +kernel⟩ (fun u0 H locs hP hD hS => ?_)
  refine W.widen (k := 0) (n := 0) (by decide +kernel) (by decide +kernel) ?_
  exact ret_z hx hb hr rfl hlocks hS (u := (fun _ => 0)) (hP.sub [] rfl) (hD.sub [] (by decide +kernel) rfl) dX11_isGuild_6

set_option maxHeartbeats 4000000 in
set_option maxRecDepth 100000 in
theorem k204_X11_means (l : Launch) (dC : Nat → ClassId) (dI : Nat → Nat → Nat) (cB cI cJ cZ cO : ClassId) (n : Nat → Nat) (x1 : Int32) (h0 : x1 < 0) : CI l yX11_means wsX11_means ({ frames := 2, cells := 0, slots := 0, locals := 42 }) (dC, dI) (tyL cB cI cJ cZ cO) [.ref (n 0), .int x1] [((n 0), .inr (11, fM n))] (fun _ => []) (-1000000) := by
  intro sz
  refine ct_open (cc := cX11_means) (maxL := 2) (ret := (some .int)) (by decide) rfl (Nat.le_of_ble_eq_true rfl) ?_
  intro p e s m below meth c ls A hx hb hr hml hts hown hlocks hin hP hK hD hA hS hl
  have hl : lv_has ls 2 [(0, .ref (n 0)), (1, .int x1)] := hl
  have hown : s.vm.findClass RX11 = some m.cls := hown
  have w0 := hts (.constant RX11 311 (-1000000)) (List.mem_cons_of_mem _ (List.mem_append_left _ (List.mem_append_left _ (List.mem_of_getElem? (i := 0) rfl))))
  refine lv_iload_n hx hb dX11_means_0 rfl (lv_at hl 1 rfl) ?_
  refine call_iS (As := [.int x1]) (rest := []) (wr := [((n 0), .inr (11, fM n))]) ⟨hx, hb, hml, hown, hts⟩ (k203_X11_isGuild l dC dI cB cI cJ cZ cO x1 h0) (va_cwS 1 hts gX11_means_X11_isGuild rfl rfl rfl z623 ⟨Nat.le_of_ble_eq_true rfl, Nat.le_of_ble_eq_true rfl⟩) hK hP hD hS hA [] [0] rfl rfl (by decide +kernel) (by decide +kernel) (by decide +kernel) hl.1 (Nat.le_of_ble_eq_true rfl) rfl rfl dX11_means_1 ⟨by decide +kernel, by decide +kernel⟩ (fun u0 H locs hP hD hS => ?_)
  refine lv_if_ne (tgt := 11) hx hb dX11_means_4 z556 (fun c1 => absurd (rfl) c1) (fun _ => ?_)
  refine lv_ldcw hx hb hown w0 dX11_means_7 ?_
  refine W.widen (k := 0) (n := 0) (by decide +kernel) (by decide +kernel) ?_
  exact ret_i hx hb hr hlocks hS (u := (fun _ => 0)) (hP.sub [] rfl) (hD.sub [] (by decide +kernel) rfl) dX11_means_10

set_option maxHeartbeats 4000000 in
set_option maxRecDepth 100000 in
theorem k205_X10_isGuild (l : Launch) (dC : Nat → ClassId) (dI : Nat → Nat → Nat) (cB cI cJ cZ cO : ClassId) (x1 : Int32) (h0 : ¬ x1 < 0) (h1 : ¬ 3 ≤ x1) : CI l yX10_isGuild wsX10_isGuild ({ frames := 0, cells := 0, slots := 0, locals := 0 }) (dC, dI) (tyL cB cI cJ cZ cO) [.int x1] [] (fun _ => []) 1 := by
  intro sz
  refine ct_open (cc := cX10_isGuild) (maxL := 1) (ret := (some .boolean)) (by decide) rfl (Nat.le_of_ble_eq_true rfl) ?_
  intro p e s m below meth c ls A hx hb hr hml hts hown hlocks hin hP hK hD hA hS hl
  have hl : lv_has ls 1 [(0, .int x1)] := hl
  have hown : s.vm.findClass RX10 = some m.cls := hown
  refine lv_iload_n hx hb dX10_isGuild_0 rfl (lv_at hl 0 rfl) ?_
  refine lv_if_lt (tgt := 13) hx hb dX10_isGuild_1 z619 (fun c1 => absurd c1 (h0)) (fun _ => ?_)
  refine lv_iload_n hx hb dX10_isGuild_4 rfl (lv_at hl 0 rfl) ?_
  refine lv_iconst (v := 3) hx hb dX10_isGuild_5 z69 ?_
  refine lv_icmp_ge (tgt := 13) hx hb dX10_isGuild_6 z624 (fun c1 => absurd c1 (h1)) (fun _ => ?_)
  refine lv_iconst (v := 1) hx hb dX10_isGuild_9 z39 ?_
  refine lv_goto (tgt := 14) hx hb dX10_isGuild_10 z625 ?_
  refine W.widen (k := 0) (n := 0) (by decide +kernel) (by decide +kernel) ?_
  exact ret_z hx hb hr rfl hlocks hS (u := (fun _ => 0)) (hP.sub [] rfl) (hD.sub [] (by decide +kernel) rfl) dX10_isGuild_14

set_option maxHeartbeats 4000000 in
set_option maxRecDepth 100000 in
theorem k206_X4_meaningOf (l : Launch) (dC : Nat → ClassId) (dI : Nat → Nat → Nat) (cB cI cJ cZ cO : ClassId) (r : Nat → Nat) (x1 : Int32) : CI l yX4_meaningOf wsX4_meaningOf ({ frames := 0, cells := 0, slots := 0, locals := 0 }) (dC, dI) (tyL cB cI cJ cZ cO) [.ref (r 18), .ref (r 39), .int 0, .int x1] [((r 18), .inr (4, [.int 0, .ref (r 19), .ref (r 20), .int 0, .ref (r 21), .ref (r 22), .int 0, .ref (r 23), .ref (r 24), .int 0, .ref (r 25), .ref (r 26), .int 3, .int 0, .int 0, .ref (r 27)]))] (fun u => [((r 18), .inr (4, [.int 0, .ref (r 19), .ref (r 20), .int 0, .ref (r 21), .ref (r 22), .int 0, .ref (r 23), .ref (r 24), .int 0, .ref (r 25), .ref (r 26), .int 3, .int 0, .int 0, .ref (r 27)]))]) 0 := by
  intro sz
  refine ct_open (cc := cX4_meaningOf) (maxL := 6) (ret := (some .int)) (by decide) rfl (Nat.le_of_ble_eq_true rfl) ?_
  intro p e s m below meth c ls A hx hb hr hml hts hown hlocks hin hP hK hD hA hS hl
  have hl : lv_has ls 6 [(0, .ref (r 18)), (1, .ref (r 39)), (2, .int 0), (3, .int x1)] := hl
  have hown : s.vm.findClass RX4 = some m.cls := hown
  refine lv_iconst (v := 0) hx hb dX4_meaningOf_0 z8 ?_
  refine lv_istore (lv' := [(4, .int 0), (0, .ref (r 18)), (1, .ref (r 39)), (2, .int 0), (3, .int x1)]) hx hb dX4_meaningOf_1 hl (nlt rfl) rfl (fun ls hl => ?_)
  refine lv_iconst (v := 0) hx hb dX4_meaningOf_3 z8 ?_
  refine lv_istore (lv' := [(5, .int 0), (4, .int 0), (0, .ref (r 18)), (1, .ref (r 39)), (2, .int 0), (3, .int x1)]) hx hb dX4_meaningOf_4 hl (nlt rfl) rfl (fun ls hl => ?_)
  refine lv_iload hx hb dX4_meaningOf_6 (lv_at hl 0 rfl) ?_
  refine lv_iload_n hx hb dX4_meaningOf_8 rfl (lv_at hl 4 rfl) ?_
  refine lv_icmp_ge (tgt := 47) hx hb dX4_meaningOf_9 z658 (fun _ => ?_) (fun c1 => absurd (z510) c1)
  refine lv_iload hx hb dX4_meaningOf_47 (lv_at hl 1 rfl) ?_
  refine W.widen (k := 0) (n := 0) (by decide +kernel) (by decide +kernel) ?_
  exact ret_i hx hb hr hlocks hS (u := (fun _ => 0)) (hP.sub [0] rfl) (hD.sub [0] (by decide +kernel) rfl) dX4_meaningOf_49

set_option maxHeartbeats 4000000 in
set_option maxRecDepth 100000 in
theorem k207_X10_means (l : Launch) (dC : Nat → ClassId) (dI : Nat → Nat → Nat) (cB cI cJ cZ cO : ClassId) (r : Nat → Nat) (x1 : Int32) (h0 : ¬ x1 < 0) (h1 : ¬ 3 ≤ x1) : CI l yX10_means wsX10_means ({ frames := 1, cells := 0, slots := 0, locals := 25 }) (dC, dI) (tyL cB cI cJ cZ cO) [.ref (r 0), .int x1] [((r 0), .inr (10, fX r)), ((r 38), .inr (0, [.ref (r 39), .int 0, .ref (r 40), .ref (r 41), .ref (r 42), .ref (r 43), .ref (r 44), .int 0, .int 0])), ((r 18), .inr (4, [.int 0, .ref (r 19), .ref (r 20), .int 0, .ref (r 21), .ref (r 22), .int 0, .ref (r 23), .ref (r 24), .int 0, .ref (r 25), .ref (r 26), .int 3, .int 0, .int 0, .ref (r 27)]))] (fun _ => []) 0 := by
  intro sz
  refine ct_open (cc := cX10_means) (maxL := 2) (ret := (some .int)) (by decide) rfl (Nat.le_of_ble_eq_true rfl) ?_
  intro p e s m below meth c ls A hx hb hr hml hts hown hlocks hin hP hK hD hA hS hl
  have hl : lv_has ls 2 [(0, .ref (r 0)), (1, .int x1)] := hl
  have hown : s.vm.findClass RX10 = some m.cls := hown
  have i10 : ∀ w ∈ u_ws RX10 TX10 18, w ∈ wsX10_means := fun _ h => List.mem_cons_of_mem _ (List.mem_append_left _ (List.mem_append_left _ (List.mem_append_right _ h)))
  have w1 := hts (.fieldLink RX10 23 "GuildCharter" "told" "LGuildCharter$Port;") (List.mem_cons_of_mem _ (List.mem_append_left _ (List.mem_append_left _ (List.mem_append_left _ (List.mem_of_getElem? (i := 0) rfl)))))
  have w2 := hts (.fieldLink RX10 33 "GuildCharter" "earnest" "LGuildCharter$Earnest;") (List.mem_cons_of_mem _ (List.mem_append_left _ (List.mem_append_left _ (List.mem_append_left _ (List.mem_of_getElem? (i := 1) rfl)))))
  have i0 : ∀ w ∈ u_ws RX0 TX0 9, w ∈ wsX10_means := fun _ h => List.mem_cons_of_mem _ (List.mem_append_left _ (List.mem_append_right _ h))
  have w4 := hts (.fieldLink RX10 194 "GuildCharter$Earnest" "row" "[I") (List.mem_cons_of_mem _ (List.mem_append_left _ (List.mem_append_left _ (List.mem_append_left _ (List.mem_of_getElem? (i := 2) rfl)))))
  have w5 := hts (.fieldLink RX10 177 "GuildCharter$Earnest" "size" "I") (List.mem_cons_of_mem _ (List.mem_append_left _ (List.mem_append_left _ (List.mem_append_left _ (List.mem_of_getElem? (i := 3) rfl)))))
  refine lv_iload_n hx hb dX10_means_0 rfl (lv_at hl 1 rfl) ?_
  refine call_iS (As := [.int x1]) (rest := []) (wr := [((r 0), .inr (10, fX r)), ((r 38), .inr (0, [.ref (r 39), .int 0, .ref (r 40), .ref (r 41), .ref (r 42), .ref (r 43), .ref (r 44), .int 0, .int 0])), ((r 18), .inr (4, [.int 0, .ref (r 19), .ref (r 20), .int 0, .ref (r 21), .ref (r 22), .int 0, .ref (r 23), .ref (r 24), .int 0, .ref (r 25), .ref (r 26), .int 3, .int 0, .int 0, .ref (r 27)]))]) ⟨hx, hb, hml, hown, hts⟩ (k205_X10_isGuild l dC dI cB cI cJ cZ cO x1 h0 h1) (va_cwS 1 hts gX10_means_X10_isGuild rfl rfl rfl z621 ⟨Nat.le_of_ble_eq_true rfl, Nat.le_of_ble_eq_true rfl⟩) hK hP hD hS hA [] [0, 1, 2] rfl rfl (by decide +kernel) (by decide +kernel) (by decide +kernel) hl.1 (Nat.le_of_ble_eq_true rfl) rfl rfl dX10_means_1 ⟨by decide +kernel, by decide +kernel⟩ (fun u0 H locs hP hD hS => ?_)
  refine lv_if_eq (tgt := 32) hx hb dX10_means_4 z657 (fun c1 => absurd c1 (z525)) (fun _ => ?_)
  refine lv_aload_n hx hb dX10_means_7 rfl (lv_at hl 0 rfl) ?_
  refine va_get (D := (dC, dI)) (ci := 10) (v := .ref (r 18)) (C := RX10) (T := TX10) (N := 18) hx hb hts i10 hown hK hP 0 rfl rfl 3 (nlt rfl) w1 (fun _ h9 => h9) rfl dX10_means_8 ?_
  refine lv_aload_n hx hb dX10_means_11 rfl (lv_at hl 0 rfl) ?_
  refine va_get (D := (dC, dI)) (ci := 10) (v := .ref (r 38)) (C := RX10) (T := TX10) (N := 18) hx hb hts i10 hown hK hP 0 rfl rfl 5 (nlt rfl) w2 (fun _ h9 => h9) rfl dX10_means_12 ?_
  refine va_get (D := (dC, dI)) (ci := 0) (v := .ref (r 39)) (C := RX0) (T := TX0) (N := 9) hx hb hts i0 hown hK hP 1 rfl rfl 0 (nlt rfl) w4 (fun _ h9 => h9) rfl dX10_means_15 ?_
  refine lv_aload_n hx hb dX10_means_18 rfl (lv_at hl 0 rfl) ?_
  refine va_get (D := (dC, dI)) (ci := 10) (v := .ref (r 38)) (C := RX10) (T := TX10) (N := 18) hx hb hts i10 hown hK hP 0 rfl rfl 5 (nlt rfl) w2 (fun _ h9 => h9) rfl dX10_means_19 ?_
  refine va_get (D := (dC, dI)) (ci := 0) (v := .int 0) (C := RX0) (T := TX0) (N := 9) hx hb hts i0 hown hK hP 1 rfl rfl 1 (nlt rfl) w5 (fun _ h9 => h9) rfl dX10_means_22 ?_
  refine lv_iload_n hx hb dX10_means_25 rfl (lv_at hl 1 rfl) ?_
  refine call_iV (ci := 4) (As := [.ref (r 39), .int 0, .int x1]) (rest := []) (wr := [((r 0), .inr (10, fX r)), ((r 38), .inr (0, [.ref (r 39), .int 0, .ref (r 40), .ref (r 41), .ref (r 42), .ref (r 43), .ref (r 44), .int 0, .int 0]))]) ⟨hx, hb, hml, hown, hts⟩ (k206_X4_meaningOf l dC dI cB cI cJ cZ cO r x1) (cwV 3 hts gX10_means_X4_meaningOf rfl rfl rfl ⟨rfl, z660⟩ ⟨Nat.le_of_ble_eq_true rfl, Nat.le_of_ble_eq_true rfl⟩) hK hP hD hS hA [2] [0, 1] rfl rfl (by decide +kernel) (by decide +kernel) (by decide +kernel) rfl rfl rfl hl.1 (Nat.le_of_ble_eq_true rfl) rfl rfl dX10_means_26 ⟨by decide +kernel, by decide +kernel⟩ (fun u1 H locs hP hD hS => ?_)
  refine lv_goto (tgt := 34) hx hb dX10_means_29 z659 ?_
  refine W.widen (k := 0) (n := 0) (by decide +kernel) (by decide +kernel) ?_
  exact ret_i hx hb hr hlocks hS (u := (fun _ => 0)) (hP.sub [] rfl) (hD.sub [] (by decide +kernel) rfl) dX10_means_34

set_option maxHeartbeats 4000000 in
set_option maxRecDepth 100000 in
theorem k208_X11_isIn (l : Launch) (dC : Nat → ClassId) (dI : Nat → Nat → Nat) (cB cI cJ cZ cO : ClassId) (x1 : Int32) (h0 : ¬ x1 < 0) (h1 : ¬ 2 < x1) : CI l yX11_isIn wsX11_isIn ({ frames := 0, cells := 0, slots := 0, locals := 0 }) (dC, dI) (tyL cB cI cJ cZ cO) [.int x1, .int 0, .int 2] [] (fun _ => []) 1 := by
  intro sz
  refine ct_open (cc := cX11_isIn) (maxL := 3) (ret := (some .boolean)) (by decide) rfl (Nat.le_of_ble_eq_true rfl) ?_
  intro p e s m below meth c ls A hx hb hr hml hts hown hlocks hin hP hK hD hA hS hl
  have hl : lv_has ls 3 [(0, .int x1), (1, .int 0), (2, .int 2)] := hl
  have hown : s.vm.findClass RX11 = some m.cls := hown
  refine lv_iload_n hx hb dX11_isIn_0 rfl (lv_at hl 0 rfl) ?_
  refine lv_iload_n hx hb dX11_isIn_1 rfl (lv_at hl 1 rfl) ?_
  refine lv_icmp_lt (tgt := 14) hx hb dX11_isIn_2 z586 (fun c1 => absurd c1 (h0)) (fun _ => ?_)
  refine lv_iload_n hx hb dX11_isIn_5 rfl (lv_at hl 0 rfl) ?_
  refine lv_iload_n hx hb dX11_isIn_6 rfl (lv_at hl 2 rfl) ?_
  refine lv_icmp_gt (tgt := 14) hx hb dX11_isIn_7 z591 (fun c1 => absurd c1 (h1)) (fun _ => ?_)
  refine lv_iconst (v := 1) hx hb dX11_isIn_10 z39 ?_
  refine lv_goto (tgt := 15) hx hb dX11_isIn_11 z606 ?_
  refine W.widen (k := 0) (n := 0) (by decide +kernel) (by decide +kernel) ?_
  exact ret_z hx hb hr rfl hlocks hS (u := (fun _ => 0)) (hP.sub [] rfl) (hD.sub [] (by decide +kernel) rfl) dX11_isIn_15

set_option maxHeartbeats 4000000 in
set_option maxRecDepth 100000 in
theorem k209_X11_isGuild (l : Launch) (dC : Nat → ClassId) (dI : Nat → Nat → Nat) (cB cI cJ cZ cO : ClassId) (x1 : Int32) (h0 : ¬ x1 < 0) (h1 : ¬ 2 < x1) : CI l yX11_isGuild wsX11_isGuild ({ frames := 1, cells := 0, slots := 0, locals := 22 }) (dC, dI) (tyL cB cI cJ cZ cO) [.int x1] [] (fun _ => []) 1 := by
  intro sz
  refine ct_open (cc := cX11_isGuild) (maxL := 1) (ret := (some .boolean)) (by decide) rfl (Nat.le_of_ble_eq_true rfl) ?_
  intro p e s m below meth c ls A hx hb hr hml hts hown hlocks hin hP hK hD hA hS hl
  have hl : lv_has ls 1 [(0, .int x1)] := hl
  have hown : s.vm.findClass RX11 = some m.cls := hown
  refine lv_iload_n hx hb dX11_isGuild_0 rfl (lv_at hl 0 rfl) ?_
  refine lv_iconst (v := 0) hx hb dX11_isGuild_1 z8 ?_
  refine lv_iconst (v := 2) hx hb dX11_isGuild_2 z54 ?_
  refine call_iS (As := [.int x1, .int 0, .int 2]) (rest := []) (wr := []) ⟨hx, hb, hml, hown, hts⟩ (k208_X11_isIn l dC dI cB cI cJ cZ cO x1 h0 h1) (va_cwS 3 hts gX11_isGuild_X11_isIn rfl rfl rfl z587 ⟨Nat.le_of_ble_eq_true rfl, Nat.le_of_ble_eq_true rfl⟩) hK hP hD hS hA [] [] rfl rfl (by decide +kernel) (by decide +kernel) (by decide +kernel) hl.1 (Nat.le_of_ble_eq_true rfl) rfl rfl dX11_isGuild_3 ⟨by decide +kernel, by decide +kernel⟩ (fun u0 H locs hP hD hS => ?_)
  refine W.widen (k := 0) (n := 0) (by decide +kernel) (by decide +kernel) ?_
  exact ret_z hx hb hr rfl hlocks hS (u := (fun _ => 0)) (hP.sub [] rfl) (hD.sub [] (by decide +kernel) rfl) dX11_isGuild_6

set_option maxHeartbeats 4000000 in
set_option maxRecDepth 100000 in
theorem k210_X11_meansOf (l : Launch) (dC : Nat → ClassId) (dI : Nat → Nat → Nat) (cB cI cJ cZ cO : ClassId) (n : Nat → Nat) (x1 : Int32) : CI l yX11_meansOf wsX11_meansOf ({ frames := 0, cells := 0, slots := 0, locals := 0 }) (dC, dI) (tyL cB cI cJ cZ cO) [.ref (n 0), .int 0, .int x1] [((n 0), .inr (11, fM n))] (fun u => [((n 0), .inr (11, fM n))]) 0 := by
  intro sz
  refine ct_open (cc := cX11_meansOf) (maxL := 5) (ret := (some .int)) (by decide) rfl (Nat.le_of_ble_eq_true rfl) ?_
  intro p e s m below meth c ls A hx hb hr hml hts hown hlocks hin hP hK hD hA hS hl
  have hl : lv_has ls 5 [(0, .ref (n 0)), (1, .int 0), (2, .int x1)] := hl
  have hown : s.vm.findClass RX11 = some m.cls := hown
  refine lv_iconst (v := 0) hx hb dX11_meansOf_0 z8 ?_
  refine lv_istore_n (lv' := [(3, .int 0), (0, .ref (n 0)), (1, .int 0), (2, .int x1)]) hx hb dX11_meansOf_1 rfl hl (nlt rfl) rfl (fun ls hl => ?_)
  refine lv_iconst (v := 0) hx hb dX11_meansOf_2 z8 ?_
  refine lv_istore (lv' := [(4, .int 0), (3, .int 0), (0, .ref (n 0)), (1, .int 0), (2, .int x1)]) hx hb dX11_meansOf_3 hl (nlt rfl) rfl (fun ls hl => ?_)
  refine lv_iload hx hb dX11_meansOf_5 (lv_at hl 0 rfl) ?_
  refine lv_iload_n hx hb dX11_meansOf_7 rfl (lv_at hl 3 rfl) ?_
  refine lv_icmp_ge (tgt := 75) hx hb dX11_meansOf_8 z661 (fun _ => ?_) (fun c1 => absurd (z510) c1)
  refine lv_iload_n hx hb dX11_meansOf_75 rfl (lv_at hl 1 rfl) ?_
  refine W.widen (k := 0) (n := 0) (by decide +kernel) (by decide +kernel) ?_
  exact ret_i hx hb hr hlocks hS (u := (fun _ => 0)) (hP.sub [0] rfl) (hD.sub [0] (by decide +kernel) rfl) dX11_meansOf_76

set_option maxHeartbeats 4000000 in
set_option maxRecDepth 100000 in
theorem k211_X11_means (l : Launch) (dC : Nat → ClassId) (dI : Nat → Nat → Nat) (cB cI cJ cZ cO : ClassId) (n : Nat → Nat) (x1 : Int32) (h0 : ¬ x1 < 0) (h1 : ¬ 2 < x1) : CI l yX11_means wsX11_means ({ frames := 2, cells := 0, slots := 0, locals := 42 }) (dC, dI) (tyL cB cI cJ cZ cO) [.ref (n 0), .int x1] [((n 0), .inr (11, fM n))] (fun _ => []) 0 := by
  intro sz
  refine ct_open (cc := cX11_means) (maxL := 2) (ret := (some .int)) (by decide) rfl (Nat.le_of_ble_eq_true rfl) ?_
  intro p e s m below meth c ls A hx hb hr hml hts hown hlocks hin hP hK hD hA hS hl
  have hl : lv_has ls 2 [(0, .ref (n 0)), (1, .int x1)] := hl
  have hown : s.vm.findClass RX11 = some m.cls := hown
  have i11 : ∀ w ∈ u_ws RX11 TX11 71, w ∈ wsX11_means := fun _ h => List.mem_cons_of_mem _ (List.mem_append_right _ h)
  have w1 := hts (.fieldLink RX11 336 "GuildCharterModel" "many" "I") (List.mem_cons_of_mem _ (List.mem_append_left _ (List.mem_append_left _ (List.mem_of_getElem? (i := 1) rfl))))
  refine lv_iload_n hx hb dX11_means_0 rfl (lv_at hl 1 rfl) ?_
  refine call_iS (As := [.int x1]) (rest := []) (wr := [((n 0), .inr (11, fM n))]) ⟨hx, hb, hml, hown, hts⟩ (k209_X11_isGuild l dC dI cB cI cJ cZ cO x1 h0 h1) (va_cwS 1 hts gX11_means_X11_isGuild rfl rfl rfl z623 ⟨Nat.le_of_ble_eq_true rfl, Nat.le_of_ble_eq_true rfl⟩) hK hP hD hS hA [] [0] rfl rfl (by decide +kernel) (by decide +kernel) (by decide +kernel) hl.1 (Nat.le_of_ble_eq_true rfl) rfl rfl dX11_means_1 ⟨by decide +kernel, by decide +kernel⟩ (fun u0 H locs hP hD hS => ?_)
  refine lv_if_ne (tgt := 11) hx hb dX11_means_4 z556 (fun _ => ?_) (fun c1 => absurd c1 (z525))
  refine lv_aload_n hx hb dX11_means_11 rfl (lv_at hl 0 rfl) ?_
  refine call_vV (ci := 11) (As := []) (rest := []) (wr := []) ⟨hx, hb, hml, hown, hts⟩ (k198_X11_tryRow l dC dI cB cI cJ cZ cO n) (cwV 0 hts gX11_means_X11_tryRow rfl rfl rfl ⟨rfl, z655⟩ ⟨Nat.le_of_ble_eq_true rfl, Nat.le_of_ble_eq_true rfl⟩) hK hP hD hS hA [0] [] rfl rfl (by decide +kernel) (by decide +kernel) (by decide +kernel) rfl rfl rfl hl.1 (Nat.le_of_ble_eq_true rfl) rfl rfl dX11_means_12 ⟨by decide +kernel, by decide +kernel⟩ (fun u1 H locs hP hD hS => ?_)
  refine lv_aload_n hx hb dX11_means_15 rfl (lv_at hl 0 rfl) ?_
  refine lv_aload_n hx hb dX11_means_16 rfl (lv_at hl 0 rfl) ?_
  refine va_get (D := (dC, dI)) (ci := 11) (v := .int 0) (C := RX11) (T := TX11) (N := 71) hx hb hts i11 hown hK hP 0 rfl rfl 39 (nlt rfl) w1 (fun _ h9 => h9) rfl dX11_means_17 ?_
  refine lv_iload_n hx hb dX11_means_20 rfl (lv_at hl 1 rfl) ?_
  refine call_iV (ci := 11) (As := [.int 0, .int x1]) (rest := []) (wr := []) ⟨hx, hb, hml, hown, hts⟩ (k210_X11_meansOf l dC dI cB cI cJ cZ cO n x1) (cwV 2 hts gX11_means_X11_meansOf rfl rfl rfl ⟨rfl, z662⟩ ⟨Nat.le_of_ble_eq_true rfl, Nat.le_of_ble_eq_true rfl⟩) hK hP hD hS hA [0] [] rfl rfl (by decide +kernel) (by decide +kernel) (by decide +kernel) rfl rfl rfl hl.1 (Nat.le_of_ble_eq_true rfl) rfl rfl dX11_means_21 ⟨by decide +kernel, by decide +kernel⟩ (fun u2 H locs hP hD hS => ?_)
  refine W.widen (k := 0) (n := 0) (by decide +kernel) (by decide +kernel) ?_
  exact ret_i hx hb hr hlocks hS (u := (fun _ => 0)) (hP.sub [] rfl) (hD.sub [] (by decide +kernel) rfl) dX11_means_24

set_option maxHeartbeats 4000000 in
set_option maxRecDepth 100000 in
theorem k212_X10_isGuild (l : Launch) (dC : Nat → ClassId) (dI : Nat → Nat → Nat) (cB cI cJ cZ cO : ClassId) (x1 : Int32) (h0 : ¬ x1 < 0) (h1 : 3 ≤ x1) : CI l yX10_isGuild wsX10_isGuild ({ frames := 0, cells := 0, slots := 0, locals := 0 }) (dC, dI) (tyL cB cI cJ cZ cO) [.int x1] [] (fun _ => []) 0 := by
  intro sz
  refine ct_open (cc := cX10_isGuild) (maxL := 1) (ret := (some .boolean)) (by decide) rfl (Nat.le_of_ble_eq_true rfl) ?_
  intro p e s m below meth c ls A hx hb hr hml hts hown hlocks hin hP hK hD hA hS hl
  have hl : lv_has ls 1 [(0, .int x1)] := hl
  have hown : s.vm.findClass RX10 = some m.cls := hown
  refine lv_iload_n hx hb dX10_isGuild_0 rfl (lv_at hl 0 rfl) ?_
  refine lv_if_lt (tgt := 13) hx hb dX10_isGuild_1 z619 (fun c1 => absurd c1 (h0)) (fun _ => ?_)
  refine lv_iload_n hx hb dX10_isGuild_4 rfl (lv_at hl 0 rfl) ?_
  refine lv_iconst (v := 3) hx hb dX10_isGuild_5 z69 ?_
  refine lv_icmp_ge (tgt := 13) hx hb dX10_isGuild_6 z624 (fun _ => ?_) (fun c1 => absurd (h1) c1)
  refine lv_iconst (v := 0) hx hb dX10_isGuild_13 z8 ?_
  refine W.widen (k := 0) (n := 0) (by decide +kernel) (by decide +kernel) ?_
  exact ret_z hx hb hr rfl hlocks hS (u := (fun _ => 0)) (hP.sub [] rfl) (hD.sub [] (by decide +kernel) rfl) dX10_isGuild_14

set_option maxHeartbeats 4000000 in
set_option maxRecDepth 100000 in
theorem k213_X10_means (l : Launch) (dC : Nat → ClassId) (dI : Nat → Nat → Nat) (cB cI cJ cZ cO : ClassId) (r : Nat → Nat) (x1 : Int32) (h0 : ¬ x1 < 0) (h1 : 3 ≤ x1) : CI l yX10_means wsX10_means ({ frames := 1, cells := 0, slots := 0, locals := 20 }) (dC, dI) (tyL cB cI cJ cZ cO) [.ref (r 0), .int x1] [((r 0), .inr (10, fX r))] (fun _ => []) (-1000000) := by
  intro sz
  refine ct_open (cc := cX10_means) (maxL := 2) (ret := (some .int)) (by decide) rfl (Nat.le_of_ble_eq_true rfl) ?_
  intro p e s m below meth c ls A hx hb hr hml hts hown hlocks hin hP hK hD hA hS hl
  have hl : lv_has ls 2 [(0, .ref (r 0)), (1, .int x1)] := hl
  have hown : s.vm.findClass RX10 = some m.cls := hown
  have w0 := hts (.constant RX10 153 (-1000000)) (List.mem_cons_of_mem _ (List.mem_append_left _ (List.mem_append_left _ (List.mem_append_left _ (List.mem_of_getElem? (i := 4) rfl)))))
  refine lv_iload_n hx hb dX10_means_0 rfl (lv_at hl 1 rfl) ?_
  refine call_iS (As := [.int x1]) (rest := []) (wr := [((r 0), .inr (10, fX r))]) ⟨hx, hb, hml, hown, hts⟩ (k212_X10_isGuild l dC dI cB cI cJ cZ cO x1 h0 h1) (va_cwS 1 hts gX10_means_X10_isGuild rfl rfl rfl z621 ⟨Nat.le_of_ble_eq_true rfl, Nat.le_of_ble_eq_true rfl⟩) hK hP hD hS hA [] [0] rfl rfl (by decide +kernel) (by decide +kernel) (by decide +kernel) hl.1 (Nat.le_of_ble_eq_true rfl) rfl rfl dX10_means_1 ⟨by decide +kernel, by decide +kernel⟩ (fun u0 H locs hP hD hS => ?_)
  refine lv_if_eq (tgt := 32) hx hb dX10_means_4 z657 (fun _ => ?_) (fun c1 => absurd (rfl) c1)
  refine lv_ldc hx hb hown w0 dX10_means_32 ?_
  refine W.widen (k := 0) (n := 0) (by decide +kernel) (by decide +kernel) ?_
  exact ret_i hx hb hr hlocks hS (u := (fun _ => 0)) (hP.sub [] rfl) (hD.sub [] (by decide +kernel) rfl) dX10_means_34

set_option maxHeartbeats 4000000 in
set_option maxRecDepth 100000 in
theorem k214_X11_isGuild (l : Launch) (dC : Nat → ClassId) (dI : Nat → Nat → Nat) (cB cI cJ cZ cO : ClassId) (x1 : Int32) (h0 : ¬ x1 < 0) (h1 : 2 < x1) : CI l yX11_isGuild wsX11_isGuild ({ frames := 1, cells := 0, slots := 0, locals := 22 }) (dC, dI) (tyL cB cI cJ cZ cO) [.int x1] [] (fun _ => []) 0 := by
  intro sz
  refine ct_open (cc := cX11_isGuild) (maxL := 1) (ret := (some .boolean)) (by decide) rfl (Nat.le_of_ble_eq_true rfl) ?_
  intro p e s m below meth c ls A hx hb hr hml hts hown hlocks hin hP hK hD hA hS hl
  have hl : lv_has ls 1 [(0, .int x1)] := hl
  have hown : s.vm.findClass RX11 = some m.cls := hown
  refine lv_iload_n hx hb dX11_isGuild_0 rfl (lv_at hl 0 rfl) ?_
  refine lv_iconst (v := 0) hx hb dX11_isGuild_1 z8 ?_
  refine lv_iconst (v := 2) hx hb dX11_isGuild_2 z54 ?_
  refine call_iS (As := [.int x1, .int 0, .int 2]) (rest := []) (wr := []) ⟨hx, hb, hml, hown, hts⟩ (k117_X11_isIn l dC dI cB cI cJ cZ cO x1 h0 h1) (va_cwS 3 hts gX11_isGuild_X11_isIn rfl rfl rfl z587 ⟨Nat.le_of_ble_eq_true rfl, Nat.le_of_ble_eq_true rfl⟩) hK hP hD hS hA [] [] rfl rfl (by decide +kernel) (by decide +kernel) (by decide +kernel) hl.1 (Nat.le_of_ble_eq_true rfl) rfl rfl dX11_isGuild_3 ⟨by decide +kernel, by decide +kernel⟩ (fun u0 H locs hP hD hS => ?_)
  refine W.widen (k := 0) (n := 0) (by decide +kernel) (by decide +kernel) ?_
  exact ret_z hx hb hr rfl hlocks hS (u := (fun _ => 0)) (hP.sub [] rfl) (hD.sub [] (by decide +kernel) rfl) dX11_isGuild_6

set_option maxHeartbeats 4000000 in
set_option maxRecDepth 100000 in
theorem k215_X11_means (l : Launch) (dC : Nat → ClassId) (dI : Nat → Nat → Nat) (cB cI cJ cZ cO : ClassId) (n : Nat → Nat) (x1 : Int32) (h0 : ¬ x1 < 0) (h1 : 2 < x1) : CI l yX11_means wsX11_means ({ frames := 2, cells := 0, slots := 0, locals := 42 }) (dC, dI) (tyL cB cI cJ cZ cO) [.ref (n 0), .int x1] [((n 0), .inr (11, fM n))] (fun _ => []) (-1000000) := by
  intro sz
  refine ct_open (cc := cX11_means) (maxL := 2) (ret := (some .int)) (by decide) rfl (Nat.le_of_ble_eq_true rfl) ?_
  intro p e s m below meth c ls A hx hb hr hml hts hown hlocks hin hP hK hD hA hS hl
  have hl : lv_has ls 2 [(0, .ref (n 0)), (1, .int x1)] := hl
  have hown : s.vm.findClass RX11 = some m.cls := hown
  have w0 := hts (.constant RX11 311 (-1000000)) (List.mem_cons_of_mem _ (List.mem_append_left _ (List.mem_append_left _ (List.mem_of_getElem? (i := 0) rfl))))
  refine lv_iload_n hx hb dX11_means_0 rfl (lv_at hl 1 rfl) ?_
  refine call_iS (As := [.int x1]) (rest := []) (wr := [((n 0), .inr (11, fM n))]) ⟨hx, hb, hml, hown, hts⟩ (k214_X11_isGuild l dC dI cB cI cJ cZ cO x1 h0 h1) (va_cwS 1 hts gX11_means_X11_isGuild rfl rfl rfl z623 ⟨Nat.le_of_ble_eq_true rfl, Nat.le_of_ble_eq_true rfl⟩) hK hP hD hS hA [] [0] rfl rfl (by decide +kernel) (by decide +kernel) (by decide +kernel) hl.1 (Nat.le_of_ble_eq_true rfl) rfl rfl dX11_means_1 ⟨by decide +kernel, by decide +kernel⟩ (fun u0 H locs hP hD hS => ?_)
  refine lv_if_ne (tgt := 11) hx hb dX11_means_4 z556 (fun c1 => absurd (rfl) c1) (fun _ => ?_)
  refine lv_ldcw hx hb hown w0 dX11_means_7 ?_
  refine W.widen (k := 0) (n := 0) (by decide +kernel) (by decide +kernel) ?_
  exact ret_i hx hb hr hlocks hS (u := (fun _ => 0)) (hP.sub [] rfl) (hD.sub [] (by decide +kernel) rfl) dX11_means_10

set_option maxHeartbeats 4000000 in
set_option maxRecDepth 100000 in
theorem k216_X4_meaningOf (l : Launch) (dC : Nat → ClassId) (dI : Nat → Nat → Nat) (cB cI cJ cZ cO : ClassId) (r : Nat → Nat) : CI l yX4_meaningOf wsX4_meaningOf ({ frames := 0, cells := 0, slots := 0, locals := 0 }) (dC, dI) (tyL cB cI cJ cZ cO) [.ref (r 18), .ref (r 39), .int 0, .int 0] [((r 18), .inr (4, [.int 0, .ref (r 19), .ref (r 20), .int 0, .ref (r 21), .ref (r 22), .int 0, .ref (r 23), .ref (r 24), .int 0, .ref (r 25), .ref (r 26), .int 3, .int 0, .int 0, .ref (r 27)]))] (fun u => [((r 18), .inr (4, [.int 0, .ref (r 19), .ref (r 20), .int 0, .ref (r 21), .ref (r 22), .int 0, .ref (r 23), .ref (r 24), .int 0, .ref (r 25), .ref (r 26), .int 3, .int 0, .int 0, .ref (r 27)]))]) 0 := by
  intro sz
  refine ct_open (cc := cX4_meaningOf) (maxL := 6) (ret := (some .int)) (by decide) rfl (Nat.le_of_ble_eq_true rfl) ?_
  intro p e s m below meth c ls A hx hb hr hml hts hown hlocks hin hP hK hD hA hS hl
  have hl : lv_has ls 6 [(0, .ref (r 18)), (1, .ref (r 39)), (2, .int 0), (3, .int 0)] := hl
  have hown : s.vm.findClass RX4 = some m.cls := hown
  refine lv_iconst (v := 0) hx hb dX4_meaningOf_0 z8 ?_
  refine lv_istore (lv' := [(4, .int 0), (0, .ref (r 18)), (1, .ref (r 39)), (2, .int 0), (3, .int 0)]) hx hb dX4_meaningOf_1 hl (nlt rfl) rfl (fun ls hl => ?_)
  refine lv_iconst (v := 0) hx hb dX4_meaningOf_3 z8 ?_
  refine lv_istore (lv' := [(5, .int 0), (4, .int 0), (0, .ref (r 18)), (1, .ref (r 39)), (2, .int 0), (3, .int 0)]) hx hb dX4_meaningOf_4 hl (nlt rfl) rfl (fun ls hl => ?_)
  refine lv_iload hx hb dX4_meaningOf_6 (lv_at hl 0 rfl) ?_
  refine lv_iload_n hx hb dX4_meaningOf_8 rfl (lv_at hl 4 rfl) ?_
  refine lv_icmp_ge (tgt := 47) hx hb dX4_meaningOf_9 z658 (fun _ => ?_) (fun c1 => absurd (z510) c1)
  refine lv_iload hx hb dX4_meaningOf_47 (lv_at hl 1 rfl) ?_
  refine W.widen (k := 0) (n := 0) (by decide +kernel) (by decide +kernel) ?_
  exact ret_i hx hb hr hlocks hS (u := (fun _ => 0)) (hP.sub [0] rfl) (hD.sub [0] (by decide +kernel) rfl) dX4_meaningOf_49

set_option maxHeartbeats 4000000 in
set_option maxRecDepth 100000 in
theorem k217_X4_meaningOf (l : Launch) (dC : Nat → ClassId) (dI : Nat → Nat → Nat) (cB cI cJ cZ cO : ClassId) (r : Nat → Nat) : CI l yX4_meaningOf wsX4_meaningOf ({ frames := 0, cells := 0, slots := 0, locals := 0 }) (dC, dI) (tyL cB cI cJ cZ cO) [.ref (r 18), .ref (r 39), .int 0, .int 1] [((r 18), .inr (4, [.int 0, .ref (r 19), .ref (r 20), .int 0, .ref (r 21), .ref (r 22), .int 0, .ref (r 23), .ref (r 24), .int 0, .ref (r 25), .ref (r 26), .int 3, .int 0, .int 0, .ref (r 27)]))] (fun u => [((r 18), .inr (4, [.int 0, .ref (r 19), .ref (r 20), .int 0, .ref (r 21), .ref (r 22), .int 0, .ref (r 23), .ref (r 24), .int 0, .ref (r 25), .ref (r 26), .int 3, .int 0, .int 0, .ref (r 27)]))]) 0 := by
  intro sz
  refine ct_open (cc := cX4_meaningOf) (maxL := 6) (ret := (some .int)) (by decide) rfl (Nat.le_of_ble_eq_true rfl) ?_
  intro p e s m below meth c ls A hx hb hr hml hts hown hlocks hin hP hK hD hA hS hl
  have hl : lv_has ls 6 [(0, .ref (r 18)), (1, .ref (r 39)), (2, .int 0), (3, .int 1)] := hl
  have hown : s.vm.findClass RX4 = some m.cls := hown
  refine lv_iconst (v := 0) hx hb dX4_meaningOf_0 z8 ?_
  refine lv_istore (lv' := [(4, .int 0), (0, .ref (r 18)), (1, .ref (r 39)), (2, .int 0), (3, .int 1)]) hx hb dX4_meaningOf_1 hl (nlt rfl) rfl (fun ls hl => ?_)
  refine lv_iconst (v := 0) hx hb dX4_meaningOf_3 z8 ?_
  refine lv_istore (lv' := [(5, .int 0), (4, .int 0), (0, .ref (r 18)), (1, .ref (r 39)), (2, .int 0), (3, .int 1)]) hx hb dX4_meaningOf_4 hl (nlt rfl) rfl (fun ls hl => ?_)
  refine lv_iload hx hb dX4_meaningOf_6 (lv_at hl 0 rfl) ?_
  refine lv_iload_n hx hb dX4_meaningOf_8 rfl (lv_at hl 4 rfl) ?_
  refine lv_icmp_ge (tgt := 47) hx hb dX4_meaningOf_9 z658 (fun _ => ?_) (fun c1 => absurd (z510) c1)
  refine lv_iload hx hb dX4_meaningOf_47 (lv_at hl 1 rfl) ?_
  refine W.widen (k := 0) (n := 0) (by decide +kernel) (by decide +kernel) ?_
  exact ret_i hx hb hr hlocks hS (u := (fun _ => 0)) (hP.sub [0] rfl) (hD.sub [0] (by decide +kernel) rfl) dX4_meaningOf_49

set_option maxHeartbeats 4000000 in
set_option maxRecDepth 100000 in
theorem k218_X4_meaningOf (l : Launch) (dC : Nat → ClassId) (dI : Nat → Nat → Nat) (cB cI cJ cZ cO : ClassId) (r : Nat → Nat) : CI l yX4_meaningOf wsX4_meaningOf ({ frames := 0, cells := 0, slots := 0, locals := 0 }) (dC, dI) (tyL cB cI cJ cZ cO) [.ref (r 18), .ref (r 39), .int 0, .int 2] [((r 18), .inr (4, [.int 0, .ref (r 19), .ref (r 20), .int 0, .ref (r 21), .ref (r 22), .int 0, .ref (r 23), .ref (r 24), .int 0, .ref (r 25), .ref (r 26), .int 3, .int 0, .int 0, .ref (r 27)]))] (fun u => [((r 18), .inr (4, [.int 0, .ref (r 19), .ref (r 20), .int 0, .ref (r 21), .ref (r 22), .int 0, .ref (r 23), .ref (r 24), .int 0, .ref (r 25), .ref (r 26), .int 3, .int 0, .int 0, .ref (r 27)]))]) 0 := by
  intro sz
  refine ct_open (cc := cX4_meaningOf) (maxL := 6) (ret := (some .int)) (by decide) rfl (Nat.le_of_ble_eq_true rfl) ?_
  intro p e s m below meth c ls A hx hb hr hml hts hown hlocks hin hP hK hD hA hS hl
  have hl : lv_has ls 6 [(0, .ref (r 18)), (1, .ref (r 39)), (2, .int 0), (3, .int 2)] := hl
  have hown : s.vm.findClass RX4 = some m.cls := hown
  refine lv_iconst (v := 0) hx hb dX4_meaningOf_0 z8 ?_
  refine lv_istore (lv' := [(4, .int 0), (0, .ref (r 18)), (1, .ref (r 39)), (2, .int 0), (3, .int 2)]) hx hb dX4_meaningOf_1 hl (nlt rfl) rfl (fun ls hl => ?_)
  refine lv_iconst (v := 0) hx hb dX4_meaningOf_3 z8 ?_
  refine lv_istore (lv' := [(5, .int 0), (4, .int 0), (0, .ref (r 18)), (1, .ref (r 39)), (2, .int 0), (3, .int 2)]) hx hb dX4_meaningOf_4 hl (nlt rfl) rfl (fun ls hl => ?_)
  refine lv_iload hx hb dX4_meaningOf_6 (lv_at hl 0 rfl) ?_
  refine lv_iload_n hx hb dX4_meaningOf_8 rfl (lv_at hl 4 rfl) ?_
  refine lv_icmp_ge (tgt := 47) hx hb dX4_meaningOf_9 z658 (fun _ => ?_) (fun c1 => absurd (z510) c1)
  refine lv_iload hx hb dX4_meaningOf_47 (lv_at hl 1 rfl) ?_
  refine W.widen (k := 0) (n := 0) (by decide +kernel) (by decide +kernel) ?_
  exact ret_i hx hb hr hlocks hS (u := (fun _ => 0)) (hP.sub [0] rfl) (hD.sub [0] (by decide +kernel) rfl) dX4_meaningOf_49

set_option maxHeartbeats 4000000 in
set_option maxRecDepth 100000 in
theorem k219_X9_addRoot (l : Launch) (dC : Nat → ClassId) (dI : Nat → Nat → Nat) (cB cI cJ cZ cO : ClassId) (r : Nat → Nat) : CV l yX9_addRoot wsX9_addRoot ({ frames := 1, cells := 0, slots := 0, locals := 25 }) (dC, dI) (tyL cB cI cJ cZ cO) [.ref (r 65), .ref (r 18), .ref (r 39)] [((r 65), .inr (9, [.int 0, .int 0, .ref (r 66), .ref (r 67), .ref (r 68), .ref (r 69), .int 3, .int 1, .int 0, .int 0, .int 0])), ((r 66), .inl (cI, 3000, .inl (fun _ => 0))), ((r 67), .inl (cI, 3000, .inl (fun _ => 0))), ((r 69), .inl (cI, 3000, .inl (fun _ => 0))), ((r 18), .inr (4, [.int 0, .ref (r 19), .ref (r 20), .int 0, .ref (r 21), .ref (r 22), .int 0, .ref (r 23), .ref (r 24), .int 0, .ref (r 25), .ref (r 26), .int 3, .int 0, .int 0, .ref (r 27)])), ((r 68), .inl (cI, 9000, .inl (fun _ => 0)))] (fun u => [((r 65), .inr (9, [.int 1, .int 0, .ref (r 66), .ref (r 67), .ref (r 68), .ref (r 69), .int 3, .int 1, .int 0, .int 0, .int 0])), ((r 66), .inl (cI, 3000, .inl (upd (fun _ => 0) 0 (-1)))), ((r 67), .inl (cI, 3000, .inl (fun _ => 0))), ((r 69), .inl (cI, 3000, .inl (fun _ => 0))), ((r 18), .inr (4, [.int 0, .ref (r 19), .ref (r 20), .int 0, .ref (r 21), .ref (r 22), .int 0, .ref (r 23), .ref (r 24), .int 0, .ref (r 25), .ref (r 26), .int 3, .int 0, .int 0, .ref (r 27)])), ((r 68), .inl (cI, 9000, .inl (fun _ => 0)))]) := by
  intro sz
  refine ct_open (cc := cX9_addRoot) (maxL := 4) (ret := none) (by decide) rfl (Nat.le_of_ble_eq_true rfl) ?_
  intro p e s m below meth c ls A hx hb hr hml hts hown hlocks hin hP hK hD hA hS hl
  have hl : lv_has ls 4 [(0, .ref (r 65)), (1, .ref (r 18)), (2, .ref (r 39))] := hl
  have hown : s.vm.findClass RX9 = some m.cls := hown
  have i9 : ∀ w ∈ u_ws RX9 TX9 11, w ∈ wsX9_addRoot := fun _ h => List.mem_cons_of_mem _ (List.mem_append_left _ (List.mem_append_right _ h))
  have w1 := hts (.fieldLink RX9 61 "GuildCharter$Tree" "size" "I") (List.mem_cons_of_mem _ (List.mem_append_left _ (List.mem_append_left _ (List.mem_of_getElem? (i := 0) rfl))))
  have w2 := hts (.fieldLink RX9 9 "GuildCharter$Tree" "parents" "[I") (List.mem_cons_of_mem _ (List.mem_append_left _ (List.mem_append_left _ (List.mem_of_getElem? (i := 1) rfl))))
  have w3 := hts (.fieldLink RX9 15 "GuildCharter$Tree" "depths" "[I") (List.mem_cons_of_mem _ (List.mem_append_left _ (List.mem_append_left _ (List.mem_of_getElem? (i := 2) rfl))))
  have w4 := hts (.fieldLink RX9 32 "GuildCharter$Tree" "rootDepth" "I") (List.mem_cons_of_mem _ (List.mem_append_left _ (List.mem_append_left _ (List.mem_of_getElem? (i := 3) rfl))))
  have w5 := hts (.fieldLink RX9 21 "GuildCharter$Tree" "rows" "[I") (List.mem_cons_of_mem _ (List.mem_append_left _ (List.mem_append_left _ (List.mem_of_getElem? (i := 4) rfl))))
  have w6 := hts (.fieldLink RX9 28 "GuildCharter$Tree" "rootRow" "I") (List.mem_cons_of_mem _ (List.mem_append_left _ (List.mem_append_left _ (List.mem_of_getElem? (i := 5) rfl))))
  have w7 := hts (.fieldLink RX9 18 "GuildCharter$Tree" "meanings" "[I") (List.mem_cons_of_mem _ (List.mem_append_left _ (List.mem_append_left _ (List.mem_of_getElem? (i := 6) rfl))))
  refine lv_aload_n hx hb dX9_addRoot_0 rfl (lv_at hl 0 rfl) ?_
  refine lv_iconst (v := 1) hx hb dX9_addRoot_1 z39 ?_
  refine va_put (D := (dC, dI)) (ci := 9) (v := .int 1) (ty := tyX9 0) (C := RX9) (T := TX9) (N := 11) hx hb hts i9 tyX9 tyX9_ok nmX9 hown hK hP hD hS 0 rfl rfl 0 (nlt rfl) w1 (fun _ h9 => h9) rfl (tyX9_ok 0 (nlt rfl)) rfl rfl (nlt rfl) dX9_addRoot_2 (fun H locs hP hD hS => ?_)
  refine lv_aload_n hx hb dX9_addRoot_5 rfl (lv_at hl 0 rfl) ?_
  refine va_get (D := (dC, dI)) (ci := 9) (v := .ref (r 66)) (C := RX9) (T := TX9) (N := 11) hx hb hts i9 hown hK hP 0 rfl rfl 2 (nlt rfl) w2 (fun _ h9 => h9) rfl dX9_addRoot_6 ?_
  refine lv_iconst (v := 0) hx hb dX9_addRoot_9 z8 ?_
  refine lv_iconst (v := (-1)) hx hb dX9_addRoot_10 z128 ?_
  refine my_iast hx hb hK hP hD hS 1 1 rfl rfl z667 dX9_addRoot_11 (fun H locs hP hD hS => ?_)
  refine lv_aload_n hx hb dX9_addRoot_12 rfl (lv_at hl 0 rfl) ?_
  refine va_get (D := (dC, dI)) (ci := 9) (v := .ref (r 67)) (C := RX9) (T := TX9) (N := 11) hx hb hts i9 hown hK hP 0 rfl rfl 3 (nlt rfl) w3 (fun _ h9 => h9) rfl dX9_addRoot_13 ?_
  refine lv_iconst (v := 0) hx hb dX9_addRoot_16 z8 ?_
  refine lv_aload_n hx hb dX9_addRoot_17 rfl (lv_at hl 0 rfl) ?_
  refine va_get (D := (dC, dI)) (ci := 9) (v := .int 0) (C := RX9) (T := TX9) (N := 11) hx hb hts i9 hown hK hP 0 rfl rfl 9 (nlt rfl) w4 (fun _ h9 => h9) rfl dX9_addRoot_18 ?_
  refine my_iastS hx hb hK hP hD hS 2 1 rfl rfl z667 rfl dX9_addRoot_21 (fun H locs hP hD hS => ?_)
  refine lv_aload_n hx hb dX9_addRoot_22 rfl (lv_at hl 0 rfl) ?_
  refine va_get (D := (dC, dI)) (ci := 9) (v := .ref (r 69)) (C := RX9) (T := TX9) (N := 11) hx hb hts i9 hown hK hP 0 rfl rfl 5 (nlt rfl) w5 (fun _ h9 => h9) rfl dX9_addRoot_23 ?_
  refine lv_iconst (v := 0) hx hb dX9_addRoot_26 z8 ?_
  refine lv_aload_n hx hb dX9_addRoot_27 rfl (lv_at hl 0 rfl) ?_
  refine va_get (D := (dC, dI)) (ci := 9) (v := .int 0) (C := RX9) (T := TX9) (N := 11) hx hb hts i9 hown hK hP 0 rfl rfl 8 (nlt rfl) w6 (fun _ h9 => h9) rfl dX9_addRoot_28 ?_
  refine my_iastS hx hb hK hP hD hS 3 1 rfl rfl z667 rfl dX9_addRoot_31 (fun H locs hP hD hS => ?_)
  refine lv_iconst (v := 0) hx hb dX9_addRoot_32 z8 ?_
  refine lv_istore_n (lv' := [(3, .int 0), (0, .ref (r 65)), (1, .ref (r 18)), (2, .ref (r 39))]) hx hb dX9_addRoot_33 rfl hl (nlt rfl) rfl (fun ls hl => ?_)
  refine lv_iload_n hx hb dX9_addRoot_34 rfl (lv_at hl 0 rfl) ?_
  refine lv_iconst (v := 3) hx hb dX9_addRoot_35 z69 ?_
  refine lv_icmp_ge (tgt := 61) hx hb dX9_addRoot_36 z668 (fun c1 => absurd c1 (z267)) (fun _ => ?_)
  refine lv_aload_n hx hb dX9_addRoot_39 rfl (lv_at hl 1 rfl) ?_
  refine va_get (D := (dC, dI)) (ci := 9) (v := .ref (r 68)) (C := RX9) (T := TX9) (N := 11) hx hb hts i9 hown hK hP 0 rfl rfl 4 (nlt rfl) w7 (fun _ h9 => h9) rfl dX9_addRoot_40 ?_
  refine lv_iload_n hx hb dX9_addRoot_43 rfl (lv_at hl 0 rfl) ?_
  refine lv_aload_n hx hb dX9_addRoot_44 rfl (lv_at hl 2 rfl) ?_
  refine lv_aload_n hx hb dX9_addRoot_45 rfl (lv_at hl 3 rfl) ?_
  refine lv_aload_n hx hb dX9_addRoot_46 rfl (lv_at hl 1 rfl) ?_
  refine va_get (D := (dC, dI)) (ci := 9) (v := .int 0) (C := RX9) (T := TX9) (N := 11) hx hb hts i9 hown hK hP 0 rfl rfl 9 (nlt rfl) w4 (fun _ h9 => h9) rfl dX9_addRoot_47 ?_
  refine lv_iload_n hx hb dX9_addRoot_50 rfl (lv_at hl 0 rfl) ?_
  refine call_iV (ci := 4) (As := [.ref (r 39), .int 0, .int 0]) (rest := [.int 0, .ref (r 68)]) (wr := [((r 65), .inr (9, [.int 1, .int 0, .ref (r 66), .ref (r 67), .ref (r 68), .ref (r 69), .int 3, .int 1, .int 0, .int 0, .int 0])), ((r 66), .inl (cI, 3000, .inl (upd (fun _ => 0) 0 (-1)))), ((r 67), .inl (cI, 3000, .inl (fun _ => 0))), ((r 69), .inl (cI, 3000, .inl (fun _ => 0))), ((r 68), .inl (cI, 9000, .inl (fun _ => 0)))]) ⟨hx, hb, hml, hown, hts⟩ (k216_X4_meaningOf l dC dI cB cI cJ cZ cO r) (cwV 3 hts gX9_addRoot_X4_meaningOf rfl rfl rfl ⟨rfl, z660⟩ ⟨Nat.le_of_ble_eq_true rfl, Nat.le_of_ble_eq_true rfl⟩) hK hP hD hS hA [4] [0, 1, 2, 3, 5] rfl rfl (by decide +kernel) (by decide +kernel) (by decide +kernel) rfl rfl rfl hl.1 (Nat.le_of_ble_eq_true rfl) rfl rfl dX9_addRoot_51 ⟨by decide +kernel, by decide +kernel⟩ (fun u0 H locs hP hD hS => ?_)
  refine my_iastS hx hb hK hP hD hS 4 1 rfl rfl z669 rfl dX9_addRoot_54 (fun H locs hP hD hS => ?_)
  refine lv_iinc (v := 1) (lv' := [(3, .int 1), (0, .ref (r 65)), (1, .ref (r 18)), (2, .ref (r 39))]) hx hb dX9_addRoot_55 hl (k := 0) rfl z17 (nlt rfl) rfl (fun ls hl => ?_)
  refine lv_goto (tgt := 34) hx hb dX9_addRoot_58 z670 ?_
  refine lv_iload_n hx hb dX9_addRoot_34 rfl (lv_at hl 0 rfl) ?_
  refine lv_iconst (v := 3) hx hb dX9_addRoot_35 z69 ?_
  refine lv_icmp_ge (tgt := 61) hx hb dX9_addRoot_36 z668 (fun c1 => absurd c1 (z270)) (fun _ => ?_)
  refine lv_aload_n hx hb dX9_addRoot_39 rfl (lv_at hl 1 rfl) ?_
  refine va_get (D := (dC, dI)) (ci := 9) (v := .ref (r 68)) (C := RX9) (T := TX9) (N := 11) hx hb hts i9 hown hK hP 0 rfl rfl 4 (nlt rfl) w7 (fun _ h9 => h9) rfl dX9_addRoot_40 ?_
  refine lv_iload_n hx hb dX9_addRoot_43 rfl (lv_at hl 0 rfl) ?_
  refine lv_aload_n hx hb dX9_addRoot_44 rfl (lv_at hl 2 rfl) ?_
  refine lv_aload_n hx hb dX9_addRoot_45 rfl (lv_at hl 3 rfl) ?_
  refine lv_aload_n hx hb dX9_addRoot_46 rfl (lv_at hl 1 rfl) ?_
  refine va_get (D := (dC, dI)) (ci := 9) (v := .int 0) (C := RX9) (T := TX9) (N := 11) hx hb hts i9 hown hK hP 0 rfl rfl 9 (nlt rfl) w4 (fun _ h9 => h9) rfl dX9_addRoot_47 ?_
  refine lv_iload_n hx hb dX9_addRoot_50 rfl (lv_at hl 0 rfl) ?_
  refine call_iV (ci := 4) (As := [.ref (r 39), .int 0, .int 1]) (rest := [.int 1, .ref (r 68)]) (wr := [((r 65), .inr (9, [.int 1, .int 0, .ref (r 66), .ref (r 67), .ref (r 68), .ref (r 69), .int 3, .int 1, .int 0, .int 0, .int 0])), ((r 66), .inl (cI, 3000, .inl (upd (fun _ => 0) 0 (-1)))), ((r 67), .inl (cI, 3000, .inl (fun _ => 0))), ((r 69), .inl (cI, 3000, .inl (fun _ => 0))), ((r 68), .inl (cI, 9000, .inl (fun _ => 0)))]) ⟨hx, hb, hml, hown, hts⟩ (k217_X4_meaningOf l dC dI cB cI cJ cZ cO r) (cwV 3 hts gX9_addRoot_X4_meaningOf rfl rfl rfl ⟨rfl, z660⟩ ⟨Nat.le_of_ble_eq_true rfl, Nat.le_of_ble_eq_true rfl⟩) hK hP hD hS hA [5] [0, 1, 2, 3, 4] rfl rfl (by decide +kernel) (by decide +kernel) (by decide +kernel) rfl rfl rfl hl.1 (Nat.le_of_ble_eq_true rfl) rfl rfl dX9_addRoot_51 ⟨by decide +kernel, by decide +kernel⟩ (fun u1 H locs hP hD hS => ?_)
  refine my_iastS hx hb hK hP hD hS 4 1 rfl rfl z671 rfl dX9_addRoot_54 (fun H locs hP hD hS => ?_)
  refine lv_iinc (v := 2) (lv' := [(3, .int 2), (0, .ref (r 65)), (1, .ref (r 18)), (2, .ref (r 39))]) hx hb dX9_addRoot_55 hl (k := 0) rfl z24 (nlt rfl) rfl (fun ls hl => ?_)
  refine lv_goto (tgt := 34) hx hb dX9_addRoot_58 z670 ?_
  refine lv_iload_n hx hb dX9_addRoot_34 rfl (lv_at hl 0 rfl) ?_
  refine lv_iconst (v := 3) hx hb dX9_addRoot_35 z69 ?_
  refine lv_icmp_ge (tgt := 61) hx hb dX9_addRoot_36 z668 (fun c1 => absurd c1 (z271)) (fun _ => ?_)
  refine lv_aload_n hx hb dX9_addRoot_39 rfl (lv_at hl 1 rfl) ?_
  refine va_get (D := (dC, dI)) (ci := 9) (v := .ref (r 68)) (C := RX9) (T := TX9) (N := 11) hx hb hts i9 hown hK hP 0 rfl rfl 4 (nlt rfl) w7 (fun _ h9 => h9) rfl dX9_addRoot_40 ?_
  refine lv_iload_n hx hb dX9_addRoot_43 rfl (lv_at hl 0 rfl) ?_
  refine lv_aload_n hx hb dX9_addRoot_44 rfl (lv_at hl 2 rfl) ?_
  refine lv_aload_n hx hb dX9_addRoot_45 rfl (lv_at hl 3 rfl) ?_
  refine lv_aload_n hx hb dX9_addRoot_46 rfl (lv_at hl 1 rfl) ?_
  refine va_get (D := (dC, dI)) (ci := 9) (v := .int 0) (C := RX9) (T := TX9) (N := 11) hx hb hts i9 hown hK hP 0 rfl rfl 9 (nlt rfl) w4 (fun _ h9 => h9) rfl dX9_addRoot_47 ?_
  refine lv_iload_n hx hb dX9_addRoot_50 rfl (lv_at hl 0 rfl) ?_
  refine call_iV (ci := 4) (As := [.ref (r 39), .int 0, .int 2]) (rest := [.int 2, .ref (r 68)]) (wr := [((r 65), .inr (9, [.int 1, .int 0, .ref (r 66), .ref (r 67), .ref (r 68), .ref (r 69), .int 3, .int 1, .int 0, .int 0, .int 0])), ((r 66), .inl (cI, 3000, .inl (upd (fun _ => 0) 0 (-1)))), ((r 67), .inl (cI, 3000, .inl (fun _ => 0))), ((r 69), .inl (cI, 3000, .inl (fun _ => 0))), ((r 68), .inl (cI, 9000, .inl (fun _ => 0)))]) ⟨hx, hb, hml, hown, hts⟩ (k218_X4_meaningOf l dC dI cB cI cJ cZ cO r) (cwV 3 hts gX9_addRoot_X4_meaningOf rfl rfl rfl ⟨rfl, z660⟩ ⟨Nat.le_of_ble_eq_true rfl, Nat.le_of_ble_eq_true rfl⟩) hK hP hD hS hA [5] [0, 1, 2, 3, 4] rfl rfl (by decide +kernel) (by decide +kernel) (by decide +kernel) rfl rfl rfl hl.1 (Nat.le_of_ble_eq_true rfl) rfl rfl dX9_addRoot_51 ⟨by decide +kernel, by decide +kernel⟩ (fun u2 H locs hP hD hS => ?_)
  refine my_iastS hx hb hK hP hD hS 4 1 rfl rfl z672 rfl dX9_addRoot_54 (fun H locs hP hD hS => ?_)
  refine lv_iinc (v := 3) (lv' := [(3, .int 3), (0, .ref (r 65)), (1, .ref (r 18)), (2, .ref (r 39))]) hx hb dX9_addRoot_55 hl (k := 0) rfl z30 (nlt rfl) rfl (fun ls hl => ?_)
  refine lv_goto (tgt := 34) hx hb dX9_addRoot_58 z670 ?_
  refine lv_iload_n hx hb dX9_addRoot_34 rfl (lv_at hl 0 rfl) ?_
  refine lv_iconst (v := 3) hx hb dX9_addRoot_35 z69 ?_
  refine lv_icmp_ge (tgt := 61) hx hb dX9_addRoot_36 z668 (fun _ => ?_) (fun c1 => absurd (z272) c1)
  refine W.widen (k := 0) (n := 0) (by decide +kernel) (by decide +kernel) ?_
  exact ret_v hx hb hr hlocks hS (u := (fun _ => 0)) (hP.sub [0, 1, 2, 3, 5, 4] rfl) (hD.sub [0, 1, 2, 3, 5, 4] (by decide +kernel) rfl) dX9_addRoot_61

set_option maxHeartbeats 4000000 in
set_option maxRecDepth 100000 in
theorem k220_X9_grow (l : Launch) (dC : Nat → ClassId) (dI : Nat → Nat → Nat) (cB cI cJ cZ cO : ClassId) (r : Nat → Nat) : CV l yX9_grow wsX9_grow ({ frames := 1, cells := 0, slots := 0, locals := 24 }) (dC, dI) (tyL cB cI cJ cZ cO) [.ref (r 65), .ref (r 18), .ref (r 55), .int 0] [((r 65), .inr (9, [.int 1, .int 0, .ref (r 66), .ref (r 67), .ref (r 68), .ref (r 69), .int 3, .int 1, .int 0, .int 0, .int 0])), ((r 67), .inl (cI, 3000, .inl (fun _ => 0))), ((r 55), .inr (5, [.ref (r 56), .ref (r 57)])), ((r 18), .inr (4, [.int 0, .ref (r 19), .ref (r 20), .int 0, .ref (r 21), .ref (r 22), .int 0, .ref (r 23), .ref (r 24), .int 0, .ref (r 25), .ref (r 26), .int 3, .int 0, .int 0, .ref (r 27)]))] (fun u => [((r 65), .inr (9, [.int 1, .int 0, .ref (r 66), .ref (r 67), .ref (r 68), .ref (r 69), .int 3, .int 1, .int 0, .int 0, .int 0])), ((r 67), .inl (cI, 3000, .inl (fun _ => 0))), ((r 55), .inr (5, [.ref (r 56), .ref (r 57)])), ((r 18), .inr (4, [.int 0, .ref (r 19), .ref (r 20), .int 0, .ref (r 21), .ref (r 22), .int 0, .ref (r 23), .ref (r 24), .int 0, .ref (r 25), .ref (r 26), .int 3, .int 0, .int 0, .ref (r 27)]))]) := by
  intro sz
  refine ct_open (cc := cX9_grow) (maxL := 8) (ret := none) (by decide) rfl (Nat.le_of_ble_eq_true rfl) ?_
  intro p e s m below meth c ls A hx hb hr hml hts hown hlocks hin hP hK hD hA hS hl
  have hl : lv_has ls 8 [(0, .ref (r 65)), (1, .ref (r 18)), (2, .ref (r 55)), (3, .int 0)] := hl
  have hown : s.vm.findClass RX9 = some m.cls := hown
  have i9 : ∀ w ∈ u_ws RX9 TX9 11, w ∈ wsX9_grow := fun _ h => List.mem_cons_of_mem _ (List.mem_append_left _ (List.mem_append_left _ (List.mem_append_right _ h)))
  have w1 := hts (.fieldLink RX9 15 "GuildCharter$Tree" "depths" "[I") (List.mem_cons_of_mem _ (List.mem_append_left _ (List.mem_append_left _ (List.mem_append_left _ (List.mem_append_left _ (List.mem_of_getElem? (i := 0) rfl))))))
  have w2 := hts (.fieldLink RX9 35 "GuildCharter$Tree" "holes" "I") (List.mem_cons_of_mem _ (List.mem_append_left _ (List.mem_append_left _ (List.mem_append_left _ (List.mem_append_left _ (List.mem_of_getElem? (i := 1) rfl))))))
  have i4 : ∀ w ∈ u_ws RX4 TX4 16, w ∈ wsX9_grow := fun _ h => List.mem_cons_of_mem _ (List.mem_append_left _ (List.mem_append_right _ h))
  have w4 := hts (.fieldLink RX9 72 "GuildCharter$Port" "words" "I") (List.mem_cons_of_mem _ (List.mem_append_left _ (List.mem_append_left _ (List.mem_append_left _ (List.mem_append_left _ (List.mem_of_getElem? (i := 2) rfl))))))
  refine lv_aload_n hx hb dX9_grow_0 rfl (lv_at hl 0 rfl) ?_
  refine va_get (D := (dC, dI)) (ci := 9) (v := .ref (r 67)) (C := RX9) (T := TX9) (N := 11) hx hb hts i9 hown hK hP 0 rfl rfl 3 (nlt rfl) w1 (fun _ h9 => h9) rfl dX9_grow_1 ?_
  refine lv_iload_n hx hb dX9_grow_4 rfl (lv_at hl 3 rfl) ?_
  refine my_iald (v := 0) hx hb hK hP 1 1 rfl rfl z667 rfl dX9_grow_5 ?_
  refine lv_istore (lv' := [(4, .int 0), (0, .ref (r 65)), (1, .ref (r 18)), (2, .ref (r 55)), (3, .int 0)]) hx hb dX9_grow_6 hl (nlt rfl) rfl (fun ls hl => ?_)
  refine lv_aload_n hx hb dX9_grow_8 rfl (lv_at hl 3 rfl) ?_
  refine lv_aload_n hx hb dX9_grow_9 rfl (lv_at hl 2 rfl) ?_
  refine lv_iload hx hb dX9_grow_10 (lv_at hl 0 rfl) ?_
  refine call_iV (ci := 5) (As := [.ref (r 18), .int 0]) (rest := []) (wr := [((r 65), .inr (9, [.int 1, .int 0, .ref (r 66), .ref (r 67), .ref (r 68), .ref (r 69), .int 3, .int 1, .int 0, .int 0, .int 0])), ((r 67), .inl (cI, 3000, .inl (fun _ => 0)))]) ⟨hx, hb, hml, hown, hts⟩ (k192_X5_nextWords l dC dI cB cI cJ cZ cO r) (cwV 2 hts gX9_grow_X5_nextWords rfl rfl rfl ⟨rfl, z646⟩ ⟨Nat.le_of_ble_eq_true rfl, Nat.le_of_ble_eq_true rfl⟩) hK hP hD hS hA [2, 3] [0, 1] rfl rfl (by decide +kernel) (by decide +kernel) (by decide +kernel) rfl rfl rfl hl.1 (Nat.le_of_ble_eq_true rfl) rfl rfl dX9_grow_12 ⟨by decide +kernel, by decide +kernel⟩ (fun u0 H locs hP hD hS => ?_)
  refine lv_istore (lv' := [(5, .int 0), (4, .int 0), (0, .ref (r 65)), (1, .ref (r 18)), (2, .ref (r 55)), (3, .int 0)]) hx hb dX9_grow_15 hl (nlt rfl) rfl (fun ls hl => ?_)
  refine lv_aload_n hx hb dX9_grow_17 rfl (lv_at hl 2 rfl) ?_
  refine va_get (D := (dC, dI)) (ci := 9) (v := .int 0) (C := RX9) (T := TX9) (N := 11) hx hb hts i9 hown hK hP 0 rfl rfl 10 (nlt rfl) w2 (fun _ h9 => h9) rfl dX9_grow_18 ?_
  refine lv_iload hx hb dX9_grow_21 (lv_at hl 1 rfl) ?_
  refine lv_iconst (v := 4) hx hb dX9_grow_23 z77 ?_
  refine lv_imul hx hb dX9_grow_24 ?_
  refine tpi z673 ?_
  refine lv_ishr hx hb dX9_grow_25 ?_
  refine tpi z674 ?_
  refine lv_bipush (v := 15) hx hb dX9_grow_26 z675 ?_
  refine lv_iand hx hb dX9_grow_28 ?_
  refine tpi z676 ?_
  refine lv_iconst (v := 1) hx hb dX9_grow_29 z39 ?_
  refine lv_isub hx hb dX9_grow_30 ?_
  refine tpi z585 ?_
  refine lv_istore (lv' := [(6, .int (-1)), (5, .int 0), (4, .int 0), (0, .ref (r 65)), (1, .ref (r 18)), (2, .ref (r 55)), (3, .int 0)]) hx hb dX9_grow_31 hl (nlt rfl) rfl (fun ls hl => ?_)
  refine lv_iconst (v := 0) hx hb dX9_grow_33 z8 ?_
  refine lv_istore (lv' := [(7, .int 0), (6, .int (-1)), (5, .int 0), (4, .int 0), (0, .ref (r 65)), (1, .ref (r 18)), (2, .ref (r 55)), (3, .int 0)]) hx hb dX9_grow_34 hl (nlt rfl) rfl (fun ls hl => ?_)
  refine lv_iload hx hb dX9_grow_36 (lv_at hl 0 rfl) ?_
  refine lv_aload_n hx hb dX9_grow_38 rfl (lv_at hl 5 rfl) ?_
  refine va_get (D := (dC, dI)) (ci := 4) (v := .int 0) (C := RX4) (T := TX4) (N := 16) hx hb hts i4 hown hK hP 3 rfl rfl 0 (nlt rfl) w4 (fun _ h9 => h9) rfl dX9_grow_39 ?_
  refine lv_icmp_ge (tgt := 117) hx hb dX9_grow_42 z677 (fun _ => ?_) (fun c1 => absurd (z510) c1)
  refine W.widen (k := 0) (n := 0) (by decide +kernel) (by decide +kernel) ?_
  exact ret_v hx hb hr hlocks hS (u := (fun _ => 0)) (hP.sub [0, 1, 2, 3] rfl) (hD.sub [0, 1, 2, 3] (by decide +kernel) rfl) dX9_grow_117

set_option maxHeartbeats 4000000 in
set_option maxRecDepth 100000 in
theorem k221_X9_growFrom (l : Launch) (dC : Nat → ClassId) (dI : Nat → Nat → Nat) (cB cI cJ cZ cO : ClassId) (r : Nat → Nat) : CV l yX9_growFrom wsX9_growFrom ({ frames := 2, cells := 0, slots := 0, locals := 51 }) (dC, dI) (tyL cB cI cJ cZ cO) [.ref (r 65), .ref (r 18), .ref (r 55), .ref (r 39), .int 0, .int 0] [((r 65), .inr (9, [.int 0, .int 0, .ref (r 66), .ref (r 67), .ref (r 68), .ref (r 69), .int 0, .int 0, .int 0, .int 0, .int 0])), ((r 18), .inr (4, [.int 0, .ref (r 19), .ref (r 20), .int 0, .ref (r 21), .ref (r 22), .int 0, .ref (r 23), .ref (r 24), .int 0, .ref (r 25), .ref (r 26), .int 3, .int 0, .int 0, .ref (r 27)])), ((r 66), .inl (cI, 3000, .inl (fun _ => 0))), ((r 67), .inl (cI, 3000, .inl (fun _ => 0))), ((r 69), .inl (cI, 3000, .inl (fun _ => 0))), ((r 68), .inl (cI, 9000, .inl (fun _ => 0))), ((r 55), .inr (5, [.ref (r 56), .ref (r 57)]))] (fun u => [((r 65), .inr (9, [.int 0, .int 0, .ref (r 66), .ref (r 67), .ref (r 68), .ref (r 69), .int 3, .int 1, .int 0, .int 0, .int 0])), ((r 18), .inr (4, [.int 0, .ref (r 19), .ref (r 20), .int 0, .ref (r 21), .ref (r 22), .int 0, .ref (r 23), .ref (r 24), .int 0, .ref (r 25), .ref (r 26), .int 3, .int 0, .int 0, .ref (r 27)])), ((r 66), .inl (cI, 3000, .inl (upd (fun _ => 0) 0 (-1)))), ((r 67), .inl (cI, 3000, .inl (fun _ => 0))), ((r 69), .inl (cI, 3000, .inl (fun _ => 0))), ((r 68), .inl (cI, 9000, .inl (fun _ => 0))), ((r 55), .inr (5, [.ref (r 56), .ref (r 57)]))]) := by
  intro sz
  refine ct_open (cc := cX9_growFrom) (maxL := 8) (ret := none) (by decide) rfl (Nat.le_of_ble_eq_true rfl) ?_
  intro p e s m below meth c ls A hx hb hr hml hts hown hlocks hin hP hK hD hA hS hl
  have hl : lv_has ls 8 [(0, .ref (r 65)), (1, .ref (r 18)), (2, .ref (r 55)), (3, .ref (r 39)), (4, .int 0), (5, .int 0)] := hl
  have hown : s.vm.findClass RX9 = some m.cls := hown
  have i9 : ∀ w ∈ u_ws RX9 TX9 11, w ∈ wsX9_growFrom := fun _ h => List.mem_cons_of_mem _ (List.mem_append_left _ (List.mem_append_left _ (List.mem_append_right _ h)))
  have w1 := hts (.fieldLink RX9 24 "GuildCharter$Tree" "grown" "Z") (List.mem_cons_of_mem _ (List.mem_append_left _ (List.mem_append_left _ (List.mem_append_left _ (List.mem_append_left _ (List.mem_of_getElem? (i := 0) rfl))))))
  have w2 := hts (.fieldLink RX9 28 "GuildCharter$Tree" "rootRow" "I") (List.mem_cons_of_mem _ (List.mem_append_left _ (List.mem_append_left _ (List.mem_append_left _ (List.mem_append_left _ (List.mem_of_getElem? (i := 1) rfl))))))
  have w3 := hts (.fieldLink RX9 32 "GuildCharter$Tree" "rootDepth" "I") (List.mem_cons_of_mem _ (List.mem_append_left _ (List.mem_append_left _ (List.mem_append_left _ (List.mem_append_left _ (List.mem_of_getElem? (i := 2) rfl))))))
  have w4 := hts (.fieldLink RX9 35 "GuildCharter$Tree" "holes" "I") (List.mem_cons_of_mem _ (List.mem_append_left _ (List.mem_append_left _ (List.mem_append_left _ (List.mem_append_left _ (List.mem_of_getElem? (i := 3) rfl))))))
  have i4 : ∀ w ∈ u_ws RX4 TX4 16, w ∈ wsX9_growFrom := fun _ h => List.mem_cons_of_mem _ (List.mem_append_left _ (List.mem_append_right _ h))
  have w6 := hts (.fieldLink RX9 38 "GuildCharter$Port" "length" "I") (List.mem_cons_of_mem _ (List.mem_append_left _ (List.mem_append_left _ (List.mem_append_left _ (List.mem_append_left _ (List.mem_of_getElem? (i := 4) rfl))))))
  have w7 := hts (.fieldLink RX9 43 "GuildCharter$Tree" "length" "I") (List.mem_cons_of_mem _ (List.mem_append_left _ (List.mem_append_left _ (List.mem_append_left _ (List.mem_append_left _ (List.mem_of_getElem? (i := 5) rfl))))))
  have w8 := hts (.fieldLink RX9 44 "GuildCharter$Tree" "spent" "Z") (List.mem_cons_of_mem _ (List.mem_append_left _ (List.mem_append_left _ (List.mem_append_left _ (List.mem_append_left _ (List.mem_of_getElem? (i := 6) rfl))))))
  have w9 := hts (.fieldLink RX9 61 "GuildCharter$Tree" "size" "I") (List.mem_cons_of_mem _ (List.mem_append_left _ (List.mem_append_left _ (List.mem_append_left _ (List.mem_append_left _ (List.mem_of_getElem? (i := 7) rfl))))))
  refine lv_iconst (v := 0) hx hb dX9_growFrom_0 z8 ?_
  refine lv_istore (lv' := [(6, .int 0), (0, .ref (r 65)), (1, .ref (r 18)), (2, .ref (r 55)), (3, .ref (r 39)), (4, .int 0), (5, .int 0)]) hx hb dX9_growFrom_1 hl (nlt rfl) rfl (fun ls hl => ?_)
  refine lv_iconst (v := 0) hx hb dX9_growFrom_3 z8 ?_
  refine lv_istore (lv' := [(7, .int 0), (6, .int 0), (0, .ref (r 65)), (1, .ref (r 18)), (2, .ref (r 55)), (3, .ref (r 39)), (4, .int 0), (5, .int 0)]) hx hb dX9_growFrom_4 hl (nlt rfl) rfl (fun ls hl => ?_)
  refine lv_iload hx hb dX9_growFrom_6 (lv_at hl 0 rfl) ?_
  refine lv_iload hx hb dX9_growFrom_8 (lv_at hl 6 rfl) ?_
  refine lv_icmp_ge (tgt := 30) hx hb dX9_growFrom_10 z665 (fun _ => ?_) (fun c1 => absurd (z510) c1)
  refine lv_aload_n hx hb dX9_growFrom_30 rfl (lv_at hl 2 rfl) ?_
  refine va_get (D := (dC, dI)) (ci := 9) (v := .int 0) (C := RX9) (T := TX9) (N := 11) hx hb hts i9 hown hK hP 0 rfl rfl 7 (nlt rfl) w1 (fun _ h9 => h9) rfl dX9_growFrom_31 ?_
  refine lv_if_eq (tgt := 65) hx hb dX9_growFrom_34 z666 (fun _ => ?_) (fun c1 => absurd (rfl) c1)
  refine lv_aload_n hx hb dX9_growFrom_65 rfl (lv_at hl 2 rfl) ?_
  refine lv_iconst (v := 1) hx hb dX9_growFrom_66 z39 ?_
  refine va_put (D := (dC, dI)) (ci := 9) (v := .int 1) (ty := tyX9 7) (C := RX9) (T := TX9) (N := 11) hx hb hts i9 tyX9 tyX9_ok nmX9 hown hK hP hD hS 0 rfl rfl 7 (nlt rfl) w1 (fun _ h9 => h9) rfl (tyX9_ok 7 (nlt rfl)) rfl rfl (nlt rfl) dX9_growFrom_67 (fun H locs hP hD hS => ?_)
  refine lv_aload_n hx hb dX9_growFrom_70 rfl (lv_at hl 2 rfl) ?_
  refine lv_iload hx hb dX9_growFrom_71 (lv_at hl 1 rfl) ?_
  refine va_put (D := (dC, dI)) (ci := 9) (v := .int 0) (ty := tyX9 8) (C := RX9) (T := TX9) (N := 11) hx hb hts i9 tyX9 tyX9_ok nmX9 hown hK hP hD hS 0 rfl rfl 8 (nlt rfl) w2 (fun _ h9 => h9) rfl (tyX9_ok 8 (nlt rfl)) rfl rfl (nlt rfl) dX9_growFrom_73 (fun H locs hP hD hS => ?_)
  refine lv_aload_n hx hb dX9_growFrom_76 rfl (lv_at hl 2 rfl) ?_
  refine lv_iload hx hb dX9_growFrom_77 (lv_at hl 6 rfl) ?_
  refine va_put (D := (dC, dI)) (ci := 9) (v := .int 0) (ty := tyX9 9) (C := RX9) (T := TX9) (N := 11) hx hb hts i9 tyX9 tyX9_ok nmX9 hown hK hP hD hS 0 rfl rfl 9 (nlt rfl) w3 (fun _ h9 => h9) rfl (tyX9_ok 9 (nlt rfl)) rfl rfl (nlt rfl) dX9_growFrom_79 (fun H locs hP hD hS => ?_)
  have hP : va_P (dC, dI) vwCl [((r 65), .inr (9, [.int 0, .int 0, .ref (r 66), .ref (r 67), .ref (r 68), .ref (r 69), .int 0, .int 1, .int 0, .int 0, .int 0])), ((r 18), .inr (4, [.int 0, .ref (r 19), .ref (r 20), .int 0, .ref (r 21), .ref (r 22), .int 0, .ref (r 23), .ref (r 24), .int 0, .ref (r 25), .ref (r 26), .int 3, .int 0, .int 0, .ref (r 27)])), ((r 66), .inl (cI, 3000, .inl (fun _ => 0))), ((r 67), .inl (cI, 3000, .inl (fun _ => 0))), ((r 69), .inl (cI, 3000, .inl (fun _ => 0))), ((r 68), .inl (cI, 9000, .inl (fun _ => 0))), ((r 55), .inr (5, [.ref (r 56), .ref (r 57)]))] H := hP
  have hD : va_D A [((r 65), .inr (9, [.int 0, .int 0, .ref (r 66), .ref (r 67), .ref (r 68), .ref (r 69), .int 0, .int 1, .int 0, .int 0, .int 0])), ((r 18), .inr (4, [.int 0, .ref (r 19), .ref (r 20), .int 0, .ref (r 21), .ref (r 22), .int 0, .ref (r 23), .ref (r 24), .int 0, .ref (r 25), .ref (r 26), .int 3, .int 0, .int 0, .ref (r 27)])), ((r 66), .inl (cI, 3000, .inl (fun _ => 0))), ((r 67), .inl (cI, 3000, .inl (fun _ => 0))), ((r 69), .inl (cI, 3000, .inl (fun _ => 0))), ((r 68), .inl (cI, 9000, .inl (fun _ => 0))), ((r 55), .inr (5, [.ref (r 56), .ref (r 57)]))] := hD
  refine lv_aload_n hx hb dX9_growFrom_82 rfl (lv_at hl 2 rfl) ?_
  refine lv_iload hx hb dX9_growFrom_83 (lv_at hl 7 rfl) ?_
  refine va_put (D := (dC, dI)) (ci := 9) (v := .int 0) (ty := tyX9 10) (C := RX9) (T := TX9) (N := 11) hx hb hts i9 tyX9 tyX9_ok nmX9 hown hK hP hD hS 0 rfl rfl 10 (nlt rfl) w4 (fun _ h9 => h9) rfl (tyX9_ok 10 (nlt rfl)) rfl rfl (nlt rfl) dX9_growFrom_85 (fun H locs hP hD hS => ?_)
  refine lv_aload_n hx hb dX9_growFrom_88 rfl (lv_at hl 2 rfl) ?_
  refine lv_aload_n hx hb dX9_growFrom_89 rfl (lv_at hl 3 rfl) ?_
  refine va_get (D := (dC, dI)) (ci := 4) (v := .int 3) (C := RX4) (T := TX4) (N := 16) hx hb hts i4 hown hK hP 1 rfl rfl 12 (nlt rfl) w6 (fun _ h9 => h9) rfl dX9_growFrom_90 ?_
  refine va_put (D := (dC, dI)) (ci := 9) (v := .int 3) (ty := tyX9 6) (C := RX9) (T := TX9) (N := 11) hx hb hts i9 tyX9 tyX9_ok nmX9 hown hK hP hD hS 0 rfl rfl 6 (nlt rfl) w7 (fun _ h9 => h9) rfl (tyX9_ok 6 (nlt rfl)) rfl rfl (nlt rfl) dX9_growFrom_93 (fun H locs hP hD hS => ?_)
  refine lv_aload_n hx hb dX9_growFrom_96 rfl (lv_at hl 2 rfl) ?_
  refine lv_iconst (v := 0) hx hb dX9_growFrom_97 z8 ?_
  refine va_put (D := (dC, dI)) (ci := 9) (v := .int 0) (ty := tyX9 1) (C := RX9) (T := TX9) (N := 11) hx hb hts i9 tyX9 tyX9_ok nmX9 hown hK hP hD hS 0 rfl rfl 1 (nlt rfl) w8 (fun _ h9 => h9) rfl (tyX9_ok 1 (nlt rfl)) rfl rfl (nlt rfl) dX9_growFrom_98 (fun H locs hP hD hS => ?_)
  have hP : va_P (dC, dI) vwCl [((r 65), .inr (9, [.int 0, .int 0, .ref (r 66), .ref (r 67), .ref (r 68), .ref (r 69), .int 3, .int 1, .int 0, .int 0, .int 0])), ((r 18), .inr (4, [.int 0, .ref (r 19), .ref (r 20), .int 0, .ref (r 21), .ref (r 22), .int 0, .ref (r 23), .ref (r 24), .int 0, .ref (r 25), .ref (r 26), .int 3, .int 0, .int 0, .ref (r 27)])), ((r 66), .inl (cI, 3000, .inl (fun _ => 0))), ((r 67), .inl (cI, 3000, .inl (fun _ => 0))), ((r 69), .inl (cI, 3000, .inl (fun _ => 0))), ((r 68), .inl (cI, 9000, .inl (fun _ => 0))), ((r 55), .inr (5, [.ref (r 56), .ref (r 57)]))] H := hP
  have hD : va_D A [((r 65), .inr (9, [.int 0, .int 0, .ref (r 66), .ref (r 67), .ref (r 68), .ref (r 69), .int 3, .int 1, .int 0, .int 0, .int 0])), ((r 18), .inr (4, [.int 0, .ref (r 19), .ref (r 20), .int 0, .ref (r 21), .ref (r 22), .int 0, .ref (r 23), .ref (r 24), .int 0, .ref (r 25), .ref (r 26), .int 3, .int 0, .int 0, .ref (r 27)])), ((r 66), .inl (cI, 3000, .inl (fun _ => 0))), ((r 67), .inl (cI, 3000, .inl (fun _ => 0))), ((r 69), .inl (cI, 3000, .inl (fun _ => 0))), ((r 68), .inl (cI, 9000, .inl (fun _ => 0))), ((r 55), .inr (5, [.ref (r 56), .ref (r 57)]))] := hD
  refine lv_aload_n hx hb dX9_growFrom_101 rfl (lv_at hl 2 rfl) ?_
  refine lv_aload_n hx hb dX9_growFrom_102 rfl (lv_at hl 3 rfl) ?_
  refine lv_aload_n hx hb dX9_growFrom_103 rfl (lv_at hl 5 rfl) ?_
  refine call_vV (ci := 9) (As := [.ref (r 18), .ref (r 39)]) (rest := []) (wr := [((r 55), .inr (5, [.ref (r 56), .ref (r 57)]))]) ⟨hx, hb, hml, hown, hts⟩ (k219_X9_addRoot l dC dI cB cI cJ cZ cO r) (cwV 2 hts gX9_growFrom_X9_addRoot rfl rfl rfl ⟨rfl, z680⟩ ⟨Nat.le_of_ble_eq_true rfl, Nat.le_of_ble_eq_true rfl⟩) hK hP hD hS hA [0, 2, 3, 4, 1, 5] [6] rfl rfl (by decide +kernel) (by decide +kernel) (by decide +kernel) rfl rfl rfl hl.1 (Nat.le_of_ble_eq_true rfl) rfl rfl dX9_growFrom_104 ⟨by decide +kernel, by decide +kernel⟩ (fun u0 H locs hP hD hS => ?_)
  refine lv_aload_n hx hb dX9_growFrom_107 rfl (lv_at hl 4 rfl) ?_
  refine lv_aload_n hx hb dX9_growFrom_108 rfl (lv_at hl 3 rfl) ?_
  refine lv_aload_n hx hb dX9_growFrom_109 rfl (lv_at hl 5 rfl) ?_
  refine lv_iload hx hb dX9_growFrom_110 (lv_at hl 6 rfl) ?_
  refine call_vV (ci := 5) (As := [.ref (r 18), .ref (r 39), .int 0]) (rest := []) (wr := [((r 65), .inr (9, [.int 1, .int 0, .ref (r 66), .ref (r 67), .ref (r 68), .ref (r 69), .int 3, .int 1, .int 0, .int 0, .int 0])), ((r 66), .inl (cI, 3000, .inl (upd (fun _ => 0) 0 (-1)))), ((r 67), .inl (cI, 3000, .inl (fun _ => 0))), ((r 69), .inl (cI, 3000, .inl (fun _ => 0))), ((r 18), .inr (4, [.int 0, .ref (r 19), .ref (r 20), .int 0, .ref (r 21), .ref (r 22), .int 0, .ref (r 23), .ref (r 24), .int 0, .ref (r 25), .ref (r 26), .int 3, .int 0, .int 0, .ref (r 27)])), ((r 68), .inl (cI, 9000, .inl (fun _ => 0)))]) ⟨hx, hb, hml, hown, hts⟩ (k191_X5_readBeginning l dC dI cB cI cJ cZ cO r) (cwV 3 hts gX9_growFrom_X5_readBeginning rfl rfl rfl ⟨rfl, z645⟩ ⟨Nat.le_of_ble_eq_true rfl, Nat.le_of_ble_eq_true rfl⟩) hK hP hD hS hA [0] [1, 2, 3, 4, 5, 6] rfl rfl (by decide +kernel) (by decide +kernel) (by decide +kernel) rfl rfl rfl hl.1 (Nat.le_of_ble_eq_true rfl) rfl rfl dX9_growFrom_112 ⟨by decide +kernel, by decide +kernel⟩ (fun u1 H locs hP hD hS => ?_)
  refine lv_aload_n hx hb dX9_growFrom_115 rfl (lv_at hl 2 rfl) ?_
  refine lv_aload_n hx hb dX9_growFrom_116 rfl (lv_at hl 3 rfl) ?_
  refine lv_aload_n hx hb dX9_growFrom_117 rfl (lv_at hl 4 rfl) ?_
  refine lv_iconst (v := 0) hx hb dX9_growFrom_118 z8 ?_
  refine call_vV (ci := 9) (As := [.ref (r 18), .ref (r 55), .int 0]) (rest := []) (wr := [((r 66), .inl (cI, 3000, .inl (upd (fun _ => 0) 0 (-1)))), ((r 69), .inl (cI, 3000, .inl (fun _ => 0))), ((r 68), .inl (cI, 9000, .inl (fun _ => 0)))]) ⟨hx, hb, hml, hown, hts⟩ (k220_X9_grow l dC dI cB cI cJ cZ cO r) (cwV 3 hts gX9_growFrom_X9_grow rfl rfl rfl ⟨rfl, z681⟩ ⟨Nat.le_of_ble_eq_true rfl, Nat.le_of_ble_eq_true rfl⟩) hK hP hD hS hA [0, 2, 6, 4] [1, 3, 5] rfl rfl (by decide +kernel) (by decide +kernel) (by decide +kernel) rfl rfl rfl hl.1 (Nat.le_of_ble_eq_true rfl) rfl rfl dX9_growFrom_119 ⟨by decide +kernel, by decide +kernel⟩ (fun u2 H locs hP hD hS => ?_)
  refine lv_aload_n hx hb dX9_growFrom_122 rfl (lv_at hl 2 rfl) ?_
  refine va_get (D := (dC, dI)) (ci := 9) (v := .int 1) (C := RX9) (T := TX9) (N := 11) hx hb hts i9 hown hK hP 3 rfl rfl 0 (nlt rfl) w9 (fun _ h9 => h9) rfl dX9_growFrom_123 ?_
  refine lv_iconst (v := 1) hx hb dX9_growFrom_126 z39 ?_
  refine lv_icmp_ne (tgt := 144) hx hb dX9_growFrom_127 z678 (fun c1 => absurd (rfl) c1) (fun _ => ?_)
  refine lv_iload hx hb dX9_growFrom_130 (lv_at hl 6 rfl) ?_
  refine lv_aload_n hx hb dX9_growFrom_132 rfl (lv_at hl 2 rfl) ?_
  refine va_get (D := (dC, dI)) (ci := 9) (v := .int 3) (C := RX9) (T := TX9) (N := 11) hx hb hts i9 hown hK hP 3 rfl rfl 6 (nlt rfl) w7 (fun _ h9 => h9) rfl dX9_growFrom_133 ?_
  refine lv_icmp_ge (tgt := 144) hx hb dX9_growFrom_136 z679 (fun c1 => absurd c1 (z267)) (fun _ => ?_)
  refine lv_aload_n hx hb dX9_growFrom_139 rfl (lv_at hl 2 rfl) ?_
  refine lv_iconst (v := 0) hx hb dX9_growFrom_140 z8 ?_
  refine va_put (D := (dC, dI)) (ci := 9) (v := .int 0) (ty := tyX9 0) (C := RX9) (T := TX9) (N := 11) hx hb hts i9 tyX9 tyX9_ok nmX9 hown hK hP hD hS 3 rfl rfl 0 (nlt rfl) w9 (fun _ h9 => h9) rfl (tyX9_ok 0 (nlt rfl)) rfl rfl (nlt rfl) dX9_growFrom_141 (fun H locs hP hD hS => ?_)
  refine W.widen (k := 0) (n := 0) (by decide +kernel) (by decide +kernel) ?_
  exact ret_v hx hb hr hlocks hS (u := (fun _ => 0)) (hP.sub [3, 6, 0, 4, 1, 2, 5] rfl) (hD.sub [3, 6, 0, 4, 1, 2, 5] (by decide +kernel) rfl) dX9_growFrom_144

set_option maxHeartbeats 4000000 in
set_option maxRecDepth 100000 in
theorem k222_X10_growEarnest (l : Launch) (dC : Nat → ClassId) (dI : Nat → Nat → Nat) (cB cI cJ cZ cO : ClassId) (r : Nat → Nat) : CR l yX10_growEarnest wsX10_growEarnest ({ frames := 3, cells := 0, slots := 0, locals := 78 }) (dC, dI) (tyL cB cI cJ cZ cO) [.ref (r 0)] [((r 0), .inr (10, fX r)), ((r 38), .inr (0, [.ref (r 39), .int 0, .ref (r 40), .ref (r 41), .ref (r 42), .ref (r 43), .ref (r 44), .int 0, .int 0])), ((r 65), .inr (9, [.int 0, .int 0, .ref (r 66), .ref (r 67), .ref (r 68), .ref (r 69), .int 0, .int 0, .int 0, .int 0, .int 0])), ((r 18), .inr (4, [.int 0, .ref (r 19), .ref (r 20), .int 0, .ref (r 21), .ref (r 22), .int 0, .ref (r 23), .ref (r 24), .int 0, .ref (r 25), .ref (r 26), .int 3, .int 0, .int 0, .ref (r 27)])), ((r 66), .inl (cI, 3000, .inl (fun _ => 0))), ((r 67), .inl (cI, 3000, .inl (fun _ => 0))), ((r 69), .inl (cI, 3000, .inl (fun _ => 0))), ((r 68), .inl (cI, 9000, .inl (fun _ => 0))), ((r 55), .inr (5, [.ref (r 56), .ref (r 57)]))] (fun u => [((r 0), .inr (10, fX r)), ((r 38), .inr (0, [.ref (r 39), .int 0, .ref (r 40), .ref (r 41), .ref (r 42), .ref (r 43), .ref (r 44), .int 0, .int 0])), ((r 65), .inr (9, [.int 0, .int 0, .ref (r 66), .ref (r 67), .ref (r 68), .ref (r 69), .int 3, .int 1, .int 0, .int 0, .int 0])), ((r 18), .inr (4, [.int 0, .ref (r 19), .ref (r 20), .int 0, .ref (r 21), .ref (r 22), .int 0, .ref (r 23), .ref (r 24), .int 0, .ref (r 25), .ref (r 26), .int 3, .int 0, .int 0, .ref (r 27)])), ((r 66), .inl (cI, 3000, .inl (upd (fun _ => 0) 0 (-1)))), ((r 67), .inl (cI, 3000, .inl (fun _ => 0))), ((r 69), .inl (cI, 3000, .inl (fun _ => 0))), ((r 68), .inl (cI, 9000, .inl (fun _ => 0))), ((r 55), .inr (5, [.ref (r 56), .ref (r 57)]))]) (r 65) := by
  intro sz
  refine ct_open (cc := cX10_growEarnest) (maxL := 2) (ret := (some (.object "GuildCharter$Tree"))) (by decide) rfl (Nat.le_of_ble_eq_true rfl) ?_
  intro p e s m below meth c ls A hx hb hr hml hts hown hlocks hin hP hK hD hA hS hl
  have hl : lv_has ls 2 [(0, .ref (r 0))] := hl
  have hown : s.vm.findClass RX10 = some m.cls := hown
  have i10 : ∀ w ∈ u_ws RX10 TX10 18, w ∈ wsX10_growEarnest := fun _ h => List.mem_cons_of_mem _ (List.mem_append_left _ (List.mem_append_left _ (List.mem_append_left _ (List.mem_append_left _ (List.mem_append_right _ h)))))
  have w1 := hts (.fieldLink RX10 33 "GuildCharter" "earnest" "LGuildCharter$Earnest;") (List.mem_cons_of_mem _ (List.mem_append_left _ (List.mem_append_left _ (List.mem_append_left _ (List.mem_append_left _ (List.mem_append_left _ (List.mem_append_left _ (List.mem_of_getElem? (i := 0) rfl))))))))
  have i0 : ∀ w ∈ u_ws RX0 TX0 9, w ∈ wsX10_growEarnest := fun _ h => List.mem_cons_of_mem _ (List.mem_append_left _ (List.mem_append_left _ (List.mem_append_left _ (List.mem_append_right _ h))))
  have w3 := hts (.fieldLink RX10 177 "GuildCharter$Earnest" "size" "I") (List.mem_cons_of_mem _ (List.mem_append_left _ (List.mem_append_left _ (List.mem_append_left _ (List.mem_append_left _ (List.mem_append_left _ (List.mem_append_left _ (List.mem_of_getElem? (i := 1) rfl))))))))
  have w4 := hts (.fieldLink RX10 68 "GuildCharter" "wholeTree" "LGuildCharter$Tree;") (List.mem_cons_of_mem _ (List.mem_append_left _ (List.mem_append_left _ (List.mem_append_left _ (List.mem_append_left _ (List.mem_append_left _ (List.mem_append_left _ (List.mem_of_getElem? (i := 2) rfl))))))))
  have w5 := hts (.fieldLink RX10 23 "GuildCharter" "told" "LGuildCharter$Port;") (List.mem_cons_of_mem _ (List.mem_append_left _ (List.mem_append_left _ (List.mem_append_left _ (List.mem_append_left _ (List.mem_append_left _ (List.mem_append_left _ (List.mem_of_getElem? (i := 4) rfl))))))))
  have w6 := hts (.fieldLink RX10 47 "GuildCharter" "reader" "LGuildCharter$Reader;") (List.mem_cons_of_mem _ (List.mem_append_left _ (List.mem_append_left _ (List.mem_append_left _ (List.mem_append_left _ (List.mem_append_left _ (List.mem_append_left _ (List.mem_of_getElem? (i := 5) rfl))))))))
  have w7 := hts (.fieldLink RX10 194 "GuildCharter$Earnest" "row" "[I") (List.mem_cons_of_mem _ (List.mem_append_left _ (List.mem_append_left _ (List.mem_append_left _ (List.mem_append_left _ (List.mem_append_left _ (List.mem_append_left _ (List.mem_of_getElem? (i := 6) rfl))))))))
  refine lv_aload_n hx hb dX10_growEarnest_0 rfl (lv_at hl 0 rfl) ?_
  refine va_get (D := (dC, dI)) (ci := 10) (v := .ref (r 38)) (C := RX10) (T := TX10) (N := 18) hx hb hts i10 hown hK hP 0 rfl rfl 5 (nlt rfl) w1 (fun _ h9 => h9) rfl dX10_growEarnest_1 ?_
  refine va_get (D := (dC, dI)) (ci := 0) (v := .int 0) (C := RX0) (T := TX0) (N := 9) hx hb hts i0 hown hK hP 1 rfl rfl 1 (nlt rfl) w3 (fun _ h9 => h9) rfl dX10_growEarnest_4 ?_
  refine lv_if_ne (tgt := 17) hx hb dX10_growEarnest_7 z663 (fun c1 => absurd (rfl) c1) (fun _ => ?_)
  refine lv_aload_n hx hb dX10_growEarnest_10 rfl (lv_at hl 0 rfl) ?_
  refine va_get (D := (dC, dI)) (ci := 10) (v := .ref (r 65)) (C := RX10) (T := TX10) (N := 18) hx hb hts i10 hown hK hP 0 rfl rfl 10 (nlt rfl) w4 (fun _ h9 => h9) rfl dX10_growEarnest_11 ?_
  refine lv_goto (tgt := 21) hx hb dX10_growEarnest_14 z664 ?_
  refine lv_astore_n (lv' := [(1, .ref (r 65)), (0, .ref (r 0))]) hx hb dX10_growEarnest_21 rfl hl (nlt rfl) rfl (fun ls hl => ?_)
  refine lv_aload_n hx hb dX10_growEarnest_22 rfl (lv_at hl 0 rfl) ?_
  refine lv_aload_n hx hb dX10_growEarnest_23 rfl (lv_at hl 1 rfl) ?_
  refine va_get (D := (dC, dI)) (ci := 10) (v := .ref (r 18)) (C := RX10) (T := TX10) (N := 18) hx hb hts i10 hown hK hP 0 rfl rfl 3 (nlt rfl) w5 (fun _ h9 => h9) rfl dX10_growEarnest_24 ?_
  refine lv_aload_n hx hb dX10_growEarnest_27 rfl (lv_at hl 1 rfl) ?_
  refine va_get (D := (dC, dI)) (ci := 10) (v := .ref (r 55)) (C := RX10) (T := TX10) (N := 18) hx hb hts i10 hown hK hP 0 rfl rfl 7 (nlt rfl) w6 (fun _ h9 => h9) rfl dX10_growEarnest_28 ?_
  refine lv_aload_n hx hb dX10_growEarnest_31 rfl (lv_at hl 1 rfl) ?_
  refine va_get (D := (dC, dI)) (ci := 10) (v := .ref (r 38)) (C := RX10) (T := TX10) (N := 18) hx hb hts i10 hown hK hP 0 rfl rfl 5 (nlt rfl) w1 (fun _ h9 => h9) rfl dX10_growEarnest_32 ?_
  refine va_get (D := (dC, dI)) (ci := 0) (v := .ref (r 39)) (C := RX0) (T := TX0) (N := 9) hx hb hts i0 hown hK hP 1 rfl rfl 0 (nlt rfl) w7 (fun _ h9 => h9) rfl dX10_growEarnest_35 ?_
  refine lv_aload_n hx hb dX10_growEarnest_38 rfl (lv_at hl 1 rfl) ?_
  refine va_get (D := (dC, dI)) (ci := 10) (v := .ref (r 38)) (C := RX10) (T := TX10) (N := 18) hx hb hts i10 hown hK hP 0 rfl rfl 5 (nlt rfl) w1 (fun _ h9 => h9) rfl dX10_growEarnest_39 ?_
  refine va_get (D := (dC, dI)) (ci := 0) (v := .int 0) (C := RX0) (T := TX0) (N := 9) hx hb hts i0 hown hK hP 1 rfl rfl 1 (nlt rfl) w3 (fun _ h9 => h9) rfl dX10_growEarnest_42 ?_
  refine lv_iconst (v := 0) hx hb dX10_growEarnest_45 z8 ?_
  refine call_vV (ci := 9) (As := [.ref (r 18), .ref (r 55), .ref (r 39), .int 0, .int 0]) (rest := []) (wr := [((r 0), .inr (10, fX r)), ((r 38), .inr (0, [.ref (r 39), .int 0, .ref (r 40), .ref (r 41), .ref (r 42), .ref (r 43), .ref (r 44), .int 0, .int 0]))]) ⟨hx, hb, hml, hown, hts⟩ (k221_X9_growFrom l dC dI cB cI cJ cZ cO r) (cwV 5 hts gX10_growEarnest_X9_growFrom rfl rfl rfl ⟨rfl, z682⟩ ⟨Nat.le_of_ble_eq_true rfl, Nat.le_of_ble_eq_true rfl⟩) hK hP hD hS hA [2, 3, 4, 5, 6, 7, 8] [0, 1] rfl rfl (by decide +kernel) (by decide +kernel) (by decide +kernel) rfl rfl rfl hl.1 (Nat.le_of_ble_eq_true rfl) rfl rfl dX10_growEarnest_46 ⟨by decide +kernel, by decide +kernel⟩ (fun u0 H locs hP hD hS => ?_)
  refine lv_aload_n hx hb dX10_growEarnest_49 rfl (lv_at hl 0 rfl) ?_
  refine W.widen (k := 0) (n := 0) (by decide +kernel) (by decide +kernel) ?_
  exact ret_r hx hb hr hlocks hS (u := (fun _ => 0)) (hP.sub [0, 1, 2, 3, 4, 5, 6, 7, 8] rfl) (hD.sub [0, 1, 2, 3, 4, 5, 6, 7, 8] (by decide +kernel) rfl) dX10_growEarnest_50
