set_option maxHeartbeats 4000000 in
set_option maxRecDepth 100000 in
theorem k41_X8_advance (l : Launch) (dC : Nat → ClassId) (dI : Nat → Nat → Nat) (cB cI cJ cZ cO : ClassId) (r : Nat → Nat) : CV l yX8_advance wsX8_advance ({ frames := 0, cells := 0, slots := 0, locals := 0 }) (dC, dI) (tyL cB cI cJ cZ cO) [.ref (r 3)] [((r 3), .inr (8, [.ref (r 4), .ref (r 1), .int 0, .int 0, .int 0, .int 0, .long 0, .int 0, .int 0, .int (-1)]))] (fun u => [((r 3), .inr (8, [.ref (r 4), .ref (r 1), .int 0, .int 0, .int 0, .int 0, .long 0, .int 0, .int 0, .int (-1)]))]) := by
  intro sz
  refine ct_open (cc := cX8_advance) (maxL := 2) (ret := none) (by decide) rfl (Nat.le_of_ble_eq_true rfl) ?_
  intro p e s m below meth c ls A hx hb hr hml hts hown hlocks hin hP hK hD hA hS hl
  have hl : lv_has ls 2 [(0, .ref (r 3))] := hl
  have hown : s.vm.findClass RX8 = some m.cls := hown
  have i8 : ∀ w ∈ u_ws RX8 TX8 10, w ∈ wsX8_advance := fun _ h => List.mem_cons_of_mem _ (List.mem_append_right _ h)
  have w1 := hts (.fieldLink RX8 57 "GuildCharter$Tokens" "behind" "I") (List.mem_cons_of_mem _ (List.mem_append_left _ (List.mem_of_getElem? (i := 0) rfl)))
  have w2 := hts (.fieldLink RX8 66 "GuildCharter$Tokens" "place" "I") (List.mem_cons_of_mem _ (List.mem_append_left _ (List.mem_of_getElem? (i := 1) rfl)))
  have w3 := hts (.fieldLink RX8 54 "GuildCharter$Tokens" "size" "I") (List.mem_cons_of_mem _ (List.mem_append_left _ (List.mem_of_getElem? (i := 2) rfl)))
  have w4 := hts (.fieldLink RX8 69 "GuildCharter$Tokens" "kind" "I") (List.mem_cons_of_mem _ (List.mem_append_left _ (List.mem_of_getElem? (i := 4) rfl)))
  refine lv_aload_n hx hb dX8_advance_0 rfl (lv_at hl 0 rfl) ?_
  refine lv_aload_n hx hb dX8_advance_1 rfl (lv_at hl 0 rfl) ?_
  refine va_get (D := (dC, dI)) (ci := 8) (v := .int 0) (C := RX8) (T := TX8) (N := 10) hx hb hts i8 hown hK hP 0 rfl rfl 3 (nlt rfl) w1 (fun _ h9 => h9) rfl dX8_advance_2 ?_
  refine va_put (D := (dC, dI)) (ci := 8) (v := .int 0) (ty := tyX8 4) (C := RX8) (T := TX8) (N := 10) hx hb hts i8 tyX8 tyX8_ok nmX8 hown hK hP hD hS 0 rfl rfl 4 (nlt rfl) w2 (fun _ h9 => h9) rfl (tyX8_ok 4 (nlt rfl)) rfl rfl (nlt rfl) dX8_advance_5 (fun H locs hP hD hS => ?_)
  refine lv_aload_n hx hb dX8_advance_8 rfl (lv_at hl 0 rfl) ?_
  refine va_get (D := (dC, dI)) (ci := 8) (v := .int 0) (C := RX8) (T := TX8) (N := 10) hx hb hts i8 hown hK hP 0 rfl rfl 4 (nlt rfl) w2 (fun _ h9 => h9) rfl dX8_advance_9 ?_
  refine lv_aload_n hx hb dX8_advance_12 rfl (lv_at hl 0 rfl) ?_
  refine va_get (D := (dC, dI)) (ci := 8) (v := .int 0) (C := RX8) (T := TX8) (N := 10) hx hb hts i8 hown hK hP 0 rfl rfl 2 (nlt rfl) w3 (fun _ h9 => h9) rfl dX8_advance_13 ?_
  refine lv_icmp_ge (tgt := 60) hx hb dX8_advance_16 z1264 (fun _ => ?_) (fun c1 => absurd (z682) c1)
  refine lv_aload_n hx hb dX8_advance_60 rfl (lv_at hl 0 rfl) ?_
  refine lv_aload_n hx hb dX8_advance_61 rfl (lv_at hl 0 rfl) ?_
  refine va_get (D := (dC, dI)) (ci := 8) (v := .int 0) (C := RX8) (T := TX8) (N := 10) hx hb hts i8 hown hK hP 0 rfl rfl 4 (nlt rfl) w2 (fun _ h9 => h9) rfl dX8_advance_62 ?_
  refine va_put (D := (dC, dI)) (ci := 8) (v := .int 0) (ty := tyX8 3) (C := RX8) (T := TX8) (N := 10) hx hb hts i8 tyX8 tyX8_ok nmX8 hown hK hP hD hS 0 rfl rfl 3 (nlt rfl) w1 (fun _ h9 => h9) rfl (tyX8_ok 3 (nlt rfl)) rfl rfl (nlt rfl) dX8_advance_65 (fun H locs hP hD hS => ?_)
  refine lv_aload_n hx hb dX8_advance_68 rfl (lv_at hl 0 rfl) ?_
  refine va_get (D := (dC, dI)) (ci := 8) (v := .int 0) (C := RX8) (T := TX8) (N := 10) hx hb hts i8 hown hK hP 0 rfl rfl 4 (nlt rfl) w2 (fun _ h9 => h9) rfl dX8_advance_69 ?_
  refine lv_aload_n hx hb dX8_advance_72 rfl (lv_at hl 0 rfl) ?_
  refine va_get (D := (dC, dI)) (ci := 8) (v := .int 0) (C := RX8) (T := TX8) (N := 10) hx hb hts i8 hown hK hP 0 rfl rfl 2 (nlt rfl) w3 (fun _ h9 => h9) rfl dX8_advance_73 ?_
  refine lv_icmp_ge (tgt := 91) hx hb dX8_advance_76 z1265 (fun _ => ?_) (fun c1 => absurd (z682) c1)
  refine lv_iconst (v := 0) hx hb dX8_advance_91 z8 ?_
  refine lv_istore_n (lv' := [(1, .int 0), (0, .ref (r 3))]) hx hb dX8_advance_92 rfl hl (nlt rfl) rfl (fun ls hl => ?_)
  refine lv_aload_n hx hb dX8_advance_93 rfl (lv_at hl 1 rfl) ?_
  refine va_get (D := (dC, dI)) (ci := 8) (v := .int 0) (C := RX8) (T := TX8) (N := 10) hx hb hts i8 hown hK hP 0 rfl rfl 4 (nlt rfl) w2 (fun _ h9 => h9) rfl dX8_advance_94 ?_
  refine lv_aload_n hx hb dX8_advance_97 rfl (lv_at hl 1 rfl) ?_
  refine va_get (D := (dC, dI)) (ci := 8) (v := .int 0) (C := RX8) (T := TX8) (N := 10) hx hb hts i8 hown hK hP 0 rfl rfl 2 (nlt rfl) w3 (fun _ h9 => h9) rfl dX8_advance_98 ?_
  refine lv_icmp_lt (tgt := 112) hx hb dX8_advance_101 z1266 (fun c1 => absurd c1 (z125)) (fun _ => ?_)
  refine lv_aload_n hx hb dX8_advance_104 rfl (lv_at hl 1 rfl) ?_
  refine lv_iconst (v := 0) hx hb dX8_advance_105 z8 ?_
  refine va_put (D := (dC, dI)) (ci := 8) (v := .int 0) (ty := tyX8 5) (C := RX8) (T := TX8) (N := 10) hx hb hts i8 tyX8 tyX8_ok nmX8 hown hK hP hD hS 0 rfl rfl 5 (nlt rfl) w4 (fun _ h9 => h9) rfl (tyX8_ok 5 (nlt rfl)) rfl rfl (nlt rfl) dX8_advance_106 (fun H locs hP hD hS => ?_)
  refine lv_goto (tgt := 185) hx hb dX8_advance_109 z1267 ?_
  refine lv_aload_n hx hb dX8_advance_185 rfl (lv_at hl 1 rfl) ?_
  refine va_get (D := (dC, dI)) (ci := 8) (v := .int 0) (C := RX8) (T := TX8) (N := 10) hx hb hts i8 hown hK hP 0 rfl rfl 5 (nlt rfl) w4 (fun _ h9 => h9) rfl dX8_advance_186 ?_
  refine lv_iconst (v := 1) hx hb dX8_advance_189 z39 ?_
  refine lv_icmp_ne (tgt := 199) hx hb dX8_advance_190 z1269 (fun _ => ?_) (fun c1 => absurd c1 (z1268))
  refine W.widen (k := 0) (n := 0) (by decide +kernel) (by decide +kernel) ?_
  exact ret_v hx hb hr hlocks hS (u := (fun _ => 0)) (hP.sub [0] rfl) (hD.sub [0] (by decide +kernel) rfl) dX8_advance_199

set_option maxHeartbeats 4000000 in
set_option maxRecDepth 100000 in
theorem k42_X8_begin (l : Launch) (dC : Nat → ClassId) (dI : Nat → Nat → Nat) (cB cI cJ cZ cO : ClassId) (r : Nat → Nat) : CV l yX8_begin wsX8_begin ({ frames := 1, cells := 0, slots := 0, locals := 21 }) (dC, dI) (tyL cB cI cJ cZ cO) [.ref (r 3), .ref (r 1), .int 0] [((r 3), .inr (8, [.ref (r 4), .ref (r 5), .int 0, .int 0, .int 0, .int 0, .long 0, .int 0, .int 0, .int (-1)])), ((r 1), .inl (cB, 1600, .inl (fun _ => 0)))] (fun u => [((r 3), .inr (8, [.ref (r 4), .ref (r 1), .int 0, .int 0, .int 0, .int 0, .long 0, .int 0, .int 0, .int (-1)])), ((r 1), .inl (cB, 1600, .inl (fun _ => 0)))]) := by
  intro sz
  refine ct_open (cc := cX8_begin) (maxL := 3) (ret := none) (by decide) rfl (Nat.le_of_ble_eq_true rfl) ?_
  intro p e s m below meth c ls A hx hb hr hml hts hown hlocks hin hP hK hD hA hS hl
  have hl : lv_has ls 3 [(0, .ref (r 3)), (1, .ref (r 1)), (2, .int 0)] := hl
  have hown : s.vm.findClass RX8 = some m.cls := hown
  have i8 : ∀ w ∈ u_ws RX8 TX8 10, w ∈ wsX8_begin := fun _ h => List.mem_cons_of_mem _ (List.mem_append_right _ h)
  have w1 := hts (.fieldLink RX8 31 "GuildCharter$Tokens" "text" "[B") (List.mem_cons_of_mem _ (List.mem_append_left _ (List.mem_append_left _ (List.mem_of_getElem? (i := 0) rfl))))
  have w2 := hts (.methodLink RX8 48 Lib.Math.min.name) (List.mem_cons_of_mem _ (List.mem_append_left _ (List.mem_append_left _ (List.mem_of_getElem? (i := 1) rfl))))
  have w3 := hts (.static Lib.Math.min.name) (List.mem_cons_of_mem _ (List.mem_append_left _ (List.mem_append_left _ (List.mem_of_getElem? (i := 2) rfl))))
  have w4 := hts (.initialized "java/lang/Math") (List.mem_cons_of_mem _ (List.mem_append_left _ (List.mem_append_left _ (List.mem_of_getElem? (i := 3) rfl))))
  have w5 := hts (.code Lib.Math.min.name Lib.Math.min.code 2 (some .int)) (List.mem_cons_of_mem _ (List.mem_append_left _ (List.mem_append_left _ (List.mem_of_getElem? (i := 4) rfl))))
  have w6 := hts (.fieldLink RX8 54 "GuildCharter$Tokens" "size" "I") (List.mem_cons_of_mem _ (List.mem_append_left _ (List.mem_append_left _ (List.mem_of_getElem? (i := 5) rfl))))
  have w7 := hts (.fieldLink RX8 57 "GuildCharter$Tokens" "behind" "I") (List.mem_cons_of_mem _ (List.mem_append_left _ (List.mem_append_left _ (List.mem_of_getElem? (i := 6) rfl))))
  have w8 := hts (.fieldLink RX8 60 "GuildCharter$Tokens" "fault" "I") (List.mem_cons_of_mem _ (List.mem_append_left _ (List.mem_append_left _ (List.mem_of_getElem? (i := 7) rfl))))
  have w9 := hts (.fieldLink RX8 35 "GuildCharter$Tokens" "faultPlace" "I") (List.mem_cons_of_mem _ (List.mem_append_left _ (List.mem_append_left _ (List.mem_of_getElem? (i := 8) rfl))))
  refine lv_aload_n hx hb dX8_begin_0 rfl (lv_at hl 0 rfl) ?_
  refine lv_aload_n hx hb dX8_begin_1 rfl (lv_at hl 1 rfl) ?_
  refine va_put (D := (dC, dI)) (ci := 8) (v := .ref (r 1)) (ty := tyX8 1) (C := RX8) (T := TX8) (N := 10) hx hb hts i8 tyX8 tyX8_ok nmX8 hown hK hP hD hS 0 rfl rfl 1 (nlt rfl) w1 (fun _ h9 => h9) rfl (tyX8_ok 1 (nlt rfl)) rfl rfl (nlt rfl) dX8_begin_2 (fun H locs hP hD hS => ?_)
  refine lv_aload_n hx hb dX8_begin_5 rfl (lv_at hl 0 rfl) ?_
  refine lv_iload_n hx hb dX8_begin_6 rfl (lv_at hl 2 rfl) ?_
  refine lv_aload_n hx hb dX8_begin_7 rfl (lv_at hl 1 rfl) ?_
  refine va_alen hx hb hK hP 1 0 rfl rfl (v := 1600) rfl dX8_begin_8 ?_
  refine va_mmin hx hb (by rw [hml]; exact hl.1.symm) hown w2 w3 w4 w5 (by decide +kernel) (by decide +kernel) (by decide +kernel) (by decide +kernel) dX8_begin_9 ?_
  refine tpi (v := 0) (by decide +kernel) ?_
  refine va_put (D := (dC, dI)) (ci := 8) (v := .int 0) (ty := tyX8 2) (C := RX8) (T := TX8) (N := 10) hx hb hts i8 tyX8 tyX8_ok nmX8 hown hK hP hD hS 0 rfl rfl 2 (nlt rfl) w6 (fun _ h9 => h9) rfl (tyX8_ok 2 (nlt rfl)) rfl rfl (nlt rfl) dX8_begin_12 (fun H locs hP hD hS => ?_)
  refine lv_aload_n hx hb dX8_begin_15 rfl (lv_at hl 0 rfl) ?_
  refine lv_iconst (v := 0) hx hb dX8_begin_16 z8 ?_
  refine va_put (D := (dC, dI)) (ci := 8) (v := .int 0) (ty := tyX8 3) (C := RX8) (T := TX8) (N := 10) hx hb hts i8 tyX8 tyX8_ok nmX8 hown hK hP hD hS 0 rfl rfl 3 (nlt rfl) w7 (fun _ h9 => h9) rfl (tyX8_ok 3 (nlt rfl)) rfl rfl (nlt rfl) dX8_begin_17 (fun H locs hP hD hS => ?_)
  refine lv_aload_n hx hb dX8_begin_20 rfl (lv_at hl 0 rfl) ?_
  refine lv_iconst (v := 0) hx hb dX8_begin_21 z8 ?_
  refine va_put (D := (dC, dI)) (ci := 8) (v := .int 0) (ty := tyX8 8) (C := RX8) (T := TX8) (N := 10) hx hb hts i8 tyX8 tyX8_ok nmX8 hown hK hP hD hS 0 rfl rfl 8 (nlt rfl) w8 (fun _ h9 => h9) rfl (tyX8_ok 8 (nlt rfl)) rfl rfl (nlt rfl) dX8_begin_22 (fun H locs hP hD hS => ?_)
  refine lv_aload_n hx hb dX8_begin_25 rfl (lv_at hl 0 rfl) ?_
  refine lv_iconst (v := (-1)) hx hb dX8_begin_26 z128 ?_
  refine va_put (D := (dC, dI)) (ci := 8) (v := .int (-1)) (ty := tyX8 9) (C := RX8) (T := TX8) (N := 10) hx hb hts i8 tyX8 tyX8_ok nmX8 hown hK hP hD hS 0 rfl rfl 9 (nlt rfl) w9 (fun _ h9 => h9) rfl (tyX8_ok 9 (nlt rfl)) rfl rfl (nlt rfl) dX8_begin_27 (fun H locs hP hD hS => ?_)
  refine lv_aload_n hx hb dX8_begin_30 rfl (lv_at hl 0 rfl) ?_
  refine call_vV (ci := 8) (As := []) (rest := []) (wr := [((r 1), .inl (cB, 1600, .inl (fun _ => 0)))]) ⟨hx, hb, hml, hown, hts⟩ (k41_X8_advance l dC dI cB cI cJ cZ cO r) (cwV 0 hts gX8_begin_X8_advance rfl rfl rfl ⟨rfl, z1270⟩ ⟨Nat.le_of_ble_eq_true rfl, Nat.le_of_ble_eq_true rfl⟩) hK hP hD hS hA [0] [1] rfl rfl (by decide +kernel) (by decide +kernel) (by decide +kernel) rfl rfl rfl hl.1 (Nat.le_of_ble_eq_true rfl) rfl rfl dX8_begin_31 ⟨by decide +kernel, by decide +kernel⟩ (fun u0 H locs hP hD hS => ?_)
  refine W.widen (k := 0) (n := 0) (by decide +kernel) (by decide +kernel) ?_
  exact ret_v hx hb hr hlocks hS (u := (fun _ => 0)) (hP.sub [1, 0] rfl) (hD.sub [1, 0] (by decide +kernel) rfl) dX8_begin_34

set_option maxHeartbeats 4000000 in
set_option maxRecDepth 100000 in
theorem k43_X2_bindParts (l : Launch) (dC : Nat → ClassId) (dI : Nat → Nat → Nat) (cB cI cJ cZ cO : ClassId) (r : Nat → Nat) : CI l yX2_bindParts wsX2_bindParts ({ frames := 0, cells := 0, slots := 0, locals := 0 }) (dC, dI) (tyL cB cI cJ cZ cO) [.ref (r 2)] [((r 2), .inr (2, [.ref (r 3), .ref (r 28), .ref (r 16), .ref (r 17)])), ((r 28), .inr (4, [.int 0, .ref (r 29), .ref (r 30), .int 0, .ref (r 31), .ref (r 32), .int 0, .ref (r 33), .ref (r 34), .int 0, .ref (r 35), .ref (r 36), .int 3, .int 0, .int 0, .ref (r 37)]))] (fun u => [((r 2), .inr (2, [.ref (r 3), .ref (r 28), .ref (r 16), .ref (r 17)])), ((r 28), .inr (4, [.int 0, .ref (r 29), .ref (r 30), .int 0, .ref (r 31), .ref (r 32), .int 0, .ref (r 33), .ref (r 34), .int 0, .ref (r 35), .ref (r 36), .int 3, .int 0, .int 0, .ref (r 37)]))]) 1 := by
  intro sz
  refine ct_open (cc := cX2_bindParts) (maxL := 3) (ret := (some .boolean)) (by decide) rfl (Nat.le_of_ble_eq_true rfl) ?_
  intro p e s m below meth c ls A hx hb hr hml hts hown hlocks hin hP hK hD hA hS hl
  have hl : lv_has ls 3 [(0, .ref (r 2))] := hl
  have hown : s.vm.findClass RX2 = some m.cls := hown
  have i2 : ∀ w ∈ u_ws RX2 TX2 4, w ∈ wsX2_bindParts := fun _ h => List.mem_cons_of_mem _ (List.mem_append_left _ (List.mem_append_left _ (List.mem_append_right _ h)))
  have w1 := hts (.fieldLink RX2 21 "GuildCharter$Parser" "port" "LGuildCharter$Port;") (List.mem_cons_of_mem _ (List.mem_append_left _ (List.mem_append_left _ (List.mem_append_left _ (List.mem_append_left _ (List.mem_of_getElem? (i := 0) rfl))))))
  have i4 : ∀ w ∈ u_ws RX4 TX4 16, w ∈ wsX2_bindParts := fun _ h => List.mem_cons_of_mem _ (List.mem_append_left _ (List.mem_append_right _ h))
  have w3 := hts (.fieldLink RX2 132 "GuildCharter$Port" "rules" "I") (List.mem_cons_of_mem _ (List.mem_append_left _ (List.mem_append_left _ (List.mem_append_left _ (List.mem_append_left _ (List.mem_of_getElem? (i := 1) rfl))))))
  refine lv_iconst (v := 0) hx hb dX2_bindParts_0 z8 ?_
  refine lv_istore_n (lv' := [(1, .int 0), (0, .ref (r 2))]) hx hb dX2_bindParts_1 rfl hl (nlt rfl) rfl (fun ls hl => ?_)
  refine lv_iload_n hx hb dX2_bindParts_2 rfl (lv_at hl 0 rfl) ?_
  refine lv_aload_n hx hb dX2_bindParts_3 rfl (lv_at hl 1 rfl) ?_
  refine va_get (D := (dC, dI)) (ci := 2) (v := .ref (r 28)) (C := RX2) (T := TX2) (N := 4) hx hb hts i2 hown hK hP 0 rfl rfl 1 (nlt rfl) w1 (fun _ h9 => h9) rfl dX2_bindParts_4 ?_
  refine va_get (D := (dC, dI)) (ci := 4) (v := .int 0) (C := RX4) (T := TX4) (N := 16) hx hb hts i4 hown hK hP 1 rfl rfl 6 (nlt rfl) w3 (fun _ h9 => h9) rfl dX2_bindParts_7 ?_
  refine lv_icmp_ge (tgt := 61) hx hb dX2_bindParts_10 z1277 (fun _ => ?_) (fun c1 => absurd (z682) c1)
  refine lv_iconst (v := 1) hx hb dX2_bindParts_61 z39 ?_
  refine W.widen (k := 0) (n := 0) (by decide +kernel) (by decide +kernel) ?_
  exact ret_z hx hb hr rfl hlocks hS (u := (fun _ => 0)) (hP.sub [0, 1] rfl) (hD.sub [0, 1] (by decide +kernel) rfl) dX2_bindParts_62

set_option maxHeartbeats 4000000 in
set_option maxRecDepth 100000 in
theorem k44_X2_readsInto (l : Launch) (dC : Nat → ClassId) (dI : Nat → Nat → Nat) (cB cI cJ cZ cO : ClassId) (r : Nat → Nat) : CI l yX2_readsInto wsX2_readsInto ({ frames := 2, cells := 0, slots := 0, locals := 44 }) (dC, dI) (tyL cB cI cJ cZ cO) [.ref (r 2), .ref (r 28), .ref (r 1), .int 0] [((r 2), .inr (2, [.ref (r 3), .ref (r 6), .ref (r 16), .ref (r 17)])), ((r 28), .inr (4, [.int 0, .ref (r 29), .ref (r 30), .int 0, .ref (r 31), .ref (r 32), .int 0, .ref (r 33), .ref (r 34), .int 0, .ref (r 35), .ref (r 36), .int 3, .int 0, .int 0, .ref (r 37)])), ((r 32), .inl (cI, 192, .inl (fun _ => 0))), ((r 31), .inl (cZ, 64, .inl (fun _ => 0))), ((r 34), .inl (cI, 9, .inl (fun _ => 0))), ((r 3), .inr (8, [.ref (r 4), .ref (r 5), .int 0, .int 0, .int 0, .int 0, .long 0, .int 0, .int 0, .int (-1)])), ((r 1), .inl (cB, 1600, .inl (fun _ => 0)))] (fun u => [((r 2), .inr (2, [.ref (r 3), .ref (r 28), .ref (r 16), .ref (r 17)])), ((r 28), .inr (4, [.int 0, .ref (r 29), .ref (r 30), .int 0, .ref (r 31), .ref (r 32), .int 0, .ref (r 33), .ref (r 34), .int 0, .ref (r 35), .ref (r 36), .int 3, .int 0, .int 0, .ref (r 37)])), ((r 32), .inl (cI, 192, .inl (fun _ => 0))), ((r 31), .inl (cZ, 64, .inl (fun _ => 0))), ((r 34), .inl (cI, 9, .inl (fun _ => 0))), ((r 3), .inr (8, [.ref (r 4), .ref (r 1), .int 0, .int 0, .int 0, .int 0, .long 0, .int 0, .int 0, .int (-1)])), ((r 1), .inl (cB, 1600, .inl (fun _ => 0)))]) 1 := by
  intro sz
  refine ct_open (cc := cX2_readsInto) (maxL := 6) (ret := (some .boolean)) (by decide) rfl (Nat.le_of_ble_eq_true rfl) ?_
  intro p e s m below meth c ls A hx hb hr hml hts hown hlocks hin hP hK hD hA hS hl
  have hl : lv_has ls 6 [(0, .ref (r 2)), (1, .ref (r 28)), (2, .ref (r 1)), (3, .int 0)] := hl
  have hown : s.vm.findClass RX2 = some m.cls := hown
  have i2 : ∀ w ∈ u_ws RX2 TX2 4, w ∈ wsX2_readsInto := fun _ h => List.mem_cons_of_mem _ (List.mem_append_left _ (List.mem_append_left _ (List.mem_append_right _ h)))
  have w1 := hts (.fieldLink RX2 21 "GuildCharter$Parser" "port" "LGuildCharter$Port;") (List.mem_cons_of_mem _ (List.mem_append_left _ (List.mem_append_left _ (List.mem_append_left _ (List.mem_append_left _ (List.mem_of_getElem? (i := 0) rfl))))))
  have w2 := hts (.fieldLink RX2 12 "GuildCharter$Parser" "tokens" "LGuildCharter$Tokens;") (List.mem_cons_of_mem _ (List.mem_append_left _ (List.mem_append_left _ (List.mem_append_left _ (List.mem_append_left _ (List.mem_of_getElem? (i := 1) rfl))))))
  have i8 : ∀ w ∈ u_ws RX8 TX8 10, w ∈ wsX2_readsInto := fun _ h => List.mem_cons_of_mem _ (List.mem_append_left _ (List.mem_append_right _ h))
  have w4 := hts (.fieldLink RX2 40 "GuildCharter$Tokens" "fault" "I") (List.mem_cons_of_mem _ (List.mem_append_left _ (List.mem_append_left _ (List.mem_append_left _ (List.mem_append_left _ (List.mem_of_getElem? (i := 2) rfl))))))
  have w5 := hts (.fieldLink RX2 44 "GuildCharter$Tokens" "kind" "I") (List.mem_cons_of_mem _ (List.mem_append_left _ (List.mem_append_left _ (List.mem_append_left _ (List.mem_append_left _ (List.mem_of_getElem? (i := 3) rfl))))))
  refine lv_aload_n hx hb dX2_readsInto_0 rfl (lv_at hl 0 rfl) ?_
  refine lv_aload_n hx hb dX2_readsInto_1 rfl (lv_at hl 1 rfl) ?_
  refine va_put (D := (dC, dI)) (ci := 2) (v := .ref (r 28)) (ty := tyX2 1) (C := RX2) (T := TX2) (N := 4) hx hb hts i2 tyX2 tyX2_ok nmX2 hown hK hP hD hS 0 rfl rfl 1 (nlt rfl) w1 (fun _ h9 => h9) rfl (tyX2_ok 1 (nlt rfl)) rfl rfl (nlt rfl) dX2_readsInto_2 (fun H locs hP hD hS => ?_)
  refine lv_aload_n hx hb dX2_readsInto_5 rfl (lv_at hl 0 rfl) ?_
  refine va_get (D := (dC, dI)) (ci := 2) (v := .ref (r 28)) (C := RX2) (T := TX2) (N := 4) hx hb hts i2 hown hK hP 0 rfl rfl 1 (nlt rfl) w1 (fun _ h9 => h9) rfl dX2_readsInto_6 ?_
  refine call_vV (ci := 4) (As := []) (rest := []) (wr := [((r 2), .inr (2, [.ref (r 3), .ref (r 28), .ref (r 16), .ref (r 17)])), ((r 3), .inr (8, [.ref (r 4), .ref (r 5), .int 0, .int 0, .int 0, .int 0, .long 0, .int 0, .int 0, .int (-1)])), ((r 1), .inl (cB, 1600, .inl (fun _ => 0)))]) ⟨hx, hb, hml, hown, hts⟩ (k40_X4_empty l dC dI cB cI cJ cZ cO r) (cwV 0 hts gX2_readsInto_X4_empty rfl rfl rfl ⟨rfl, z1280⟩ ⟨Nat.le_of_ble_eq_true rfl, Nat.le_of_ble_eq_true rfl⟩) hK hP hD hS hA [1, 2, 3, 4] [0, 5, 6] rfl rfl (by decide +kernel) (by decide +kernel) (by decide +kernel) rfl rfl rfl hl.1 (Nat.le_of_ble_eq_true rfl) rfl rfl dX2_readsInto_9 ⟨by decide +kernel, by decide +kernel⟩ (fun u0 H locs hP hD hS => ?_)
  refine lv_aload_n hx hb dX2_readsInto_12 rfl (lv_at hl 0 rfl) ?_
  refine va_get (D := (dC, dI)) (ci := 2) (v := .ref (r 3)) (C := RX2) (T := TX2) (N := 4) hx hb hts i2 hown hK hP 0 rfl rfl 0 (nlt rfl) w2 (fun _ h9 => h9) rfl dX2_readsInto_13 ?_
  refine lv_aload_n hx hb dX2_readsInto_16 rfl (lv_at hl 2 rfl) ?_
  refine lv_iload_n hx hb dX2_readsInto_17 rfl (lv_at hl 3 rfl) ?_
  refine call_vV (ci := 8) (As := [.ref (r 1), .int 0]) (rest := []) (wr := [((r 2), .inr (2, [.ref (r 3), .ref (r 28), .ref (r 16), .ref (r 17)])), ((r 28), .inr (4, [.int 0, .ref (r 29), .ref (r 30), .int 0, .ref (r 31), .ref (r 32), .int 0, .ref (r 33), .ref (r 34), .int 0, .ref (r 35), .ref (r 36), .int 3, .int 0, .int 0, .ref (r 37)])), ((r 32), .inl (cI, 192, .inl (fun _ => 0))), ((r 31), .inl (cZ, 64, .inl (fun _ => 0))), ((r 34), .inl (cI, 9, .inl (fun _ => 0)))]) ⟨hx, hb, hml, hown, hts⟩ (k42_X8_begin l dC dI cB cI cJ cZ cO r) (cwV 2 hts gX2_readsInto_X8_begin rfl rfl rfl ⟨rfl, z1281⟩ ⟨Nat.le_of_ble_eq_true rfl, Nat.le_of_ble_eq_true rfl⟩) hK hP hD hS hA [1, 2] [0, 3, 4, 5, 6] rfl rfl (by decide +kernel) (by decide +kernel) (by decide +kernel) rfl rfl rfl hl.1 (Nat.le_of_ble_eq_true rfl) rfl rfl dX2_readsInto_18 ⟨by decide +kernel, by decide +kernel⟩ (fun u1 H locs hP hD hS => ?_)
  refine lv_aload_n hx hb dX2_readsInto_21 rfl (lv_at hl 0 rfl) ?_
  refine va_get (D := (dC, dI)) (ci := 2) (v := .ref (r 3)) (C := RX2) (T := TX2) (N := 4) hx hb hts i2 hown hK hP 0 rfl rfl 0 (nlt rfl) w2 (fun _ h9 => h9) rfl dX2_readsInto_22 ?_
  refine va_get (D := (dC, dI)) (ci := 8) (v := .int 0) (C := RX8) (T := TX8) (N := 10) hx hb hts i8 hown hK hP 5 rfl rfl 8 (nlt rfl) w4 (fun _ h9 => h9) rfl dX2_readsInto_25 ?_
  refine lv_if_ne (tgt := 35) hx hb dX2_readsInto_28 z534 (fun c1 => absurd (rfl) c1) (fun _ => ?_)
  refine lv_iconst (v := 1) hx hb dX2_readsInto_31 z39 ?_
  refine lv_goto (tgt := 36) hx hb dX2_readsInto_32 z1271 ?_
  refine lv_istore (lv' := [(4, .int 1), (0, .ref (r 2)), (1, .ref (r 28)), (2, .ref (r 1)), (3, .int 0)]) hx hb dX2_readsInto_36 hl (nlt rfl) rfl (fun ls hl => ?_)
  refine lv_iconst (v := 0) hx hb dX2_readsInto_38 z8 ?_
  refine lv_istore (lv' := [(5, .int 0), (4, .int 1), (0, .ref (r 2)), (1, .ref (r 28)), (2, .ref (r 1)), (3, .int 0)]) hx hb dX2_readsInto_39 hl (nlt rfl) rfl (fun ls hl => ?_)
  refine lv_iload hx hb dX2_readsInto_41 (lv_at hl 0 rfl) ?_
  refine lv_sipush (v := 1600) hx hb dX2_readsInto_43 z0 ?_
  refine lv_icmp_ge (tgt := 189) hx hb dX2_readsInto_46 z1272 (fun c1 => absurd c1 (z464)) (fun _ => ?_)
  refine lv_iload hx hb dX2_readsInto_49 (lv_at hl 1 rfl) ?_
  refine lv_if_eq (tgt := 189) hx hb dX2_readsInto_51 z1274 (fun c1 => absurd c1 (z1273)) (fun _ => ?_)
  refine lv_aload_n hx hb dX2_readsInto_54 rfl (lv_at hl 2 rfl) ?_
  refine va_get (D := (dC, dI)) (ci := 2) (v := .ref (r 3)) (C := RX2) (T := TX2) (N := 4) hx hb hts i2 hown hK hP 0 rfl rfl 0 (nlt rfl) w2 (fun _ h9 => h9) rfl dX2_readsInto_55 ?_
  refine va_get (D := (dC, dI)) (ci := 8) (v := .int 0) (C := RX8) (T := TX8) (N := 10) hx hb hts i8 hown hK hP 5 rfl rfl 5 (nlt rfl) w5 (fun _ h9 => h9) rfl dX2_readsInto_58 ?_
  refine lv_if_eq (tgt := 189) hx hb dX2_readsInto_61 z1275 (fun _ => ?_) (fun c1 => absurd (rfl) c1)
  refine lv_iload hx hb dX2_readsInto_189 (lv_at hl 1 rfl) ?_
  refine lv_if_eq (tgt := 205) hx hb dX2_readsInto_191 z1276 (fun c1 => absurd c1 (z1273)) (fun _ => ?_)
  refine lv_aload_n hx hb dX2_readsInto_194 rfl (lv_at hl 2 rfl) ?_
  refine call_iV (ci := 2) (As := []) (rest := []) (wr := [((r 32), .inl (cI, 192, .inl (fun _ => 0))), ((r 31), .inl (cZ, 64, .inl (fun _ => 0))), ((r 34), .inl (cI, 9, .inl (fun _ => 0))), ((r 3), .inr (8, [.ref (r 4), .ref (r 1), .int 0, .int 0, .int 0, .int 0, .long 0, .int 0, .int 0, .int (-1)])), ((r 1), .inl (cB, 1600, .inl (fun _ => 0)))]) ⟨hx, hb, hml, hown, hts⟩ (k43_X2_bindParts l dC dI cB cI cJ cZ cO r) (cwV 0 hts gX2_readsInto_X2_bindParts rfl rfl rfl ⟨rfl, z1282⟩ ⟨Nat.le_of_ble_eq_true rfl, Nat.le_of_ble_eq_true rfl⟩) hK hP hD hS hA [0, 1] [2, 3, 4, 5, 6] rfl rfl (by decide +kernel) (by decide +kernel) (by decide +kernel) rfl rfl rfl hl.1 (Nat.le_of_ble_eq_true rfl) rfl rfl dX2_readsInto_195 ⟨by decide +kernel, by decide +kernel⟩ (fun u2 H locs hP hD hS => ?_)
  refine lv_if_eq (tgt := 205) hx hb dX2_readsInto_198 z1278 (fun c1 => absurd c1 (z1273)) (fun _ => ?_)
  refine lv_iconst (v := 1) hx hb dX2_readsInto_201 z39 ?_
  refine lv_goto (tgt := 206) hx hb dX2_readsInto_202 z1279 ?_
  refine W.widen (k := 0) (n := 0) (by decide +kernel) (by decide +kernel) ?_
  exact ret_z hx hb hr rfl hlocks hS (u := (fun _ => 0)) (hP.sub [5, 6, 0, 1, 2, 3, 4] rfl) (hD.sub [5, 6, 0, 1, 2, 3, 4] (by decide +kernel) rfl) dX2_readsInto_206

set_option maxHeartbeats 4000000 in
set_option maxRecDepth 100000 in
theorem k45_J7_fill_53178 (l : Launch) (dC : Nat → ClassId) (dI : Nat → Nat → Nat) (cB cI cJ cZ cO : ClassId) (r : Nat → Nat) : CV l yJ7_fill_53178 wsJ7_fill_53178 ({ frames := 0, cells := 0, slots := 0, locals := 0 }) (dC, dI) (tyL cB cI cJ cZ cO) [.ref (r 40), .int (-1)] [((r 40), .inl (cI, 6, .inl (upd (upd (upd (upd (upd (upd (fun _ => 0) 0 (-1)) 1 (-1)) 2 (-1)) 3 (-1)) 4 (-1)) 5 (-1))))] (fun u => [((r 40), .inl (cI, 6, .inl (upd (upd (upd (upd (upd (upd (fun _ => 0) 0 (-1)) 1 (-1)) 2 (-1)) 3 (-1)) 4 (-1)) 5 (-1))))]) := by
  intro sz
  refine ct_open (cc := cJ7_fill_53178) (maxL := 4) (ret := none) (by decide) rfl (Nat.le_of_ble_eq_true rfl) ?_
  intro p e s m below meth c ls A hx hb hr hml hts hown hlocks hin hP hK hD hA hS hl
  have hl : lv_has ls 4 [(0, .ref (r 40)), (1, .int (-1))] := hl
  have hown : s.vm.findClass RJ7 = some m.cls := hown
  refine lv_iconst (v := 0) hx hb dJ7_fill_53178_0 z8 ?_
  refine lv_istore_n (lv' := [(2, .int 0), (0, .ref (r 40)), (1, .int (-1))]) hx hb dJ7_fill_53178_1 rfl hl (nlt rfl) rfl (fun ls hl => ?_)
  refine lv_aload_n hx hb dJ7_fill_53178_2 rfl (lv_at hl 1 rfl) ?_
  refine va_alen hx hb hK hP 0 1 rfl rfl (v := 6) rfl dJ7_fill_53178_3 ?_
  refine lv_istore_n (lv' := [(3, .int 6), (2, .int 0), (0, .ref (r 40)), (1, .int (-1))]) hx hb dJ7_fill_53178_4 rfl hl (nlt rfl) rfl (fun ls hl => ?_)
  refine lv_iload_n hx hb dJ7_fill_53178_5 rfl (lv_at hl 1 rfl) ?_
  refine lv_iload_n hx hb dJ7_fill_53178_6 rfl (lv_at hl 0 rfl) ?_
  refine lv_icmp_ge (tgt := 20) hx hb dJ7_fill_53178_7 z162 (fun c1 => absurd c1 (z78)) (fun _ => ?_)
  refine lv_aload_n hx hb dJ7_fill_53178_10 rfl (lv_at hl 2 rfl) ?_
  refine lv_iload_n hx hb dJ7_fill_53178_11 rfl (lv_at hl 1 rfl) ?_
  refine lv_iload_n hx hb dJ7_fill_53178_12 rfl (lv_at hl 3 rfl) ?_
  refine my_iastS hx hb hK hP hD hS 0 1 rfl rfl z38 rfl dJ7_fill_53178_13 (fun H locs hP hD hS => ?_)
  refine lv_iinc (v := 1) (lv' := [(2, .int 1), (3, .int 6), (0, .ref (r 40)), (1, .int (-1))]) hx hb dJ7_fill_53178_14 hl (k := 1) rfl z17 (nlt rfl) rfl (fun ls hl => ?_)
  refine lv_goto (tgt := 5) hx hb dJ7_fill_53178_17 z163 ?_
  refine lv_iload_n hx hb dJ7_fill_53178_5 rfl (lv_at hl 0 rfl) ?_
  refine lv_iload_n hx hb dJ7_fill_53178_6 rfl (lv_at hl 1 rfl) ?_
  refine lv_icmp_ge (tgt := 20) hx hb dJ7_fill_53178_7 z162 (fun c1 => absurd c1 (z80)) (fun _ => ?_)
  refine lv_aload_n hx hb dJ7_fill_53178_10 rfl (lv_at hl 2 rfl) ?_
  refine lv_iload_n hx hb dJ7_fill_53178_11 rfl (lv_at hl 0 rfl) ?_
  refine lv_iload_n hx hb dJ7_fill_53178_12 rfl (lv_at hl 3 rfl) ?_
  refine my_iastS hx hb hK hP hD hS 0 1 rfl rfl z53 rfl dJ7_fill_53178_13 (fun H locs hP hD hS => ?_)
  refine lv_iinc (v := 2) (lv' := [(2, .int 2), (3, .int 6), (0, .ref (r 40)), (1, .int (-1))]) hx hb dJ7_fill_53178_14 hl (k := 0) rfl z24 (nlt rfl) rfl (fun ls hl => ?_)
  refine lv_goto (tgt := 5) hx hb dJ7_fill_53178_17 z163 ?_
  refine lv_iload_n hx hb dJ7_fill_53178_5 rfl (lv_at hl 0 rfl) ?_
  refine lv_iload_n hx hb dJ7_fill_53178_6 rfl (lv_at hl 1 rfl) ?_
  refine lv_icmp_ge (tgt := 20) hx hb dJ7_fill_53178_7 z162 (fun c1 => absurd c1 (z83)) (fun _ => ?_)
  refine lv_aload_n hx hb dJ7_fill_53178_10 rfl (lv_at hl 2 rfl) ?_
  refine lv_iload_n hx hb dJ7_fill_53178_11 rfl (lv_at hl 0 rfl) ?_
  refine lv_iload_n hx hb dJ7_fill_53178_12 rfl (lv_at hl 3 rfl) ?_
  refine my_iastS hx hb hK hP hD hS 0 1 rfl rfl z68 rfl dJ7_fill_53178_13 (fun H locs hP hD hS => ?_)
  refine lv_iinc (v := 3) (lv' := [(2, .int 3), (3, .int 6), (0, .ref (r 40)), (1, .int (-1))]) hx hb dJ7_fill_53178_14 hl (k := 0) rfl z30 (nlt rfl) rfl (fun ls hl => ?_)
  refine lv_goto (tgt := 5) hx hb dJ7_fill_53178_17 z163 ?_
  refine lv_iload_n hx hb dJ7_fill_53178_5 rfl (lv_at hl 0 rfl) ?_
  refine lv_iload_n hx hb dJ7_fill_53178_6 rfl (lv_at hl 1 rfl) ?_
  refine lv_icmp_ge (tgt := 20) hx hb dJ7_fill_53178_7 z162 (fun c1 => absurd c1 (z88)) (fun _ => ?_)
  refine lv_aload_n hx hb dJ7_fill_53178_10 rfl (lv_at hl 2 rfl) ?_
  refine lv_iload_n hx hb dJ7_fill_53178_11 rfl (lv_at hl 0 rfl) ?_
  refine lv_iload_n hx hb dJ7_fill_53178_12 rfl (lv_at hl 3 rfl) ?_
  refine my_iastS hx hb hK hP hD hS 0 1 rfl rfl z76 rfl dJ7_fill_53178_13 (fun H locs hP hD hS => ?_)
  refine lv_iinc (v := 4) (lv' := [(2, .int 4), (3, .int 6), (0, .ref (r 40)), (1, .int (-1))]) hx hb dJ7_fill_53178_14 hl (k := 0) rfl z36 (nlt rfl) rfl (fun ls hl => ?_)
  refine lv_goto (tgt := 5) hx hb dJ7_fill_53178_17 z163 ?_
  refine lv_iload_n hx hb dJ7_fill_53178_5 rfl (lv_at hl 0 rfl) ?_
  refine lv_iload_n hx hb dJ7_fill_53178_6 rfl (lv_at hl 1 rfl) ?_
  refine lv_icmp_ge (tgt := 20) hx hb dJ7_fill_53178_7 z162 (fun c1 => absurd c1 (z93)) (fun _ => ?_)
  refine lv_aload_n hx hb dJ7_fill_53178_10 rfl (lv_at hl 2 rfl) ?_
  refine lv_iload_n hx hb dJ7_fill_53178_11 rfl (lv_at hl 0 rfl) ?_
  refine lv_iload_n hx hb dJ7_fill_53178_12 rfl (lv_at hl 3 rfl) ?_
  refine my_iastS hx hb hK hP hD hS 0 1 rfl rfl z106 rfl dJ7_fill_53178_13 (fun H locs hP hD hS => ?_)
  refine lv_iinc (v := 5) (lv' := [(2, .int 5), (3, .int 6), (0, .ref (r 40)), (1, .int (-1))]) hx hb dJ7_fill_53178_14 hl (k := 0) rfl z98 (nlt rfl) rfl (fun ls hl => ?_)
  refine lv_goto (tgt := 5) hx hb dJ7_fill_53178_17 z163 ?_
  refine lv_iload_n hx hb dJ7_fill_53178_5 rfl (lv_at hl 0 rfl) ?_
  refine lv_iload_n hx hb dJ7_fill_53178_6 rfl (lv_at hl 1 rfl) ?_
  refine lv_icmp_ge (tgt := 20) hx hb dJ7_fill_53178_7 z162 (fun c1 => absurd c1 (z99)) (fun _ => ?_)
  refine lv_aload_n hx hb dJ7_fill_53178_10 rfl (lv_at hl 2 rfl) ?_
  refine lv_iload_n hx hb dJ7_fill_53178_11 rfl (lv_at hl 0 rfl) ?_
  refine lv_iload_n hx hb dJ7_fill_53178_12 rfl (lv_at hl 3 rfl) ?_
  refine my_iastS hx hb hK hP hD hS 0 1 rfl rfl z124 rfl dJ7_fill_53178_13 (fun H locs hP hD hS => ?_)
  refine lv_iinc (v := 6) (lv' := [(2, .int 6), (3, .int 6), (0, .ref (r 40)), (1, .int (-1))]) hx hb dJ7_fill_53178_14 hl (k := 0) rfl z104 (nlt rfl) rfl (fun ls hl => ?_)
  refine lv_goto (tgt := 5) hx hb dJ7_fill_53178_17 z163 ?_
  refine lv_iload_n hx hb dJ7_fill_53178_5 rfl (lv_at hl 0 rfl) ?_
  refine lv_iload_n hx hb dJ7_fill_53178_6 rfl (lv_at hl 1 rfl) ?_
  refine lv_icmp_ge (tgt := 20) hx hb dJ7_fill_53178_7 z162 (fun _ => ?_) (fun c1 => absurd (z105) c1)
  refine W.widen (k := 0) (n := 0) (by decide +kernel) (by decide +kernel) ?_
  exact ret_v hx hb hr hlocks hS (u := (fun _ => 0)) (hP.sub [0] rfl) (hD.sub [0] (by decide +kernel) rfl) dJ7_fill_53178_20

set_option maxHeartbeats 4000000 in
set_option maxRecDepth 100000 in
theorem k46_X0_forgetActs (l : Launch) (dC : Nat → ClassId) (dI : Nat → Nat → Nat) (cB cI cJ cZ cO : ClassId) (r : Nat → Nat) : CV l yX0_forgetActs wsX0_forgetActs ({ frames := 0, cells := 0, slots := 0, locals := 0 }) (dC, dI) (tyL cB cI cJ cZ cO) [.ref (r 38)] [((r 38), .inr (0, [.ref (r 39), .int 0, .ref (r 40), .ref (r 41), .ref (r 42), .ref (r 43), .ref (r 44), .int 0, .int 0]))] (fun u => [((r 38), .inr (0, [.ref (r 39), .int 0, .ref (r 40), .ref (r 41), .ref (r 42), .ref (r 43), .ref (r 44), .int 0, .int 0]))]) := by
  intro sz
  refine ct_open (cc := cX0_forgetActs) (maxL := 1) (ret := none) (by decide) rfl (Nat.le_of_ble_eq_true rfl) ?_
  intro p e s m below meth c ls A hx hb hr hml hts hown hlocks hin hP hK hD hA hS hl
  have hl : lv_has ls 1 [(0, .ref (r 38))] := hl
  have hown : s.vm.findClass RX0 = some m.cls := hown
  have i0 : ∀ w ∈ u_ws RX0 TX0 9, w ∈ wsX0_forgetActs := fun _ h => List.mem_cons_of_mem _ (List.mem_append_right _ h)
  have w1 := hts (.fieldLink RX0 44 "GuildCharter$Earnest" "done" "I") (List.mem_cons_of_mem _ (List.mem_append_left _ (List.mem_of_getElem? (i := 0) rfl)))
  have w2 := hts (.fieldLink RX0 47 "GuildCharter$Earnest" "kept" "I") (List.mem_cons_of_mem _ (List.mem_append_left _ (List.mem_of_getElem? (i := 1) rfl)))
  refine lv_aload_n hx hb dX0_forgetActs_0 rfl (lv_at hl 0 rfl) ?_
  refine lv_iconst (v := 0) hx hb dX0_forgetActs_1 z8 ?_
  refine va_put (D := (dC, dI)) (ci := 0) (v := .int 0) (ty := tyX0 7) (C := RX0) (T := TX0) (N := 9) hx hb hts i0 tyX0 tyX0_ok nmX0 hown hK hP hD hS 0 rfl rfl 7 (nlt rfl) w1 (fun _ h9 => h9) rfl (tyX0_ok 7 (nlt rfl)) rfl rfl (nlt rfl) dX0_forgetActs_2 (fun H locs hP hD hS => ?_)
  refine lv_aload_n hx hb dX0_forgetActs_5 rfl (lv_at hl 0 rfl) ?_
  refine lv_iconst (v := 0) hx hb dX0_forgetActs_6 z8 ?_
  refine va_put (D := (dC, dI)) (ci := 0) (v := .int 0) (ty := tyX0 8) (C := RX0) (T := TX0) (N := 9) hx hb hts i0 tyX0 tyX0_ok nmX0 hown hK hP hD hS 0 rfl rfl 8 (nlt rfl) w2 (fun _ h9 => h9) rfl (tyX0_ok 8 (nlt rfl)) rfl rfl (nlt rfl) dX0_forgetActs_7 (fun H locs hP hD hS => ?_)
  refine W.widen (k := 0) (n := 0) (by decide +kernel) (by decide +kernel) ?_
  exact ret_v hx hb hr hlocks hS (u := (fun _ => 0)) (hP.sub [0] rfl) (hD.sub [0] (by decide +kernel) rfl) dX0_forgetActs_10

set_option maxHeartbeats 4000000 in
set_option maxRecDepth 100000 in
theorem k47_X0_empty (l : Launch) (dC : Nat → ClassId) (dI : Nat → Nat → Nat) (cB cI cJ cZ cO : ClassId) (r : Nat → Nat) : CV l yX0_empty wsX0_empty ({ frames := 1, cells := 0, slots := 0, locals := 23 }) (dC, dI) (tyL cB cI cJ cZ cO) [.ref (r 38)] [((r 38), .inr (0, [.ref (r 39), .int 0, .ref (r 40), .ref (r 41), .ref (r 42), .ref (r 43), .ref (r 44), .int 0, .int 0])), ((r 40), .inl (cI, 6, .inl (upd (upd (upd (upd (upd (upd (fun _ => 0) 0 (-1)) 1 (-1)) 2 (-1)) 3 (-1)) 4 (-1)) 5 (-1))))] (fun u => [((r 38), .inr (0, [.ref (r 39), .int 0, .ref (r 40), .ref (r 41), .ref (r 42), .ref (r 43), .ref (r 44), .int 0, .int 0])), ((r 40), .inl (cI, 6, .inl (upd (upd (upd (upd (upd (upd (fun _ => 0) 0 (-1)) 1 (-1)) 2 (-1)) 3 (-1)) 4 (-1)) 5 (-1))))]) := by
  intro sz
  refine ct_open (cc := cX0_empty) (maxL := 1) (ret := none) (by decide) rfl (Nat.le_of_ble_eq_true rfl) ?_
  intro p e s m below meth c ls A hx hb hr hml hts hown hlocks hin hP hK hD hA hS hl
  have hl : lv_has ls 1 [(0, .ref (r 38))] := hl
  have hown : s.vm.findClass RX0 = some m.cls := hown
  have i0 : ∀ w ∈ u_ws RX0 TX0 9, w ∈ wsX0_empty := fun _ h => List.mem_cons_of_mem _ (List.mem_append_right _ h)
  have w1 := hts (.fieldLink RX0 37 "GuildCharter$Earnest" "size" "I") (List.mem_cons_of_mem _ (List.mem_append_left _ (List.mem_of_getElem? (i := 0) rfl)))
  have w2 := hts (.fieldLink RX0 15 "GuildCharter$Earnest" "sold" "[I") (List.mem_cons_of_mem _ (List.mem_append_left _ (List.mem_of_getElem? (i := 1) rfl)))
  refine lv_aload_n hx hb dX0_empty_0 rfl (lv_at hl 0 rfl) ?_
  refine lv_iconst (v := 0) hx hb dX0_empty_1 z8 ?_
  refine va_put (D := (dC, dI)) (ci := 0) (v := .int 0) (ty := tyX0 1) (C := RX0) (T := TX0) (N := 9) hx hb hts i0 tyX0 tyX0_ok nmX0 hown hK hP hD hS 0 rfl rfl 1 (nlt rfl) w1 (fun _ h9 => h9) rfl (tyX0_ok 1 (nlt rfl)) rfl rfl (nlt rfl) dX0_empty_2 (fun H locs hP hD hS => ?_)
  refine lv_aload_n hx hb dX0_empty_5 rfl (lv_at hl 0 rfl) ?_
  refine va_get (D := (dC, dI)) (ci := 0) (v := .ref (r 40)) (C := RX0) (T := TX0) (N := 9) hx hb hts i0 hown hK hP 0 rfl rfl 2 (nlt rfl) w2 (fun _ h9 => h9) rfl dX0_empty_6 ?_
  refine lv_iconst (v := (-1)) hx hb dX0_empty_9 z128 ?_
  refine call_vS (As := [.ref (r 40), .int (-1)]) (rest := []) (wr := [((r 38), .inr (0, [.ref (r 39), .int 0, .ref (r 40), .ref (r 41), .ref (r 42), .ref (r 43), .ref (r 44), .int 0, .int 0]))]) ⟨hx, hb, hml, hown, hts⟩ (k45_J7_fill_53178 l dC dI cB cI cJ cZ cO r) (va_cwS 2 hts gX0_empty_J7_fill_53178 rfl rfl rfl z164 ⟨Nat.le_of_ble_eq_true rfl, Nat.le_of_ble_eq_true rfl⟩) hK hP hD hS hA [1] [0] rfl rfl (by decide +kernel) (by decide +kernel) (by decide +kernel) hl.1 (Nat.le_of_ble_eq_true rfl) rfl rfl dX0_empty_10 ⟨by decide +kernel, by decide +kernel⟩ (fun u0 H locs hP hD hS => ?_)
  refine lv_aload_n hx hb dX0_empty_13 rfl (lv_at hl 0 rfl) ?_
  refine call_vV (ci := 0) (As := []) (rest := []) (wr := [((r 40), .inl (cI, 6, .inl (upd (upd (upd (upd (upd (upd (fun _ => 0) 0 (-1)) 1 (-1)) 2 (-1)) 3 (-1)) 4 (-1)) 5 (-1))))]) ⟨hx, hb, hml, hown, hts⟩ (k46_X0_forgetActs l dC dI cB cI cJ cZ cO r) (cwV 0 hts gX0_empty_X0_forgetActs rfl rfl rfl ⟨rfl, z1284⟩ ⟨Nat.le_of_ble_eq_true rfl, Nat.le_of_ble_eq_true rfl⟩) hK hP hD hS hA [0] [1] rfl rfl (by decide +kernel) (by decide +kernel) (by decide +kernel) rfl rfl rfl hl.1 (Nat.le_of_ble_eq_true rfl) rfl rfl dX0_empty_14 ⟨by decide +kernel, by decide +kernel⟩ (fun u1 H locs hP hD hS => ?_)
  refine W.widen (k := 0) (n := 0) (by decide +kernel) (by decide +kernel) ?_
  exact ret_v hx hb hr hlocks hS (u := (fun _ => 0)) (hP.sub [1, 0] rfl) (hD.sub [1, 0] (by decide +kernel) rfl) dX0_empty_17

set_option maxHeartbeats 4000000 in
set_option maxRecDepth 100000 in
theorem k48_X7_forget (l : Launch) (dC : Nat → ClassId) (dI : Nat → Nat → Nat) (cB cI cJ cZ cO : ClassId) (r : Nat → Nat) : CV l yX7_forget wsX7_forget ({ frames := 0, cells := 0, slots := 0, locals := 0 }) (dC, dI) (tyL cB cI cJ cZ cO) [.ref (r 58)] [((r 58), .inr (7, [.ref (r 59), .int 0, .ref (r 60)]))] (fun u => [((r 58), .inr (7, [.ref (r 59), .int 0, .ref (r 60)]))]) := by
  intro sz
  refine ct_open (cc := cX7_forget) (maxL := 1) (ret := none) (by decide) rfl (Nat.le_of_ble_eq_true rfl) ?_
  intro p e s m below meth c ls A hx hb hr hml hts hown hlocks hin hP hK hD hA hS hl
  have hl : lv_has ls 1 [(0, .ref (r 58))] := hl
  have hown : s.vm.findClass RX7 = some m.cls := hown
  have i7 : ∀ w ∈ u_ws RX7 TX7 3, w ∈ wsX7_forget := fun _ h => List.mem_cons_of_mem _ (List.mem_append_right _ h)
  have w1 := hts (.fieldLink RX7 18 "GuildCharter$Tally" "size" "I") (List.mem_cons_of_mem _ (List.mem_append_left _ (List.mem_of_getElem? (i := 0) rfl)))
  refine lv_aload_n hx hb dX7_forget_0 rfl (lv_at hl 0 rfl) ?_
  refine lv_iconst (v := 0) hx hb dX7_forget_1 z8 ?_
  refine va_put (D := (dC, dI)) (ci := 7) (v := .int 0) (ty := tyX7 1) (C := RX7) (T := TX7) (N := 3) hx hb hts i7 tyX7 tyX7_ok nmX7 hown hK hP hD hS 0 rfl rfl 1 (nlt rfl) w1 (fun _ h9 => h9) rfl (tyX7_ok 1 (nlt rfl)) rfl rfl (nlt rfl) dX7_forget_2 (fun H locs hP hD hS => ?_)
  refine W.widen (k := 0) (n := 0) (by decide +kernel) (by decide +kernel) ?_
  exact ret_v hx hb hr hlocks hS (u := (fun _ => 0)) (hP.sub [0] rfl) (hD.sub [0] (by decide +kernel) rfl) dX7_forget_5

set_option maxHeartbeats 4000000 in
set_option maxRecDepth 100000 in
theorem k49_X9_forget (l : Launch) (dC : Nat → ClassId) (dI : Nat → Nat → Nat) (cB cI cJ cZ cO : ClassId) (r : Nat → Nat) : CV l yX9_forget wsX9_forget ({ frames := 0, cells := 0, slots := 0, locals := 0 }) (dC, dI) (tyL cB cI cJ cZ cO) [.ref (r 65)] [((r 65), .inr (9, [.int 0, .int 0, .ref (r 66), .ref (r 67), .ref (r 68), .ref (r 69), .int 0, .int 0, .int 0, .int 0, .int 0]))] (fun u => [((r 65), .inr (9, [.int 0, .int 0, .ref (r 66), .ref (r 67), .ref (r 68), .ref (r 69), .int 0, .int 0, .int 0, .int 0, .int 0]))]) := by
  intro sz
  refine ct_open (cc := cX9_forget) (maxL := 1) (ret := none) (by decide) rfl (Nat.le_of_ble_eq_true rfl) ?_
  intro p e s m below meth c ls A hx hb hr hml hts hown hlocks hin hP hK hD hA hS hl
  have hl : lv_has ls 1 [(0, .ref (r 65))] := hl
  have hown : s.vm.findClass RX9 = some m.cls := hown
  have i9 : ∀ w ∈ u_ws RX9 TX9 11, w ∈ wsX9_forget := fun _ h => List.mem_cons_of_mem _ (List.mem_append_right _ h)
  have w1 := hts (.fieldLink RX9 24 "GuildCharter$Tree" "grown" "Z") (List.mem_cons_of_mem _ (List.mem_append_left _ (List.mem_of_getElem? (i := 0) rfl)))
  refine lv_aload_n hx hb dX9_forget_0 rfl (lv_at hl 0 rfl) ?_
  refine lv_iconst (v := 0) hx hb dX9_forget_1 z8 ?_
  refine va_put (D := (dC, dI)) (ci := 9) (v := .int 0) (ty := tyX9 7) (C := RX9) (T := TX9) (N := 11) hx hb hts i9 tyX9 tyX9_ok nmX9 hown hK hP hD hS 0 rfl rfl 7 (nlt rfl) w1 (fun _ h9 => h9) rfl (tyX9_ok 7 (nlt rfl)) rfl rfl (nlt rfl) dX9_forget_2 (fun H locs hP hD hS => ?_)
  refine W.widen (k := 0) (n := 0) (by decide +kernel) (by decide +kernel) ?_
  exact ret_v hx hb hr hlocks hS (u := (fun _ => 0)) (hP.sub [0] rfl) (hD.sub [0] (by decide +kernel) rfl) dX9_forget_5

set_option maxHeartbeats 4000000 in
set_option maxRecDepth 100000 in
theorem k50_X9_forget (l : Launch) (dC : Nat → ClassId) (dI : Nat → Nat → Nat) (cB cI cJ cZ cO : ClassId) (r : Nat → Nat) : CV l yX9_forget wsX9_forget ({ frames := 0, cells := 0, slots := 0, locals := 0 }) (dC, dI) (tyL cB cI cJ cZ cO) [.ref (r 70)] [((r 70), .inr (9, [.int 0, .int 0, .ref (r 71), .ref (r 72), .ref (r 73), .ref (r 74), .int 0, .int 0, .int 0, .int 0, .int 0]))] (fun u => [((r 70), .inr (9, [.int 0, .int 0, .ref (r 71), .ref (r 72), .ref (r 73), .ref (r 74), .int 0, .int 0, .int 0, .int 0, .int 0]))]) := by
  intro sz
  refine ct_open (cc := cX9_forget) (maxL := 1) (ret := none) (by decide) rfl (Nat.le_of_ble_eq_true rfl) ?_
  intro p e s m below meth c ls A hx hb hr hml hts hown hlocks hin hP hK hD hA hS hl
  have hl : lv_has ls 1 [(0, .ref (r 70))] := hl
  have hown : s.vm.findClass RX9 = some m.cls := hown
  have i9 : ∀ w ∈ u_ws RX9 TX9 11, w ∈ wsX9_forget := fun _ h => List.mem_cons_of_mem _ (List.mem_append_right _ h)
  have w1 := hts (.fieldLink RX9 24 "GuildCharter$Tree" "grown" "Z") (List.mem_cons_of_mem _ (List.mem_append_left _ (List.mem_of_getElem? (i := 0) rfl)))
  refine lv_aload_n hx hb dX9_forget_0 rfl (lv_at hl 0 rfl) ?_
  refine lv_iconst (v := 0) hx hb dX9_forget_1 z8 ?_
  refine va_put (D := (dC, dI)) (ci := 9) (v := .int 0) (ty := tyX9 7) (C := RX9) (T := TX9) (N := 11) hx hb hts i9 tyX9 tyX9_ok nmX9 hown hK hP hD hS 0 rfl rfl 7 (nlt rfl) w1 (fun _ h9 => h9) rfl (tyX9_ok 7 (nlt rfl)) rfl rfl (nlt rfl) dX9_forget_2 (fun H locs hP hD hS => ?_)
  refine W.widen (k := 0) (n := 0) (by decide +kernel) (by decide +kernel) ?_
  exact ret_v hx hb hr hlocks hS (u := (fun _ => 0)) (hP.sub [0] rfl) (hD.sub [0] (by decide +kernel) rfl) dX9_forget_5

set_option maxHeartbeats 4000000 in
set_option maxRecDepth 100000 in
theorem k51_X9_forget (l : Launch) (dC : Nat → ClassId) (dI : Nat → Nat → Nat) (cB cI cJ cZ cO : ClassId) (r : Nat → Nat) : CV l yX9_forget wsX9_forget ({ frames := 0, cells := 0, slots := 0, locals := 0 }) (dC, dI) (tyL cB cI cJ cZ cO) [.ref (r 75)] [((r 75), .inr (9, [.int 0, .int 0, .ref (r 76), .ref (r 77), .ref (r 78), .ref (r 79), .int 0, .int 0, .int 0, .int 0, .int 0]))] (fun u => [((r 75), .inr (9, [.int 0, .int 0, .ref (r 76), .ref (r 77), .ref (r 78), .ref (r 79), .int 0, .int 0, .int 0, .int 0, .int 0]))]) := by
  intro sz
  refine ct_open (cc := cX9_forget) (maxL := 1) (ret := none) (by decide) rfl (Nat.le_of_ble_eq_true rfl) ?_
  intro p e s m below meth c ls A hx hb hr hml hts hown hlocks hin hP hK hD hA hS hl
  have hl : lv_has ls 1 [(0, .ref (r 75))] := hl
  have hown : s.vm.findClass RX9 = some m.cls := hown
  have i9 : ∀ w ∈ u_ws RX9 TX9 11, w ∈ wsX9_forget := fun _ h => List.mem_cons_of_mem _ (List.mem_append_right _ h)
  have w1 := hts (.fieldLink RX9 24 "GuildCharter$Tree" "grown" "Z") (List.mem_cons_of_mem _ (List.mem_append_left _ (List.mem_of_getElem? (i := 0) rfl)))
  refine lv_aload_n hx hb dX9_forget_0 rfl (lv_at hl 0 rfl) ?_
  refine lv_iconst (v := 0) hx hb dX9_forget_1 z8 ?_
  refine va_put (D := (dC, dI)) (ci := 9) (v := .int 0) (ty := tyX9 7) (C := RX9) (T := TX9) (N := 11) hx hb hts i9 tyX9 tyX9_ok nmX9 hown hK hP hD hS 0 rfl rfl 7 (nlt rfl) w1 (fun _ h9 => h9) rfl (tyX9_ok 7 (nlt rfl)) rfl rfl (nlt rfl) dX9_forget_2 (fun H locs hP hD hS => ?_)
  refine W.widen (k := 0) (n := 0) (by decide +kernel) (by decide +kernel) ?_
  exact ret_v hx hb hr hlocks hS (u := (fun _ => 0)) (hP.sub [0] rfl) (hD.sub [0] (by decide +kernel) rfl) dX9_forget_5

set_option maxHeartbeats 4000000 in
set_option maxRecDepth 100000 in
theorem k52_X3_forget (l : Launch) (dC : Nat → ClassId) (dI : Nat → Nat → Nat) (cB cI cJ cZ cO : ClassId) (r : Nat → Nat) : CV l yX3_forget wsX3_forget ({ frames := 0, cells := 0, slots := 0, locals := 0 }) (dC, dI) (tyL cB cI cJ cZ cO) [.ref (r 61)] [((r 61), .inr (3, [.ref (r 62), .ref (r 63), .ref (r 64), .int 0, .int (-1), .int 0, .int 0, .int 0, .int 0]))] (fun u => [((r 61), .inr (3, [.ref (r 62), .ref (r 63), .ref (r 64), .int 0, .int (-1), .int 0, .int 0, .int 0, .int 0]))]) := by
  intro sz
  refine ct_open (cc := cX3_forget) (maxL := 1) (ret := none) (by decide) rfl (Nat.le_of_ble_eq_true rfl) ?_
  intro p e s m below meth c ls A hx hb hr hml hts hown hlocks hin hP hK hD hA hS hl
  have hl : lv_has ls 1 [(0, .ref (r 61))] := hl
  have hown : s.vm.findClass RX3 = some m.cls := hown
  have i3 : ∀ w ∈ u_ws RX3 TX3 9, w ∈ wsX3_forget := fun _ h => List.mem_cons_of_mem _ (List.mem_append_right _ h)
  have w1 := hts (.fieldLink RX3 25 "GuildCharter$Play" "lotsKnown" "Z") (List.mem_cons_of_mem _ (List.mem_append_left _ (List.mem_of_getElem? (i := 0) rfl)))
  refine lv_aload_n hx hb dX3_forget_0 rfl (lv_at hl 0 rfl) ?_
  refine lv_iconst (v := 0) hx hb dX3_forget_1 z8 ?_
  refine va_put (D := (dC, dI)) (ci := 3) (v := .int 0) (ty := tyX3 3) (C := RX3) (T := TX3) (N := 9) hx hb hts i3 tyX3 tyX3_ok nmX3 hown hK hP hD hS 0 rfl rfl 3 (nlt rfl) w1 (fun _ h9 => h9) rfl (tyX3_ok 3 (nlt rfl)) rfl rfl (nlt rfl) dX3_forget_2 (fun H locs hP hD hS => ?_)
  refine W.widen (k := 0) (n := 0) (by decide +kernel) (by decide +kernel) ?_
  exact ret_v hx hb hr hlocks hS (u := (fun _ => 0)) (hP.sub [0] rfl) (hD.sub [0] (by decide +kernel) rfl) dX3_forget_5

set_option maxHeartbeats 4000000 in
set_option maxRecDepth 100000 in
theorem k53_X10_forgetOldPort (l : Launch) (dC : Nat → ClassId) (dI : Nat → Nat → Nat) (cB cI cJ cZ cO : ClassId) (r : Nat → Nat) : CV l yX10_forgetOldPort wsX10_forgetOldPort ({ frames := 2, cells := 0, slots := 0, locals := 43 }) (dC, dI) (tyL cB cI cJ cZ cO) [.ref (r 0)] [((r 0), .inr (10, [.ref (r 1), .int 0, .ref (r 2), .ref (r 28), .ref (r 18), .ref (r 38), .ref (r 45), .ref (r 55), .ref (r 58), .ref (r 61), .ref (r 65), .ref (r 70), .ref (r 75), .int 0, .ref (r 80), .ref (r 86), .int 0, .ref (r 87)])), ((r 38), .inr (0, [.ref (r 39), .int 0, .ref (r 40), .ref (r 41), .ref (r 42), .ref (r 43), .ref (r 44), .int 0, .int 0])), ((r 40), .inl (cI, 6, .inl (upd (upd (upd (upd (upd (upd (fun _ => 0) 0 (-1)) 1 (-1)) 2 (-1)) 3 (-1)) 4 (-1)) 5 (-1)))), ((r 45), .inl (cO, 3, .inr (.inr (.inr (.inr (va_up (va_up (va_up (fun _ => none) 0 (some (r 46))) 1 (some (r 49))) 2 (some (r 52)))))))), ((r 46), .inr (1, [.int 0, .ref (r 47), .int 0, .ref (r 48)])), ((r 49), .inr (1, [.int 0, .ref (r 50), .int 0, .ref (r 51)])), ((r 52), .inr (1, [.int 0, .ref (r 53), .int 0, .ref (r 54)])), ((r 58), .inr (7, [.ref (r 59), .int 0, .ref (r 60)])), ((r 65), .inr (9, [.int 0, .int 0, .ref (r 66), .ref (r 67), .ref (r 68), .ref (r 69), .int 0, .int 0, .int 0, .int 0, .int 0])), ((r 70), .inr (9, [.int 0, .int 0, .ref (r 71), .ref (r 72), .ref (r 73), .ref (r 74), .int 0, .int 0, .int 0, .int 0, .int 0])), ((r 75), .inr (9, [.int 0, .int 0, .ref (r 76), .ref (r 77), .ref (r 78), .ref (r 79), .int 0, .int 0, .int 0, .int 0, .int 0])), ((r 61), .inr (3, [.ref (r 62), .ref (r 63), .ref (r 64), .int 0, .int (-1), .int 0, .int 0, .int 0, .int 0])), ((r 80), .inr (6, [.int 0, .int 0, .ref (r 81), .ref (r 82), .ref (r 83), .ref (r 84), .ref (r 85)]))] (fun u => [((r 0), .inr (10, [.ref (r 1), .int 0, .ref (r 2), .ref (r 28), .ref (r 18), .ref (r 38), .ref (r 45), .ref (r 55), .ref (r 58), .ref (r 61), .ref (r 65), .ref (r 70), .ref (r 75), .int 0, .ref (r 80), .ref (r 86), .int 0, .ref (r 87)])), ((r 38), .inr (0, [.ref (r 39), .int 0, .ref (r 40), .ref (r 41), .ref (r 42), .ref (r 43), .ref (r 44), .int 0, .int 0])), ((r 40), .inl (cI, 6, .inl (upd (upd (upd (upd (upd (upd (fun _ => 0) 0 (-1)) 1 (-1)) 2 (-1)) 3 (-1)) 4 (-1)) 5 (-1)))), ((r 45), .inl (cO, 3, .inr (.inr (.inr (.inr (va_up (va_up (va_up (fun _ => none) 0 (some (r 46))) 1 (some (r 49))) 2 (some (r 52)))))))), ((r 46), .inr (1, [.int 0, .ref (r 47), .int 0, .ref (r 48)])), ((r 49), .inr (1, [.int 0, .ref (r 50), .int 0, .ref (r 51)])), ((r 52), .inr (1, [.int 0, .ref (r 53), .int 0, .ref (r 54)])), ((r 58), .inr (7, [.ref (r 59), .int 0, .ref (r 60)])), ((r 65), .inr (9, [.int 0, .int 0, .ref (r 66), .ref (r 67), .ref (r 68), .ref (r 69), .int 0, .int 0, .int 0, .int 0, .int 0])), ((r 70), .inr (9, [.int 0, .int 0, .ref (r 71), .ref (r 72), .ref (r 73), .ref (r 74), .int 0, .int 0, .int 0, .int 0, .int 0])), ((r 75), .inr (9, [.int 0, .int 0, .ref (r 76), .ref (r 77), .ref (r 78), .ref (r 79), .int 0, .int 0, .int 0, .int 0, .int 0])), ((r 61), .inr (3, [.ref (r 62), .ref (r 63), .ref (r 64), .int 0, .int (-1), .int 0, .int 0, .int 0, .int 0])), ((r 80), .inr (6, [.int 0, .int 0, .ref (r 81), .ref (r 82), .ref (r 83), .ref (r 84), .ref (r 85)]))]) := by
  intro sz
  refine ct_open (cc := cX10_forgetOldPort) (maxL := 2) (ret := none) (by decide) rfl (Nat.le_of_ble_eq_true rfl) ?_
  intro p e s m below meth c ls A hx hb hr hml hts hown hlocks hin hP hK hD hA hS hl
  have hl : lv_has ls 2 [(0, .ref (r 0))] := hl
  have hown : s.vm.findClass RX10 = some m.cls := hown
  have i10 : ∀ w ∈ u_ws RX10 TX10 18, w ∈ wsX10_forgetOldPort := fun _ h => List.mem_cons_of_mem _ (List.mem_append_left _ (List.mem_append_left _ (List.mem_append_left _ (List.mem_append_left _ (List.mem_append_left _ (List.mem_append_left _ (List.mem_append_right _ h)))))))
  have w1 := hts (.fieldLink RX10 33 "GuildCharter" "earnest" "LGuildCharter$Earnest;") (List.mem_cons_of_mem _ (List.mem_append_left _ (List.mem_append_left _ (List.mem_append_left _ (List.mem_append_left _ (List.mem_append_left _ (List.mem_append_left _ (List.mem_append_left _ (List.mem_append_left _ (List.mem_of_getElem? (i := 0) rfl))))))))))
  have w2 := hts (.fieldLink RX10 40 "GuildCharter" "boxes" "[LGuildCharter$Image;") (List.mem_cons_of_mem _ (List.mem_append_left _ (List.mem_append_left _ (List.mem_append_left _ (List.mem_append_left _ (List.mem_append_left _ (List.mem_append_left _ (List.mem_append_left _ (List.mem_append_left _ (List.mem_of_getElem? (i := 1) rfl))))))))))
  have i1 : ∀ w ∈ u_ws RX1 TX1 4, w ∈ wsX10_forgetOldPort := fun _ h => List.mem_cons_of_mem _ (List.mem_append_left _ (List.mem_append_left _ (List.mem_append_left _ (List.mem_append_left _ (List.mem_append_left _ (List.mem_append_right _ h))))))
  have w4 := hts (.fieldLink RX10 113 "GuildCharter$Image" "full" "Z") (List.mem_cons_of_mem _ (List.mem_append_left _ (List.mem_append_left _ (List.mem_append_left _ (List.mem_append_left _ (List.mem_append_left _ (List.mem_append_left _ (List.mem_append_left _ (List.mem_append_left _ (List.mem_of_getElem? (i := 2) rfl))))))))))
  have w5 := hts (.fieldLink RX10 54 "GuildCharter" "tally" "LGuildCharter$Tally;") (List.mem_cons_of_mem _ (List.mem_append_left _ (List.mem_append_left _ (List.mem_append_left _ (List.mem_append_left _ (List.mem_append_left _ (List.mem_append_left _ (List.mem_append_left _ (List.mem_append_left _ (List.mem_of_getElem? (i := 3) rfl))))))))))
  have w6 := hts (.fieldLink RX10 68 "GuildCharter" "wholeTree" "LGuildCharter$Tree;") (List.mem_cons_of_mem _ (List.mem_append_left _ (List.mem_append_left _ (List.mem_append_left _ (List.mem_append_left _ (List.mem_append_left _ (List.mem_append_left _ (List.mem_append_left _ (List.mem_append_left _ (List.mem_of_getElem? (i := 4) rfl))))))))))
  have w7 := hts (.fieldLink RX10 72 "GuildCharter" "earnestTree" "LGuildCharter$Tree;") (List.mem_cons_of_mem _ (List.mem_append_left _ (List.mem_append_left _ (List.mem_append_left _ (List.mem_append_left _ (List.mem_append_left _ (List.mem_append_left _ (List.mem_append_left _ (List.mem_append_left _ (List.mem_of_getElem? (i := 5) rfl))))))))))
  have w8 := hts (.fieldLink RX10 75 "GuildCharter" "holeTree" "LGuildCharter$Tree;") (List.mem_cons_of_mem _ (List.mem_append_left _ (List.mem_append_left _ (List.mem_append_left _ (List.mem_append_left _ (List.mem_append_left _ (List.mem_append_left _ (List.mem_append_left _ (List.mem_append_left _ (List.mem_of_getElem? (i := 6) rfl))))))))))
  have w9 := hts (.fieldLink RX10 61 "GuildCharter" "play" "LGuildCharter$Play;") (List.mem_cons_of_mem _ (List.mem_append_left _ (List.mem_append_left _ (List.mem_append_left _ (List.mem_append_left _ (List.mem_append_left _ (List.mem_append_left _ (List.mem_append_left _ (List.mem_append_left _ (List.mem_of_getElem? (i := 7) rfl))))))))))
  have w10 := hts (.fieldLink RX10 122 "GuildCharter" "holes" "I") (List.mem_cons_of_mem _ (List.mem_append_left _ (List.mem_append_left _ (List.mem_append_left _ (List.mem_append_left _ (List.mem_append_left _ (List.mem_append_left _ (List.mem_append_left _ (List.mem_append_left _ (List.mem_of_getElem? (i := 8) rfl))))))))))
  have w11 := hts (.fieldLink RX10 81 "GuildCharter" "sightings" "LGuildCharter$Sightings;") (List.mem_cons_of_mem _ (List.mem_append_left _ (List.mem_append_left _ (List.mem_append_left _ (List.mem_append_left _ (List.mem_append_left _ (List.mem_append_left _ (List.mem_append_left _ (List.mem_append_left _ (List.mem_of_getElem? (i := 9) rfl))))))))))
  have i6 : ∀ w ∈ u_ws RX6 TX6 7, w ∈ wsX10_forgetOldPort := fun _ h => List.mem_cons_of_mem _ (List.mem_append_left _ (List.mem_append_left _ (List.mem_append_left _ (List.mem_append_left _ (List.mem_append_right _ h)))))
  have w13 := hts (.fieldLink RX10 125 "GuildCharter$Sightings" "count" "I") (List.mem_cons_of_mem _ (List.mem_append_left _ (List.mem_append_left _ (List.mem_append_left _ (List.mem_append_left _ (List.mem_append_left _ (List.mem_append_left _ (List.mem_append_left _ (List.mem_append_left _ (List.mem_of_getElem? (i := 10) rfl))))))))))
  have w14 := hts (.fieldLink RX10 128 "GuildCharter" "lyingSize" "I") (List.mem_cons_of_mem _ (List.mem_append_left _ (List.mem_append_left _ (List.mem_append_left _ (List.mem_append_left _ (List.mem_append_left _ (List.mem_append_left _ (List.mem_append_left _ (List.mem_append_left _ (List.mem_of_getElem? (i := 11) rfl))))))))))
  refine lv_aload_n hx hb dX10_forgetOldPort_0 rfl (lv_at hl 0 rfl) ?_
  refine va_get (D := (dC, dI)) (ci := 10) (v := .ref (r 38)) (C := RX10) (T := TX10) (N := 18) hx hb hts i10 hown hK hP 0 rfl rfl 5 (nlt rfl) w1 (fun _ h9 => h9) rfl dX10_forgetOldPort_1 ?_
  refine call_vV (ci := 0) (As := []) (rest := []) (wr := [((r 0), .inr (10, [.ref (r 1), .int 0, .ref (r 2), .ref (r 28), .ref (r 18), .ref (r 38), .ref (r 45), .ref (r 55), .ref (r 58), .ref (r 61), .ref (r 65), .ref (r 70), .ref (r 75), .int 0, .ref (r 80), .ref (r 86), .int 0, .ref (r 87)])), ((r 45), .inl (cO, 3, .inr (.inr (.inr (.inr (va_up (va_up (va_up (fun _ => none) 0 (some (r 46))) 1 (some (r 49))) 2 (some (r 52)))))))), ((r 46), .inr (1, [.int 0, .ref (r 47), .int 0, .ref (r 48)])), ((r 49), .inr (1, [.int 0, .ref (r 50), .int 0, .ref (r 51)])), ((r 52), .inr (1, [.int 0, .ref (r 53), .int 0, .ref (r 54)])), ((r 58), .inr (7, [.ref (r 59), .int 0, .ref (r 60)])), ((r 65), .inr (9, [.int 0, .int 0, .ref (r 66), .ref (r 67), .ref (r 68), .ref (r 69), .int 0, .int 0, .int 0, .int 0, .int 0])), ((r 70), .inr (9, [.int 0, .int 0, .ref (r 71), .ref (r 72), .ref (r 73), .ref (r 74), .int 0, .int 0, .int 0, .int 0, .int 0])), ((r 75), .inr (9, [.int 0, .int 0, .ref (r 76), .ref (r 77), .ref (r 78), .ref (r 79), .int 0, .int 0, .int 0, .int 0, .int 0])), ((r 61), .inr (3, [.ref (r 62), .ref (r 63), .ref (r 64), .int 0, .int (-1), .int 0, .int 0, .int 0, .int 0])), ((r 80), .inr (6, [.int 0, .int 0, .ref (r 81), .ref (r 82), .ref (r 83), .ref (r 84), .ref (r 85)]))]) ⟨hx, hb, hml, hown, hts⟩ (k47_X0_empty l dC dI cB cI cJ cZ cO r) (cwV 0 hts gX10_forgetOldPort_X0_empty rfl rfl rfl ⟨rfl, z1287⟩ ⟨Nat.le_of_ble_eq_true rfl, Nat.le_of_ble_eq_true rfl⟩) hK hP hD hS hA [1, 2] [0, 3, 4, 5, 6, 7, 8, 9, 10, 11, 12] rfl rfl (by decide +kernel) (by decide +kernel) (by decide +kernel) rfl rfl rfl hl.1 (Nat.le_of_ble_eq_true rfl) rfl rfl dX10_forgetOldPort_4 ⟨by decide +kernel, by decide +kernel⟩ (fun u0 H locs hP hD hS => ?_)
  refine lv_iconst (v := 0) hx hb dX10_forgetOldPort_7 z8 ?_
  refine lv_istore_n (lv' := [(1, .int 0), (0, .ref (r 0))]) hx hb dX10_forgetOldPort_8 rfl hl (nlt rfl) rfl (fun ls hl => ?_)
  refine lv_iload_n hx hb dX10_forgetOldPort_9 rfl (lv_at hl 0 rfl) ?_
  refine lv_iconst (v := 3) hx hb dX10_forgetOldPort_10 z69 ?_
  refine lv_icmp_ge (tgt := 30) hx hb dX10_forgetOldPort_11 z1285 (fun c1 => absurd c1 (z453)) (fun _ => ?_)
  refine lv_aload_n hx hb dX10_forgetOldPort_14 rfl (lv_at hl 1 rfl) ?_
  refine va_get (D := (dC, dI)) (ci := 10) (v := .ref (r 45)) (C := RX10) (T := TX10) (N := 18) hx hb hts i10 hown hK hP 0 rfl rfl 6 (nlt rfl) w2 (fun _ h9 => h9) rfl dX10_forgetOldPort_15 ?_
  refine lv_iload_n hx hb dX10_forgetOldPort_18 rfl (lv_at hl 0 rfl) ?_
  refine my_aldq (v := (r 46)) hx hb hK hP 1 4 rfl rfl z165 rfl dX10_forgetOldPort_19 ?_
  refine lv_iconst (v := 0) hx hb dX10_forgetOldPort_20 z8 ?_
  refine va_put (D := (dC, dI)) (ci := 1) (v := .int 0) (ty := tyX1 0) (C := RX1) (T := TX1) (N := 4) hx hb hts i1 tyX1 tyX1_ok nmX1 hown hK hP hD hS 2 rfl rfl 0 (nlt rfl) w4 (fun _ h9 => h9) rfl (tyX1_ok 0 (nlt rfl)) rfl rfl (nlt rfl) dX10_forgetOldPort_21 (fun H locs hP hD hS => ?_)
  refine lv_iinc (v := 1) (lv' := [(1, .int 1), (0, .ref (r 0))]) hx hb dX10_forgetOldPort_24 hl (k := 0) rfl z17 (nlt rfl) rfl (fun ls hl => ?_)
  refine lv_goto (tgt := 9) hx hb dX10_forgetOldPort_27 z1286 ?_
  refine lv_iload_n hx hb dX10_forgetOldPort_9 rfl (lv_at hl 0 rfl) ?_
  refine lv_iconst (v := 3) hx hb dX10_forgetOldPort_10 z69 ?_
  refine lv_icmp_ge (tgt := 30) hx hb dX10_forgetOldPort_11 z1285 (fun c1 => absurd c1 (z456)) (fun _ => ?_)
  refine lv_aload_n hx hb dX10_forgetOldPort_14 rfl (lv_at hl 1 rfl) ?_
  refine va_get (D := (dC, dI)) (ci := 10) (v := .ref (r 45)) (C := RX10) (T := TX10) (N := 18) hx hb hts i10 hown hK hP 0 rfl rfl 6 (nlt rfl) w2 (fun _ h9 => h9) rfl dX10_forgetOldPort_15 ?_
  refine lv_iload_n hx hb dX10_forgetOldPort_18 rfl (lv_at hl 0 rfl) ?_
  refine my_aldq (v := (r 49)) hx hb hK hP 1 4 rfl rfl z166 rfl dX10_forgetOldPort_19 ?_
  refine lv_iconst (v := 0) hx hb dX10_forgetOldPort_20 z8 ?_
  refine va_put (D := (dC, dI)) (ci := 1) (v := .int 0) (ty := tyX1 0) (C := RX1) (T := TX1) (N := 4) hx hb hts i1 tyX1 tyX1_ok nmX1 hown hK hP hD hS 3 rfl rfl 0 (nlt rfl) w4 (fun _ h9 => h9) rfl (tyX1_ok 0 (nlt rfl)) rfl rfl (nlt rfl) dX10_forgetOldPort_21 (fun H locs hP hD hS => ?_)
  refine lv_iinc (v := 2) (lv' := [(1, .int 2), (0, .ref (r 0))]) hx hb dX10_forgetOldPort_24 hl (k := 0) rfl z24 (nlt rfl) rfl (fun ls hl => ?_)
  refine lv_goto (tgt := 9) hx hb dX10_forgetOldPort_27 z1286 ?_
  refine lv_iload_n hx hb dX10_forgetOldPort_9 rfl (lv_at hl 0 rfl) ?_
  refine lv_iconst (v := 3) hx hb dX10_forgetOldPort_10 z69 ?_
  refine lv_icmp_ge (tgt := 30) hx hb dX10_forgetOldPort_11 z1285 (fun c1 => absurd c1 (z457)) (fun _ => ?_)
  refine lv_aload_n hx hb dX10_forgetOldPort_14 rfl (lv_at hl 1 rfl) ?_
  refine va_get (D := (dC, dI)) (ci := 10) (v := .ref (r 45)) (C := RX10) (T := TX10) (N := 18) hx hb hts i10 hown hK hP 0 rfl rfl 6 (nlt rfl) w2 (fun _ h9 => h9) rfl dX10_forgetOldPort_15 ?_
  refine lv_iload_n hx hb dX10_forgetOldPort_18 rfl (lv_at hl 0 rfl) ?_
  refine my_aldq (v := (r 52)) hx hb hK hP 1 4 rfl rfl z167 rfl dX10_forgetOldPort_19 ?_
  refine lv_iconst (v := 0) hx hb dX10_forgetOldPort_20 z8 ?_
  refine va_put (D := (dC, dI)) (ci := 1) (v := .int 0) (ty := tyX1 0) (C := RX1) (T := TX1) (N := 4) hx hb hts i1 tyX1 tyX1_ok nmX1 hown hK hP hD hS 4 rfl rfl 0 (nlt rfl) w4 (fun _ h9 => h9) rfl (tyX1_ok 0 (nlt rfl)) rfl rfl (nlt rfl) dX10_forgetOldPort_21 (fun H locs hP hD hS => ?_)
  refine lv_iinc (v := 3) (lv' := [(1, .int 3), (0, .ref (r 0))]) hx hb dX10_forgetOldPort_24 hl (k := 0) rfl z30 (nlt rfl) rfl (fun ls hl => ?_)
  refine lv_goto (tgt := 9) hx hb dX10_forgetOldPort_27 z1286 ?_
  refine lv_iload_n hx hb dX10_forgetOldPort_9 rfl (lv_at hl 0 rfl) ?_
  refine lv_iconst (v := 3) hx hb dX10_forgetOldPort_10 z69 ?_
  refine lv_icmp_ge (tgt := 30) hx hb dX10_forgetOldPort_11 z1285 (fun _ => ?_) (fun c1 => absurd (z458) c1)
  refine lv_aload_n hx hb dX10_forgetOldPort_30 rfl (lv_at hl 1 rfl) ?_
  refine va_get (D := (dC, dI)) (ci := 10) (v := .ref (r 58)) (C := RX10) (T := TX10) (N := 18) hx hb hts i10 hown hK hP 0 rfl rfl 8 (nlt rfl) w5 (fun _ h9 => h9) rfl dX10_forgetOldPort_31 ?_
  refine call_vV (ci := 7) (As := []) (rest := []) (wr := [((r 0), .inr (10, [.ref (r 1), .int 0, .ref (r 2), .ref (r 28), .ref (r 18), .ref (r 38), .ref (r 45), .ref (r 55), .ref (r 58), .ref (r 61), .ref (r 65), .ref (r 70), .ref (r 75), .int 0, .ref (r 80), .ref (r 86), .int 0, .ref (r 87)])), ((r 45), .inl (cO, 3, .inr (.inr (.inr (.inr (va_up (va_up (va_up (fun _ => none) 0 (some (r 46))) 1 (some (r 49))) 2 (some (r 52)))))))), ((r 46), .inr (1, [.int 0, .ref (r 47), .int 0, .ref (r 48)])), ((r 49), .inr (1, [.int 0, .ref (r 50), .int 0, .ref (r 51)])), ((r 52), .inr (1, [.int 0, .ref (r 53), .int 0, .ref (r 54)])), ((r 65), .inr (9, [.int 0, .int 0, .ref (r 66), .ref (r 67), .ref (r 68), .ref (r 69), .int 0, .int 0, .int 0, .int 0, .int 0])), ((r 70), .inr (9, [.int 0, .int 0, .ref (r 71), .ref (r 72), .ref (r 73), .ref (r 74), .int 0, .int 0, .int 0, .int 0, .int 0])), ((r 75), .inr (9, [.int 0, .int 0, .ref (r 76), .ref (r 77), .ref (r 78), .ref (r 79), .int 0, .int 0, .int 0, .int 0, .int 0])), ((r 61), .inr (3, [.ref (r 62), .ref (r 63), .ref (r 64), .int 0, .int (-1), .int 0, .int 0, .int 0, .int 0])), ((r 80), .inr (6, [.int 0, .int 0, .ref (r 81), .ref (r 82), .ref (r 83), .ref (r 84), .ref (r 85)])), ((r 38), .inr (0, [.ref (r 39), .int 0, .ref (r 40), .ref (r 41), .ref (r 42), .ref (r 43), .ref (r 44), .int 0, .int 0])), ((r 40), .inl (cI, 6, .inl (upd (upd (upd (upd (upd (upd (fun _ => 0) 0 (-1)) 1 (-1)) 2 (-1)) 3 (-1)) 4 (-1)) 5 (-1))))]) ⟨hx, hb, hml, hown, hts⟩ (k48_X7_forget l dC dI cB cI cJ cZ cO r) (cwV 0 hts gX10_forgetOldPort_X7_forget rfl rfl rfl ⟨rfl, z1288⟩ ⟨Nat.le_of_ble_eq_true rfl, Nat.le_of_ble_eq_true rfl⟩) hK hP hD hS hA [5] [0, 1, 2, 3, 4, 6, 7, 8, 9, 10, 11, 12] rfl rfl (by decide +kernel) (by decide +kernel) (by decide +kernel) rfl rfl rfl hl.1 (Nat.le_of_ble_eq_true rfl) rfl rfl dX10_forgetOldPort_34 ⟨by decide +kernel, by decide +kernel⟩ (fun u1 H locs hP hD hS => ?_)
  refine lv_aload_n hx hb dX10_forgetOldPort_37 rfl (lv_at hl 1 rfl) ?_
  refine va_get (D := (dC, dI)) (ci := 10) (v := .ref (r 65)) (C := RX10) (T := TX10) (N := 18) hx hb hts i10 hown hK hP 0 rfl rfl 10 (nlt rfl) w6 (fun _ h9 => h9) rfl dX10_forgetOldPort_38 ?_
  refine call_vV (ci := 9) (As := []) (rest := []) (wr := [((r 0), .inr (10, [.ref (r 1), .int 0, .ref (r 2), .ref (r 28), .ref (r 18), .ref (r 38), .ref (r 45), .ref (r 55), .ref (r 58), .ref (r 61), .ref (r 65), .ref (r 70), .ref (r 75), .int 0, .ref (r 80), .ref (r 86), .int 0, .ref (r 87)])), ((r 45), .inl (cO, 3, .inr (.inr (.inr (.inr (va_up (va_up (va_up (fun _ => none) 0 (some (r 46))) 1 (some (r 49))) 2 (some (r 52)))))))), ((r 46), .inr (1, [.int 0, .ref (r 47), .int 0, .ref (r 48)])), ((r 49), .inr (1, [.int 0, .ref (r 50), .int 0, .ref (r 51)])), ((r 52), .inr (1, [.int 0, .ref (r 53), .int 0, .ref (r 54)])), ((r 70), .inr (9, [.int 0, .int 0, .ref (r 71), .ref (r 72), .ref (r 73), .ref (r 74), .int 0, .int 0, .int 0, .int 0, .int 0])), ((r 75), .inr (9, [.int 0, .int 0, .ref (r 76), .ref (r 77), .ref (r 78), .ref (r 79), .int 0, .int 0, .int 0, .int 0, .int 0])), ((r 61), .inr (3, [.ref (r 62), .ref (r 63), .ref (r 64), .int 0, .int (-1), .int 0, .int 0, .int 0, .int 0])), ((r 80), .inr (6, [.int 0, .int 0, .ref (r 81), .ref (r 82), .ref (r 83), .ref (r 84), .ref (r 85)])), ((r 38), .inr (0, [.ref (r 39), .int 0, .ref (r 40), .ref (r 41), .ref (r 42), .ref (r 43), .ref (r 44), .int 0, .int 0])), ((r 40), .inl (cI, 6, .inl (upd (upd (upd (upd (upd (upd (fun _ => 0) 0 (-1)) 1 (-1)) 2 (-1)) 3 (-1)) 4 (-1)) 5 (-1)))), ((r 58), .inr (7, [.ref (r 59), .int 0, .ref (r 60)]))]) ⟨hx, hb, hml, hown, hts⟩ (k49_X9_forget l dC dI cB cI cJ cZ cO r) (cwV 0 hts gX10_forgetOldPort_X9_forget rfl rfl rfl ⟨rfl, z1289⟩ ⟨Nat.le_of_ble_eq_true rfl, Nat.le_of_ble_eq_true rfl⟩) hK hP hD hS hA [5] [0, 1, 2, 3, 4, 6, 7, 8, 9, 10, 11, 12] rfl rfl (by decide +kernel) (by decide +kernel) (by decide +kernel) rfl rfl rfl hl.1 (Nat.le_of_ble_eq_true rfl) rfl rfl dX10_forgetOldPort_41 ⟨by decide +kernel, by decide +kernel⟩ (fun u2 H locs hP hD hS => ?_)
  refine lv_aload_n hx hb dX10_forgetOldPort_44 rfl (lv_at hl 1 rfl) ?_
  refine va_get (D := (dC, dI)) (ci := 10) (v := .ref (r 70)) (C := RX10) (T := TX10) (N := 18) hx hb hts i10 hown hK hP 0 rfl rfl 11 (nlt rfl) w7 (fun _ h9 => h9) rfl dX10_forgetOldPort_45 ?_
  refine call_vV (ci := 9) (As := []) (rest := []) (wr := [((r 0), .inr (10, [.ref (r 1), .int 0, .ref (r 2), .ref (r 28), .ref (r 18), .ref (r 38), .ref (r 45), .ref (r 55), .ref (r 58), .ref (r 61), .ref (r 65), .ref (r 70), .ref (r 75), .int 0, .ref (r 80), .ref (r 86), .int 0, .ref (r 87)])), ((r 45), .inl (cO, 3, .inr (.inr (.inr (.inr (va_up (va_up (va_up (fun _ => none) 0 (some (r 46))) 1 (some (r 49))) 2 (some (r 52)))))))), ((r 46), .inr (1, [.int 0, .ref (r 47), .int 0, .ref (r 48)])), ((r 49), .inr (1, [.int 0, .ref (r 50), .int 0, .ref (r 51)])), ((r 52), .inr (1, [.int 0, .ref (r 53), .int 0, .ref (r 54)])), ((r 75), .inr (9, [.int 0, .int 0, .ref (r 76), .ref (r 77), .ref (r 78), .ref (r 79), .int 0, .int 0, .int 0, .int 0, .int 0])), ((r 61), .inr (3, [.ref (r 62), .ref (r 63), .ref (r 64), .int 0, .int (-1), .int 0, .int 0, .int 0, .int 0])), ((r 80), .inr (6, [.int 0, .int 0, .ref (r 81), .ref (r 82), .ref (r 83), .ref (r 84), .ref (r 85)])), ((r 38), .inr (0, [.ref (r 39), .int 0, .ref (r 40), .ref (r 41), .ref (r 42), .ref (r 43), .ref (r 44), .int 0, .int 0])), ((r 40), .inl (cI, 6, .inl (upd (upd (upd (upd (upd (upd (fun _ => 0) 0 (-1)) 1 (-1)) 2 (-1)) 3 (-1)) 4 (-1)) 5 (-1)))), ((r 58), .inr (7, [.ref (r 59), .int 0, .ref (r 60)])), ((r 65), .inr (9, [.int 0, .int 0, .ref (r 66), .ref (r 67), .ref (r 68), .ref (r 69), .int 0, .int 0, .int 0, .int 0, .int 0]))]) ⟨hx, hb, hml, hown, hts⟩ (k50_X9_forget l dC dI cB cI cJ cZ cO r) (cwV 0 hts gX10_forgetOldPort_X9_forget rfl rfl rfl ⟨rfl, z1289⟩ ⟨Nat.le_of_ble_eq_true rfl, Nat.le_of_ble_eq_true rfl⟩) hK hP hD hS hA [5] [0, 1, 2, 3, 4, 6, 7, 8, 9, 10, 11, 12] rfl rfl (by decide +kernel) (by decide +kernel) (by decide +kernel) rfl rfl rfl hl.1 (Nat.le_of_ble_eq_true rfl) rfl rfl dX10_forgetOldPort_48 ⟨by decide +kernel, by decide +kernel⟩ (fun u3 H locs hP hD hS => ?_)
  refine lv_aload_n hx hb dX10_forgetOldPort_51 rfl (lv_at hl 1 rfl) ?_
  refine va_get (D := (dC, dI)) (ci := 10) (v := .ref (r 75)) (C := RX10) (T := TX10) (N := 18) hx hb hts i10 hown hK hP 0 rfl rfl 12 (nlt rfl) w8 (fun _ h9 => h9) rfl dX10_forgetOldPort_52 ?_
  refine call_vV (ci := 9) (As := []) (rest := []) (wr := [((r 0), .inr (10, [.ref (r 1), .int 0, .ref (r 2), .ref (r 28), .ref (r 18), .ref (r 38), .ref (r 45), .ref (r 55), .ref (r 58), .ref (r 61), .ref (r 65), .ref (r 70), .ref (r 75), .int 0, .ref (r 80), .ref (r 86), .int 0, .ref (r 87)])), ((r 45), .inl (cO, 3, .inr (.inr (.inr (.inr (va_up (va_up (va_up (fun _ => none) 0 (some (r 46))) 1 (some (r 49))) 2 (some (r 52)))))))), ((r 46), .inr (1, [.int 0, .ref (r 47), .int 0, .ref (r 48)])), ((r 49), .inr (1, [.int 0, .ref (r 50), .int 0, .ref (r 51)])), ((r 52), .inr (1, [.int 0, .ref (r 53), .int 0, .ref (r 54)])), ((r 61), .inr (3, [.ref (r 62), .ref (r 63), .ref (r 64), .int 0, .int (-1), .int 0, .int 0, .int 0, .int 0])), ((r 80), .inr (6, [.int 0, .int 0, .ref (r 81), .ref (r 82), .ref (r 83), .ref (r 84), .ref (r 85)])), ((r 38), .inr (0, [.ref (r 39), .int 0, .ref (r 40), .ref (r 41), .ref (r 42), .ref (r 43), .ref (r 44), .int 0, .int 0])), ((r 40), .inl (cI, 6, .inl (upd (upd (upd (upd (upd (upd (fun _ => 0) 0 (-1)) 1 (-1)) 2 (-1)) 3 (-1)) 4 (-1)) 5 (-1)))), ((r 58), .inr (7, [.ref (r 59), .int 0, .ref (r 60)])), ((r 65), .inr (9, [.int 0, .int 0, .ref (r 66), .ref (r 67), .ref (r 68), .ref (r 69), .int 0, .int 0, .int 0, .int 0, .int 0])), ((r 70), .inr (9, [.int 0, .int 0, .ref (r 71), .ref (r 72), .ref (r 73), .ref (r 74), .int 0, .int 0, .int 0, .int 0, .int 0]))]) ⟨hx, hb, hml, hown, hts⟩ (k51_X9_forget l dC dI cB cI cJ cZ cO r) (cwV 0 hts gX10_forgetOldPort_X9_forget rfl rfl rfl ⟨rfl, z1289⟩ ⟨Nat.le_of_ble_eq_true rfl, Nat.le_of_ble_eq_true rfl⟩) hK hP hD hS hA [5] [0, 1, 2, 3, 4, 6, 7, 8, 9, 10, 11, 12] rfl rfl (by decide +kernel) (by decide +kernel) (by decide +kernel) rfl rfl rfl hl.1 (Nat.le_of_ble_eq_true rfl) rfl rfl dX10_forgetOldPort_55 ⟨by decide +kernel, by decide +kernel⟩ (fun u4 H locs hP hD hS => ?_)
  refine lv_aload_n hx hb dX10_forgetOldPort_58 rfl (lv_at hl 1 rfl) ?_
  refine va_get (D := (dC, dI)) (ci := 10) (v := .ref (r 61)) (C := RX10) (T := TX10) (N := 18) hx hb hts i10 hown hK hP 0 rfl rfl 9 (nlt rfl) w9 (fun _ h9 => h9) rfl dX10_forgetOldPort_59 ?_
  refine call_vV (ci := 3) (As := []) (rest := []) (wr := [((r 0), .inr (10, [.ref (r 1), .int 0, .ref (r 2), .ref (r 28), .ref (r 18), .ref (r 38), .ref (r 45), .ref (r 55), .ref (r 58), .ref (r 61), .ref (r 65), .ref (r 70), .ref (r 75), .int 0, .ref (r 80), .ref (r 86), .int 0, .ref (r 87)])), ((r 45), .inl (cO, 3, .inr (.inr (.inr (.inr (va_up (va_up (va_up (fun _ => none) 0 (some (r 46))) 1 (some (r 49))) 2 (some (r 52)))))))), ((r 46), .inr (1, [.int 0, .ref (r 47), .int 0, .ref (r 48)])), ((r 49), .inr (1, [.int 0, .ref (r 50), .int 0, .ref (r 51)])), ((r 52), .inr (1, [.int 0, .ref (r 53), .int 0, .ref (r 54)])), ((r 80), .inr (6, [.int 0, .int 0, .ref (r 81), .ref (r 82), .ref (r 83), .ref (r 84), .ref (r 85)])), ((r 38), .inr (0, [.ref (r 39), .int 0, .ref (r 40), .ref (r 41), .ref (r 42), .ref (r 43), .ref (r 44), .int 0, .int 0])), ((r 40), .inl (cI, 6, .inl (upd (upd (upd (upd (upd (upd (fun _ => 0) 0 (-1)) 1 (-1)) 2 (-1)) 3 (-1)) 4 (-1)) 5 (-1)))), ((r 58), .inr (7, [.ref (r 59), .int 0, .ref (r 60)])), ((r 65), .inr (9, [.int 0, .int 0, .ref (r 66), .ref (r 67), .ref (r 68), .ref (r 69), .int 0, .int 0, .int 0, .int 0, .int 0])), ((r 70), .inr (9, [.int 0, .int 0, .ref (r 71), .ref (r 72), .ref (r 73), .ref (r 74), .int 0, .int 0, .int 0, .int 0, .int 0])), ((r 75), .inr (9, [.int 0, .int 0, .ref (r 76), .ref (r 77), .ref (r 78), .ref (r 79), .int 0, .int 0, .int 0, .int 0, .int 0]))]) ⟨hx, hb, hml, hown, hts⟩ (k52_X3_forget l dC dI cB cI cJ cZ cO r) (cwV 0 hts gX10_forgetOldPort_X3_forget rfl rfl rfl ⟨rfl, z1290⟩ ⟨Nat.le_of_ble_eq_true rfl, Nat.le_of_ble_eq_true rfl⟩) hK hP hD hS hA [5] [0, 1, 2, 3, 4, 6, 7, 8, 9, 10, 11, 12] rfl rfl (by decide +kernel) (by decide +kernel) (by decide +kernel) rfl rfl rfl hl.1 (Nat.le_of_ble_eq_true rfl) rfl rfl dX10_forgetOldPort_62 ⟨by decide +kernel, by decide +kernel⟩ (fun u5 H locs hP hD hS => ?_)
  refine lv_aload_n hx hb dX10_forgetOldPort_65 rfl (lv_at hl 1 rfl) ?_
  refine lv_iconst (v := 0) hx hb dX10_forgetOldPort_66 z8 ?_
  refine va_put (D := (dC, dI)) (ci := 10) (v := .int 0) (ty := tyX10 13) (C := RX10) (T := TX10) (N := 18) hx hb hts i10 tyX10 tyX10_ok nmX10 hown hK hP hD hS 0 rfl rfl 13 (nlt rfl) w10 (fun _ h9 => h9) rfl (tyX10_ok 13 (nlt rfl)) rfl rfl (nlt rfl) dX10_forgetOldPort_67 (fun H locs hP hD hS => ?_)
  refine lv_aload_n hx hb dX10_forgetOldPort_70 rfl (lv_at hl 1 rfl) ?_
  refine va_get (D := (dC, dI)) (ci := 10) (v := .ref (r 80)) (C := RX10) (T := TX10) (N := 18) hx hb hts i10 hown hK hP 0 rfl rfl 14 (nlt rfl) w11 (fun _ h9 => h9) rfl dX10_forgetOldPort_71 ?_
  refine lv_iconst (v := 0) hx hb dX10_forgetOldPort_74 z8 ?_
  refine va_put (D := (dC, dI)) (ci := 6) (v := .int 0) (ty := tyX6 0) (C := RX6) (T := TX6) (N := 7) hx hb hts i6 tyX6 tyX6_ok nmX6 hown hK hP hD hS 5 rfl rfl 0 (nlt rfl) w13 (fun _ h9 => h9) rfl (tyX6_ok 0 (nlt rfl)) rfl rfl (nlt rfl) dX10_forgetOldPort_75 (fun H locs hP hD hS => ?_)
  refine lv_aload_n hx hb dX10_forgetOldPort_78 rfl (lv_at hl 1 rfl) ?_
  refine lv_iconst (v := 0) hx hb dX10_forgetOldPort_79 z8 ?_
  refine va_put (D := (dC, dI)) (ci := 10) (v := .int 0) (ty := tyX10 16) (C := RX10) (T := TX10) (N := 18) hx hb hts i10 tyX10 tyX10_ok nmX10 hown hK hP hD hS 0 rfl rfl 16 (nlt rfl) w14 (fun _ h9 => h9) rfl (tyX10_ok 16 (nlt rfl)) rfl rfl (nlt rfl) dX10_forgetOldPort_80 (fun H locs hP hD hS => ?_)
  refine W.widen (k := 0) (n := 0) (by decide +kernel) (by decide +kernel) ?_
  exact ret_v hx hb hr hlocks hS (u := (fun _ => 0)) (hP.sub [0, 6, 7, 1, 2, 3, 4, 8, 9, 10, 11, 12, 5] rfl) (hD.sub [0, 6, 7, 1, 2, 3, 4, 8, 9, 10, 11, 12, 5] (by decide +kernel) rfl) dX10_forgetOldPort_83

set_option maxHeartbeats 4000000 in
set_option maxRecDepth 100000 in
theorem k54_X10_port (l : Launch) (dC : Nat → ClassId) (dI : Nat → Nat → Nat) (cB cI cJ cZ cO : ClassId) (r : Nat → Nat) : CI l yX10_port wsX10_port ({ frames := 3, cells := 0, slots := 0, locals := 69 }) (dC, dI) (tyL cB cI cJ cZ cO) [.ref (r 0)] [((r 0), .inr (10, fX r)), ((r 2), .inr (2, [.ref (r 3), .ref (r 6), .ref (r 16), .ref (r 17)])), ((r 28), .inr (4, [.int 0, .ref (r 29), .ref (r 30), .int 0, .ref (r 31), .ref (r 32), .int 0, .ref (r 33), .ref (r 34), .int 0, .ref (r 35), .ref (r 36), .int 3, .int 0, .int 0, .ref (r 37)])), ((r 32), .inl (cI, 192, .inl (fun _ => 0))), ((r 31), .inl (cZ, 64, .inl (fun _ => 0))), ((r 34), .inl (cI, 9, .inl (fun _ => 0))), ((r 3), .inr (8, [.ref (r 4), .ref (r 5), .int 0, .int 0, .int 0, .int 0, .long 0, .int 0, .int 0, .int (-1)])), ((r 1), .inl (cB, 1600, .inl (fun _ => 0))), ((r 38), .inr (0, [.ref (r 39), .int 0, .ref (r 40), .ref (r 41), .ref (r 42), .ref (r 43), .ref (r 44), .int 0, .int 0])), ((r 40), .inl (cI, 6, .inl (upd (upd (upd (upd (upd (upd (fun _ => 0) 0 (-1)) 1 (-1)) 2 (-1)) 3 (-1)) 4 (-1)) 5 (-1)))), ((r 45), .inl (cO, 3, .inr (.inr (.inr (.inr (va_up (va_up (va_up (fun _ => none) 0 (some (r 46))) 1 (some (r 49))) 2 (some (r 52)))))))), ((r 46), .inr (1, [.int 0, .ref (r 47), .int 0, .ref (r 48)])), ((r 49), .inr (1, [.int 0, .ref (r 50), .int 0, .ref (r 51)])), ((r 52), .inr (1, [.int 0, .ref (r 53), .int 0, .ref (r 54)])), ((r 58), .inr (7, [.ref (r 59), .int 0, .ref (r 60)])), ((r 65), .inr (9, [.int 0, .int 0, .ref (r 66), .ref (r 67), .ref (r 68), .ref (r 69), .int 0, .int 0, .int 0, .int 0, .int 0])), ((r 70), .inr (9, [.int 0, .int 0, .ref (r 71), .ref (r 72), .ref (r 73), .ref (r 74), .int 0, .int 0, .int 0, .int 0, .int 0])), ((r 75), .inr (9, [.int 0, .int 0, .ref (r 76), .ref (r 77), .ref (r 78), .ref (r 79), .int 0, .int 0, .int 0, .int 0, .int 0])), ((r 61), .inr (3, [.ref (r 62), .ref (r 63), .ref (r 64), .int 0, .int (-1), .int 0, .int 0, .int 0, .int 0])), ((r 80), .inr (6, [.int 0, .int 0, .ref (r 81), .ref (r 82), .ref (r 83), .ref (r 84), .ref (r 85)]))] (fun _ => []) 0 := by
  intro sz
  refine ct_open (cc := cX10_port) (maxL := 2) (ret := (some .int)) (by decide) rfl (Nat.le_of_ble_eq_true rfl) ?_
  intro p e s m below meth c ls A hx hb hr hml hts hown hlocks hin hP hK hD hA hS hl
  have hl : lv_has ls 2 [(0, .ref (r 0))] := hl
  have hown : s.vm.findClass RX10 = some m.cls := hown
  have i10 : ∀ w ∈ u_ws RX10 TX10 18, w ∈ wsX10_port := fun _ h => List.mem_cons_of_mem _ (List.mem_append_left _ (List.mem_append_left _ (List.mem_append_left _ (List.mem_append_left _ (List.mem_append_left _ (List.mem_append_left _ (List.mem_append_left _ (List.mem_append_left _ (List.mem_append_left _ (List.mem_append_right _ h))))))))))
  have w1 := hts (.fieldLink RX10 16 "GuildCharter" "parser" "LGuildCharter$Parser;") (List.mem_cons_of_mem _ (List.mem_append_left _ (List.mem_append_left _ (List.mem_append_left _ (List.mem_append_left _ (List.mem_append_left _ (List.mem_append_left _ (List.mem_append_left _ (List.mem_append_left _ (List.mem_append_left _ (List.mem_append_left _ (List.mem_append_left _ (List.mem_of_getElem? (i := 0) rfl)))))))))))))
  have w2 := hts (.fieldLink RX10 27 "GuildCharter" "spare" "LGuildCharter$Port;") (List.mem_cons_of_mem _ (List.mem_append_left _ (List.mem_append_left _ (List.mem_append_left _ (List.mem_append_left _ (List.mem_append_left _ (List.mem_append_left _ (List.mem_append_left _ (List.mem_append_left _ (List.mem_append_left _ (List.mem_append_left _ (List.mem_append_left _ (List.mem_of_getElem? (i := 1) rfl)))))))))))))
  have w3 := hts (.fieldLink RX10 9 "GuildCharter" "tape" "[B") (List.mem_cons_of_mem _ (List.mem_append_left _ (List.mem_append_left _ (List.mem_append_left _ (List.mem_append_left _ (List.mem_append_left _ (List.mem_append_left _ (List.mem_append_left _ (List.mem_append_left _ (List.mem_append_left _ (List.mem_append_left _ (List.mem_append_left _ (List.mem_of_getElem? (i := 2) rfl)))))))))))))
  have w4 := hts (.fieldLink RX10 92 "GuildCharter" "tapeSize" "I") (List.mem_cons_of_mem _ (List.mem_append_left _ (List.mem_append_left _ (List.mem_append_left _ (List.mem_append_left _ (List.mem_append_left _ (List.mem_append_left _ (List.mem_append_left _ (List.mem_append_left _ (List.mem_append_left _ (List.mem_append_left _ (List.mem_append_left _ (List.mem_of_getElem? (i := 3) rfl)))))))))))))
  have w5 := hts (.fieldLink RX10 23 "GuildCharter" "told" "LGuildCharter$Port;") (List.mem_cons_of_mem _ (List.mem_append_left _ (List.mem_append_left _ (List.mem_append_left _ (List.mem_append_left _ (List.mem_append_left _ (List.mem_append_left _ (List.mem_append_left _ (List.mem_append_left _ (List.mem_append_left _ (List.mem_append_left _ (List.mem_append_left _ (List.mem_of_getElem? (i := 4) rfl)))))))))))))
  have i4 : ∀ w ∈ u_ws RX4 TX4 16, w ∈ wsX10_port := fun _ h => List.mem_cons_of_mem _ (List.mem_append_left _ (List.mem_append_left _ (List.mem_append_left _ (List.mem_append_left _ (List.mem_append_left _ (List.mem_append_left _ (List.mem_append_left _ (List.mem_append_left _ (List.mem_append_right _ h)))))))))
  have w7 := hts (.fieldLink RX10 107 "GuildCharter$Port" "words" "I") (List.mem_cons_of_mem _ (List.mem_append_left _ (List.mem_append_left _ (List.mem_append_left _ (List.mem_append_left _ (List.mem_append_left _ (List.mem_append_left _ (List.mem_append_left _ (List.mem_append_left _ (List.mem_append_left _ (List.mem_append_left _ (List.mem_append_left _ (List.mem_of_getElem? (i := 5) rfl)))))))))))))
  refine lv_aload_n hx hb dX10_port_0 rfl (lv_at hl 0 rfl) ?_
  refine va_get (D := (dC, dI)) (ci := 10) (v := .ref (r 2)) (C := RX10) (T := TX10) (N := 18) hx hb hts i10 hown hK hP 0 rfl rfl 2 (nlt rfl) w1 (fun _ h9 => h9) rfl dX10_port_1 ?_
  refine lv_aload_n hx hb dX10_port_4 rfl (lv_at hl 0 rfl) ?_
  refine va_get (D := (dC, dI)) (ci := 10) (v := .ref (r 28)) (C := RX10) (T := TX10) (N := 18) hx hb hts i10 hown hK hP 0 rfl rfl 4 (nlt rfl) w2 (fun _ h9 => h9) rfl dX10_port_5 ?_
  refine lv_aload_n hx hb dX10_port_8 rfl (lv_at hl 0 rfl) ?_
  refine va_get (D := (dC, dI)) (ci := 10) (v := .ref (r 1)) (C := RX10) (T := TX10) (N := 18) hx hb hts i10 hown hK hP 0 rfl rfl 0 (nlt rfl) w3 (fun _ h9 => h9) rfl dX10_port_9 ?_
  refine lv_aload_n hx hb dX10_port_12 rfl (lv_at hl 0 rfl) ?_
  refine va_get (D := (dC, dI)) (ci := 10) (v := .int 0) (C := RX10) (T := TX10) (N := 18) hx hb hts i10 hown hK hP 0 rfl rfl 1 (nlt rfl) w4 (fun _ h9 => h9) rfl dX10_port_13 ?_
  refine call_iV (ci := 2) (As := [.ref (r 28), .ref (r 1), .int 0]) (rest := []) (wr := [((r 0), .inr (10, fX r)), ((r 38), .inr (0, [.ref (r 39), .int 0, .ref (r 40), .ref (r 41), .ref (r 42), .ref (r 43), .ref (r 44), .int 0, .int 0])), ((r 40), .inl (cI, 6, .inl (upd (upd (upd (upd (upd (upd (fun _ => 0) 0 (-1)) 1 (-1)) 2 (-1)) 3 (-1)) 4 (-1)) 5 (-1)))), ((r 45), .inl (cO, 3, .inr (.inr (.inr (.inr (va_up (va_up (va_up (fun _ => none) 0 (some (r 46))) 1 (some (r 49))) 2 (some (r 52)))))))), ((r 46), .inr (1, [.int 0, .ref (r 47), .int 0, .ref (r 48)])), ((r 49), .inr (1, [.int 0, .ref (r 50), .int 0, .ref (r 51)])), ((r 52), .inr (1, [.int 0, .ref (r 53), .int 0, .ref (r 54)])), ((r 58), .inr (7, [.ref (r 59), .int 0, .ref (r 60)])), ((r 65), .inr (9, [.int 0, .int 0, .ref (r 66), .ref (r 67), .ref (r 68), .ref (r 69), .int 0, .int 0, .int 0, .int 0, .int 0])), ((r 70), .inr (9, [.int 0, .int 0, .ref (r 71), .ref (r 72), .ref (r 73), .ref (r 74), .int 0, .int 0, .int 0, .int 0, .int 0])), ((r 75), .inr (9, [.int 0, .int 0, .ref (r 76), .ref (r 77), .ref (r 78), .ref (r 79), .int 0, .int 0, .int 0, .int 0, .int 0])), ((r 61), .inr (3, [.ref (r 62), .ref (r 63), .ref (r 64), .int 0, .int (-1), .int 0, .int 0, .int 0, .int 0])), ((r 80), .inr (6, [.int 0, .int 0, .ref (r 81), .ref (r 82), .ref (r 83), .ref (r 84), .ref (r 85)]))]) ⟨hx, hb, hml, hown, hts⟩ (k44_X2_readsInto l dC dI cB cI cJ cZ cO r) (cwV 3 hts gX10_port_X2_readsInto rfl rfl rfl ⟨rfl, z1291⟩ ⟨Nat.le_of_ble_eq_true rfl, Nat.le_of_ble_eq_true rfl⟩) hK hP hD hS hA [1, 2, 3, 4, 5, 6, 7] [0, 8, 9, 10, 11, 12, 13, 14, 15, 16, 17, 18, 19] rfl rfl (by decide +kernel) (by decide +kernel) (by decide +kernel) rfl rfl rfl hl.1 (Nat.le_of_ble_eq_true rfl) rfl rfl dX10_port_16 ⟨by decide +kernel, by decide +kernel⟩ (fun u0 H locs hP hD hS => ?_)
  refine lv_if_ne (tgt := 24) hx hb dX10_port_19 z1283 (fun _ => ?_) (fun c1 => absurd c1 (z1273))
  refine lv_aload_n hx hb dX10_port_24 rfl (lv_at hl 0 rfl) ?_
  refine va_get (D := (dC, dI)) (ci := 10) (v := .ref (r 18)) (C := RX10) (T := TX10) (N := 18) hx hb hts i10 hown hK hP 0 rfl rfl 3 (nlt rfl) w5 (fun _ h9 => h9) rfl dX10_port_25 ?_
  refine lv_astore_n (lv' := [(1, .ref (r 18)), (0, .ref (r 0))]) hx hb dX10_port_28 rfl hl (nlt rfl) rfl (fun ls hl => ?_)
  refine lv_aload_n hx hb dX10_port_29 rfl (lv_at hl 1 rfl) ?_
  refine lv_aload_n hx hb dX10_port_30 rfl (lv_at hl 1 rfl) ?_
  refine va_get (D := (dC, dI)) (ci := 10) (v := .ref (r 28)) (C := RX10) (T := TX10) (N := 18) hx hb hts i10 hown hK hP 0 rfl rfl 4 (nlt rfl) w2 (fun _ h9 => h9) rfl dX10_port_31 ?_
  refine va_put (D := (dC, dI)) (ci := 10) (v := .ref (r 28)) (ty := tyX10 3) (C := RX10) (T := TX10) (N := 18) hx hb hts i10 tyX10 tyX10_ok nmX10 hown hK hP hD hS 0 rfl rfl 3 (nlt rfl) w5 (fun _ h9 => h9) rfl (tyX10_ok 3 (nlt rfl)) rfl rfl (nlt rfl) dX10_port_34 (fun H locs hP hD hS => ?_)
  refine lv_aload_n hx hb dX10_port_37 rfl (lv_at hl 1 rfl) ?_
  refine lv_aload_n hx hb dX10_port_38 rfl (lv_at hl 0 rfl) ?_
  refine va_put (D := (dC, dI)) (ci := 10) (v := .ref (r 18)) (ty := tyX10 4) (C := RX10) (T := TX10) (N := 18) hx hb hts i10 tyX10 tyX10_ok nmX10 hown hK hP hD hS 0 rfl rfl 4 (nlt rfl) w2 (fun _ h9 => h9) rfl (tyX10_ok 4 (nlt rfl)) rfl rfl (nlt rfl) dX10_port_39 (fun H locs hP hD hS => ?_)
  refine lv_aload_n hx hb dX10_port_42 rfl (lv_at hl 1 rfl) ?_
  refine lv_iconst (v := 0) hx hb dX10_port_43 z8 ?_
  refine va_put (D := (dC, dI)) (ci := 10) (v := .int 0) (ty := tyX10 1) (C := RX10) (T := TX10) (N := 18) hx hb hts i10 tyX10 tyX10_ok nmX10 hown hK hP hD hS 0 rfl rfl 1 (nlt rfl) w4 (fun _ h9 => h9) rfl (tyX10_ok 1 (nlt rfl)) rfl rfl (nlt rfl) dX10_port_44 (fun H locs hP hD hS => ?_)
  refine lv_aload_n hx hb dX10_port_47 rfl (lv_at hl 1 rfl) ?_
  refine call_vV (ci := 10) (As := []) (rest := []) (wr := [((r 2), .inr (2, [.ref (r 3), .ref (r 28), .ref (r 16), .ref (r 17)])), ((r 28), .inr (4, [.int 0, .ref (r 29), .ref (r 30), .int 0, .ref (r 31), .ref (r 32), .int 0, .ref (r 33), .ref (r 34), .int 0, .ref (r 35), .ref (r 36), .int 3, .int 0, .int 0, .ref (r 37)])), ((r 32), .inl (cI, 192, .inl (fun _ => 0))), ((r 31), .inl (cZ, 64, .inl (fun _ => 0))), ((r 34), .inl (cI, 9, .inl (fun _ => 0))), ((r 3), .inr (8, [.ref (r 4), .ref (r 1), .int 0, .int 0, .int 0, .int 0, .long 0, .int 0, .int 0, .int (-1)])), ((r 1), .inl (cB, 1600, .inl (fun _ => 0)))]) ⟨hx, hb, hml, hown, hts⟩ (k53_X10_forgetOldPort l dC dI cB cI cJ cZ cO r) (cwV 0 hts gX10_port_X10_forgetOldPort rfl rfl rfl ⟨rfl, z1292⟩ ⟨Nat.le_of_ble_eq_true rfl, Nat.le_of_ble_eq_true rfl⟩) hK hP hD hS hA [0, 1, 2, 3, 4, 5, 6, 7, 8, 9, 10, 11, 12] [13, 14, 15, 16, 17, 18, 19] rfl rfl (by decide +kernel) (by decide +kernel) (by decide +kernel) rfl rfl rfl hl.1 (Nat.le_of_ble_eq_true rfl) rfl rfl dX10_port_48 ⟨by decide +kernel, by decide +kernel⟩ (fun u1 H locs hP hD hS => ?_)
  refine lv_aload_n hx hb dX10_port_51 rfl (lv_at hl 1 rfl) ?_
  refine va_get (D := (dC, dI)) (ci := 10) (v := .ref (r 28)) (C := RX10) (T := TX10) (N := 18) hx hb hts i10 hown hK hP 7 rfl rfl 3 (nlt rfl) w5 (fun _ h9 => h9) rfl dX10_port_52 ?_
  refine va_get (D := (dC, dI)) (ci := 4) (v := .int 0) (C := RX4) (T := TX4) (N := 16) hx hb hts i4 hown hK hP 1 rfl rfl 0 (nlt rfl) w7 (fun _ h9 => h9) rfl dX10_port_55 ?_
  refine W.widen (k := 0) (n := 0) (by decide +kernel) (by decide +kernel) ?_
  exact ret_i hx hb hr hlocks hS (u := (fun _ => 0)) (hP.sub [] rfl) (hD.sub [] (by decide +kernel) rfl) dX10_port_58

set_option maxHeartbeats 4000000 in
set_option maxRecDepth 100000 in
theorem k55_X11_clearBank (l : Launch) (dC : Nat → ClassId) (dI : Nat → Nat → Nat) (cB cI cJ cZ cO : ClassId) (n : Nat → Nat) : CV l yX11_clearBank wsX11_clearBank ({ frames := 0, cells := 0, slots := 0, locals := 0 }) (dC, dI) (tyL cB cI cJ cZ cO) [.ref (n 0)] [((n 0), .inr (11, [.ref (n 1), .ref (n 2), .int 0, .int 0, .int 0, .int (-1), .int 0, .int 0, .int 0, .int 0, .long 0, .ref (n 3), .ref (n 4), .ref (n 5), .ref (n 6), .ref (n 7), .ref (n 8), .ref (n 9), .ref (n 10), .ref (n 11), .ref (n 12), .ref (n 13), .ref (n 14), .ref (n 15), .ref (n 16), .ref (n 17), .ref (n 18), .ref (n 19), .ref (n 20), .int 0, .int 1, .ref (n 21), .ref (n 22), .ref (n 23), .ref (n 24), .ref (n 25), .ref (n 26), .ref (n 27), .ref (n 28), .int 0, .ref (n 29), .ref (n 30), .int 0, .int 0, .ref (n 31), .ref (n 32), .ref (n 33), .ref (n 34), .int 0, .int 0, .int 0, .long 0, .ref (n 35), .ref (n 36), .int (-1), .int 0, .int 0, .int 0, .ref (n 37), .int 0, .ref (n 38), .ref (n 39), .ref (n 40), .ref (n 41), .ref (n 42), .ref (n 43), .int 0, .int 0, .ref (n 44), .ref (n 45), .ref (n 46)])), ((n 3), .inl (cI, 2, .inl (fun _ => 0))), ((n 4), .inl (cI, 2, .inl (fun _ => 0))), ((n 5), .inl (cI, 2, .inl (fun _ => 0))), ((n 6), .inl (cI, 2, .inl (fun _ => 0))), ((n 7), .inl (cI, 2, .inl (upd (fun _ => 0) 0 3))), ((n 8), .inl (cI, 2, .inl (fun _ => 0))), ((n 17), .inl (cZ, 2, .inl (fun _ => 0))), ((n 16), .inl (cZ, 128, .inl (fun _ => 0)))] (fun u => [((n 0), .inr (11, [.ref (n 1), .ref (n 2), .int 0, .int 0, .int 0, .int (-1), .int 0, .int 0, .int 0, .int 0, .long 0, .ref (n 3), .ref (n 4), .ref (n 5), .ref (n 6), .ref (n 7), .ref (n 8), .ref (n 9), .ref (n 10), .ref (n 11), .ref (n 12), .ref (n 13), .ref (n 14), .ref (n 15), .ref (n 16), .ref (n 17), .ref (n 18), .ref (n 19), .ref (n 20), .int 0, .int 1, .ref (n 21), .ref (n 22), .ref (n 23), .ref (n 24), .ref (n 25), .ref (n 26), .ref (n 27), .ref (n 28), .int 0, .ref (n 29), .ref (n 30), .int 0, .int 0, .ref (n 31), .ref (n 32), .ref (n 33), .ref (n 34), .int 0, .int 0, .int 0, .long 0, .ref (n 35), .ref (n 36), .int (-1), .int 0, .int 0, .int 0, .ref (n 37), .int 0, .ref (n 38), .ref (n 39), .ref (n 40), .ref (n 41), .ref (n 42), .ref (n 43), .int 0, .int 0, .ref (n 44), .ref (n 45), .ref (n 46)])), ((n 3), .inl (cI, 2, .inl (fun _ => 0))), ((n 4), .inl (cI, 2, .inl (fun _ => 0))), ((n 5), .inl (cI, 2, .inl (fun _ => 0))), ((n 6), .inl (cI, 2, .inl (fun _ => 0))), ((n 7), .inl (cI, 2, .inl (upd (upd (fun _ => 0) 0 3) 1 3))), ((n 8), .inl (cI, 2, .inl (fun _ => 0))), ((n 17), .inl (cZ, 2, .inl (fun _ => 0))), ((n 16), .inl (cZ, 128, .inl (fun _ => 0)))]) := by
  intro sz
  refine ct_open (cc := cX11_clearBank) (maxL := 2) (ret := none) (by decide) rfl (Nat.le_of_ble_eq_true rfl) ?_
  intro p e s m below meth c ls A hx hb hr hml hts hown hlocks hin hP hK hD hA hS hl
  have hl : lv_has ls 2 [(0, .ref (n 0))] := hl
  have hown : s.vm.findClass RX11 = some m.cls := hown
  have i11 : ∀ w ∈ u_ws RX11 TX11 71, w ∈ wsX11_clearBank := fun _ h => List.mem_cons_of_mem _ (List.mem_append_right _ h)
  have w1 := hts (.fieldLink RX11 20 "GuildCharterModel" "words" "[I") (List.mem_cons_of_mem _ (List.mem_append_left _ (List.mem_of_getElem? (i := 0) rfl)))
  have w2 := hts (.fieldLink RX11 227 "GuildCharterModel" "rb" "I") (List.mem_cons_of_mem _ (List.mem_append_left _ (List.mem_of_getElem? (i := 1) rfl)))
  have w3 := hts (.fieldLink RX11 24 "GuildCharterModel" "pairs" "[I") (List.mem_cons_of_mem _ (List.mem_append_left _ (List.mem_of_getElem? (i := 2) rfl)))
  have w4 := hts (.fieldLink RX11 27 "GuildCharterModel" "rules" "[I") (List.mem_cons_of_mem _ (List.mem_append_left _ (List.mem_of_getElem? (i := 3) rfl)))
  have w5 := hts (.fieldLink RX11 30 "GuildCharterModel" "alts" "[I") (List.mem_cons_of_mem _ (List.mem_append_left _ (List.mem_of_getElem? (i := 4) rfl)))
  have w6 := hts (.fieldLink RX11 33 "GuildCharterModel" "length" "[I") (List.mem_cons_of_mem _ (List.mem_append_left _ (List.mem_of_getElem? (i := 5) rfl)))
  have w7 := hts (.fieldLink RX11 36 "GuildCharterModel" "turnMany" "[I") (List.mem_cons_of_mem _ (List.mem_append_left _ (List.mem_of_getElem? (i := 6) rfl)))
  have w8 := hts (.fieldLink RX11 64 "GuildCharterModel" "isLength" "[Z") (List.mem_cons_of_mem _ (List.mem_append_left _ (List.mem_of_getElem? (i := 7) rfl)))
  have w9 := hts (.fieldLink RX11 60 "GuildCharterModel" "isPair" "[Z") (List.mem_cons_of_mem _ (List.mem_append_left _ (List.mem_of_getElem? (i := 8) rfl)))
  refine lv_aload_n hx hb dX11_clearBank_0 rfl (lv_at hl 0 rfl) ?_
  refine va_get (D := (dC, dI)) (ci := 11) (v := .ref (n 3)) (C := RX11) (T := TX11) (N := 71) hx hb hts i11 hown hK hP 0 rfl rfl 11 (nlt rfl) w1 (fun _ h9 => h9) rfl dX11_clearBank_1 ?_
  refine lv_aload_n hx hb dX11_clearBank_4 rfl (lv_at hl 0 rfl) ?_
  refine va_get (D := (dC, dI)) (ci := 11) (v := .int 1) (C := RX11) (T := TX11) (N := 71) hx hb hts i11 hown hK hP 0 rfl rfl 30 (nlt rfl) w2 (fun _ h9 => h9) rfl dX11_clearBank_5 ?_
  refine lv_iconst (v := 0) hx hb dX11_clearBank_8 z8 ?_
  refine my_iastS hx hb hK hP hD hS 1 1 rfl rfl z1295 rfl dX11_clearBank_9 (fun H locs hP hD hS => ?_)
  refine lv_aload_n hx hb dX11_clearBank_10 rfl (lv_at hl 0 rfl) ?_
  refine va_get (D := (dC, dI)) (ci := 11) (v := .ref (n 4)) (C := RX11) (T := TX11) (N := 71) hx hb hts i11 hown hK hP 0 rfl rfl 12 (nlt rfl) w3 (fun _ h9 => h9) rfl dX11_clearBank_11 ?_
  refine lv_aload_n hx hb dX11_clearBank_14 rfl (lv_at hl 0 rfl) ?_
  refine va_get (D := (dC, dI)) (ci := 11) (v := .int 1) (C := RX11) (T := TX11) (N := 71) hx hb hts i11 hown hK hP 0 rfl rfl 30 (nlt rfl) w2 (fun _ h9 => h9) rfl dX11_clearBank_15 ?_
  refine lv_iconst (v := 0) hx hb dX11_clearBank_18 z8 ?_
  refine my_iastS hx hb hK hP hD hS 2 1 rfl rfl z1295 rfl dX11_clearBank_19 (fun H locs hP hD hS => ?_)
  refine lv_aload_n hx hb dX11_clearBank_20 rfl (lv_at hl 0 rfl) ?_
  refine va_get (D := (dC, dI)) (ci := 11) (v := .ref (n 5)) (C := RX11) (T := TX11) (N := 71) hx hb hts i11 hown hK hP 0 rfl rfl 13 (nlt rfl) w4 (fun _ h9 => h9) rfl dX11_clearBank_21 ?_
  refine lv_aload_n hx hb dX11_clearBank_24 rfl (lv_at hl 0 rfl) ?_
  refine va_get (D := (dC, dI)) (ci := 11) (v := .int 1) (C := RX11) (T := TX11) (N := 71) hx hb hts i11 hown hK hP 0 rfl rfl 30 (nlt rfl) w2 (fun _ h9 => h9) rfl dX11_clearBank_25 ?_
  refine lv_iconst (v := 0) hx hb dX11_clearBank_28 z8 ?_
  refine my_iastS hx hb hK hP hD hS 3 1 rfl rfl z1295 rfl dX11_clearBank_29 (fun H locs hP hD hS => ?_)
  refine lv_aload_n hx hb dX11_clearBank_30 rfl (lv_at hl 0 rfl) ?_
  refine va_get (D := (dC, dI)) (ci := 11) (v := .ref (n 6)) (C := RX11) (T := TX11) (N := 71) hx hb hts i11 hown hK hP 0 rfl rfl 14 (nlt rfl) w5 (fun _ h9 => h9) rfl dX11_clearBank_31 ?_
  refine lv_aload_n hx hb dX11_clearBank_34 rfl (lv_at hl 0 rfl) ?_
  refine va_get (D := (dC, dI)) (ci := 11) (v := .int 1) (C := RX11) (T := TX11) (N := 71) hx hb hts i11 hown hK hP 0 rfl rfl 30 (nlt rfl) w2 (fun _ h9 => h9) rfl dX11_clearBank_35 ?_
  refine lv_iconst (v := 0) hx hb dX11_clearBank_38 z8 ?_
  refine my_iastS hx hb hK hP hD hS 4 1 rfl rfl z1295 rfl dX11_clearBank_39 (fun H locs hP hD hS => ?_)
  refine lv_aload_n hx hb dX11_clearBank_40 rfl (lv_at hl 0 rfl) ?_
  refine va_get (D := (dC, dI)) (ci := 11) (v := .ref (n 7)) (C := RX11) (T := TX11) (N := 71) hx hb hts i11 hown hK hP 0 rfl rfl 15 (nlt rfl) w6 (fun _ h9 => h9) rfl dX11_clearBank_41 ?_
  refine lv_aload_n hx hb dX11_clearBank_44 rfl (lv_at hl 0 rfl) ?_
  refine va_get (D := (dC, dI)) (ci := 11) (v := .int 1) (C := RX11) (T := TX11) (N := 71) hx hb hts i11 hown hK hP 0 rfl rfl 30 (nlt rfl) w2 (fun _ h9 => h9) rfl dX11_clearBank_45 ?_
  refine lv_iconst (v := 3) hx hb dX11_clearBank_48 z69 ?_
  refine my_iast hx hb hK hP hD hS 5 1 rfl rfl z1295 dX11_clearBank_49 (fun H locs hP hD hS => ?_)
  refine lv_aload_n hx hb dX11_clearBank_50 rfl (lv_at hl 0 rfl) ?_
  refine va_get (D := (dC, dI)) (ci := 11) (v := .ref (n 8)) (C := RX11) (T := TX11) (N := 71) hx hb hts i11 hown hK hP 0 rfl rfl 16 (nlt rfl) w7 (fun _ h9 => h9) rfl dX11_clearBank_51 ?_
  refine lv_aload_n hx hb dX11_clearBank_54 rfl (lv_at hl 0 rfl) ?_
  refine va_get (D := (dC, dI)) (ci := 11) (v := .int 1) (C := RX11) (T := TX11) (N := 71) hx hb hts i11 hown hK hP 0 rfl rfl 30 (nlt rfl) w2 (fun _ h9 => h9) rfl dX11_clearBank_55 ?_
  refine lv_iconst (v := 0) hx hb dX11_clearBank_58 z8 ?_
  refine my_iastS hx hb hK hP hD hS 6 1 rfl rfl z1295 rfl dX11_clearBank_59 (fun H locs hP hD hS => ?_)
  refine lv_aload_n hx hb dX11_clearBank_60 rfl (lv_at hl 0 rfl) ?_
  refine va_get (D := (dC, dI)) (ci := 11) (v := .ref (n 17)) (C := RX11) (T := TX11) (N := 71) hx hb hts i11 hown hK hP 0 rfl rfl 25 (nlt rfl) w8 (fun _ h9 => h9) rfl dX11_clearBank_61 ?_
  refine lv_aload_n hx hb dX11_clearBank_64 rfl (lv_at hl 0 rfl) ?_
  refine va_get (D := (dC, dI)) (ci := 11) (v := .int 1) (C := RX11) (T := TX11) (N := 71) hx hb hts i11 hown hK hP 0 rfl rfl 30 (nlt rfl) w2 (fun _ h9 => h9) rfl dX11_clearBank_65 ?_
  refine lv_iconst (v := 0) hx hb dX11_clearBank_68 z8 ?_
  refine my_zastS hx hb hK hP hD hS 7 3 rfl rfl z1295 z249 rfl dX11_clearBank_69 (fun H locs hP hD hS => ?_)
  refine lv_bipush (v := 64) hx hb dX11_clearBank_70 z138 ?_
  refine lv_aload_n hx hb dX11_clearBank_72 rfl (lv_at hl 0 rfl) ?_
  refine va_get (D := (dC, dI)) (ci := 11) (v := .int 1) (C := RX11) (T := TX11) (N := 71) hx hb hts i11 hown hK hP 0 rfl rfl 30 (nlt rfl) w2 (fun _ h9 => h9) rfl dX11_clearBank_73 ?_
  refine lv_imul hx hb dX11_clearBank_76 ?_
  refine tpi z1296 ?_
  refine lv_istore_n (lv' := [(1, .int 64), (0, .ref (n 0))]) hx hb dX11_clearBank_77 rfl hl (nlt rfl) rfl (fun ls hl => ?_)
  refine lv_iload_n hx hb dX11_clearBank_78 rfl (lv_at hl 0 rfl) ?_
  refine lv_bipush (v := 64) hx hb dX11_clearBank_79 z138 ?_
  refine lv_aload_n hx hb dX11_clearBank_81 rfl (lv_at hl 1 rfl) ?_
  refine va_get (D := (dC, dI)) (ci := 11) (v := .int 1) (C := RX11) (T := TX11) (N := 71) hx hb hts i11 hown hK hP 0 rfl rfl 30 (nlt rfl) w2 (fun _ h9 => h9) rfl dX11_clearBank_82 ?_
  refine lv_imul hx hb dX11_clearBank_85 ?_
  refine tpi z1296 ?_
  refine lv_bipush (v := 64) hx hb dX11_clearBank_86 z138 ?_
  refine lv_iadd hx hb dX11_clearBank_88 ?_
  refine tpi z1297 ?_
  refine lv_icmp_ge (tgt := 105) hx hb dX11_clearBank_89 z253 (fun c1 => absurd c1 (z1298)) (fun _ => ?_)
  refine lv_aload_n hx hb dX11_clearBank_92 rfl (lv_at hl 1 rfl) ?_
  refine va_get (D := (dC, dI)) (ci := 11) (v := .ref (n 16)) (C := RX11) (T := TX11) (N := 71) hx hb hts i11 hown hK hP 0 rfl rfl 24 (nlt rfl) w9 (fun _ h9 => h9) rfl dX11_clearBank_93 ?_
  refine lv_iload_n hx hb dX11_clearBank_96 rfl (lv_at hl 0 rfl) ?_
  refine lv_iconst (v := 0) hx hb dX11_clearBank_97 z8 ?_
  refine my_zastS hx hb hK hP hD hS 8 3 rfl rfl z1299 z249 rfl dX11_clearBank_98 (fun H locs hP hD hS => ?_)
  refine lv_iinc (v := 65) (lv' := [(1, .int 65), (0, .ref (n 0))]) hx hb dX11_clearBank_99 hl (k := 0) rfl z814 (nlt rfl) rfl (fun ls hl => ?_)
  refine lv_goto (tgt := 78) hx hb dX11_clearBank_102 z255 ?_
  refine lv_iload_n hx hb dX11_clearBank_78 rfl (lv_at hl 0 rfl) ?_
  refine lv_bipush (v := 64) hx hb dX11_clearBank_79 z138 ?_
  refine lv_aload_n hx hb dX11_clearBank_81 rfl (lv_at hl 1 rfl) ?_
  refine va_get (D := (dC, dI)) (ci := 11) (v := .int 1) (C := RX11) (T := TX11) (N := 71) hx hb hts i11 hown hK hP 0 rfl rfl 30 (nlt rfl) w2 (fun _ h9 => h9) rfl dX11_clearBank_82 ?_
  refine lv_imul hx hb dX11_clearBank_85 ?_
  refine tpi z1296 ?_
  refine lv_bipush (v := 64) hx hb dX11_clearBank_86 z138 ?_
  refine lv_iadd hx hb dX11_clearBank_88 ?_
  refine tpi z1297 ?_
  refine lv_icmp_ge (tgt := 105) hx hb dX11_clearBank_89 z253 (fun c1 => absurd c1 (z1300)) (fun _ => ?_)
  refine lv_aload_n hx hb dX11_clearBank_92 rfl (lv_at hl 1 rfl) ?_
  refine va_get (D := (dC, dI)) (ci := 11) (v := .ref (n 16)) (C := RX11) (T := TX11) (N := 71) hx hb hts i11 hown hK hP 0 rfl rfl 24 (nlt rfl) w9 (fun _ h9 => h9) rfl dX11_clearBank_93 ?_
  refine lv_iload_n hx hb dX11_clearBank_96 rfl (lv_at hl 0 rfl) ?_
  refine lv_iconst (v := 0) hx hb dX11_clearBank_97 z8 ?_
  refine my_zastS hx hb hK hP hD hS 8 3 rfl rfl z1301 z249 rfl dX11_clearBank_98 (fun H locs hP hD hS => ?_)
  refine lv_iinc (v := 66) (lv' := [(1, .int 66), (0, .ref (n 0))]) hx hb dX11_clearBank_99 hl (k := 0) rfl z817 (nlt rfl) rfl (fun ls hl => ?_)
  refine lv_goto (tgt := 78) hx hb dX11_clearBank_102 z255 ?_
  refine lv_iload_n hx hb dX11_clearBank_78 rfl (lv_at hl 0 rfl) ?_
  refine lv_bipush (v := 64) hx hb dX11_clearBank_79 z138 ?_
  refine lv_aload_n hx hb dX11_clearBank_81 rfl (lv_at hl 1 rfl) ?_
  refine va_get (D := (dC, dI)) (ci := 11) (v := .int 1) (C := RX11) (T := TX11) (N := 71) hx hb hts i11 hown hK hP 0 rfl rfl 30 (nlt rfl) w2 (fun _ h9 => h9) rfl dX11_clearBank_82 ?_
  refine lv_imul hx hb dX11_clearBank_85 ?_
  refine tpi z1296 ?_
  refine lv_bipush (v := 64) hx hb dX11_clearBank_86 z138 ?_
  refine lv_iadd hx hb dX11_clearBank_88 ?_
  refine tpi z1297 ?_
  refine lv_icmp_ge (tgt := 105) hx hb dX11_clearBank_89 z253 (fun c1 => absurd c1 (z1302)) (fun _ => ?_)
  refine lv_aload_n hx hb dX11_clearBank_92 rfl (lv_at hl 1 rfl) ?_
  refine va_get (D := (dC, dI)) (ci := 11) (v := .ref (n 16)) (C := RX11) (T := TX11) (N := 71) hx hb hts i11 hown hK hP 0 rfl rfl 24 (nlt rfl) w9 (fun _ h9 => h9) rfl dX11_clearBank_93 ?_
  refine lv_iload_n hx hb dX11_clearBank_96 rfl (lv_at hl 0 rfl) ?_
  refine lv_iconst (v := 0) hx hb dX11_clearBank_97 z8 ?_
  refine my_zastS hx hb hK hP hD hS 8 3 rfl rfl z1303 z249 rfl dX11_clearBank_98 (fun H locs hP hD hS => ?_)
  refine lv_iinc (v := 67) (lv' := [(1, .int 67), (0, .ref (n 0))]) hx hb dX11_clearBank_99 hl (k := 0) rfl z820 (nlt rfl) rfl (fun ls hl => ?_)
  refine lv_goto (tgt := 78) hx hb dX11_clearBank_102 z255 ?_
  refine lv_iload_n hx hb dX11_clearBank_78 rfl (lv_at hl 0 rfl) ?_
  refine lv_bipush (v := 64) hx hb dX11_clearBank_79 z138 ?_
  refine lv_aload_n hx hb dX11_clearBank_81 rfl (lv_at hl 1 rfl) ?_
  refine va_get (D := (dC, dI)) (ci := 11) (v := .int 1) (C := RX11) (T := TX11) (N := 71) hx hb hts i11 hown hK hP 0 rfl rfl 30 (nlt rfl) w2 (fun _ h9 => h9) rfl dX11_clearBank_82 ?_
  refine lv_imul hx hb dX11_clearBank_85 ?_
  refine tpi z1296 ?_
  refine lv_bipush (v := 64) hx hb dX11_clearBank_86 z138 ?_
  refine lv_iadd hx hb dX11_clearBank_88 ?_
  refine tpi z1297 ?_
  refine lv_icmp_ge (tgt := 105) hx hb dX11_clearBank_89 z253 (fun c1 => absurd c1 (z1304)) (fun _ => ?_)
  refine lv_aload_n hx hb dX11_clearBank_92 rfl (lv_at hl 1 rfl) ?_
  refine va_get (D := (dC, dI)) (ci := 11) (v := .ref (n 16)) (C := RX11) (T := TX11) (N := 71) hx hb hts i11 hown hK hP 0 rfl rfl 24 (nlt rfl) w9 (fun _ h9 => h9) rfl dX11_clearBank_93 ?_
  refine lv_iload_n hx hb dX11_clearBank_96 rfl (lv_at hl 0 rfl) ?_
  refine lv_iconst (v := 0) hx hb dX11_clearBank_97 z8 ?_
  refine my_zastS hx hb hK hP hD hS 8 3 rfl rfl z1305 z249 rfl dX11_clearBank_98 (fun H locs hP hD hS => ?_)
  refine lv_iinc (v := 68) (lv' := [(1, .int 68), (0, .ref (n 0))]) hx hb dX11_clearBank_99 hl (k := 0) rfl z823 (nlt rfl) rfl (fun ls hl => ?_)
  refine lv_goto (tgt := 78) hx hb dX11_clearBank_102 z255 ?_
  refine lv_iload_n hx hb dX11_clearBank_78 rfl (lv_at hl 0 rfl) ?_
  refine lv_bipush (v := 64) hx hb dX11_clearBank_79 z138 ?_
  refine lv_aload_n hx hb dX11_clearBank_81 rfl (lv_at hl 1 rfl) ?_
  refine va_get (D := (dC, dI)) (ci := 11) (v := .int 1) (C := RX11) (T := TX11) (N := 71) hx hb hts i11 hown hK hP 0 rfl rfl 30 (nlt rfl) w2 (fun _ h9 => h9) rfl dX11_clearBank_82 ?_
  refine lv_imul hx hb dX11_clearBank_85 ?_
  refine tpi z1296 ?_
  refine lv_bipush (v := 64) hx hb dX11_clearBank_86 z138 ?_
  refine lv_iadd hx hb dX11_clearBank_88 ?_
  refine tpi z1297 ?_
  refine lv_icmp_ge (tgt := 105) hx hb dX11_clearBank_89 z253 (fun c1 => absurd c1 (z1306)) (fun _ => ?_)
  refine lv_aload_n hx hb dX11_clearBank_92 rfl (lv_at hl 1 rfl) ?_
  refine va_get (D := (dC, dI)) (ci := 11) (v := .ref (n 16)) (C := RX11) (T := TX11) (N := 71) hx hb hts i11 hown hK hP 0 rfl rfl 24 (nlt rfl) w9 (fun _ h9 => h9) rfl dX11_clearBank_93 ?_
  refine lv_iload_n hx hb dX11_clearBank_96 rfl (lv_at hl 0 rfl) ?_
  refine lv_iconst (v := 0) hx hb dX11_clearBank_97 z8 ?_
  refine my_zastS hx hb hK hP hD hS 8 3 rfl rfl z1307 z249 rfl dX11_clearBank_98 (fun H locs hP hD hS => ?_)
  refine lv_iinc (v := 69) (lv' := [(1, .int 69), (0, .ref (n 0))]) hx hb dX11_clearBank_99 hl (k := 0) rfl z826 (nlt rfl) rfl (fun ls hl => ?_)
  refine lv_goto (tgt := 78) hx hb dX11_clearBank_102 z255 ?_
  refine lv_iload_n hx hb dX11_clearBank_78 rfl (lv_at hl 0 rfl) ?_
  refine lv_bipush (v := 64) hx hb dX11_clearBank_79 z138 ?_
  refine lv_aload_n hx hb dX11_clearBank_81 rfl (lv_at hl 1 rfl) ?_
  refine va_get (D := (dC, dI)) (ci := 11) (v := .int 1) (C := RX11) (T := TX11) (N := 71) hx hb hts i11 hown hK hP 0 rfl rfl 30 (nlt rfl) w2 (fun _ h9 => h9) rfl dX11_clearBank_82 ?_
  refine lv_imul hx hb dX11_clearBank_85 ?_
  refine tpi z1296 ?_
  refine lv_bipush (v := 64) hx hb dX11_clearBank_86 z138 ?_
  refine lv_iadd hx hb dX11_clearBank_88 ?_
  refine tpi z1297 ?_
  refine lv_icmp_ge (tgt := 105) hx hb dX11_clearBank_89 z253 (fun c1 => absurd c1 (z1308)) (fun _ => ?_)
  refine lv_aload_n hx hb dX11_clearBank_92 rfl (lv_at hl 1 rfl) ?_
  refine va_get (D := (dC, dI)) (ci := 11) (v := .ref (n 16)) (C := RX11) (T := TX11) (N := 71) hx hb hts i11 hown hK hP 0 rfl rfl 24 (nlt rfl) w9 (fun _ h9 => h9) rfl dX11_clearBank_93 ?_
  refine lv_iload_n hx hb dX11_clearBank_96 rfl (lv_at hl 0 rfl) ?_
  refine lv_iconst (v := 0) hx hb dX11_clearBank_97 z8 ?_
  refine my_zastS hx hb hK hP hD hS 8 3 rfl rfl z1309 z249 rfl dX11_clearBank_98 (fun H locs hP hD hS => ?_)
  refine lv_iinc (v := 70) (lv' := [(1, .int 70), (0, .ref (n 0))]) hx hb dX11_clearBank_99 hl (k := 0) rfl z829 (nlt rfl) rfl (fun ls hl => ?_)
  refine lv_goto (tgt := 78) hx hb dX11_clearBank_102 z255 ?_
  refine lv_iload_n hx hb dX11_clearBank_78 rfl (lv_at hl 0 rfl) ?_
  refine lv_bipush (v := 64) hx hb dX11_clearBank_79 z138 ?_
  refine lv_aload_n hx hb dX11_clearBank_81 rfl (lv_at hl 1 rfl) ?_
  refine va_get (D := (dC, dI)) (ci := 11) (v := .int 1) (C := RX11) (T := TX11) (N := 71) hx hb hts i11 hown hK hP 0 rfl rfl 30 (nlt rfl) w2 (fun _ h9 => h9) rfl dX11_clearBank_82 ?_
  refine lv_imul hx hb dX11_clearBank_85 ?_
  refine tpi z1296 ?_
  refine lv_bipush (v := 64) hx hb dX11_clearBank_86 z138 ?_
  refine lv_iadd hx hb dX11_clearBank_88 ?_
  refine tpi z1297 ?_
  refine lv_icmp_ge (tgt := 105) hx hb dX11_clearBank_89 z253 (fun c1 => absurd c1 (z1310)) (fun _ => ?_)
  refine lv_aload_n hx hb dX11_clearBank_92 rfl (lv_at hl 1 rfl) ?_
  refine va_get (D := (dC, dI)) (ci := 11) (v := .ref (n 16)) (C := RX11) (T := TX11) (N := 71) hx hb hts i11 hown hK hP 0 rfl rfl 24 (nlt rfl) w9 (fun _ h9 => h9) rfl dX11_clearBank_93 ?_
  refine lv_iload_n hx hb dX11_clearBank_96 rfl (lv_at hl 0 rfl) ?_
  refine lv_iconst (v := 0) hx hb dX11_clearBank_97 z8 ?_
  refine my_zastS hx hb hK hP hD hS 8 3 rfl rfl z1311 z249 rfl dX11_clearBank_98 (fun H locs hP hD hS => ?_)
  refine lv_iinc (v := 71) (lv' := [(1, .int 71), (0, .ref (n 0))]) hx hb dX11_clearBank_99 hl (k := 0) rfl z832 (nlt rfl) rfl (fun ls hl => ?_)
  refine lv_goto (tgt := 78) hx hb dX11_clearBank_102 z255 ?_
  refine lv_iload_n hx hb dX11_clearBank_78 rfl (lv_at hl 0 rfl) ?_
  refine lv_bipush (v := 64) hx hb dX11_clearBank_79 z138 ?_
  refine lv_aload_n hx hb dX11_clearBank_81 rfl (lv_at hl 1 rfl) ?_
  refine va_get (D := (dC, dI)) (ci := 11) (v := .int 1) (C := RX11) (T := TX11) (N := 71) hx hb hts i11 hown hK hP 0 rfl rfl 30 (nlt rfl) w2 (fun _ h9 => h9) rfl dX11_clearBank_82 ?_
  refine lv_imul hx hb dX11_clearBank_85 ?_
  refine tpi z1296 ?_
  refine lv_bipush (v := 64) hx hb dX11_clearBank_86 z138 ?_
  refine lv_iadd hx hb dX11_clearBank_88 ?_
  refine tpi z1297 ?_
  refine lv_icmp_ge (tgt := 105) hx hb dX11_clearBank_89 z253 (fun c1 => absurd c1 (z1312)) (fun _ => ?_)
  refine lv_aload_n hx hb dX11_clearBank_92 rfl (lv_at hl 1 rfl) ?_
  refine va_get (D := (dC, dI)) (ci := 11) (v := .ref (n 16)) (C := RX11) (T := TX11) (N := 71) hx hb hts i11 hown hK hP 0 rfl rfl 24 (nlt rfl) w9 (fun _ h9 => h9) rfl dX11_clearBank_93 ?_
  refine lv_iload_n hx hb dX11_clearBank_96 rfl (lv_at hl 0 rfl) ?_
  refine lv_iconst (v := 0) hx hb dX11_clearBank_97 z8 ?_
  refine my_zastS hx hb hK hP hD hS 8 3 rfl rfl z1313 z249 rfl dX11_clearBank_98 (fun H locs hP hD hS => ?_)
  refine lv_iinc (v := 72) (lv' := [(1, .int 72), (0, .ref (n 0))]) hx hb dX11_clearBank_99 hl (k := 0) rfl z835 (nlt rfl) rfl (fun ls hl => ?_)
  refine lv_goto (tgt := 78) hx hb dX11_clearBank_102 z255 ?_
  refine lv_iload_n hx hb dX11_clearBank_78 rfl (lv_at hl 0 rfl) ?_
  refine lv_bipush (v := 64) hx hb dX11_clearBank_79 z138 ?_
  refine lv_aload_n hx hb dX11_clearBank_81 rfl (lv_at hl 1 rfl) ?_
  refine va_get (D := (dC, dI)) (ci := 11) (v := .int 1) (C := RX11) (T := TX11) (N := 71) hx hb hts i11 hown hK hP 0 rfl rfl 30 (nlt rfl) w2 (fun _ h9 => h9) rfl dX11_clearBank_82 ?_
  refine lv_imul hx hb dX11_clearBank_85 ?_
  refine tpi z1296 ?_
  refine lv_bipush (v := 64) hx hb dX11_clearBank_86 z138 ?_
  refine lv_iadd hx hb dX11_clearBank_88 ?_
  refine tpi z1297 ?_
  refine lv_icmp_ge (tgt := 105) hx hb dX11_clearBank_89 z253 (fun c1 => absurd c1 (z1314)) (fun _ => ?_)
  refine lv_aload_n hx hb dX11_clearBank_92 rfl (lv_at hl 1 rfl) ?_
  refine va_get (D := (dC, dI)) (ci := 11) (v := .ref (n 16)) (C := RX11) (T := TX11) (N := 71) hx hb hts i11 hown hK hP 0 rfl rfl 24 (nlt rfl) w9 (fun _ h9 => h9) rfl dX11_clearBank_93 ?_
  refine lv_iload_n hx hb dX11_clearBank_96 rfl (lv_at hl 0 rfl) ?_
  refine lv_iconst (v := 0) hx hb dX11_clearBank_97 z8 ?_
  refine my_zastS hx hb hK hP hD hS 8 3 rfl rfl z1315 z249 rfl dX11_clearBank_98 (fun H locs hP hD hS => ?_)
  refine lv_iinc (v := 73) (lv' := [(1, .int 73), (0, .ref (n 0))]) hx hb dX11_clearBank_99 hl (k := 0) rfl z838 (nlt rfl) rfl (fun ls hl => ?_)
  refine lv_goto (tgt := 78) hx hb dX11_clearBank_102 z255 ?_
  refine lv_iload_n hx hb dX11_clearBank_78 rfl (lv_at hl 0 rfl) ?_
  refine lv_bipush (v := 64) hx hb dX11_clearBank_79 z138 ?_
  refine lv_aload_n hx hb dX11_clearBank_81 rfl (lv_at hl 1 rfl) ?_
  refine va_get (D := (dC, dI)) (ci := 11) (v := .int 1) (C := RX11) (T := TX11) (N := 71) hx hb hts i11 hown hK hP 0 rfl rfl 30 (nlt rfl) w2 (fun _ h9 => h9) rfl dX11_clearBank_82 ?_
  refine lv_imul hx hb dX11_clearBank_85 ?_
  refine tpi z1296 ?_
  refine lv_bipush (v := 64) hx hb dX11_clearBank_86 z138 ?_
  refine lv_iadd hx hb dX11_clearBank_88 ?_
  refine tpi z1297 ?_
  refine lv_icmp_ge (tgt := 105) hx hb dX11_clearBank_89 z253 (fun c1 => absurd c1 (z1316)) (fun _ => ?_)
  refine lv_aload_n hx hb dX11_clearBank_92 rfl (lv_at hl 1 rfl) ?_
  refine va_get (D := (dC, dI)) (ci := 11) (v := .ref (n 16)) (C := RX11) (T := TX11) (N := 71) hx hb hts i11 hown hK hP 0 rfl rfl 24 (nlt rfl) w9 (fun _ h9 => h9) rfl dX11_clearBank_93 ?_
  refine lv_iload_n hx hb dX11_clearBank_96 rfl (lv_at hl 0 rfl) ?_
  refine lv_iconst (v := 0) hx hb dX11_clearBank_97 z8 ?_
  refine my_zastS hx hb hK hP hD hS 8 3 rfl rfl z1317 z249 rfl dX11_clearBank_98 (fun H locs hP hD hS => ?_)
  refine lv_iinc (v := 74) (lv' := [(1, .int 74), (0, .ref (n 0))]) hx hb dX11_clearBank_99 hl (k := 0) rfl z841 (nlt rfl) rfl (fun ls hl => ?_)
  refine lv_goto (tgt := 78) hx hb dX11_clearBank_102 z255 ?_
  refine lv_iload_n hx hb dX11_clearBank_78 rfl (lv_at hl 0 rfl) ?_
  refine lv_bipush (v := 64) hx hb dX11_clearBank_79 z138 ?_
  refine lv_aload_n hx hb dX11_clearBank_81 rfl (lv_at hl 1 rfl) ?_
  refine va_get (D := (dC, dI)) (ci := 11) (v := .int 1) (C := RX11) (T := TX11) (N := 71) hx hb hts i11 hown hK hP 0 rfl rfl 30 (nlt rfl) w2 (fun _ h9 => h9) rfl dX11_clearBank_82 ?_
  refine lv_imul hx hb dX11_clearBank_85 ?_
  refine tpi z1296 ?_
  refine lv_bipush (v := 64) hx hb dX11_clearBank_86 z138 ?_
  refine lv_iadd hx hb dX11_clearBank_88 ?_
  refine tpi z1297 ?_
  refine lv_icmp_ge (tgt := 105) hx hb dX11_clearBank_89 z253 (fun c1 => absurd c1 (z1318)) (fun _ => ?_)
  refine lv_aload_n hx hb dX11_clearBank_92 rfl (lv_at hl 1 rfl) ?_
  refine va_get (D := (dC, dI)) (ci := 11) (v := .ref (n 16)) (C := RX11) (T := TX11) (N := 71) hx hb hts i11 hown hK hP 0 rfl rfl 24 (nlt rfl) w9 (fun _ h9 => h9) rfl dX11_clearBank_93 ?_
  refine lv_iload_n hx hb dX11_clearBank_96 rfl (lv_at hl 0 rfl) ?_
  refine lv_iconst (v := 0) hx hb dX11_clearBank_97 z8 ?_
  refine my_zastS hx hb hK hP hD hS 8 3 rfl rfl z1319 z249 rfl dX11_clearBank_98 (fun H locs hP hD hS => ?_)
  refine lv_iinc (v := 75) (lv' := [(1, .int 75), (0, .ref (n 0))]) hx hb dX11_clearBank_99 hl (k := 0) rfl z844 (nlt rfl) rfl (fun ls hl => ?_)
  refine lv_goto (tgt := 78) hx hb dX11_clearBank_102 z255 ?_
  refine lv_iload_n hx hb dX11_clearBank_78 rfl (lv_at hl 0 rfl) ?_
  refine lv_bipush (v := 64) hx hb dX11_clearBank_79 z138 ?_
  refine lv_aload_n hx hb dX11_clearBank_81 rfl (lv_at hl 1 rfl) ?_
  refine va_get (D := (dC, dI)) (ci := 11) (v := .int 1) (C := RX11) (T := TX11) (N := 71) hx hb hts i11 hown hK hP 0 rfl rfl 30 (nlt rfl) w2 (fun _ h9 => h9) rfl dX11_clearBank_82 ?_
  refine lv_imul hx hb dX11_clearBank_85 ?_
  refine tpi z1296 ?_
  refine lv_bipush (v := 64) hx hb dX11_clearBank_86 z138 ?_
  refine lv_iadd hx hb dX11_clearBank_88 ?_
  refine tpi z1297 ?_
  refine lv_icmp_ge (tgt := 105) hx hb dX11_clearBank_89 z253 (fun c1 => absurd c1 (z1320)) (fun _ => ?_)
  refine lv_aload_n hx hb dX11_clearBank_92 rfl (lv_at hl 1 rfl) ?_
  refine va_get (D := (dC, dI)) (ci := 11) (v := .ref (n 16)) (C := RX11) (T := TX11) (N := 71) hx hb hts i11 hown hK hP 0 rfl rfl 24 (nlt rfl) w9 (fun _ h9 => h9) rfl dX11_clearBank_93 ?_
  refine lv_iload_n hx hb dX11_clearBank_96 rfl (lv_at hl 0 rfl) ?_
  refine lv_iconst (v := 0) hx hb dX11_clearBank_97 z8 ?_
  refine my_zastS hx hb hK hP hD hS 8 3 rfl rfl z1321 z249 rfl dX11_clearBank_98 (fun H locs hP hD hS => ?_)
  refine lv_iinc (v := 76) (lv' := [(1, .int 76), (0, .ref (n 0))]) hx hb dX11_clearBank_99 hl (k := 0) rfl z847 (nlt rfl) rfl (fun ls hl => ?_)
  refine lv_goto (tgt := 78) hx hb dX11_clearBank_102 z255 ?_
  refine lv_iload_n hx hb dX11_clearBank_78 rfl (lv_at hl 0 rfl) ?_
  refine lv_bipush (v := 64) hx hb dX11_clearBank_79 z138 ?_
  refine lv_aload_n hx hb dX11_clearBank_81 rfl (lv_at hl 1 rfl) ?_
  refine va_get (D := (dC, dI)) (ci := 11) (v := .int 1) (C := RX11) (T := TX11) (N := 71) hx hb hts i11 hown hK hP 0 rfl rfl 30 (nlt rfl) w2 (fun _ h9 => h9) rfl dX11_clearBank_82 ?_
  refine lv_imul hx hb dX11_clearBank_85 ?_
  refine tpi z1296 ?_
  refine lv_bipush (v := 64) hx hb dX11_clearBank_86 z138 ?_
  refine lv_iadd hx hb dX11_clearBank_88 ?_
  refine tpi z1297 ?_
  refine lv_icmp_ge (tgt := 105) hx hb dX11_clearBank_89 z253 (fun c1 => absurd c1 (z1322)) (fun _ => ?_)
  refine lv_aload_n hx hb dX11_clearBank_92 rfl (lv_at hl 1 rfl) ?_
  refine va_get (D := (dC, dI)) (ci := 11) (v := .ref (n 16)) (C := RX11) (T := TX11) (N := 71) hx hb hts i11 hown hK hP 0 rfl rfl 24 (nlt rfl) w9 (fun _ h9 => h9) rfl dX11_clearBank_93 ?_
  refine lv_iload_n hx hb dX11_clearBank_96 rfl (lv_at hl 0 rfl) ?_
  refine lv_iconst (v := 0) hx hb dX11_clearBank_97 z8 ?_
  refine my_zastS hx hb hK hP hD hS 8 3 rfl rfl z1323 z249 rfl dX11_clearBank_98 (fun H locs hP hD hS => ?_)
  refine lv_iinc (v := 77) (lv' := [(1, .int 77), (0, .ref (n 0))]) hx hb dX11_clearBank_99 hl (k := 0) rfl z850 (nlt rfl) rfl (fun ls hl => ?_)
  refine lv_goto (tgt := 78) hx hb dX11_clearBank_102 z255 ?_
  refine lv_iload_n hx hb dX11_clearBank_78 rfl (lv_at hl 0 rfl) ?_
  refine lv_bipush (v := 64) hx hb dX11_clearBank_79 z138 ?_
  refine lv_aload_n hx hb dX11_clearBank_81 rfl (lv_at hl 1 rfl) ?_
  refine va_get (D := (dC, dI)) (ci := 11) (v := .int 1) (C := RX11) (T := TX11) (N := 71) hx hb hts i11 hown hK hP 0 rfl rfl 30 (nlt rfl) w2 (fun _ h9 => h9) rfl dX11_clearBank_82 ?_
  refine lv_imul hx hb dX11_clearBank_85 ?_
  refine tpi z1296 ?_
  refine lv_bipush (v := 64) hx hb dX11_clearBank_86 z138 ?_
  refine lv_iadd hx hb dX11_clearBank_88 ?_
  refine tpi z1297 ?_
  refine lv_icmp_ge (tgt := 105) hx hb dX11_clearBank_89 z253 (fun c1 => absurd c1 (z1324)) (fun _ => ?_)
  refine lv_aload_n hx hb dX11_clearBank_92 rfl (lv_at hl 1 rfl) ?_
  refine va_get (D := (dC, dI)) (ci := 11) (v := .ref (n 16)) (C := RX11) (T := TX11) (N := 71) hx hb hts i11 hown hK hP 0 rfl rfl 24 (nlt rfl) w9 (fun _ h9 => h9) rfl dX11_clearBank_93 ?_
  refine lv_iload_n hx hb dX11_clearBank_96 rfl (lv_at hl 0 rfl) ?_
  refine lv_iconst (v := 0) hx hb dX11_clearBank_97 z8 ?_
  refine my_zastS hx hb hK hP hD hS 8 3 rfl rfl z1325 z249 rfl dX11_clearBank_98 (fun H locs hP hD hS => ?_)
  refine lv_iinc (v := 78) (lv' := [(1, .int 78), (0, .ref (n 0))]) hx hb dX11_clearBank_99 hl (k := 0) rfl z853 (nlt rfl) rfl (fun ls hl => ?_)
  refine lv_goto (tgt := 78) hx hb dX11_clearBank_102 z255 ?_
  refine lv_iload_n hx hb dX11_clearBank_78 rfl (lv_at hl 0 rfl) ?_
  refine lv_bipush (v := 64) hx hb dX11_clearBank_79 z138 ?_
  refine lv_aload_n hx hb dX11_clearBank_81 rfl (lv_at hl 1 rfl) ?_
  refine va_get (D := (dC, dI)) (ci := 11) (v := .int 1) (C := RX11) (T := TX11) (N := 71) hx hb hts i11 hown hK hP 0 rfl rfl 30 (nlt rfl) w2 (fun _ h9 => h9) rfl dX11_clearBank_82 ?_
  refine lv_imul hx hb dX11_clearBank_85 ?_
  refine tpi z1296 ?_
  refine lv_bipush (v := 64) hx hb dX11_clearBank_86 z138 ?_
  refine lv_iadd hx hb dX11_clearBank_88 ?_
  refine tpi z1297 ?_
  refine lv_icmp_ge (tgt := 105) hx hb dX11_clearBank_89 z253 (fun c1 => absurd c1 (z1326)) (fun _ => ?_)
  refine lv_aload_n hx hb dX11_clearBank_92 rfl (lv_at hl 1 rfl) ?_
  refine va_get (D := (dC, dI)) (ci := 11) (v := .ref (n 16)) (C := RX11) (T := TX11) (N := 71) hx hb hts i11 hown hK hP 0 rfl rfl 24 (nlt rfl) w9 (fun _ h9 => h9) rfl dX11_clearBank_93 ?_
  refine lv_iload_n hx hb dX11_clearBank_96 rfl (lv_at hl 0 rfl) ?_
  refine lv_iconst (v := 0) hx hb dX11_clearBank_97 z8 ?_
  refine my_zastS hx hb hK hP hD hS 8 3 rfl rfl z1327 z249 rfl dX11_clearBank_98 (fun H locs hP hD hS => ?_)
  refine lv_iinc (v := 79) (lv' := [(1, .int 79), (0, .ref (n 0))]) hx hb dX11_clearBank_99 hl (k := 0) rfl z856 (nlt rfl) rfl (fun ls hl => ?_)
  refine lv_goto (tgt := 78) hx hb dX11_clearBank_102 z255 ?_
  refine lv_iload_n hx hb dX11_clearBank_78 rfl (lv_at hl 0 rfl) ?_
  refine lv_bipush (v := 64) hx hb dX11_clearBank_79 z138 ?_
  refine lv_aload_n hx hb dX11_clearBank_81 rfl (lv_at hl 1 rfl) ?_
  refine va_get (D := (dC, dI)) (ci := 11) (v := .int 1) (C := RX11) (T := TX11) (N := 71) hx hb hts i11 hown hK hP 0 rfl rfl 30 (nlt rfl) w2 (fun _ h9 => h9) rfl dX11_clearBank_82 ?_
  refine lv_imul hx hb dX11_clearBank_85 ?_
  refine tpi z1296 ?_
  refine lv_bipush (v := 64) hx hb dX11_clearBank_86 z138 ?_
  refine lv_iadd hx hb dX11_clearBank_88 ?_
  refine tpi z1297 ?_
  refine lv_icmp_ge (tgt := 105) hx hb dX11_clearBank_89 z253 (fun c1 => absurd c1 (z1328)) (fun _ => ?_)
  refine lv_aload_n hx hb dX11_clearBank_92 rfl (lv_at hl 1 rfl) ?_
  refine va_get (D := (dC, dI)) (ci := 11) (v := .ref (n 16)) (C := RX11) (T := TX11) (N := 71) hx hb hts i11 hown hK hP 0 rfl rfl 24 (nlt rfl) w9 (fun _ h9 => h9) rfl dX11_clearBank_93 ?_
  refine lv_iload_n hx hb dX11_clearBank_96 rfl (lv_at hl 0 rfl) ?_
  refine lv_iconst (v := 0) hx hb dX11_clearBank_97 z8 ?_
  refine my_zastS hx hb hK hP hD hS 8 3 rfl rfl z1329 z249 rfl dX11_clearBank_98 (fun H locs hP hD hS => ?_)
  refine lv_iinc (v := 80) (lv' := [(1, .int 80), (0, .ref (n 0))]) hx hb dX11_clearBank_99 hl (k := 0) rfl z859 (nlt rfl) rfl (fun ls hl => ?_)
  refine lv_goto (tgt := 78) hx hb dX11_clearBank_102 z255 ?_
  refine lv_iload_n hx hb dX11_clearBank_78 rfl (lv_at hl 0 rfl) ?_
  refine lv_bipush (v := 64) hx hb dX11_clearBank_79 z138 ?_
  refine lv_aload_n hx hb dX11_clearBank_81 rfl (lv_at hl 1 rfl) ?_
  refine va_get (D := (dC, dI)) (ci := 11) (v := .int 1) (C := RX11) (T := TX11) (N := 71) hx hb hts i11 hown hK hP 0 rfl rfl 30 (nlt rfl) w2 (fun _ h9 => h9) rfl dX11_clearBank_82 ?_
  refine lv_imul hx hb dX11_clearBank_85 ?_
  refine tpi z1296 ?_
  refine lv_bipush (v := 64) hx hb dX11_clearBank_86 z138 ?_
  refine lv_iadd hx hb dX11_clearBank_88 ?_
  refine tpi z1297 ?_
  refine lv_icmp_ge (tgt := 105) hx hb dX11_clearBank_89 z253 (fun c1 => absurd c1 (z1330)) (fun _ => ?_)
  refine lv_aload_n hx hb dX11_clearBank_92 rfl (lv_at hl 1 rfl) ?_
  refine va_get (D := (dC, dI)) (ci := 11) (v := .ref (n 16)) (C := RX11) (T := TX11) (N := 71) hx hb hts i11 hown hK hP 0 rfl rfl 24 (nlt rfl) w9 (fun _ h9 => h9) rfl dX11_clearBank_93 ?_
  refine lv_iload_n hx hb dX11_clearBank_96 rfl (lv_at hl 0 rfl) ?_
  refine lv_iconst (v := 0) hx hb dX11_clearBank_97 z8 ?_
  refine my_zastS hx hb hK hP hD hS 8 3 rfl rfl z1331 z249 rfl dX11_clearBank_98 (fun H locs hP hD hS => ?_)
  refine lv_iinc (v := 81) (lv' := [(1, .int 81), (0, .ref (n 0))]) hx hb dX11_clearBank_99 hl (k := 0) rfl z862 (nlt rfl) rfl (fun ls hl => ?_)
  refine lv_goto (tgt := 78) hx hb dX11_clearBank_102 z255 ?_
  refine lv_iload_n hx hb dX11_clearBank_78 rfl (lv_at hl 0 rfl) ?_
  refine lv_bipush (v := 64) hx hb dX11_clearBank_79 z138 ?_
  refine lv_aload_n hx hb dX11_clearBank_81 rfl (lv_at hl 1 rfl) ?_
  refine va_get (D := (dC, dI)) (ci := 11) (v := .int 1) (C := RX11) (T := TX11) (N := 71) hx hb hts i11 hown hK hP 0 rfl rfl 30 (nlt rfl) w2 (fun _ h9 => h9) rfl dX11_clearBank_82 ?_
  refine lv_imul hx hb dX11_clearBank_85 ?_
  refine tpi z1296 ?_
  refine lv_bipush (v := 64) hx hb dX11_clearBank_86 z138 ?_
  refine lv_iadd hx hb dX11_clearBank_88 ?_
  refine tpi z1297 ?_
  refine lv_icmp_ge (tgt := 105) hx hb dX11_clearBank_89 z253 (fun c1 => absurd c1 (z1332)) (fun _ => ?_)
  refine lv_aload_n hx hb dX11_clearBank_92 rfl (lv_at hl 1 rfl) ?_
  refine va_get (D := (dC, dI)) (ci := 11) (v := .ref (n 16)) (C := RX11) (T := TX11) (N := 71) hx hb hts i11 hown hK hP 0 rfl rfl 24 (nlt rfl) w9 (fun _ h9 => h9) rfl dX11_clearBank_93 ?_
  refine lv_iload_n hx hb dX11_clearBank_96 rfl (lv_at hl 0 rfl) ?_
  refine lv_iconst (v := 0) hx hb dX11_clearBank_97 z8 ?_
  refine my_zastS hx hb hK hP hD hS 8 3 rfl rfl z1333 z249 rfl dX11_clearBank_98 (fun H locs hP hD hS => ?_)
  refine lv_iinc (v := 82) (lv' := [(1, .int 82), (0, .ref (n 0))]) hx hb dX11_clearBank_99 hl (k := 0) rfl z865 (nlt rfl) rfl (fun ls hl => ?_)
  refine lv_goto (tgt := 78) hx hb dX11_clearBank_102 z255 ?_
  refine lv_iload_n hx hb dX11_clearBank_78 rfl (lv_at hl 0 rfl) ?_
  refine lv_bipush (v := 64) hx hb dX11_clearBank_79 z138 ?_
  refine lv_aload_n hx hb dX11_clearBank_81 rfl (lv_at hl 1 rfl) ?_
  refine va_get (D := (dC, dI)) (ci := 11) (v := .int 1) (C := RX11) (T := TX11) (N := 71) hx hb hts i11 hown hK hP 0 rfl rfl 30 (nlt rfl) w2 (fun _ h9 => h9) rfl dX11_clearBank_82 ?_
  refine lv_imul hx hb dX11_clearBank_85 ?_
  refine tpi z1296 ?_
  refine lv_bipush (v := 64) hx hb dX11_clearBank_86 z138 ?_
  refine lv_iadd hx hb dX11_clearBank_88 ?_
  refine tpi z1297 ?_
  refine lv_icmp_ge (tgt := 105) hx hb dX11_clearBank_89 z253 (fun c1 => absurd c1 (z1334)) (fun _ => ?_)
  refine lv_aload_n hx hb dX11_clearBank_92 rfl (lv_at hl 1 rfl) ?_
  refine va_get (D := (dC, dI)) (ci := 11) (v := .ref (n 16)) (C := RX11) (T := TX11) (N := 71) hx hb hts i11 hown hK hP 0 rfl rfl 24 (nlt rfl) w9 (fun _ h9 => h9) rfl dX11_clearBank_93 ?_
  refine lv_iload_n hx hb dX11_clearBank_96 rfl (lv_at hl 0 rfl) ?_
  refine lv_iconst (v := 0) hx hb dX11_clearBank_97 z8 ?_
  refine my_zastS hx hb hK hP hD hS 8 3 rfl rfl z1335 z249 rfl dX11_clearBank_98 (fun H locs hP hD hS => ?_)
  refine lv_iinc (v := 83) (lv' := [(1, .int 83), (0, .ref (n 0))]) hx hb dX11_clearBank_99 hl (k := 0) rfl z868 (nlt rfl) rfl (fun ls hl => ?_)
  refine lv_goto (tgt := 78) hx hb dX11_clearBank_102 z255 ?_
  refine lv_iload_n hx hb dX11_clearBank_78 rfl (lv_at hl 0 rfl) ?_
  refine lv_bipush (v := 64) hx hb dX11_clearBank_79 z138 ?_
  refine lv_aload_n hx hb dX11_clearBank_81 rfl (lv_at hl 1 rfl) ?_
  refine va_get (D := (dC, dI)) (ci := 11) (v := .int 1) (C := RX11) (T := TX11) (N := 71) hx hb hts i11 hown hK hP 0 rfl rfl 30 (nlt rfl) w2 (fun _ h9 => h9) rfl dX11_clearBank_82 ?_
  refine lv_imul hx hb dX11_clearBank_85 ?_
  refine tpi z1296 ?_
  refine lv_bipush (v := 64) hx hb dX11_clearBank_86 z138 ?_
  refine lv_iadd hx hb dX11_clearBank_88 ?_
  refine tpi z1297 ?_
  refine lv_icmp_ge (tgt := 105) hx hb dX11_clearBank_89 z253 (fun c1 => absurd c1 (z1336)) (fun _ => ?_)
  refine lv_aload_n hx hb dX11_clearBank_92 rfl (lv_at hl 1 rfl) ?_
  refine va_get (D := (dC, dI)) (ci := 11) (v := .ref (n 16)) (C := RX11) (T := TX11) (N := 71) hx hb hts i11 hown hK hP 0 rfl rfl 24 (nlt rfl) w9 (fun _ h9 => h9) rfl dX11_clearBank_93 ?_
  refine lv_iload_n hx hb dX11_clearBank_96 rfl (lv_at hl 0 rfl) ?_
  refine lv_iconst (v := 0) hx hb dX11_clearBank_97 z8 ?_
  refine my_zastS hx hb hK hP hD hS 8 3 rfl rfl z1337 z249 rfl dX11_clearBank_98 (fun H locs hP hD hS => ?_)
  refine lv_iinc (v := 84) (lv' := [(1, .int 84), (0, .ref (n 0))]) hx hb dX11_clearBank_99 hl (k := 0) rfl z871 (nlt rfl) rfl (fun ls hl => ?_)
  refine lv_goto (tgt := 78) hx hb dX11_clearBank_102 z255 ?_
  refine lv_iload_n hx hb dX11_clearBank_78 rfl (lv_at hl 0 rfl) ?_
  refine lv_bipush (v := 64) hx hb dX11_clearBank_79 z138 ?_
  refine lv_aload_n hx hb dX11_clearBank_81 rfl (lv_at hl 1 rfl) ?_
  refine va_get (D := (dC, dI)) (ci := 11) (v := .int 1) (C := RX11) (T := TX11) (N := 71) hx hb hts i11 hown hK hP 0 rfl rfl 30 (nlt rfl) w2 (fun _ h9 => h9) rfl dX11_clearBank_82 ?_
  refine lv_imul hx hb dX11_clearBank_85 ?_
  refine tpi z1296 ?_
  refine lv_bipush (v := 64) hx hb dX11_clearBank_86 z138 ?_
  refine lv_iadd hx hb dX11_clearBank_88 ?_
  refine tpi z1297 ?_
  refine lv_icmp_ge (tgt := 105) hx hb dX11_clearBank_89 z253 (fun c1 => absurd c1 (z1338)) (fun _ => ?_)
  refine lv_aload_n hx hb dX11_clearBank_92 rfl (lv_at hl 1 rfl) ?_
  refine va_get (D := (dC, dI)) (ci := 11) (v := .ref (n 16)) (C := RX11) (T := TX11) (N := 71) hx hb hts i11 hown hK hP 0 rfl rfl 24 (nlt rfl) w9 (fun _ h9 => h9) rfl dX11_clearBank_93 ?_
  refine lv_iload_n hx hb dX11_clearBank_96 rfl (lv_at hl 0 rfl) ?_
  refine lv_iconst (v := 0) hx hb dX11_clearBank_97 z8 ?_
  refine my_zastS hx hb hK hP hD hS 8 3 rfl rfl z1339 z249 rfl dX11_clearBank_98 (fun H locs hP hD hS => ?_)
  refine lv_iinc (v := 85) (lv' := [(1, .int 85), (0, .ref (n 0))]) hx hb dX11_clearBank_99 hl (k := 0) rfl z874 (nlt rfl) rfl (fun ls hl => ?_)
  refine lv_goto (tgt := 78) hx hb dX11_clearBank_102 z255 ?_
  refine lv_iload_n hx hb dX11_clearBank_78 rfl (lv_at hl 0 rfl) ?_
  refine lv_bipush (v := 64) hx hb dX11_clearBank_79 z138 ?_
  refine lv_aload_n hx hb dX11_clearBank_81 rfl (lv_at hl 1 rfl) ?_
  refine va_get (D := (dC, dI)) (ci := 11) (v := .int 1) (C := RX11) (T := TX11) (N := 71) hx hb hts i11 hown hK hP 0 rfl rfl 30 (nlt rfl) w2 (fun _ h9 => h9) rfl dX11_clearBank_82 ?_
  refine lv_imul hx hb dX11_clearBank_85 ?_
  refine tpi z1296 ?_
  refine lv_bipush (v := 64) hx hb dX11_clearBank_86 z138 ?_
  refine lv_iadd hx hb dX11_clearBank_88 ?_
  refine tpi z1297 ?_
  refine lv_icmp_ge (tgt := 105) hx hb dX11_clearBank_89 z253 (fun c1 => absurd c1 (z1340)) (fun _ => ?_)
  refine lv_aload_n hx hb dX11_clearBank_92 rfl (lv_at hl 1 rfl) ?_
  refine va_get (D := (dC, dI)) (ci := 11) (v := .ref (n 16)) (C := RX11) (T := TX11) (N := 71) hx hb hts i11 hown hK hP 0 rfl rfl 24 (nlt rfl) w9 (fun _ h9 => h9) rfl dX11_clearBank_93 ?_
  refine lv_iload_n hx hb dX11_clearBank_96 rfl (lv_at hl 0 rfl) ?_
  refine lv_iconst (v := 0) hx hb dX11_clearBank_97 z8 ?_
  refine my_zastS hx hb hK hP hD hS 8 3 rfl rfl z1341 z249 rfl dX11_clearBank_98 (fun H locs hP hD hS => ?_)
  refine lv_iinc (v := 86) (lv' := [(1, .int 86), (0, .ref (n 0))]) hx hb dX11_clearBank_99 hl (k := 0) rfl z877 (nlt rfl) rfl (fun ls hl => ?_)
  refine lv_goto (tgt := 78) hx hb dX11_clearBank_102 z255 ?_
  refine lv_iload_n hx hb dX11_clearBank_78 rfl (lv_at hl 0 rfl) ?_
  refine lv_bipush (v := 64) hx hb dX11_clearBank_79 z138 ?_
  refine lv_aload_n hx hb dX11_clearBank_81 rfl (lv_at hl 1 rfl) ?_
  refine va_get (D := (dC, dI)) (ci := 11) (v := .int 1) (C := RX11) (T := TX11) (N := 71) hx hb hts i11 hown hK hP 0 rfl rfl 30 (nlt rfl) w2 (fun _ h9 => h9) rfl dX11_clearBank_82 ?_
  refine lv_imul hx hb dX11_clearBank_85 ?_
  refine tpi z1296 ?_
  refine lv_bipush (v := 64) hx hb dX11_clearBank_86 z138 ?_
  refine lv_iadd hx hb dX11_clearBank_88 ?_
  refine tpi z1297 ?_
  refine lv_icmp_ge (tgt := 105) hx hb dX11_clearBank_89 z253 (fun c1 => absurd c1 (z1342)) (fun _ => ?_)
  refine lv_aload_n hx hb dX11_clearBank_92 rfl (lv_at hl 1 rfl) ?_
  refine va_get (D := (dC, dI)) (ci := 11) (v := .ref (n 16)) (C := RX11) (T := TX11) (N := 71) hx hb hts i11 hown hK hP 0 rfl rfl 24 (nlt rfl) w9 (fun _ h9 => h9) rfl dX11_clearBank_93 ?_
  refine lv_iload_n hx hb dX11_clearBank_96 rfl (lv_at hl 0 rfl) ?_
  refine lv_iconst (v := 0) hx hb dX11_clearBank_97 z8 ?_
  refine my_zastS hx hb hK hP hD hS 8 3 rfl rfl z1343 z249 rfl dX11_clearBank_98 (fun H locs hP hD hS => ?_)
  refine lv_iinc (v := 87) (lv' := [(1, .int 87), (0, .ref (n 0))]) hx hb dX11_clearBank_99 hl (k := 0) rfl z880 (nlt rfl) rfl (fun ls hl => ?_)
  refine lv_goto (tgt := 78) hx hb dX11_clearBank_102 z255 ?_
  refine lv_iload_n hx hb dX11_clearBank_78 rfl (lv_at hl 0 rfl) ?_
  refine lv_bipush (v := 64) hx hb dX11_clearBank_79 z138 ?_
  refine lv_aload_n hx hb dX11_clearBank_81 rfl (lv_at hl 1 rfl) ?_
  refine va_get (D := (dC, dI)) (ci := 11) (v := .int 1) (C := RX11) (T := TX11) (N := 71) hx hb hts i11 hown hK hP 0 rfl rfl 30 (nlt rfl) w2 (fun _ h9 => h9) rfl dX11_clearBank_82 ?_
  refine lv_imul hx hb dX11_clearBank_85 ?_
  refine tpi z1296 ?_
  refine lv_bipush (v := 64) hx hb dX11_clearBank_86 z138 ?_
  refine lv_iadd hx hb dX11_clearBank_88 ?_
  refine tpi z1297 ?_
  refine lv_icmp_ge (tgt := 105) hx hb dX11_clearBank_89 z253 (fun c1 => absurd c1 (z1344)) (fun _ => ?_)
  refine lv_aload_n hx hb dX11_clearBank_92 rfl (lv_at hl 1 rfl) ?_
  refine va_get (D := (dC, dI)) (ci := 11) (v := .ref (n 16)) (C := RX11) (T := TX11) (N := 71) hx hb hts i11 hown hK hP 0 rfl rfl 24 (nlt rfl) w9 (fun _ h9 => h9) rfl dX11_clearBank_93 ?_
  refine lv_iload_n hx hb dX11_clearBank_96 rfl (lv_at hl 0 rfl) ?_
  refine lv_iconst (v := 0) hx hb dX11_clearBank_97 z8 ?_
  refine my_zastS hx hb hK hP hD hS 8 3 rfl rfl z1345 z249 rfl dX11_clearBank_98 (fun H locs hP hD hS => ?_)
  refine lv_iinc (v := 88) (lv' := [(1, .int 88), (0, .ref (n 0))]) hx hb dX11_clearBank_99 hl (k := 0) rfl z883 (nlt rfl) rfl (fun ls hl => ?_)
  refine lv_goto (tgt := 78) hx hb dX11_clearBank_102 z255 ?_
  refine lv_iload_n hx hb dX11_clearBank_78 rfl (lv_at hl 0 rfl) ?_
  refine lv_bipush (v := 64) hx hb dX11_clearBank_79 z138 ?_
  refine lv_aload_n hx hb dX11_clearBank_81 rfl (lv_at hl 1 rfl) ?_
  refine va_get (D := (dC, dI)) (ci := 11) (v := .int 1) (C := RX11) (T := TX11) (N := 71) hx hb hts i11 hown hK hP 0 rfl rfl 30 (nlt rfl) w2 (fun _ h9 => h9) rfl dX11_clearBank_82 ?_
  refine lv_imul hx hb dX11_clearBank_85 ?_
  refine tpi z1296 ?_
  refine lv_bipush (v := 64) hx hb dX11_clearBank_86 z138 ?_
  refine lv_iadd hx hb dX11_clearBank_88 ?_
  refine tpi z1297 ?_
  refine lv_icmp_ge (tgt := 105) hx hb dX11_clearBank_89 z253 (fun c1 => absurd c1 (z1346)) (fun _ => ?_)
  refine lv_aload_n hx hb dX11_clearBank_92 rfl (lv_at hl 1 rfl) ?_
  refine va_get (D := (dC, dI)) (ci := 11) (v := .ref (n 16)) (C := RX11) (T := TX11) (N := 71) hx hb hts i11 hown hK hP 0 rfl rfl 24 (nlt rfl) w9 (fun _ h9 => h9) rfl dX11_clearBank_93 ?_
  refine lv_iload_n hx hb dX11_clearBank_96 rfl (lv_at hl 0 rfl) ?_
  refine lv_iconst (v := 0) hx hb dX11_clearBank_97 z8 ?_
  refine my_zastS hx hb hK hP hD hS 8 3 rfl rfl z1347 z249 rfl dX11_clearBank_98 (fun H locs hP hD hS => ?_)
  refine lv_iinc (v := 89) (lv' := [(1, .int 89), (0, .ref (n 0))]) hx hb dX11_clearBank_99 hl (k := 0) rfl z886 (nlt rfl) rfl (fun ls hl => ?_)
  refine lv_goto (tgt := 78) hx hb dX11_clearBank_102 z255 ?_
  refine lv_iload_n hx hb dX11_clearBank_78 rfl (lv_at hl 0 rfl) ?_
  refine lv_bipush (v := 64) hx hb dX11_clearBank_79 z138 ?_
  refine lv_aload_n hx hb dX11_clearBank_81 rfl (lv_at hl 1 rfl) ?_
  refine va_get (D := (dC, dI)) (ci := 11) (v := .int 1) (C := RX11) (T := TX11) (N := 71) hx hb hts i11 hown hK hP 0 rfl rfl 30 (nlt rfl) w2 (fun _ h9 => h9) rfl dX11_clearBank_82 ?_
  refine lv_imul hx hb dX11_clearBank_85 ?_
  refine tpi z1296 ?_
  refine lv_bipush (v := 64) hx hb dX11_clearBank_86 z138 ?_
  refine lv_iadd hx hb dX11_clearBank_88 ?_
  refine tpi z1297 ?_
  refine lv_icmp_ge (tgt := 105) hx hb dX11_clearBank_89 z253 (fun c1 => absurd c1 (z1348)) (fun _ => ?_)
  refine lv_aload_n hx hb dX11_clearBank_92 rfl (lv_at hl 1 rfl) ?_
  refine va_get (D := (dC, dI)) (ci := 11) (v := .ref (n 16)) (C := RX11) (T := TX11) (N := 71) hx hb hts i11 hown hK hP 0 rfl rfl 24 (nlt rfl) w9 (fun _ h9 => h9) rfl dX11_clearBank_93 ?_
  refine lv_iload_n hx hb dX11_clearBank_96 rfl (lv_at hl 0 rfl) ?_
  refine lv_iconst (v := 0) hx hb dX11_clearBank_97 z8 ?_
  refine my_zastS hx hb hK hP hD hS 8 3 rfl rfl z1349 z249 rfl dX11_clearBank_98 (fun H locs hP hD hS => ?_)
  refine lv_iinc (v := 90) (lv' := [(1, .int 90), (0, .ref (n 0))]) hx hb dX11_clearBank_99 hl (k := 0) rfl z889 (nlt rfl) rfl (fun ls hl => ?_)
  refine lv_goto (tgt := 78) hx hb dX11_clearBank_102 z255 ?_
  refine lv_iload_n hx hb dX11_clearBank_78 rfl (lv_at hl 0 rfl) ?_
  refine lv_bipush (v := 64) hx hb dX11_clearBank_79 z138 ?_
  refine lv_aload_n hx hb dX11_clearBank_81 rfl (lv_at hl 1 rfl) ?_
  refine va_get (D := (dC, dI)) (ci := 11) (v := .int 1) (C := RX11) (T := TX11) (N := 71) hx hb hts i11 hown hK hP 0 rfl rfl 30 (nlt rfl) w2 (fun _ h9 => h9) rfl dX11_clearBank_82 ?_
  refine lv_imul hx hb dX11_clearBank_85 ?_
  refine tpi z1296 ?_
  refine lv_bipush (v := 64) hx hb dX11_clearBank_86 z138 ?_
  refine lv_iadd hx hb dX11_clearBank_88 ?_
  refine tpi z1297 ?_
  refine lv_icmp_ge (tgt := 105) hx hb dX11_clearBank_89 z253 (fun c1 => absurd c1 (z1350)) (fun _ => ?_)
  refine lv_aload_n hx hb dX11_clearBank_92 rfl (lv_at hl 1 rfl) ?_
  refine va_get (D := (dC, dI)) (ci := 11) (v := .ref (n 16)) (C := RX11) (T := TX11) (N := 71) hx hb hts i11 hown hK hP 0 rfl rfl 24 (nlt rfl) w9 (fun _ h9 => h9) rfl dX11_clearBank_93 ?_
  refine lv_iload_n hx hb dX11_clearBank_96 rfl (lv_at hl 0 rfl) ?_
  refine lv_iconst (v := 0) hx hb dX11_clearBank_97 z8 ?_
  refine my_zastS hx hb hK hP hD hS 8 3 rfl rfl z1351 z249 rfl dX11_clearBank_98 (fun H locs hP hD hS => ?_)
  refine lv_iinc (v := 91) (lv' := [(1, .int 91), (0, .ref (n 0))]) hx hb dX11_clearBank_99 hl (k := 0) rfl z892 (nlt rfl) rfl (fun ls hl => ?_)
  refine lv_goto (tgt := 78) hx hb dX11_clearBank_102 z255 ?_
  refine lv_iload_n hx hb dX11_clearBank_78 rfl (lv_at hl 0 rfl) ?_
  refine lv_bipush (v := 64) hx hb dX11_clearBank_79 z138 ?_
  refine lv_aload_n hx hb dX11_clearBank_81 rfl (lv_at hl 1 rfl) ?_
  refine va_get (D := (dC, dI)) (ci := 11) (v := .int 1) (C := RX11) (T := TX11) (N := 71) hx hb hts i11 hown hK hP 0 rfl rfl 30 (nlt rfl) w2 (fun _ h9 => h9) rfl dX11_clearBank_82 ?_
  refine lv_imul hx hb dX11_clearBank_85 ?_
  refine tpi z1296 ?_
  refine lv_bipush (v := 64) hx hb dX11_clearBank_86 z138 ?_
  refine lv_iadd hx hb dX11_clearBank_88 ?_
  refine tpi z1297 ?_
  refine lv_icmp_ge (tgt := 105) hx hb dX11_clearBank_89 z253 (fun c1 => absurd c1 (z1352)) (fun _ => ?_)
  refine lv_aload_n hx hb dX11_clearBank_92 rfl (lv_at hl 1 rfl) ?_
  refine va_get (D := (dC, dI)) (ci := 11) (v := .ref (n 16)) (C := RX11) (T := TX11) (N := 71) hx hb hts i11 hown hK hP 0 rfl rfl 24 (nlt rfl) w9 (fun _ h9 => h9) rfl dX11_clearBank_93 ?_
  refine lv_iload_n hx hb dX11_clearBank_96 rfl (lv_at hl 0 rfl) ?_
  refine lv_iconst (v := 0) hx hb dX11_clearBank_97 z8 ?_
  refine my_zastS hx hb hK hP hD hS 8 3 rfl rfl z1353 z249 rfl dX11_clearBank_98 (fun H locs hP hD hS => ?_)
  refine lv_iinc (v := 92) (lv' := [(1, .int 92), (0, .ref (n 0))]) hx hb dX11_clearBank_99 hl (k := 0) rfl z895 (nlt rfl) rfl (fun ls hl => ?_)
  refine lv_goto (tgt := 78) hx hb dX11_clearBank_102 z255 ?_
  refine lv_iload_n hx hb dX11_clearBank_78 rfl (lv_at hl 0 rfl) ?_
  refine lv_bipush (v := 64) hx hb dX11_clearBank_79 z138 ?_
  refine lv_aload_n hx hb dX11_clearBank_81 rfl (lv_at hl 1 rfl) ?_
  refine va_get (D := (dC, dI)) (ci := 11) (v := .int 1) (C := RX11) (T := TX11) (N := 71) hx hb hts i11 hown hK hP 0 rfl rfl 30 (nlt rfl) w2 (fun _ h9 => h9) rfl dX11_clearBank_82 ?_
  refine lv_imul hx hb dX11_clearBank_85 ?_
  refine tpi z1296 ?_
  refine lv_bipush (v := 64) hx hb dX11_clearBank_86 z138 ?_
  refine lv_iadd hx hb dX11_clearBank_88 ?_
  refine tpi z1297 ?_
  refine lv_icmp_ge (tgt := 105) hx hb dX11_clearBank_89 z253 (fun c1 => absurd c1 (z1354)) (fun _ => ?_)
  refine lv_aload_n hx hb dX11_clearBank_92 rfl (lv_at hl 1 rfl) ?_
  refine va_get (D := (dC, dI)) (ci := 11) (v := .ref (n 16)) (C := RX11) (T := TX11) (N := 71) hx hb hts i11 hown hK hP 0 rfl rfl 24 (nlt rfl) w9 (fun _ h9 => h9) rfl dX11_clearBank_93 ?_
  refine lv_iload_n hx hb dX11_clearBank_96 rfl (lv_at hl 0 rfl) ?_
  refine lv_iconst (v := 0) hx hb dX11_clearBank_97 z8 ?_
  refine my_zastS hx hb hK hP hD hS 8 3 rfl rfl z1355 z249 rfl dX11_clearBank_98 (fun H locs hP hD hS => ?_)
  refine lv_iinc (v := 93) (lv' := [(1, .int 93), (0, .ref (n 0))]) hx hb dX11_clearBank_99 hl (k := 0) rfl z898 (nlt rfl) rfl (fun ls hl => ?_)
  refine lv_goto (tgt := 78) hx hb dX11_clearBank_102 z255 ?_
  refine lv_iload_n hx hb dX11_clearBank_78 rfl (lv_at hl 0 rfl) ?_
  refine lv_bipush (v := 64) hx hb dX11_clearBank_79 z138 ?_
  refine lv_aload_n hx hb dX11_clearBank_81 rfl (lv_at hl 1 rfl) ?_
  refine va_get (D := (dC, dI)) (ci := 11) (v := .int 1) (C := RX11) (T := TX11) (N := 71) hx hb hts i11 hown hK hP 0 rfl rfl 30 (nlt rfl) w2 (fun _ h9 => h9) rfl dX11_clearBank_82 ?_
  refine lv_imul hx hb dX11_clearBank_85 ?_
  refine tpi z1296 ?_
  refine lv_bipush (v := 64) hx hb dX11_clearBank_86 z138 ?_
  refine lv_iadd hx hb dX11_clearBank_88 ?_
  refine tpi z1297 ?_
  refine lv_icmp_ge (tgt := 105) hx hb dX11_clearBank_89 z253 (fun c1 => absurd c1 (z1356)) (fun _ => ?_)
  refine lv_aload_n hx hb dX11_clearBank_92 rfl (lv_at hl 1 rfl) ?_
  refine va_get (D := (dC, dI)) (ci := 11) (v := .ref (n 16)) (C := RX11) (T := TX11) (N := 71) hx hb hts i11 hown hK hP 0 rfl rfl 24 (nlt rfl) w9 (fun _ h9 => h9) rfl dX11_clearBank_93 ?_
  refine lv_iload_n hx hb dX11_clearBank_96 rfl (lv_at hl 0 rfl) ?_
  refine lv_iconst (v := 0) hx hb dX11_clearBank_97 z8 ?_
  refine my_zastS hx hb hK hP hD hS 8 3 rfl rfl z1357 z249 rfl dX11_clearBank_98 (fun H locs hP hD hS => ?_)
  refine lv_iinc (v := 94) (lv' := [(1, .int 94), (0, .ref (n 0))]) hx hb dX11_clearBank_99 hl (k := 0) rfl z901 (nlt rfl) rfl (fun ls hl => ?_)
  refine lv_goto (tgt := 78) hx hb dX11_clearBank_102 z255 ?_
  refine lv_iload_n hx hb dX11_clearBank_78 rfl (lv_at hl 0 rfl) ?_
  refine lv_bipush (v := 64) hx hb dX11_clearBank_79 z138 ?_
  refine lv_aload_n hx hb dX11_clearBank_81 rfl (lv_at hl 1 rfl) ?_
  refine va_get (D := (dC, dI)) (ci := 11) (v := .int 1) (C := RX11) (T := TX11) (N := 71) hx hb hts i11 hown hK hP 0 rfl rfl 30 (nlt rfl) w2 (fun _ h9 => h9) rfl dX11_clearBank_82 ?_
  refine lv_imul hx hb dX11_clearBank_85 ?_
  refine tpi z1296 ?_
  refine lv_bipush (v := 64) hx hb dX11_clearBank_86 z138 ?_
  refine lv_iadd hx hb dX11_clearBank_88 ?_
  refine tpi z1297 ?_
  refine lv_icmp_ge (tgt := 105) hx hb dX11_clearBank_89 z253 (fun c1 => absurd c1 (z1358)) (fun _ => ?_)
  refine lv_aload_n hx hb dX11_clearBank_92 rfl (lv_at hl 1 rfl) ?_
  refine va_get (D := (dC, dI)) (ci := 11) (v := .ref (n 16)) (C := RX11) (T := TX11) (N := 71) hx hb hts i11 hown hK hP 0 rfl rfl 24 (nlt rfl) w9 (fun _ h9 => h9) rfl dX11_clearBank_93 ?_
  refine lv_iload_n hx hb dX11_clearBank_96 rfl (lv_at hl 0 rfl) ?_
  refine lv_iconst (v := 0) hx hb dX11_clearBank_97 z8 ?_
  refine my_zastS hx hb hK hP hD hS 8 3 rfl rfl z1359 z249 rfl dX11_clearBank_98 (fun H locs hP hD hS => ?_)
  refine lv_iinc (v := 95) (lv' := [(1, .int 95), (0, .ref (n 0))]) hx hb dX11_clearBank_99 hl (k := 0) rfl z904 (nlt rfl) rfl (fun ls hl => ?_)
  refine lv_goto (tgt := 78) hx hb dX11_clearBank_102 z255 ?_
  refine lv_iload_n hx hb dX11_clearBank_78 rfl (lv_at hl 0 rfl) ?_
  refine lv_bipush (v := 64) hx hb dX11_clearBank_79 z138 ?_
  refine lv_aload_n hx hb dX11_clearBank_81 rfl (lv_at hl 1 rfl) ?_
  refine va_get (D := (dC, dI)) (ci := 11) (v := .int 1) (C := RX11) (T := TX11) (N := 71) hx hb hts i11 hown hK hP 0 rfl rfl 30 (nlt rfl) w2 (fun _ h9 => h9) rfl dX11_clearBank_82 ?_
  refine lv_imul hx hb dX11_clearBank_85 ?_
  refine tpi z1296 ?_
  refine lv_bipush (v := 64) hx hb dX11_clearBank_86 z138 ?_
  refine lv_iadd hx hb dX11_clearBank_88 ?_
  refine tpi z1297 ?_
  refine lv_icmp_ge (tgt := 105) hx hb dX11_clearBank_89 z253 (fun c1 => absurd c1 (z1360)) (fun _ => ?_)
  refine lv_aload_n hx hb dX11_clearBank_92 rfl (lv_at hl 1 rfl) ?_
  refine va_get (D := (dC, dI)) (ci := 11) (v := .ref (n 16)) (C := RX11) (T := TX11) (N := 71) hx hb hts i11 hown hK hP 0 rfl rfl 24 (nlt rfl) w9 (fun _ h9 => h9) rfl dX11_clearBank_93 ?_
  refine lv_iload_n hx hb dX11_clearBank_96 rfl (lv_at hl 0 rfl) ?_
  refine lv_iconst (v := 0) hx hb dX11_clearBank_97 z8 ?_
  refine my_zastS hx hb hK hP hD hS 8 3 rfl rfl z1361 z249 rfl dX11_clearBank_98 (fun H locs hP hD hS => ?_)
  refine lv_iinc (v := 96) (lv' := [(1, .int 96), (0, .ref (n 0))]) hx hb dX11_clearBank_99 hl (k := 0) rfl z907 (nlt rfl) rfl (fun ls hl => ?_)
  refine lv_goto (tgt := 78) hx hb dX11_clearBank_102 z255 ?_
  refine lv_iload_n hx hb dX11_clearBank_78 rfl (lv_at hl 0 rfl) ?_
  refine lv_bipush (v := 64) hx hb dX11_clearBank_79 z138 ?_
  refine lv_aload_n hx hb dX11_clearBank_81 rfl (lv_at hl 1 rfl) ?_
  refine va_get (D := (dC, dI)) (ci := 11) (v := .int 1) (C := RX11) (T := TX11) (N := 71) hx hb hts i11 hown hK hP 0 rfl rfl 30 (nlt rfl) w2 (fun _ h9 => h9) rfl dX11_clearBank_82 ?_
  refine lv_imul hx hb dX11_clearBank_85 ?_
  refine tpi z1296 ?_
  refine lv_bipush (v := 64) hx hb dX11_clearBank_86 z138 ?_
  refine lv_iadd hx hb dX11_clearBank_88 ?_
  refine tpi z1297 ?_
  refine lv_icmp_ge (tgt := 105) hx hb dX11_clearBank_89 z253 (fun c1 => absurd c1 (z1362)) (fun _ => ?_)
  refine lv_aload_n hx hb dX11_clearBank_92 rfl (lv_at hl 1 rfl) ?_
  refine va_get (D := (dC, dI)) (ci := 11) (v := .ref (n 16)) (C := RX11) (T := TX11) (N := 71) hx hb hts i11 hown hK hP 0 rfl rfl 24 (nlt rfl) w9 (fun _ h9 => h9) rfl dX11_clearBank_93 ?_
  refine lv_iload_n hx hb dX11_clearBank_96 rfl (lv_at hl 0 rfl) ?_
  refine lv_iconst (v := 0) hx hb dX11_clearBank_97 z8 ?_
  refine my_zastS hx hb hK hP hD hS 8 3 rfl rfl z1363 z249 rfl dX11_clearBank_98 (fun H locs hP hD hS => ?_)
  refine lv_iinc (v := 97) (lv' := [(1, .int 97), (0, .ref (n 0))]) hx hb dX11_clearBank_99 hl (k := 0) rfl z910 (nlt rfl) rfl (fun ls hl => ?_)
  refine lv_goto (tgt := 78) hx hb dX11_clearBank_102 z255 ?_
  refine lv_iload_n hx hb dX11_clearBank_78 rfl (lv_at hl 0 rfl) ?_
  refine lv_bipush (v := 64) hx hb dX11_clearBank_79 z138 ?_
  refine lv_aload_n hx hb dX11_clearBank_81 rfl (lv_at hl 1 rfl) ?_
  refine va_get (D := (dC, dI)) (ci := 11) (v := .int 1) (C := RX11) (T := TX11) (N := 71) hx hb hts i11 hown hK hP 0 rfl rfl 30 (nlt rfl) w2 (fun _ h9 => h9) rfl dX11_clearBank_82 ?_
  refine lv_imul hx hb dX11_clearBank_85 ?_
  refine tpi z1296 ?_
  refine lv_bipush (v := 64) hx hb dX11_clearBank_86 z138 ?_
  refine lv_iadd hx hb dX11_clearBank_88 ?_
  refine tpi z1297 ?_
  refine lv_icmp_ge (tgt := 105) hx hb dX11_clearBank_89 z253 (fun c1 => absurd c1 (z1364)) (fun _ => ?_)
  refine lv_aload_n hx hb dX11_clearBank_92 rfl (lv_at hl 1 rfl) ?_
  refine va_get (D := (dC, dI)) (ci := 11) (v := .ref (n 16)) (C := RX11) (T := TX11) (N := 71) hx hb hts i11 hown hK hP 0 rfl rfl 24 (nlt rfl) w9 (fun _ h9 => h9) rfl dX11_clearBank_93 ?_
  refine lv_iload_n hx hb dX11_clearBank_96 rfl (lv_at hl 0 rfl) ?_
  refine lv_iconst (v := 0) hx hb dX11_clearBank_97 z8 ?_
  refine my_zastS hx hb hK hP hD hS 8 3 rfl rfl z1365 z249 rfl dX11_clearBank_98 (fun H locs hP hD hS => ?_)
  refine lv_iinc (v := 98) (lv' := [(1, .int 98), (0, .ref (n 0))]) hx hb dX11_clearBank_99 hl (k := 0) rfl z913 (nlt rfl) rfl (fun ls hl => ?_)
  refine lv_goto (tgt := 78) hx hb dX11_clearBank_102 z255 ?_
  refine lv_iload_n hx hb dX11_clearBank_78 rfl (lv_at hl 0 rfl) ?_
  refine lv_bipush (v := 64) hx hb dX11_clearBank_79 z138 ?_
  refine lv_aload_n hx hb dX11_clearBank_81 rfl (lv_at hl 1 rfl) ?_
  refine va_get (D := (dC, dI)) (ci := 11) (v := .int 1) (C := RX11) (T := TX11) (N := 71) hx hb hts i11 hown hK hP 0 rfl rfl 30 (nlt rfl) w2 (fun _ h9 => h9) rfl dX11_clearBank_82 ?_
  refine lv_imul hx hb dX11_clearBank_85 ?_
  refine tpi z1296 ?_
  refine lv_bipush (v := 64) hx hb dX11_clearBank_86 z138 ?_
  refine lv_iadd hx hb dX11_clearBank_88 ?_
  refine tpi z1297 ?_
  refine lv_icmp_ge (tgt := 105) hx hb dX11_clearBank_89 z253 (fun c1 => absurd c1 (z1366)) (fun _ => ?_)
  refine lv_aload_n hx hb dX11_clearBank_92 rfl (lv_at hl 1 rfl) ?_
  refine va_get (D := (dC, dI)) (ci := 11) (v := .ref (n 16)) (C := RX11) (T := TX11) (N := 71) hx hb hts i11 hown hK hP 0 rfl rfl 24 (nlt rfl) w9 (fun _ h9 => h9) rfl dX11_clearBank_93 ?_
  refine lv_iload_n hx hb dX11_clearBank_96 rfl (lv_at hl 0 rfl) ?_
  refine lv_iconst (v := 0) hx hb dX11_clearBank_97 z8 ?_
  refine my_zastS hx hb hK hP hD hS 8 3 rfl rfl z1367 z249 rfl dX11_clearBank_98 (fun H locs hP hD hS => ?_)
  refine lv_iinc (v := 99) (lv' := [(1, .int 99), (0, .ref (n 0))]) hx hb dX11_clearBank_99 hl (k := 0) rfl z916 (nlt rfl) rfl (fun ls hl => ?_)
  refine lv_goto (tgt := 78) hx hb dX11_clearBank_102 z255 ?_
  refine lv_iload_n hx hb dX11_clearBank_78 rfl (lv_at hl 0 rfl) ?_
  refine lv_bipush (v := 64) hx hb dX11_clearBank_79 z138 ?_
  refine lv_aload_n hx hb dX11_clearBank_81 rfl (lv_at hl 1 rfl) ?_
  refine va_get (D := (dC, dI)) (ci := 11) (v := .int 1) (C := RX11) (T := TX11) (N := 71) hx hb hts i11 hown hK hP 0 rfl rfl 30 (nlt rfl) w2 (fun _ h9 => h9) rfl dX11_clearBank_82 ?_
  refine lv_imul hx hb dX11_clearBank_85 ?_
  refine tpi z1296 ?_
  refine lv_bipush (v := 64) hx hb dX11_clearBank_86 z138 ?_
  refine lv_iadd hx hb dX11_clearBank_88 ?_
  refine tpi z1297 ?_
  refine lv_icmp_ge (tgt := 105) hx hb dX11_clearBank_89 z253 (fun c1 => absurd c1 (z1368)) (fun _ => ?_)
  refine lv_aload_n hx hb dX11_clearBank_92 rfl (lv_at hl 1 rfl) ?_
  refine va_get (D := (dC, dI)) (ci := 11) (v := .ref (n 16)) (C := RX11) (T := TX11) (N := 71) hx hb hts i11 hown hK hP 0 rfl rfl 24 (nlt rfl) w9 (fun _ h9 => h9) rfl dX11_clearBank_93 ?_
  refine lv_iload_n hx hb dX11_clearBank_96 rfl (lv_at hl 0 rfl) ?_
  refine lv_iconst (v := 0) hx hb dX11_clearBank_97 z8 ?_
  refine my_zastS hx hb hK hP hD hS 8 3 rfl rfl z1369 z249 rfl dX11_clearBank_98 (fun H locs hP hD hS => ?_)
  refine lv_iinc (v := 100) (lv' := [(1, .int 100), (0, .ref (n 0))]) hx hb dX11_clearBank_99 hl (k := 0) rfl z919 (nlt rfl) rfl (fun ls hl => ?_)
  refine lv_goto (tgt := 78) hx hb dX11_clearBank_102 z255 ?_
  refine lv_iload_n hx hb dX11_clearBank_78 rfl (lv_at hl 0 rfl) ?_
  refine lv_bipush (v := 64) hx hb dX11_clearBank_79 z138 ?_
  refine lv_aload_n hx hb dX11_clearBank_81 rfl (lv_at hl 1 rfl) ?_
  refine va_get (D := (dC, dI)) (ci := 11) (v := .int 1) (C := RX11) (T := TX11) (N := 71) hx hb hts i11 hown hK hP 0 rfl rfl 30 (nlt rfl) w2 (fun _ h9 => h9) rfl dX11_clearBank_82 ?_
  refine lv_imul hx hb dX11_clearBank_85 ?_
  refine tpi z1296 ?_
  refine lv_bipush (v := 64) hx hb dX11_clearBank_86 z138 ?_
  refine lv_iadd hx hb dX11_clearBank_88 ?_
  refine tpi z1297 ?_
  refine lv_icmp_ge (tgt := 105) hx hb dX11_clearBank_89 z253 (fun c1 => absurd c1 (z1370)) (fun _ => ?_)
  refine lv_aload_n hx hb dX11_clearBank_92 rfl (lv_at hl 1 rfl) ?_
  refine va_get (D := (dC, dI)) (ci := 11) (v := .ref (n 16)) (C := RX11) (T := TX11) (N := 71) hx hb hts i11 hown hK hP 0 rfl rfl 24 (nlt rfl) w9 (fun _ h9 => h9) rfl dX11_clearBank_93 ?_
  refine lv_iload_n hx hb dX11_clearBank_96 rfl (lv_at hl 0 rfl) ?_
  refine lv_iconst (v := 0) hx hb dX11_clearBank_97 z8 ?_
  refine my_zastS hx hb hK hP hD hS 8 3 rfl rfl z1371 z249 rfl dX11_clearBank_98 (fun H locs hP hD hS => ?_)
  refine lv_iinc (v := 101) (lv' := [(1, .int 101), (0, .ref (n 0))]) hx hb dX11_clearBank_99 hl (k := 0) rfl z922 (nlt rfl) rfl (fun ls hl => ?_)
  refine lv_goto (tgt := 78) hx hb dX11_clearBank_102 z255 ?_
  refine lv_iload_n hx hb dX11_clearBank_78 rfl (lv_at hl 0 rfl) ?_
  refine lv_bipush (v := 64) hx hb dX11_clearBank_79 z138 ?_
  refine lv_aload_n hx hb dX11_clearBank_81 rfl (lv_at hl 1 rfl) ?_
  refine va_get (D := (dC, dI)) (ci := 11) (v := .int 1) (C := RX11) (T := TX11) (N := 71) hx hb hts i11 hown hK hP 0 rfl rfl 30 (nlt rfl) w2 (fun _ h9 => h9) rfl dX11_clearBank_82 ?_
  refine lv_imul hx hb dX11_clearBank_85 ?_
  refine tpi z1296 ?_
  refine lv_bipush (v := 64) hx hb dX11_clearBank_86 z138 ?_
  refine lv_iadd hx hb dX11_clearBank_88 ?_
  refine tpi z1297 ?_
  refine lv_icmp_ge (tgt := 105) hx hb dX11_clearBank_89 z253 (fun c1 => absurd c1 (z1372)) (fun _ => ?_)
  refine lv_aload_n hx hb dX11_clearBank_92 rfl (lv_at hl 1 rfl) ?_
  refine va_get (D := (dC, dI)) (ci := 11) (v := .ref (n 16)) (C := RX11) (T := TX11) (N := 71) hx hb hts i11 hown hK hP 0 rfl rfl 24 (nlt rfl) w9 (fun _ h9 => h9) rfl dX11_clearBank_93 ?_
  refine lv_iload_n hx hb dX11_clearBank_96 rfl (lv_at hl 0 rfl) ?_
  refine lv_iconst (v := 0) hx hb dX11_clearBank_97 z8 ?_
  refine my_zastS hx hb hK hP hD hS 8 3 rfl rfl z1373 z249 rfl dX11_clearBank_98 (fun H locs hP hD hS => ?_)
  refine lv_iinc (v := 102) (lv' := [(1, .int 102), (0, .ref (n 0))]) hx hb dX11_clearBank_99 hl (k := 0) rfl z925 (nlt rfl) rfl (fun ls hl => ?_)
  refine lv_goto (tgt := 78) hx hb dX11_clearBank_102 z255 ?_
  refine lv_iload_n hx hb dX11_clearBank_78 rfl (lv_at hl 0 rfl) ?_
  refine lv_bipush (v := 64) hx hb dX11_clearBank_79 z138 ?_
  refine lv_aload_n hx hb dX11_clearBank_81 rfl (lv_at hl 1 rfl) ?_
  refine va_get (D := (dC, dI)) (ci := 11) (v := .int 1) (C := RX11) (T := TX11) (N := 71) hx hb hts i11 hown hK hP 0 rfl rfl 30 (nlt rfl) w2 (fun _ h9 => h9) rfl dX11_clearBank_82 ?_
  refine lv_imul hx hb dX11_clearBank_85 ?_
  refine tpi z1296 ?_
  refine lv_bipush (v := 64) hx hb dX11_clearBank_86 z138 ?_
  refine lv_iadd hx hb dX11_clearBank_88 ?_
  refine tpi z1297 ?_
  refine lv_icmp_ge (tgt := 105) hx hb dX11_clearBank_89 z253 (fun c1 => absurd c1 (z1374)) (fun _ => ?_)
  refine lv_aload_n hx hb dX11_clearBank_92 rfl (lv_at hl 1 rfl) ?_
  refine va_get (D := (dC, dI)) (ci := 11) (v := .ref (n 16)) (C := RX11) (T := TX11) (N := 71) hx hb hts i11 hown hK hP 0 rfl rfl 24 (nlt rfl) w9 (fun _ h9 => h9) rfl dX11_clearBank_93 ?_
  refine lv_iload_n hx hb dX11_clearBank_96 rfl (lv_at hl 0 rfl) ?_
  refine lv_iconst (v := 0) hx hb dX11_clearBank_97 z8 ?_
  refine my_zastS hx hb hK hP hD hS 8 3 rfl rfl z1375 z249 rfl dX11_clearBank_98 (fun H locs hP hD hS => ?_)
  refine lv_iinc (v := 103) (lv' := [(1, .int 103), (0, .ref (n 0))]) hx hb dX11_clearBank_99 hl (k := 0) rfl z928 (nlt rfl) rfl (fun ls hl => ?_)
  refine lv_goto (tgt := 78) hx hb dX11_clearBank_102 z255 ?_
  refine lv_iload_n hx hb dX11_clearBank_78 rfl (lv_at hl 0 rfl) ?_
  refine lv_bipush (v := 64) hx hb dX11_clearBank_79 z138 ?_
  refine lv_aload_n hx hb dX11_clearBank_81 rfl (lv_at hl 1 rfl) ?_
  refine va_get (D := (dC, dI)) (ci := 11) (v := .int 1) (C := RX11) (T := TX11) (N := 71) hx hb hts i11 hown hK hP 0 rfl rfl 30 (nlt rfl) w2 (fun _ h9 => h9) rfl dX11_clearBank_82 ?_
  refine lv_imul hx hb dX11_clearBank_85 ?_
  refine tpi z1296 ?_
  refine lv_bipush (v := 64) hx hb dX11_clearBank_86 z138 ?_
  refine lv_iadd hx hb dX11_clearBank_88 ?_
  refine tpi z1297 ?_
  refine lv_icmp_ge (tgt := 105) hx hb dX11_clearBank_89 z253 (fun c1 => absurd c1 (z1376)) (fun _ => ?_)
  refine lv_aload_n hx hb dX11_clearBank_92 rfl (lv_at hl 1 rfl) ?_
  refine va_get (D := (dC, dI)) (ci := 11) (v := .ref (n 16)) (C := RX11) (T := TX11) (N := 71) hx hb hts i11 hown hK hP 0 rfl rfl 24 (nlt rfl) w9 (fun _ h9 => h9) rfl dX11_clearBank_93 ?_
  refine lv_iload_n hx hb dX11_clearBank_96 rfl (lv_at hl 0 rfl) ?_
  refine lv_iconst (v := 0) hx hb dX11_clearBank_97 z8 ?_
  refine my_zastS hx hb hK hP hD hS 8 3 rfl rfl z1377 z249 rfl dX11_clearBank_98 (fun H locs hP hD hS => ?_)
  refine lv_iinc (v := 104) (lv' := [(1, .int 104), (0, .ref (n 0))]) hx hb dX11_clearBank_99 hl (k := 0) rfl z931 (nlt rfl) rfl (fun ls hl => ?_)
  refine lv_goto (tgt := 78) hx hb dX11_clearBank_102 z255 ?_
  refine lv_iload_n hx hb dX11_clearBank_78 rfl (lv_at hl 0 rfl) ?_
  refine lv_bipush (v := 64) hx hb dX11_clearBank_79 z138 ?_
  refine lv_aload_n hx hb dX11_clearBank_81 rfl (lv_at hl 1 rfl) ?_
  refine va_get (D := (dC, dI)) (ci := 11) (v := .int 1) (C := RX11) (T := TX11) (N := 71) hx hb hts i11 hown hK hP 0 rfl rfl 30 (nlt rfl) w2 (fun _ h9 => h9) rfl dX11_clearBank_82 ?_
  refine lv_imul hx hb dX11_clearBank_85 ?_
  refine tpi z1296 ?_
  refine lv_bipush (v := 64) hx hb dX11_clearBank_86 z138 ?_
  refine lv_iadd hx hb dX11_clearBank_88 ?_
  refine tpi z1297 ?_
  refine lv_icmp_ge (tgt := 105) hx hb dX11_clearBank_89 z253 (fun c1 => absurd c1 (z1378)) (fun _ => ?_)
  refine lv_aload_n hx hb dX11_clearBank_92 rfl (lv_at hl 1 rfl) ?_
  refine va_get (D := (dC, dI)) (ci := 11) (v := .ref (n 16)) (C := RX11) (T := TX11) (N := 71) hx hb hts i11 hown hK hP 0 rfl rfl 24 (nlt rfl) w9 (fun _ h9 => h9) rfl dX11_clearBank_93 ?_
  refine lv_iload_n hx hb dX11_clearBank_96 rfl (lv_at hl 0 rfl) ?_
  refine lv_iconst (v := 0) hx hb dX11_clearBank_97 z8 ?_
  refine my_zastS hx hb hK hP hD hS 8 3 rfl rfl z1379 z249 rfl dX11_clearBank_98 (fun H locs hP hD hS => ?_)
  refine lv_iinc (v := 105) (lv' := [(1, .int 105), (0, .ref (n 0))]) hx hb dX11_clearBank_99 hl (k := 0) rfl z934 (nlt rfl) rfl (fun ls hl => ?_)
  refine lv_goto (tgt := 78) hx hb dX11_clearBank_102 z255 ?_
  refine lv_iload_n hx hb dX11_clearBank_78 rfl (lv_at hl 0 rfl) ?_
  refine lv_bipush (v := 64) hx hb dX11_clearBank_79 z138 ?_
  refine lv_aload_n hx hb dX11_clearBank_81 rfl (lv_at hl 1 rfl) ?_
  refine va_get (D := (dC, dI)) (ci := 11) (v := .int 1) (C := RX11) (T := TX11) (N := 71) hx hb hts i11 hown hK hP 0 rfl rfl 30 (nlt rfl) w2 (fun _ h9 => h9) rfl dX11_clearBank_82 ?_
  refine lv_imul hx hb dX11_clearBank_85 ?_
  refine tpi z1296 ?_
  refine lv_bipush (v := 64) hx hb dX11_clearBank_86 z138 ?_
  refine lv_iadd hx hb dX11_clearBank_88 ?_
  refine tpi z1297 ?_
  refine lv_icmp_ge (tgt := 105) hx hb dX11_clearBank_89 z253 (fun c1 => absurd c1 (z1380)) (fun _ => ?_)
  refine lv_aload_n hx hb dX11_clearBank_92 rfl (lv_at hl 1 rfl) ?_
  refine va_get (D := (dC, dI)) (ci := 11) (v := .ref (n 16)) (C := RX11) (T := TX11) (N := 71) hx hb hts i11 hown hK hP 0 rfl rfl 24 (nlt rfl) w9 (fun _ h9 => h9) rfl dX11_clearBank_93 ?_
  refine lv_iload_n hx hb dX11_clearBank_96 rfl (lv_at hl 0 rfl) ?_
  refine lv_iconst (v := 0) hx hb dX11_clearBank_97 z8 ?_
  refine my_zastS hx hb hK hP hD hS 8 3 rfl rfl z1381 z249 rfl dX11_clearBank_98 (fun H locs hP hD hS => ?_)
  refine lv_iinc (v := 106) (lv' := [(1, .int 106), (0, .ref (n 0))]) hx hb dX11_clearBank_99 hl (k := 0) rfl z937 (nlt rfl) rfl (fun ls hl => ?_)
  refine lv_goto (tgt := 78) hx hb dX11_clearBank_102 z255 ?_
  refine lv_iload_n hx hb dX11_clearBank_78 rfl (lv_at hl 0 rfl) ?_
  refine lv_bipush (v := 64) hx hb dX11_clearBank_79 z138 ?_
  refine lv_aload_n hx hb dX11_clearBank_81 rfl (lv_at hl 1 rfl) ?_
  refine va_get (D := (dC, dI)) (ci := 11) (v := .int 1) (C := RX11) (T := TX11) (N := 71) hx hb hts i11 hown hK hP 0 rfl rfl 30 (nlt rfl) w2 (fun _ h9 => h9) rfl dX11_clearBank_82 ?_
  refine lv_imul hx hb dX11_clearBank_85 ?_
  refine tpi z1296 ?_
  refine lv_bipush (v := 64) hx hb dX11_clearBank_86 z138 ?_
  refine lv_iadd hx hb dX11_clearBank_88 ?_
  refine tpi z1297 ?_
  refine lv_icmp_ge (tgt := 105) hx hb dX11_clearBank_89 z253 (fun c1 => absurd c1 (z1382)) (fun _ => ?_)
  refine lv_aload_n hx hb dX11_clearBank_92 rfl (lv_at hl 1 rfl) ?_
  refine va_get (D := (dC, dI)) (ci := 11) (v := .ref (n 16)) (C := RX11) (T := TX11) (N := 71) hx hb hts i11 hown hK hP 0 rfl rfl 24 (nlt rfl) w9 (fun _ h9 => h9) rfl dX11_clearBank_93 ?_
  refine lv_iload_n hx hb dX11_clearBank_96 rfl (lv_at hl 0 rfl) ?_
  refine lv_iconst (v := 0) hx hb dX11_clearBank_97 z8 ?_
  refine my_zastS hx hb hK hP hD hS 8 3 rfl rfl z1383 z249 rfl dX11_clearBank_98 (fun H locs hP hD hS => ?_)
  refine lv_iinc (v := 107) (lv' := [(1, .int 107), (0, .ref (n 0))]) hx hb dX11_clearBank_99 hl (k := 0) rfl z940 (nlt rfl) rfl (fun ls hl => ?_)
  refine lv_goto (tgt := 78) hx hb dX11_clearBank_102 z255 ?_
  refine lv_iload_n hx hb dX11_clearBank_78 rfl (lv_at hl 0 rfl) ?_
  refine lv_bipush (v := 64) hx hb dX11_clearBank_79 z138 ?_
  refine lv_aload_n hx hb dX11_clearBank_81 rfl (lv_at hl 1 rfl) ?_
  refine va_get (D := (dC, dI)) (ci := 11) (v := .int 1) (C := RX11) (T := TX11) (N := 71) hx hb hts i11 hown hK hP 0 rfl rfl 30 (nlt rfl) w2 (fun _ h9 => h9) rfl dX11_clearBank_82 ?_
  refine lv_imul hx hb dX11_clearBank_85 ?_
  refine tpi z1296 ?_
  refine lv_bipush (v := 64) hx hb dX11_clearBank_86 z138 ?_
  refine lv_iadd hx hb dX11_clearBank_88 ?_
  refine tpi z1297 ?_
  refine lv_icmp_ge (tgt := 105) hx hb dX11_clearBank_89 z253 (fun c1 => absurd c1 (z1384)) (fun _ => ?_)
  refine lv_aload_n hx hb dX11_clearBank_92 rfl (lv_at hl 1 rfl) ?_
  refine va_get (D := (dC, dI)) (ci := 11) (v := .ref (n 16)) (C := RX11) (T := TX11) (N := 71) hx hb hts i11 hown hK hP 0 rfl rfl 24 (nlt rfl) w9 (fun _ h9 => h9) rfl dX11_clearBank_93 ?_
  refine lv_iload_n hx hb dX11_clearBank_96 rfl (lv_at hl 0 rfl) ?_
  refine lv_iconst (v := 0) hx hb dX11_clearBank_97 z8 ?_
  refine my_zastS hx hb hK hP hD hS 8 3 rfl rfl z1385 z249 rfl dX11_clearBank_98 (fun H locs hP hD hS => ?_)
  refine lv_iinc (v := 108) (lv' := [(1, .int 108), (0, .ref (n 0))]) hx hb dX11_clearBank_99 hl (k := 0) rfl z943 (nlt rfl) rfl (fun ls hl => ?_)
  refine lv_goto (tgt := 78) hx hb dX11_clearBank_102 z255 ?_
  refine lv_iload_n hx hb dX11_clearBank_78 rfl (lv_at hl 0 rfl) ?_
  refine lv_bipush (v := 64) hx hb dX11_clearBank_79 z138 ?_
  refine lv_aload_n hx hb dX11_clearBank_81 rfl (lv_at hl 1 rfl) ?_
  refine va_get (D := (dC, dI)) (ci := 11) (v := .int 1) (C := RX11) (T := TX11) (N := 71) hx hb hts i11 hown hK hP 0 rfl rfl 30 (nlt rfl) w2 (fun _ h9 => h9) rfl dX11_clearBank_82 ?_
  refine lv_imul hx hb dX11_clearBank_85 ?_
  refine tpi z1296 ?_
  refine lv_bipush (v := 64) hx hb dX11_clearBank_86 z138 ?_
  refine lv_iadd hx hb dX11_clearBank_88 ?_
  refine tpi z1297 ?_
  refine lv_icmp_ge (tgt := 105) hx hb dX11_clearBank_89 z253 (fun c1 => absurd c1 (z1386)) (fun _ => ?_)
  refine lv_aload_n hx hb dX11_clearBank_92 rfl (lv_at hl 1 rfl) ?_
  refine va_get (D := (dC, dI)) (ci := 11) (v := .ref (n 16)) (C := RX11) (T := TX11) (N := 71) hx hb hts i11 hown hK hP 0 rfl rfl 24 (nlt rfl) w9 (fun _ h9 => h9) rfl dX11_clearBank_93 ?_
  refine lv_iload_n hx hb dX11_clearBank_96 rfl (lv_at hl 0 rfl) ?_
  refine lv_iconst (v := 0) hx hb dX11_clearBank_97 z8 ?_
  refine my_zastS hx hb hK hP hD hS 8 3 rfl rfl z1387 z249 rfl dX11_clearBank_98 (fun H locs hP hD hS => ?_)
  refine lv_iinc (v := 109) (lv' := [(1, .int 109), (0, .ref (n 0))]) hx hb dX11_clearBank_99 hl (k := 0) rfl z946 (nlt rfl) rfl (fun ls hl => ?_)
  refine lv_goto (tgt := 78) hx hb dX11_clearBank_102 z255 ?_
  refine lv_iload_n hx hb dX11_clearBank_78 rfl (lv_at hl 0 rfl) ?_
  refine lv_bipush (v := 64) hx hb dX11_clearBank_79 z138 ?_
  refine lv_aload_n hx hb dX11_clearBank_81 rfl (lv_at hl 1 rfl) ?_
  refine va_get (D := (dC, dI)) (ci := 11) (v := .int 1) (C := RX11) (T := TX11) (N := 71) hx hb hts i11 hown hK hP 0 rfl rfl 30 (nlt rfl) w2 (fun _ h9 => h9) rfl dX11_clearBank_82 ?_
  refine lv_imul hx hb dX11_clearBank_85 ?_
  refine tpi z1296 ?_
  refine lv_bipush (v := 64) hx hb dX11_clearBank_86 z138 ?_
  refine lv_iadd hx hb dX11_clearBank_88 ?_
  refine tpi z1297 ?_
  refine lv_icmp_ge (tgt := 105) hx hb dX11_clearBank_89 z253 (fun c1 => absurd c1 (z1388)) (fun _ => ?_)
  refine lv_aload_n hx hb dX11_clearBank_92 rfl (lv_at hl 1 rfl) ?_
  refine va_get (D := (dC, dI)) (ci := 11) (v := .ref (n 16)) (C := RX11) (T := TX11) (N := 71) hx hb hts i11 hown hK hP 0 rfl rfl 24 (nlt rfl) w9 (fun _ h9 => h9) rfl dX11_clearBank_93 ?_
  refine lv_iload_n hx hb dX11_clearBank_96 rfl (lv_at hl 0 rfl) ?_
  refine lv_iconst (v := 0) hx hb dX11_clearBank_97 z8 ?_
  refine my_zastS hx hb hK hP hD hS 8 3 rfl rfl z1389 z249 rfl dX11_clearBank_98 (fun H locs hP hD hS => ?_)
  refine lv_iinc (v := 110) (lv' := [(1, .int 110), (0, .ref (n 0))]) hx hb dX11_clearBank_99 hl (k := 0) rfl z949 (nlt rfl) rfl (fun ls hl => ?_)
  refine lv_goto (tgt := 78) hx hb dX11_clearBank_102 z255 ?_
  refine lv_iload_n hx hb dX11_clearBank_78 rfl (lv_at hl 0 rfl) ?_
  refine lv_bipush (v := 64) hx hb dX11_clearBank_79 z138 ?_
  refine lv_aload_n hx hb dX11_clearBank_81 rfl (lv_at hl 1 rfl) ?_
  refine va_get (D := (dC, dI)) (ci := 11) (v := .int 1) (C := RX11) (T := TX11) (N := 71) hx hb hts i11 hown hK hP 0 rfl rfl 30 (nlt rfl) w2 (fun _ h9 => h9) rfl dX11_clearBank_82 ?_
  refine lv_imul hx hb dX11_clearBank_85 ?_
  refine tpi z1296 ?_
  refine lv_bipush (v := 64) hx hb dX11_clearBank_86 z138 ?_
  refine lv_iadd hx hb dX11_clearBank_88 ?_
  refine tpi z1297 ?_
  refine lv_icmp_ge (tgt := 105) hx hb dX11_clearBank_89 z253 (fun c1 => absurd c1 (z1390)) (fun _ => ?_)
  refine lv_aload_n hx hb dX11_clearBank_92 rfl (lv_at hl 1 rfl) ?_
  refine va_get (D := (dC, dI)) (ci := 11) (v := .ref (n 16)) (C := RX11) (T := TX11) (N := 71) hx hb hts i11 hown hK hP 0 rfl rfl 24 (nlt rfl) w9 (fun _ h9 => h9) rfl dX11_clearBank_93 ?_
  refine lv_iload_n hx hb dX11_clearBank_96 rfl (lv_at hl 0 rfl) ?_
  refine lv_iconst (v := 0) hx hb dX11_clearBank_97 z8 ?_
  refine my_zastS hx hb hK hP hD hS 8 3 rfl rfl z1391 z249 rfl dX11_clearBank_98 (fun H locs hP hD hS => ?_)
  refine lv_iinc (v := 111) (lv' := [(1, .int 111), (0, .ref (n 0))]) hx hb dX11_clearBank_99 hl (k := 0) rfl z952 (nlt rfl) rfl (fun ls hl => ?_)
  refine lv_goto (tgt := 78) hx hb dX11_clearBank_102 z255 ?_
  refine lv_iload_n hx hb dX11_clearBank_78 rfl (lv_at hl 0 rfl) ?_
  refine lv_bipush (v := 64) hx hb dX11_clearBank_79 z138 ?_
  refine lv_aload_n hx hb dX11_clearBank_81 rfl (lv_at hl 1 rfl) ?_
  refine va_get (D := (dC, dI)) (ci := 11) (v := .int 1) (C := RX11) (T := TX11) (N := 71) hx hb hts i11 hown hK hP 0 rfl rfl 30 (nlt rfl) w2 (fun _ h9 => h9) rfl dX11_clearBank_82 ?_
  refine lv_imul hx hb dX11_clearBank_85 ?_
  refine tpi z1296 ?_
  refine lv_bipush (v := 64) hx hb dX11_clearBank_86 z138 ?_
  refine lv_iadd hx hb dX11_clearBank_88 ?_
  refine tpi z1297 ?_
  refine lv_icmp_ge (tgt := 105) hx hb dX11_clearBank_89 z253 (fun c1 => absurd c1 (z1392)) (fun _ => ?_)
  refine lv_aload_n hx hb dX11_clearBank_92 rfl (lv_at hl 1 rfl) ?_
  refine va_get (D := (dC, dI)) (ci := 11) (v := .ref (n 16)) (C := RX11) (T := TX11) (N := 71) hx hb hts i11 hown hK hP 0 rfl rfl 24 (nlt rfl) w9 (fun _ h9 => h9) rfl dX11_clearBank_93 ?_
  refine lv_iload_n hx hb dX11_clearBank_96 rfl (lv_at hl 0 rfl) ?_
  refine lv_iconst (v := 0) hx hb dX11_clearBank_97 z8 ?_
  refine my_zastS hx hb hK hP hD hS 8 3 rfl rfl z1393 z249 rfl dX11_clearBank_98 (fun H locs hP hD hS => ?_)
  refine lv_iinc (v := 112) (lv' := [(1, .int 112), (0, .ref (n 0))]) hx hb dX11_clearBank_99 hl (k := 0) rfl z955 (nlt rfl) rfl (fun ls hl => ?_)
  refine lv_goto (tgt := 78) hx hb dX11_clearBank_102 z255 ?_
  refine lv_iload_n hx hb dX11_clearBank_78 rfl (lv_at hl 0 rfl) ?_
  refine lv_bipush (v := 64) hx hb dX11_clearBank_79 z138 ?_
  refine lv_aload_n hx hb dX11_clearBank_81 rfl (lv_at hl 1 rfl) ?_
  refine va_get (D := (dC, dI)) (ci := 11) (v := .int 1) (C := RX11) (T := TX11) (N := 71) hx hb hts i11 hown hK hP 0 rfl rfl 30 (nlt rfl) w2 (fun _ h9 => h9) rfl dX11_clearBank_82 ?_
  refine lv_imul hx hb dX11_clearBank_85 ?_
  refine tpi z1296 ?_
  refine lv_bipush (v := 64) hx hb dX11_clearBank_86 z138 ?_
  refine lv_iadd hx hb dX11_clearBank_88 ?_
  refine tpi z1297 ?_
  refine lv_icmp_ge (tgt := 105) hx hb dX11_clearBank_89 z253 (fun c1 => absurd c1 (z1394)) (fun _ => ?_)
  refine lv_aload_n hx hb dX11_clearBank_92 rfl (lv_at hl 1 rfl) ?_
  refine va_get (D := (dC, dI)) (ci := 11) (v := .ref (n 16)) (C := RX11) (T := TX11) (N := 71) hx hb hts i11 hown hK hP 0 rfl rfl 24 (nlt rfl) w9 (fun _ h9 => h9) rfl dX11_clearBank_93 ?_
  refine lv_iload_n hx hb dX11_clearBank_96 rfl (lv_at hl 0 rfl) ?_
  refine lv_iconst (v := 0) hx hb dX11_clearBank_97 z8 ?_
  refine my_zastS hx hb hK hP hD hS 8 3 rfl rfl z1395 z249 rfl dX11_clearBank_98 (fun H locs hP hD hS => ?_)
  refine lv_iinc (v := 113) (lv' := [(1, .int 113), (0, .ref (n 0))]) hx hb dX11_clearBank_99 hl (k := 0) rfl z958 (nlt rfl) rfl (fun ls hl => ?_)
  refine lv_goto (tgt := 78) hx hb dX11_clearBank_102 z255 ?_
  refine lv_iload_n hx hb dX11_clearBank_78 rfl (lv_at hl 0 rfl) ?_
  refine lv_bipush (v := 64) hx hb dX11_clearBank_79 z138 ?_
  refine lv_aload_n hx hb dX11_clearBank_81 rfl (lv_at hl 1 rfl) ?_
  refine va_get (D := (dC, dI)) (ci := 11) (v := .int 1) (C := RX11) (T := TX11) (N := 71) hx hb hts i11 hown hK hP 0 rfl rfl 30 (nlt rfl) w2 (fun _ h9 => h9) rfl dX11_clearBank_82 ?_
  refine lv_imul hx hb dX11_clearBank_85 ?_
  refine tpi z1296 ?_
  refine lv_bipush (v := 64) hx hb dX11_clearBank_86 z138 ?_
  refine lv_iadd hx hb dX11_clearBank_88 ?_
  refine tpi z1297 ?_
  refine lv_icmp_ge (tgt := 105) hx hb dX11_clearBank_89 z253 (fun c1 => absurd c1 (z1396)) (fun _ => ?_)
  refine lv_aload_n hx hb dX11_clearBank_92 rfl (lv_at hl 1 rfl) ?_
  refine va_get (D := (dC, dI)) (ci := 11) (v := .ref (n 16)) (C := RX11) (T := TX11) (N := 71) hx hb hts i11 hown hK hP 0 rfl rfl 24 (nlt rfl) w9 (fun _ h9 => h9) rfl dX11_clearBank_93 ?_
  refine lv_iload_n hx hb dX11_clearBank_96 rfl (lv_at hl 0 rfl) ?_
  refine lv_iconst (v := 0) hx hb dX11_clearBank_97 z8 ?_
  refine my_zastS hx hb hK hP hD hS 8 3 rfl rfl z1397 z249 rfl dX11_clearBank_98 (fun H locs hP hD hS => ?_)
  refine lv_iinc (v := 114) (lv' := [(1, .int 114), (0, .ref (n 0))]) hx hb dX11_clearBank_99 hl (k := 0) rfl z961 (nlt rfl) rfl (fun ls hl => ?_)
  refine lv_goto (tgt := 78) hx hb dX11_clearBank_102 z255 ?_
  refine lv_iload_n hx hb dX11_clearBank_78 rfl (lv_at hl 0 rfl) ?_
  refine lv_bipush (v := 64) hx hb dX11_clearBank_79 z138 ?_
  refine lv_aload_n hx hb dX11_clearBank_81 rfl (lv_at hl 1 rfl) ?_
  refine va_get (D := (dC, dI)) (ci := 11) (v := .int 1) (C := RX11) (T := TX11) (N := 71) hx hb hts i11 hown hK hP 0 rfl rfl 30 (nlt rfl) w2 (fun _ h9 => h9) rfl dX11_clearBank_82 ?_
  refine lv_imul hx hb dX11_clearBank_85 ?_
  refine tpi z1296 ?_
  refine lv_bipush (v := 64) hx hb dX11_clearBank_86 z138 ?_
  refine lv_iadd hx hb dX11_clearBank_88 ?_
  refine tpi z1297 ?_
  refine lv_icmp_ge (tgt := 105) hx hb dX11_clearBank_89 z253 (fun c1 => absurd c1 (z1398)) (fun _ => ?_)
  refine lv_aload_n hx hb dX11_clearBank_92 rfl (lv_at hl 1 rfl) ?_
  refine va_get (D := (dC, dI)) (ci := 11) (v := .ref (n 16)) (C := RX11) (T := TX11) (N := 71) hx hb hts i11 hown hK hP 0 rfl rfl 24 (nlt rfl) w9 (fun _ h9 => h9) rfl dX11_clearBank_93 ?_
  refine lv_iload_n hx hb dX11_clearBank_96 rfl (lv_at hl 0 rfl) ?_
  refine lv_iconst (v := 0) hx hb dX11_clearBank_97 z8 ?_
  refine my_zastS hx hb hK hP hD hS 8 3 rfl rfl z1399 z249 rfl dX11_clearBank_98 (fun H locs hP hD hS => ?_)
  refine lv_iinc (v := 115) (lv' := [(1, .int 115), (0, .ref (n 0))]) hx hb dX11_clearBank_99 hl (k := 0) rfl z964 (nlt rfl) rfl (fun ls hl => ?_)
  refine lv_goto (tgt := 78) hx hb dX11_clearBank_102 z255 ?_
  refine lv_iload_n hx hb dX11_clearBank_78 rfl (lv_at hl 0 rfl) ?_
  refine lv_bipush (v := 64) hx hb dX11_clearBank_79 z138 ?_
  refine lv_aload_n hx hb dX11_clearBank_81 rfl (lv_at hl 1 rfl) ?_
  refine va_get (D := (dC, dI)) (ci := 11) (v := .int 1) (C := RX11) (T := TX11) (N := 71) hx hb hts i11 hown hK hP 0 rfl rfl 30 (nlt rfl) w2 (fun _ h9 => h9) rfl dX11_clearBank_82 ?_
  refine lv_imul hx hb dX11_clearBank_85 ?_
  refine tpi z1296 ?_
  refine lv_bipush (v := 64) hx hb dX11_clearBank_86 z138 ?_
  refine lv_iadd hx hb dX11_clearBank_88 ?_
  refine tpi z1297 ?_
  refine lv_icmp_ge (tgt := 105) hx hb dX11_clearBank_89 z253 (fun c1 => absurd c1 (z1400)) (fun _ => ?_)
  refine lv_aload_n hx hb dX11_clearBank_92 rfl (lv_at hl 1 rfl) ?_
  refine va_get (D := (dC, dI)) (ci := 11) (v := .ref (n 16)) (C := RX11) (T := TX11) (N := 71) hx hb hts i11 hown hK hP 0 rfl rfl 24 (nlt rfl) w9 (fun _ h9 => h9) rfl dX11_clearBank_93 ?_
  refine lv_iload_n hx hb dX11_clearBank_96 rfl (lv_at hl 0 rfl) ?_
  refine lv_iconst (v := 0) hx hb dX11_clearBank_97 z8 ?_
  refine my_zastS hx hb hK hP hD hS 8 3 rfl rfl z1401 z249 rfl dX11_clearBank_98 (fun H locs hP hD hS => ?_)
  refine lv_iinc (v := 116) (lv' := [(1, .int 116), (0, .ref (n 0))]) hx hb dX11_clearBank_99 hl (k := 0) rfl z967 (nlt rfl) rfl (fun ls hl => ?_)
  refine lv_goto (tgt := 78) hx hb dX11_clearBank_102 z255 ?_
  refine lv_iload_n hx hb dX11_clearBank_78 rfl (lv_at hl 0 rfl) ?_
  refine lv_bipush (v := 64) hx hb dX11_clearBank_79 z138 ?_
  refine lv_aload_n hx hb dX11_clearBank_81 rfl (lv_at hl 1 rfl) ?_
  refine va_get (D := (dC, dI)) (ci := 11) (v := .int 1) (C := RX11) (T := TX11) (N := 71) hx hb hts i11 hown hK hP 0 rfl rfl 30 (nlt rfl) w2 (fun _ h9 => h9) rfl dX11_clearBank_82 ?_
  refine lv_imul hx hb dX11_clearBank_85 ?_
  refine tpi z1296 ?_
  refine lv_bipush (v := 64) hx hb dX11_clearBank_86 z138 ?_
  refine lv_iadd hx hb dX11_clearBank_88 ?_
  refine tpi z1297 ?_
  refine lv_icmp_ge (tgt := 105) hx hb dX11_clearBank_89 z253 (fun c1 => absurd c1 (z1402)) (fun _ => ?_)
  refine lv_aload_n hx hb dX11_clearBank_92 rfl (lv_at hl 1 rfl) ?_
  refine va_get (D := (dC, dI)) (ci := 11) (v := .ref (n 16)) (C := RX11) (T := TX11) (N := 71) hx hb hts i11 hown hK hP 0 rfl rfl 24 (nlt rfl) w9 (fun _ h9 => h9) rfl dX11_clearBank_93 ?_
  refine lv_iload_n hx hb dX11_clearBank_96 rfl (lv_at hl 0 rfl) ?_
  refine lv_iconst (v := 0) hx hb dX11_clearBank_97 z8 ?_
  refine my_zastS hx hb hK hP hD hS 8 3 rfl rfl z1403 z249 rfl dX11_clearBank_98 (fun H locs hP hD hS => ?_)
  refine lv_iinc (v := 117) (lv' := [(1, .int 117), (0, .ref (n 0))]) hx hb dX11_clearBank_99 hl (k := 0) rfl z970 (nlt rfl) rfl (fun ls hl => ?_)
  refine lv_goto (tgt := 78) hx hb dX11_clearBank_102 z255 ?_
  refine lv_iload_n hx hb dX11_clearBank_78 rfl (lv_at hl 0 rfl) ?_
  refine lv_bipush (v := 64) hx hb dX11_clearBank_79 z138 ?_
  refine lv_aload_n hx hb dX11_clearBank_81 rfl (lv_at hl 1 rfl) ?_
  refine va_get (D := (dC, dI)) (ci := 11) (v := .int 1) (C := RX11) (T := TX11) (N := 71) hx hb hts i11 hown hK hP 0 rfl rfl 30 (nlt rfl) w2 (fun _ h9 => h9) rfl dX11_clearBank_82 ?_
  refine lv_imul hx hb dX11_clearBank_85 ?_
  refine tpi z1296 ?_
  refine lv_bipush (v := 64) hx hb dX11_clearBank_86 z138 ?_
  refine lv_iadd hx hb dX11_clearBank_88 ?_
  refine tpi z1297 ?_
  refine lv_icmp_ge (tgt := 105) hx hb dX11_clearBank_89 z253 (fun c1 => absurd c1 (z1404)) (fun _ => ?_)
  refine lv_aload_n hx hb dX11_clearBank_92 rfl (lv_at hl 1 rfl) ?_
  refine va_get (D := (dC, dI)) (ci := 11) (v := .ref (n 16)) (C := RX11) (T := TX11) (N := 71) hx hb hts i11 hown hK hP 0 rfl rfl 24 (nlt rfl) w9 (fun _ h9 => h9) rfl dX11_clearBank_93 ?_
  refine lv_iload_n hx hb dX11_clearBank_96 rfl (lv_at hl 0 rfl) ?_
  refine lv_iconst (v := 0) hx hb dX11_clearBank_97 z8 ?_
  refine my_zastS hx hb hK hP hD hS 8 3 rfl rfl z1405 z249 rfl dX11_clearBank_98 (fun H locs hP hD hS => ?_)
  refine lv_iinc (v := 118) (lv' := [(1, .int 118), (0, .ref (n 0))]) hx hb dX11_clearBank_99 hl (k := 0) rfl z973 (nlt rfl) rfl (fun ls hl => ?_)
  refine lv_goto (tgt := 78) hx hb dX11_clearBank_102 z255 ?_
  refine lv_iload_n hx hb dX11_clearBank_78 rfl (lv_at hl 0 rfl) ?_
  refine lv_bipush (v := 64) hx hb dX11_clearBank_79 z138 ?_
  refine lv_aload_n hx hb dX11_clearBank_81 rfl (lv_at hl 1 rfl) ?_
  refine va_get (D := (dC, dI)) (ci := 11) (v := .int 1) (C := RX11) (T := TX11) (N := 71) hx hb hts i11 hown hK hP 0 rfl rfl 30 (nlt rfl) w2 (fun _ h9 => h9) rfl dX11_clearBank_82 ?_
  refine lv_imul hx hb dX11_clearBank_85 ?_
  refine tpi z1296 ?_
  refine lv_bipush (v := 64) hx hb dX11_clearBank_86 z138 ?_
  refine lv_iadd hx hb dX11_clearBank_88 ?_
  refine tpi z1297 ?_
  refine lv_icmp_ge (tgt := 105) hx hb dX11_clearBank_89 z253 (fun c1 => absurd c1 (z1406)) (fun _ => ?_)
  refine lv_aload_n hx hb dX11_clearBank_92 rfl (lv_at hl 1 rfl) ?_
  refine va_get (D := (dC, dI)) (ci := 11) (v := .ref (n 16)) (C := RX11) (T := TX11) (N := 71) hx hb hts i11 hown hK hP 0 rfl rfl 24 (nlt rfl) w9 (fun _ h9 => h9) rfl dX11_clearBank_93 ?_
  refine lv_iload_n hx hb dX11_clearBank_96 rfl (lv_at hl 0 rfl) ?_
  refine lv_iconst (v := 0) hx hb dX11_clearBank_97 z8 ?_
  refine my_zastS hx hb hK hP hD hS 8 3 rfl rfl z1407 z249 rfl dX11_clearBank_98 (fun H locs hP hD hS => ?_)
  refine lv_iinc (v := 119) (lv' := [(1, .int 119), (0, .ref (n 0))]) hx hb dX11_clearBank_99 hl (k := 0) rfl z976 (nlt rfl) rfl (fun ls hl => ?_)
  refine lv_goto (tgt := 78) hx hb dX11_clearBank_102 z255 ?_
  refine lv_iload_n hx hb dX11_clearBank_78 rfl (lv_at hl 0 rfl) ?_
  refine lv_bipush (v := 64) hx hb dX11_clearBank_79 z138 ?_
  refine lv_aload_n hx hb dX11_clearBank_81 rfl (lv_at hl 1 rfl) ?_
  refine va_get (D := (dC, dI)) (ci := 11) (v := .int 1) (C := RX11) (T := TX11) (N := 71) hx hb hts i11 hown hK hP 0 rfl rfl 30 (nlt rfl) w2 (fun _ h9 => h9) rfl dX11_clearBank_82 ?_
  refine lv_imul hx hb dX11_clearBank_85 ?_
  refine tpi z1296 ?_
  refine lv_bipush (v := 64) hx hb dX11_clearBank_86 z138 ?_
  refine lv_iadd hx hb dX11_clearBank_88 ?_
  refine tpi z1297 ?_
  refine lv_icmp_ge (tgt := 105) hx hb dX11_clearBank_89 z253 (fun c1 => absurd c1 (z1408)) (fun _ => ?_)
  refine lv_aload_n hx hb dX11_clearBank_92 rfl (lv_at hl 1 rfl) ?_
  refine va_get (D := (dC, dI)) (ci := 11) (v := .ref (n 16)) (C := RX11) (T := TX11) (N := 71) hx hb hts i11 hown hK hP 0 rfl rfl 24 (nlt rfl) w9 (fun _ h9 => h9) rfl dX11_clearBank_93 ?_
  refine lv_iload_n hx hb dX11_clearBank_96 rfl (lv_at hl 0 rfl) ?_
  refine lv_iconst (v := 0) hx hb dX11_clearBank_97 z8 ?_
  refine my_zastS hx hb hK hP hD hS 8 3 rfl rfl z1409 z249 rfl dX11_clearBank_98 (fun H locs hP hD hS => ?_)
  refine lv_iinc (v := 120) (lv' := [(1, .int 120), (0, .ref (n 0))]) hx hb dX11_clearBank_99 hl (k := 0) rfl z979 (nlt rfl) rfl (fun ls hl => ?_)
  refine lv_goto (tgt := 78) hx hb dX11_clearBank_102 z255 ?_
  refine lv_iload_n hx hb dX11_clearBank_78 rfl (lv_at hl 0 rfl) ?_
  refine lv_bipush (v := 64) hx hb dX11_clearBank_79 z138 ?_
  refine lv_aload_n hx hb dX11_clearBank_81 rfl (lv_at hl 1 rfl) ?_
  refine va_get (D := (dC, dI)) (ci := 11) (v := .int 1) (C := RX11) (T := TX11) (N := 71) hx hb hts i11 hown hK hP 0 rfl rfl 30 (nlt rfl) w2 (fun _ h9 => h9) rfl dX11_clearBank_82 ?_
  refine lv_imul hx hb dX11_clearBank_85 ?_
  refine tpi z1296 ?_
  refine lv_bipush (v := 64) hx hb dX11_clearBank_86 z138 ?_
  refine lv_iadd hx hb dX11_clearBank_88 ?_
  refine tpi z1297 ?_
  refine lv_icmp_ge (tgt := 105) hx hb dX11_clearBank_89 z253 (fun c1 => absurd c1 (z1410)) (fun _ => ?_)
  refine lv_aload_n hx hb dX11_clearBank_92 rfl (lv_at hl 1 rfl) ?_
  refine va_get (D := (dC, dI)) (ci := 11) (v := .ref (n 16)) (C := RX11) (T := TX11) (N := 71) hx hb hts i11 hown hK hP 0 rfl rfl 24 (nlt rfl) w9 (fun _ h9 => h9) rfl dX11_clearBank_93 ?_
  refine lv_iload_n hx hb dX11_clearBank_96 rfl (lv_at hl 0 rfl) ?_
  refine lv_iconst (v := 0) hx hb dX11_clearBank_97 z8 ?_
  refine my_zastS hx hb hK hP hD hS 8 3 rfl rfl z1411 z249 rfl dX11_clearBank_98 (fun H locs hP hD hS => ?_)
  refine lv_iinc (v := 121) (lv' := [(1, .int 121), (0, .ref (n 0))]) hx hb dX11_clearBank_99 hl (k := 0) rfl z982 (nlt rfl) rfl (fun ls hl => ?_)
  refine lv_goto (tgt := 78) hx hb dX11_clearBank_102 z255 ?_
  refine lv_iload_n hx hb dX11_clearBank_78 rfl (lv_at hl 0 rfl) ?_
  refine lv_bipush (v := 64) hx hb dX11_clearBank_79 z138 ?_
  refine lv_aload_n hx hb dX11_clearBank_81 rfl (lv_at hl 1 rfl) ?_
  refine va_get (D := (dC, dI)) (ci := 11) (v := .int 1) (C := RX11) (T := TX11) (N := 71) hx hb hts i11 hown hK hP 0 rfl rfl 30 (nlt rfl) w2 (fun _ h9 => h9) rfl dX11_clearBank_82 ?_
  refine lv_imul hx hb dX11_clearBank_85 ?_
  refine tpi z1296 ?_
  refine lv_bipush (v := 64) hx hb dX11_clearBank_86 z138 ?_
  refine lv_iadd hx hb dX11_clearBank_88 ?_
  refine tpi z1297 ?_
  refine lv_icmp_ge (tgt := 105) hx hb dX11_clearBank_89 z253 (fun c1 => absurd c1 (z1412)) (fun _ => ?_)
  refine lv_aload_n hx hb dX11_clearBank_92 rfl (lv_at hl 1 rfl) ?_
  refine va_get (D := (dC, dI)) (ci := 11) (v := .ref (n 16)) (C := RX11) (T := TX11) (N := 71) hx hb hts i11 hown hK hP 0 rfl rfl 24 (nlt rfl) w9 (fun _ h9 => h9) rfl dX11_clearBank_93 ?_
  refine lv_iload_n hx hb dX11_clearBank_96 rfl (lv_at hl 0 rfl) ?_
  refine lv_iconst (v := 0) hx hb dX11_clearBank_97 z8 ?_
  refine my_zastS hx hb hK hP hD hS 8 3 rfl rfl z1413 z249 rfl dX11_clearBank_98 (fun H locs hP hD hS => ?_)
  refine lv_iinc (v := 122) (lv' := [(1, .int 122), (0, .ref (n 0))]) hx hb dX11_clearBank_99 hl (k := 0) rfl z985 (nlt rfl) rfl (fun ls hl => ?_)
  refine lv_goto (tgt := 78) hx hb dX11_clearBank_102 z255 ?_
  refine lv_iload_n hx hb dX11_clearBank_78 rfl (lv_at hl 0 rfl) ?_
  refine lv_bipush (v := 64) hx hb dX11_clearBank_79 z138 ?_
  refine lv_aload_n hx hb dX11_clearBank_81 rfl (lv_at hl 1 rfl) ?_
  refine va_get (D := (dC, dI)) (ci := 11) (v := .int 1) (C := RX11) (T := TX11) (N := 71) hx hb hts i11 hown hK hP 0 rfl rfl 30 (nlt rfl) w2 (fun _ h9 => h9) rfl dX11_clearBank_82 ?_
  refine lv_imul hx hb dX11_clearBank_85 ?_
  refine tpi z1296 ?_
  refine lv_bipush (v := 64) hx hb dX11_clearBank_86 z138 ?_
  refine lv_iadd hx hb dX11_clearBank_88 ?_
  refine tpi z1297 ?_
  refine lv_icmp_ge (tgt := 105) hx hb dX11_clearBank_89 z253 (fun c1 => absurd c1 (z1414)) (fun _ => ?_)
  refine lv_aload_n hx hb dX11_clearBank_92 rfl (lv_at hl 1 rfl) ?_
  refine va_get (D := (dC, dI)) (ci := 11) (v := .ref (n 16)) (C := RX11) (T := TX11) (N := 71) hx hb hts i11 hown hK hP 0 rfl rfl 24 (nlt rfl) w9 (fun _ h9 => h9) rfl dX11_clearBank_93 ?_
  refine lv_iload_n hx hb dX11_clearBank_96 rfl (lv_at hl 0 rfl) ?_
  refine lv_iconst (v := 0) hx hb dX11_clearBank_97 z8 ?_
  refine my_zastS hx hb hK hP hD hS 8 3 rfl rfl z1415 z249 rfl dX11_clearBank_98 (fun H locs hP hD hS => ?_)
  refine lv_iinc (v := 123) (lv' := [(1, .int 123), (0, .ref (n 0))]) hx hb dX11_clearBank_99 hl (k := 0) rfl z988 (nlt rfl) rfl (fun ls hl => ?_)
  refine lv_goto (tgt := 78) hx hb dX11_clearBank_102 z255 ?_
  refine lv_iload_n hx hb dX11_clearBank_78 rfl (lv_at hl 0 rfl) ?_
  refine lv_bipush (v := 64) hx hb dX11_clearBank_79 z138 ?_
  refine lv_aload_n hx hb dX11_clearBank_81 rfl (lv_at hl 1 rfl) ?_
  refine va_get (D := (dC, dI)) (ci := 11) (v := .int 1) (C := RX11) (T := TX11) (N := 71) hx hb hts i11 hown hK hP 0 rfl rfl 30 (nlt rfl) w2 (fun _ h9 => h9) rfl dX11_clearBank_82 ?_
  refine lv_imul hx hb dX11_clearBank_85 ?_
  refine tpi z1296 ?_
  refine lv_bipush (v := 64) hx hb dX11_clearBank_86 z138 ?_
  refine lv_iadd hx hb dX11_clearBank_88 ?_
  refine tpi z1297 ?_
  refine lv_icmp_ge (tgt := 105) hx hb dX11_clearBank_89 z253 (fun c1 => absurd c1 (z1416)) (fun _ => ?_)
  refine lv_aload_n hx hb dX11_clearBank_92 rfl (lv_at hl 1 rfl) ?_
  refine va_get (D := (dC, dI)) (ci := 11) (v := .ref (n 16)) (C := RX11) (T := TX11) (N := 71) hx hb hts i11 hown hK hP 0 rfl rfl 24 (nlt rfl) w9 (fun _ h9 => h9) rfl dX11_clearBank_93 ?_
  refine lv_iload_n hx hb dX11_clearBank_96 rfl (lv_at hl 0 rfl) ?_
  refine lv_iconst (v := 0) hx hb dX11_clearBank_97 z8 ?_
  refine my_zastS hx hb hK hP hD hS 8 3 rfl rfl z1417 z249 rfl dX11_clearBank_98 (fun H locs hP hD hS => ?_)
  refine lv_iinc (v := 124) (lv' := [(1, .int 124), (0, .ref (n 0))]) hx hb dX11_clearBank_99 hl (k := 0) rfl z991 (nlt rfl) rfl (fun ls hl => ?_)
  refine lv_goto (tgt := 78) hx hb dX11_clearBank_102 z255 ?_
  refine lv_iload_n hx hb dX11_clearBank_78 rfl (lv_at hl 0 rfl) ?_
  refine lv_bipush (v := 64) hx hb dX11_clearBank_79 z138 ?_
  refine lv_aload_n hx hb dX11_clearBank_81 rfl (lv_at hl 1 rfl) ?_
  refine va_get (D := (dC, dI)) (ci := 11) (v := .int 1) (C := RX11) (T := TX11) (N := 71) hx hb hts i11 hown hK hP 0 rfl rfl 30 (nlt rfl) w2 (fun _ h9 => h9) rfl dX11_clearBank_82 ?_
  refine lv_imul hx hb dX11_clearBank_85 ?_
  refine tpi z1296 ?_
  refine lv_bipush (v := 64) hx hb dX11_clearBank_86 z138 ?_
  refine lv_iadd hx hb dX11_clearBank_88 ?_
  refine tpi z1297 ?_
  refine lv_icmp_ge (tgt := 105) hx hb dX11_clearBank_89 z253 (fun c1 => absurd c1 (z1418)) (fun _ => ?_)
  refine lv_aload_n hx hb dX11_clearBank_92 rfl (lv_at hl 1 rfl) ?_
  refine va_get (D := (dC, dI)) (ci := 11) (v := .ref (n 16)) (C := RX11) (T := TX11) (N := 71) hx hb hts i11 hown hK hP 0 rfl rfl 24 (nlt rfl) w9 (fun _ h9 => h9) rfl dX11_clearBank_93 ?_
  refine lv_iload_n hx hb dX11_clearBank_96 rfl (lv_at hl 0 rfl) ?_
  refine lv_iconst (v := 0) hx hb dX11_clearBank_97 z8 ?_
  refine my_zastS hx hb hK hP hD hS 8 3 rfl rfl z1419 z249 rfl dX11_clearBank_98 (fun H locs hP hD hS => ?_)
  refine lv_iinc (v := 125) (lv' := [(1, .int 125), (0, .ref (n 0))]) hx hb dX11_clearBank_99 hl (k := 0) rfl z994 (nlt rfl) rfl (fun ls hl => ?_)
  refine lv_goto (tgt := 78) hx hb dX11_clearBank_102 z255 ?_
  refine lv_iload_n hx hb dX11_clearBank_78 rfl (lv_at hl 0 rfl) ?_
  refine lv_bipush (v := 64) hx hb dX11_clearBank_79 z138 ?_
  refine lv_aload_n hx hb dX11_clearBank_81 rfl (lv_at hl 1 rfl) ?_
  refine va_get (D := (dC, dI)) (ci := 11) (v := .int 1) (C := RX11) (T := TX11) (N := 71) hx hb hts i11 hown hK hP 0 rfl rfl 30 (nlt rfl) w2 (fun _ h9 => h9) rfl dX11_clearBank_82 ?_
  refine lv_imul hx hb dX11_clearBank_85 ?_
  refine tpi z1296 ?_
  refine lv_bipush (v := 64) hx hb dX11_clearBank_86 z138 ?_
  refine lv_iadd hx hb dX11_clearBank_88 ?_
  refine tpi z1297 ?_
  refine lv_icmp_ge (tgt := 105) hx hb dX11_clearBank_89 z253 (fun c1 => absurd c1 (z1420)) (fun _ => ?_)
  refine lv_aload_n hx hb dX11_clearBank_92 rfl (lv_at hl 1 rfl) ?_
  refine va_get (D := (dC, dI)) (ci := 11) (v := .ref (n 16)) (C := RX11) (T := TX11) (N := 71) hx hb hts i11 hown hK hP 0 rfl rfl 24 (nlt rfl) w9 (fun _ h9 => h9) rfl dX11_clearBank_93 ?_
  refine lv_iload_n hx hb dX11_clearBank_96 rfl (lv_at hl 0 rfl) ?_
  refine lv_iconst (v := 0) hx hb dX11_clearBank_97 z8 ?_
  refine my_zastS hx hb hK hP hD hS 8 3 rfl rfl z1421 z249 rfl dX11_clearBank_98 (fun H locs hP hD hS => ?_)
  refine lv_iinc (v := 126) (lv' := [(1, .int 126), (0, .ref (n 0))]) hx hb dX11_clearBank_99 hl (k := 0) rfl z997 (nlt rfl) rfl (fun ls hl => ?_)
  refine lv_goto (tgt := 78) hx hb dX11_clearBank_102 z255 ?_
  refine lv_iload_n hx hb dX11_clearBank_78 rfl (lv_at hl 0 rfl) ?_
  refine lv_bipush (v := 64) hx hb dX11_clearBank_79 z138 ?_
  refine lv_aload_n hx hb dX11_clearBank_81 rfl (lv_at hl 1 rfl) ?_
  refine va_get (D := (dC, dI)) (ci := 11) (v := .int 1) (C := RX11) (T := TX11) (N := 71) hx hb hts i11 hown hK hP 0 rfl rfl 30 (nlt rfl) w2 (fun _ h9 => h9) rfl dX11_clearBank_82 ?_
  refine lv_imul hx hb dX11_clearBank_85 ?_
  refine tpi z1296 ?_
  refine lv_bipush (v := 64) hx hb dX11_clearBank_86 z138 ?_
  refine lv_iadd hx hb dX11_clearBank_88 ?_
  refine tpi z1297 ?_
  refine lv_icmp_ge (tgt := 105) hx hb dX11_clearBank_89 z253 (fun c1 => absurd c1 (z1422)) (fun _ => ?_)
  refine lv_aload_n hx hb dX11_clearBank_92 rfl (lv_at hl 1 rfl) ?_
  refine va_get (D := (dC, dI)) (ci := 11) (v := .ref (n 16)) (C := RX11) (T := TX11) (N := 71) hx hb hts i11 hown hK hP 0 rfl rfl 24 (nlt rfl) w9 (fun _ h9 => h9) rfl dX11_clearBank_93 ?_
  refine lv_iload_n hx hb dX11_clearBank_96 rfl (lv_at hl 0 rfl) ?_
  refine lv_iconst (v := 0) hx hb dX11_clearBank_97 z8 ?_
  refine my_zastS hx hb hK hP hD hS 8 3 rfl rfl z1423 z249 rfl dX11_clearBank_98 (fun H locs hP hD hS => ?_)
  refine lv_iinc (v := 127) (lv' := [(1, .int 127), (0, .ref (n 0))]) hx hb dX11_clearBank_99 hl (k := 0) rfl z1000 (nlt rfl) rfl (fun ls hl => ?_)
  refine lv_goto (tgt := 78) hx hb dX11_clearBank_102 z255 ?_
  refine lv_iload_n hx hb dX11_clearBank_78 rfl (lv_at hl 0 rfl) ?_
  refine lv_bipush (v := 64) hx hb dX11_clearBank_79 z138 ?_
  refine lv_aload_n hx hb dX11_clearBank_81 rfl (lv_at hl 1 rfl) ?_
  refine va_get (D := (dC, dI)) (ci := 11) (v := .int 1) (C := RX11) (T := TX11) (N := 71) hx hb hts i11 hown hK hP 0 rfl rfl 30 (nlt rfl) w2 (fun _ h9 => h9) rfl dX11_clearBank_82 ?_
  refine lv_imul hx hb dX11_clearBank_85 ?_
  refine tpi z1296 ?_
  refine lv_bipush (v := 64) hx hb dX11_clearBank_86 z138 ?_
  refine lv_iadd hx hb dX11_clearBank_88 ?_
  refine tpi z1297 ?_
  refine lv_icmp_ge (tgt := 105) hx hb dX11_clearBank_89 z253 (fun c1 => absurd c1 (z1424)) (fun _ => ?_)
  refine lv_aload_n hx hb dX11_clearBank_92 rfl (lv_at hl 1 rfl) ?_
  refine va_get (D := (dC, dI)) (ci := 11) (v := .ref (n 16)) (C := RX11) (T := TX11) (N := 71) hx hb hts i11 hown hK hP 0 rfl rfl 24 (nlt rfl) w9 (fun _ h9 => h9) rfl dX11_clearBank_93 ?_
  refine lv_iload_n hx hb dX11_clearBank_96 rfl (lv_at hl 0 rfl) ?_
  refine lv_iconst (v := 0) hx hb dX11_clearBank_97 z8 ?_
  refine my_zastS hx hb hK hP hD hS 8 3 rfl rfl z1425 z249 rfl dX11_clearBank_98 (fun H locs hP hD hS => ?_)
  refine lv_iinc (v := 128) (lv' := [(1, .int 128), (0, .ref (n 0))]) hx hb dX11_clearBank_99 hl (k := 0) rfl z1003 (nlt rfl) rfl (fun ls hl => ?_)
  refine lv_goto (tgt := 78) hx hb dX11_clearBank_102 z255 ?_
  refine lv_iload_n hx hb dX11_clearBank_78 rfl (lv_at hl 0 rfl) ?_
  refine lv_bipush (v := 64) hx hb dX11_clearBank_79 z138 ?_
  refine lv_aload_n hx hb dX11_clearBank_81 rfl (lv_at hl 1 rfl) ?_
  refine va_get (D := (dC, dI)) (ci := 11) (v := .int 1) (C := RX11) (T := TX11) (N := 71) hx hb hts i11 hown hK hP 0 rfl rfl 30 (nlt rfl) w2 (fun _ h9 => h9) rfl dX11_clearBank_82 ?_
  refine lv_imul hx hb dX11_clearBank_85 ?_
  refine tpi z1296 ?_
  refine lv_bipush (v := 64) hx hb dX11_clearBank_86 z138 ?_
  refine lv_iadd hx hb dX11_clearBank_88 ?_
  refine tpi z1297 ?_
  refine lv_icmp_ge (tgt := 105) hx hb dX11_clearBank_89 z253 (fun _ => ?_) (fun c1 => absurd (z1426) c1)
  refine W.widen (k := 0) (n := 0) (by decide +kernel) (by decide +kernel) ?_
  exact ret_v hx hb hr hlocks hS (u := (fun _ => 0)) (hP.sub [0, 1, 2, 3, 4, 5, 6, 7, 8] rfl) (hD.sub [0, 1, 2, 3, 4, 5, 6, 7, 8] (by decide +kernel) rfl) dX11_clearBank_105
