set_option maxHeartbeats 4000000 in
set_option maxRecDepth 100000 in
theorem k70_X10_fault (l : Launch) (dC : Nat → ClassId) (dI : Nat → Nat → Nat) (cB cI cJ cZ cO : ClassId) (r : Nat → Nat) : CI l yX10_fault wsX10_fault ({ frames := 0, cells := 0, slots := 0, locals := 0 }) (dC, dI) (tyL cB cI cJ cZ cO) [.ref (r 0), .int 1] [((r 0), .inr (10, fX r)), ((r 2), .inr (2, [.ref (r 3), .ref (r 6), .ref (r 16), .ref (r 17)])), ((r 3), .inr (8, [.ref (r 4), .ref (r 5), .int 0, .int 0, .int 0, .int 0, .long 0, .int 0, .int 0, .int (-1)]))] (fun _ => []) (-1) := by
  intro sz
  refine ct_open (cc := cX10_fault) (maxL := 2) (ret := (some .int)) (by decide) rfl (Nat.le_of_ble_eq_true rfl) ?_
  intro p e s m below meth c ls A hx hb hr hml hts hown hlocks hin hP hK hD hA hS hl
  have hl : lv_has ls 2 [(0, .ref (r 0)), (1, .int 1)] := hl
  have hown : s.vm.findClass RX10 = some m.cls := hown
  have i10 : ∀ w ∈ u_ws RX10 TX10 18, w ∈ wsX10_fault := fun _ h => List.mem_cons_of_mem _ (List.mem_append_left _ (List.mem_append_left _ (List.mem_append_right _ h)))
  have w1 := hts (.fieldLink RX10 16 "GuildCharter" "parser" "LGuildCharter$Parser;") (List.mem_cons_of_mem _ (List.mem_append_left _ (List.mem_append_left _ (List.mem_append_left _ (List.mem_of_getElem? (i := 0) rfl)))))
  have i2 : ∀ w ∈ u_ws RX2 TX2 4, w ∈ wsX10_fault := fun _ h => List.mem_cons_of_mem _ (List.mem_append_left _ (List.mem_append_right _ h))
  have w3 := hts (.fieldLink RX10 131 "GuildCharter$Parser" "tokens" "LGuildCharter$Tokens;") (List.mem_cons_of_mem _ (List.mem_append_left _ (List.mem_append_left _ (List.mem_append_left _ (List.mem_of_getElem? (i := 1) rfl)))))
  have i8 : ∀ w ∈ u_ws RX8 TX8 10, w ∈ wsX10_fault := fun _ h => List.mem_cons_of_mem _ (List.mem_append_right _ h)
  have w5 := hts (.fieldLink RX10 140 "GuildCharter$Tokens" "faultPlace" "I") (List.mem_cons_of_mem _ (List.mem_append_left _ (List.mem_append_left _ (List.mem_append_left _ (List.mem_of_getElem? (i := 3) rfl)))))
  refine lv_iload_n hx hb dX10_fault_0 rfl (lv_at hl 1 rfl) ?_
  refine lv_if_ne (tgt := 15) hx hb dX10_fault_1 z575 (fun _ => ?_) (fun c1 => absurd c1 (z525))
  refine lv_iload_n hx hb dX10_fault_15 rfl (lv_at hl 1 rfl) ?_
  refine lv_iconst (v := 1) hx hb dX10_fault_16 z39 ?_
  refine lv_icmp_ne (tgt := 33) hx hb dX10_fault_17 z578 (fun c1 => absurd (rfl) c1) (fun _ => ?_)
  refine lv_aload_n hx hb dX10_fault_20 rfl (lv_at hl 0 rfl) ?_
  refine va_get (D := (dC, dI)) (ci := 10) (v := .ref (r 2)) (C := RX10) (T := TX10) (N := 18) hx hb hts i10 hown hK hP 0 rfl rfl 2 (nlt rfl) w1 (fun _ h9 => h9) rfl dX10_fault_21 ?_
  refine va_get (D := (dC, dI)) (ci := 2) (v := .ref (r 3)) (C := RX2) (T := TX2) (N := 4) hx hb hts i2 hown hK hP 1 rfl rfl 0 (nlt rfl) w3 (fun _ h9 => h9) rfl dX10_fault_24 ?_
  refine va_get (D := (dC, dI)) (ci := 8) (v := .int (-1)) (C := RX8) (T := TX8) (N := 10) hx hb hts i8 hown hK hP 2 rfl rfl 9 (nlt rfl) w5 (fun _ h9 => h9) rfl dX10_fault_27 ?_
  refine lv_goto (tgt := 34) hx hb dX10_fault_30 z579 ?_
  refine W.widen (k := 0) (n := 0) (by decide +kernel) (by decide +kernel) ?_
  exact ret_i hx hb hr hlocks hS (u := (fun _ => 0)) (hP.sub [] rfl) (hD.sub [] (by decide +kernel) rfl) dX10_fault_34

set_option maxHeartbeats 4000000 in
set_option maxRecDepth 100000 in
theorem k71_X11_fault (l : Launch) (dC : Nat → ClassId) (dI : Nat → Nat → Nat) (cB cI cJ cZ cO : ClassId) (n : Nat → Nat) : CI l yX11_fault wsX11_fault ({ frames := 0, cells := 0, slots := 0, locals := 0 }) (dC, dI) (tyL cB cI cJ cZ cO) [.ref (n 0), .int 1] [((n 0), .inr (11, fM n))] (fun _ => []) (-1) := by
  intro sz
  refine ct_open (cc := cX11_fault) (maxL := 2) (ret := (some .int)) (by decide) rfl (Nat.le_of_ble_eq_true rfl) ?_
  intro p e s m below meth c ls A hx hb hr hml hts hown hlocks hin hP hK hD hA hS hl
  have hl : lv_has ls 2 [(0, .ref (n 0)), (1, .int 1)] := hl
  have hown : s.vm.findClass RX11 = some m.cls := hown
  have i11 : ∀ w ∈ u_ws RX11 TX11 71, w ∈ wsX11_fault := fun _ h => List.mem_cons_of_mem _ (List.mem_append_right _ h)
  have w1 := hts (.fieldLink RX11 16 "GuildCharterModel" "faultPlace" "I") (List.mem_cons_of_mem _ (List.mem_append_left _ (List.mem_of_getElem? (i := 1) rfl)))
  refine lv_iload_n hx hb dX11_fault_0 rfl (lv_at hl 1 rfl) ?_
  refine lv_if_ne (tgt := 11) hx hb dX11_fault_1 z576 (fun _ => ?_) (fun c1 => absurd c1 (z525))
  refine lv_iload_n hx hb dX11_fault_11 rfl (lv_at hl 1 rfl) ?_
  refine lv_iconst (v := 1) hx hb dX11_fault_12 z39 ?_
  refine lv_icmp_ne (tgt := 23) hx hb dX11_fault_13 z580 (fun c1 => absurd (rfl) c1) (fun _ => ?_)
  refine lv_aload_n hx hb dX11_fault_16 rfl (lv_at hl 0 rfl) ?_
  refine va_get (D := (dC, dI)) (ci := 11) (v := .int (-1)) (C := RX11) (T := TX11) (N := 71) hx hb hts i11 hown hK hP 0 rfl rfl 5 (nlt rfl) w1 (fun _ h9 => h9) rfl dX11_fault_17 ?_
  refine lv_goto (tgt := 24) hx hb dX11_fault_20 z581 ?_
  refine W.widen (k := 0) (n := 0) (by decide +kernel) (by decide +kernel) ?_
  exact ret_i hx hb hr hlocks hS (u := (fun _ => 0)) (hP.sub [] rfl) (hD.sub [] (by decide +kernel) rfl) dX11_fault_24

set_option maxHeartbeats 4000000 in
set_option maxRecDepth 100000 in
theorem k72_X10_fault (l : Launch) (dC : Nat → ClassId) (dI : Nat → Nat → Nat) (cB cI cJ cZ cO : ClassId) (r : Nat → Nat) (x1 : Int32) (h0 : ¬ x1 = 0) (h1 : ¬ x1 = 1) : CI l yX10_fault wsX10_fault ({ frames := 0, cells := 0, slots := 0, locals := 0 }) (dC, dI) (tyL cB cI cJ cZ cO) [.ref (r 0), .int x1] [((r 0), .inr (10, fX r))] (fun _ => []) (-1) := by
  intro sz
  refine ct_open (cc := cX10_fault) (maxL := 2) (ret := (some .int)) (by decide) rfl (Nat.le_of_ble_eq_true rfl) ?_
  intro p e s m below meth c ls A hx hb hr hml hts hown hlocks hin hP hK hD hA hS hl
  have hl : lv_has ls 2 [(0, .ref (r 0)), (1, .int x1)] := hl
  have hown : s.vm.findClass RX10 = some m.cls := hown
  refine lv_iload_n hx hb dX10_fault_0 rfl (lv_at hl 1 rfl) ?_
  refine lv_if_ne (tgt := 15) hx hb dX10_fault_1 z575 (fun _ => ?_) (fun c1 => absurd c1 (h0))
  refine lv_iload_n hx hb dX10_fault_15 rfl (lv_at hl 1 rfl) ?_
  refine lv_iconst (v := 1) hx hb dX10_fault_16 z39 ?_
  refine lv_icmp_ne (tgt := 33) hx hb dX10_fault_17 z578 (fun _ => ?_) (fun c1 => absurd c1 (h1))
  refine lv_iconst (v := (-1)) hx hb dX10_fault_33 z128 ?_
  refine W.widen (k := 0) (n := 0) (by decide +kernel) (by decide +kernel) ?_
  exact ret_i hx hb hr hlocks hS (u := (fun _ => 0)) (hP.sub [] rfl) (hD.sub [] (by decide +kernel) rfl) dX10_fault_34

set_option maxHeartbeats 4000000 in
set_option maxRecDepth 100000 in
theorem k73_X11_fault (l : Launch) (dC : Nat → ClassId) (dI : Nat → Nat → Nat) (cB cI cJ cZ cO : ClassId) (n : Nat → Nat) (x1 : Int32) (h0 : ¬ x1 = 0) (h1 : ¬ x1 = 1) : CI l yX11_fault wsX11_fault ({ frames := 0, cells := 0, slots := 0, locals := 0 }) (dC, dI) (tyL cB cI cJ cZ cO) [.ref (n 0), .int x1] [((n 0), .inr (11, fM n))] (fun _ => []) (-1) := by
  intro sz
  refine ct_open (cc := cX11_fault) (maxL := 2) (ret := (some .int)) (by decide) rfl (Nat.le_of_ble_eq_true rfl) ?_
  intro p e s m below meth c ls A hx hb hr hml hts hown hlocks hin hP hK hD hA hS hl
  have hl : lv_has ls 2 [(0, .ref (n 0)), (1, .int x1)] := hl
  have hown : s.vm.findClass RX11 = some m.cls := hown
  refine lv_iload_n hx hb dX11_fault_0 rfl (lv_at hl 1 rfl) ?_
  refine lv_if_ne (tgt := 11) hx hb dX11_fault_1 z576 (fun _ => ?_) (fun c1 => absurd c1 (h0))
  refine lv_iload_n hx hb dX11_fault_11 rfl (lv_at hl 1 rfl) ?_
  refine lv_iconst (v := 1) hx hb dX11_fault_12 z39 ?_
  refine lv_icmp_ne (tgt := 23) hx hb dX11_fault_13 z580 (fun _ => ?_) (fun c1 => absurd c1 (h1))
  refine lv_iconst (v := (-1)) hx hb dX11_fault_23 z128 ?_
  refine W.widen (k := 0) (n := 0) (by decide +kernel) (by decide +kernel) ?_
  exact ret_i hx hb hr hlocks hS (u := (fun _ => 0)) (hP.sub [] rfl) (hD.sub [] (by decide +kernel) rfl) dX11_fault_24

set_option maxHeartbeats 4000000 in
set_option maxRecDepth 100000 in
theorem k74_X4_hasWord (l : Launch) (dC : Nat → ClassId) (dI : Nat → Nat → Nat) (cB cI cJ cZ cO : ClassId) (r : Nat → Nat) (x1 : Int32) (h0 : x1 < 0) : CI l yX4_hasWord wsX4_hasWord ({ frames := 0, cells := 0, slots := 0, locals := 0 }) (dC, dI) (tyL cB cI cJ cZ cO) [.ref (r 18), .int x1] [((r 18), .inr (4, [.int 0, .ref (r 19), .ref (r 20), .int 0, .ref (r 21), .ref (r 22), .int 0, .ref (r 23), .ref (r 24), .int 0, .ref (r 25), .ref (r 26), .int 3, .int 0, .int 0, .ref (r 27)]))] (fun u => [((r 18), .inr (4, [.int 0, .ref (r 19), .ref (r 20), .int 0, .ref (r 21), .ref (r 22), .int 0, .ref (r 23), .ref (r 24), .int 0, .ref (r 25), .ref (r 26), .int 3, .int 0, .int 0, .ref (r 27)]))]) 0 := by
  intro sz
  refine ct_open (cc := cX4_hasWord) (maxL := 2) (ret := (some .boolean)) (by decide) rfl (Nat.le_of_ble_eq_true rfl) ?_
  intro p e s m below meth c ls A hx hb hr hml hts hown hlocks hin hP hK hD hA hS hl
  have hl : lv_has ls 2 [(0, .ref (r 18)), (1, .int x1)] := hl
  have hown : s.vm.findClass RX4 = some m.cls := hown
  refine lv_iload_n hx hb dX4_hasWord_0 rfl (lv_at hl 1 rfl) ?_
  refine lv_if_lt (tgt := 16) hx hb dX4_hasWord_1 z582 (fun _ => ?_) (fun c1 => absurd (h0) c1)
  refine lv_iconst (v := 0) hx hb dX4_hasWord_16 z8 ?_
  refine W.widen (k := 0) (n := 0) (by decide +kernel) (by decide +kernel) ?_
  exact ret_z hx hb hr rfl hlocks hS (u := (fun _ => 0)) (hP.sub [0] rfl) (hD.sub [0] (by decide +kernel) rfl) dX4_hasWord_17

set_option maxHeartbeats 4000000 in
set_option maxRecDepth 100000 in
theorem k75_X10_worth (l : Launch) (dC : Nat → ClassId) (dI : Nat → Nat → Nat) (cB cI cJ cZ cO : ClassId) (r : Nat → Nat) (x1 : Int32) (x2 : Int32) (h0 : x1 < 0) : CI l yX10_worth wsX10_worth ({ frames := 1, cells := 0, slots := 0, locals := 21 }) (dC, dI) (tyL cB cI cJ cZ cO) [.ref (r 0), .int x1, .int x2] [((r 0), .inr (10, fX r)), ((r 18), .inr (4, [.int 0, .ref (r 19), .ref (r 20), .int 0, .ref (r 21), .ref (r 22), .int 0, .ref (r 23), .ref (r 24), .int 0, .ref (r 25), .ref (r 26), .int 3, .int 0, .int 0, .ref (r 27)]))] (fun _ => []) (-1000000) := by
  intro sz
  refine ct_open (cc := cX10_worth) (maxL := 3) (ret := (some .int)) (by decide) rfl (Nat.le_of_ble_eq_true rfl) ?_
  intro p e s m below meth c ls A hx hb hr hml hts hown hlocks hin hP hK hD hA hS hl
  have hl : lv_has ls 3 [(0, .ref (r 0)), (1, .int x1), (2, .int x2)] := hl
  have hown : s.vm.findClass RX10 = some m.cls := hown
  have i10 : ∀ w ∈ u_ws RX10 TX10 18, w ∈ wsX10_worth := fun _ h => List.mem_cons_of_mem _ (List.mem_append_left _ (List.mem_append_right _ h))
  have w1 := hts (.fieldLink RX10 23 "GuildCharter" "told" "LGuildCharter$Port;") (List.mem_cons_of_mem _ (List.mem_append_left _ (List.mem_append_left _ (List.mem_of_getElem? (i := 0) rfl))))
  have w2 := hts (.constant RX10 153 (-1000000)) (List.mem_cons_of_mem _ (List.mem_append_left _ (List.mem_append_left _ (List.mem_of_getElem? (i := 2) rfl))))
  refine lv_aload_n hx hb dX10_worth_0 rfl (lv_at hl 0 rfl) ?_
  refine va_get (D := (dC, dI)) (ci := 10) (v := .ref (r 18)) (C := RX10) (T := TX10) (N := 18) hx hb hts i10 hown hK hP 0 rfl rfl 3 (nlt rfl) w1 (fun _ h9 => h9) rfl dX10_worth_1 ?_
  refine lv_iload_n hx hb dX10_worth_4 rfl (lv_at hl 1 rfl) ?_
  refine call_iV (ci := 4) (As := [.int x1]) (rest := []) (wr := [((r 0), .inr (10, fX r))]) ⟨hx, hb, hml, hown, hts⟩ (k74_X4_hasWord l dC dI cB cI cJ cZ cO r x1 h0) (cwV 1 hts gX10_worth_X4_hasWord rfl rfl rfl ⟨rfl, z584⟩ ⟨Nat.le_of_ble_eq_true rfl, Nat.le_of_ble_eq_true rfl⟩) hK hP hD hS hA [1] [0] rfl rfl (by decide +kernel) (by decide +kernel) (by decide +kernel) rfl rfl rfl hl.1 (Nat.le_of_ble_eq_true rfl) rfl rfl dX10_worth_5 ⟨by decide +kernel, by decide +kernel⟩ (fun u0 H locs hP hD hS => ?_)
  refine lv_if_eq (tgt := 34) hx hb dX10_worth_8 z583 (fun _ => ?_) (fun c1 => absurd (rfl) c1)
  refine lv_ldc hx hb hown w2 dX10_worth_34 ?_
  refine W.widen (k := 0) (n := 0) (by decide +kernel) (by decide +kernel) ?_
  exact ret_i hx hb hr hlocks hS (u := (fun _ => 0)) (hP.sub [] rfl) (hD.sub [] (by decide +kernel) rfl) dX10_worth_36

set_option maxHeartbeats 4000000 in
set_option maxRecDepth 100000 in
theorem k76_X11_isIn (l : Launch) (dC : Nat → ClassId) (dI : Nat → Nat → Nat) (cB cI cJ cZ cO : ClassId) (x1 : Int32) (h0 : x1 < 0) : CI l yX11_isIn wsX11_isIn ({ frames := 0, cells := 0, slots := 0, locals := 0 }) (dC, dI) (tyL cB cI cJ cZ cO) [.int x1, .int 0, .int (-1)] [] (fun _ => []) 0 := by
  intro sz
  refine ct_open (cc := cX11_isIn) (maxL := 3) (ret := (some .boolean)) (by decide) rfl (Nat.le_of_ble_eq_true rfl) ?_
  intro p e s m below meth c ls A hx hb hr hml hts hown hlocks hin hP hK hD hA hS hl
  have hl : lv_has ls 3 [(0, .int x1), (1, .int 0), (2, .int (-1))] := hl
  have hown : s.vm.findClass RX11 = some m.cls := hown
  refine lv_iload_n hx hb dX11_isIn_0 rfl (lv_at hl 0 rfl) ?_
  refine lv_iload_n hx hb dX11_isIn_1 rfl (lv_at hl 1 rfl) ?_
  refine lv_icmp_lt (tgt := 14) hx hb dX11_isIn_2 z586 (fun _ => ?_) (fun c1 => absurd (h0) c1)
  refine lv_iconst (v := 0) hx hb dX11_isIn_14 z8 ?_
  refine W.widen (k := 0) (n := 0) (by decide +kernel) (by decide +kernel) ?_
  exact ret_z hx hb hr rfl hlocks hS (u := (fun _ => 0)) (hP.sub [] rfl) (hD.sub [] (by decide +kernel) rfl) dX11_isIn_15

set_option maxHeartbeats 4000000 in
set_option maxRecDepth 100000 in
theorem k77_X11_isWordOf (l : Launch) (dC : Nat → ClassId) (dI : Nat → Nat → Nat) (cB cI cJ cZ cO : ClassId) (n : Nat → Nat) (x1 : Int32) (h0 : x1 < 0) : CI l yX11_isWordOf wsX11_isWordOf ({ frames := 1, cells := 0, slots := 0, locals := 22 }) (dC, dI) (tyL cB cI cJ cZ cO) [.ref (n 0), .int x1] [((n 0), .inr (11, fM n)), ((n 3), .inl (cI, 2, .inl (fun _ => 0)))] (fun u => [((n 0), .inr (11, fM n)), ((n 3), .inl (cI, 2, .inl (fun _ => 0)))]) 0 := by
  intro sz
  refine ct_open (cc := cX11_isWordOf) (maxL := 2) (ret := (some .boolean)) (by decide) rfl (Nat.le_of_ble_eq_true rfl) ?_
  intro p e s m below meth c ls A hx hb hr hml hts hown hlocks hin hP hK hD hA hS hl
  have hl : lv_has ls 2 [(0, .ref (n 0)), (1, .int x1)] := hl
  have hown : s.vm.findClass RX11 = some m.cls := hown
  have i11 : ∀ w ∈ u_ws RX11 TX11 71, w ∈ wsX11_isWordOf := fun _ h => List.mem_cons_of_mem _ (List.mem_append_right _ h)
  have w1 := hts (.fieldLink RX11 20 "GuildCharterModel" "words" "[I") (List.mem_cons_of_mem _ (List.mem_append_left _ (List.mem_of_getElem? (i := 0) rfl)))
  have w2 := hts (.fieldLink RX11 233 "GuildCharterModel" "bank" "I") (List.mem_cons_of_mem _ (List.mem_append_left _ (List.mem_of_getElem? (i := 1) rfl)))
  refine lv_iload_n hx hb dX11_isWordOf_0 rfl (lv_at hl 1 rfl) ?_
  refine lv_iconst (v := 0) hx hb dX11_isWordOf_1 z8 ?_
  refine lv_aload_n hx hb dX11_isWordOf_2 rfl (lv_at hl 0 rfl) ?_
  refine va_get (D := (dC, dI)) (ci := 11) (v := .ref (n 3)) (C := RX11) (T := TX11) (N := 71) hx hb hts i11 hown hK hP 0 rfl rfl 11 (nlt rfl) w1 (fun _ h9 => h9) rfl dX11_isWordOf_3 ?_
  refine lv_aload_n hx hb dX11_isWordOf_6 rfl (lv_at hl 0 rfl) ?_
  refine va_get (D := (dC, dI)) (ci := 11) (v := .int 0) (C := RX11) (T := TX11) (N := 71) hx hb hts i11 hown hK hP 0 rfl rfl 29 (nlt rfl) w2 (fun _ h9 => h9) rfl dX11_isWordOf_7 ?_
  refine my_iald (v := 0) hx hb hK hP 1 1 rfl rfl z248 rfl dX11_isWordOf_10 ?_
  refine lv_iconst (v := 1) hx hb dX11_isWordOf_11 z39 ?_
  refine lv_isub hx hb dX11_isWordOf_12 ?_
  refine tpi z585 ?_
  refine call_iS (As := [.int x1, .int 0, .int (-1)]) (rest := []) (wr := [((n 0), .inr (11, fM n)), ((n 3), .inl (cI, 2, .inl (fun _ => 0)))]) ⟨hx, hb, hml, hown, hts⟩ (k76_X11_isIn l dC dI cB cI cJ cZ cO x1 h0) (va_cwS 3 hts gX11_isWordOf_X11_isIn rfl rfl rfl z587 ⟨Nat.le_of_ble_eq_true rfl, Nat.le_of_ble_eq_true rfl⟩) hK hP hD hS hA [] [0, 1] rfl rfl (by decide +kernel) (by decide +kernel) (by decide +kernel) hl.1 (Nat.le_of_ble_eq_true rfl) rfl rfl dX11_isWordOf_13 ⟨by decide +kernel, by decide +kernel⟩ (fun u0 H locs hP hD hS => ?_)
  refine W.widen (k := 0) (n := 0) (by decide +kernel) (by decide +kernel) ?_
  exact ret_z hx hb hr rfl hlocks hS (u := (fun _ => 0)) (hP.sub [0, 1] rfl) (hD.sub [0, 1] (by decide +kernel) rfl) dX11_isWordOf_16

set_option maxHeartbeats 4000000 in
set_option maxRecDepth 100000 in
theorem k78_X11_worth (l : Launch) (dC : Nat → ClassId) (dI : Nat → Nat → Nat) (cB cI cJ cZ cO : ClassId) (n : Nat → Nat) (x1 : Int32) (x2 : Int32) (h0 : x1 < 0) : CI l yX11_worth wsX11_worth ({ frames := 2, cells := 0, slots := 0, locals := 43 }) (dC, dI) (tyL cB cI cJ cZ cO) [.ref (n 0), .int x1, .int x2] [((n 0), .inr (11, fM n)), ((n 3), .inl (cI, 2, .inl (fun _ => 0)))] (fun _ => []) (-1000000) := by
  intro sz
  refine ct_open (cc := cX11_worth) (maxL := 3) (ret := (some .int)) (by decide) rfl (Nat.le_of_ble_eq_true rfl) ?_
  intro p e s m below meth c ls A hx hb hr hml hts hown hlocks hin hP hK hD hA hS hl
  have hl : lv_has ls 3 [(0, .ref (n 0)), (1, .int x1), (2, .int x2)] := hl
  have hown : s.vm.findClass RX11 = some m.cls := hown
  have w0 := hts (.constant RX11 311 (-1000000)) (List.mem_cons_of_mem _ (List.mem_append_left _ (List.mem_of_getElem? (i := 2) rfl)))
  refine lv_aload_n hx hb dX11_worth_0 rfl (lv_at hl 0 rfl) ?_
  refine lv_iload_n hx hb dX11_worth_1 rfl (lv_at hl 1 rfl) ?_
  refine call_iV (ci := 11) (As := [.int x1]) (rest := []) (wr := []) ⟨hx, hb, hml, hown, hts⟩ (k77_X11_isWordOf l dC dI cB cI cJ cZ cO n x1 h0) (cwV 1 hts gX11_worth_X11_isWordOf rfl rfl rfl ⟨rfl, z589⟩ ⟨Nat.le_of_ble_eq_true rfl, Nat.le_of_ble_eq_true rfl⟩) hK hP hD hS hA [0, 1] [] rfl rfl (by decide +kernel) (by decide +kernel) (by decide +kernel) rfl rfl rfl hl.1 (Nat.le_of_ble_eq_true rfl) rfl rfl dX11_worth_2 ⟨by decide +kernel, by decide +kernel⟩ (fun u0 H locs hP hD hS => ?_)
  refine lv_if_eq (tgt := 36) hx hb dX11_worth_5 z588 (fun _ => ?_) (fun c1 => absurd (rfl) c1)
  refine lv_ldcw hx hb hown w0 dX11_worth_36 ?_
  refine W.widen (k := 0) (n := 0) (by decide +kernel) (by decide +kernel) ?_
  exact ret_i hx hb hr hlocks hS (u := (fun _ => 0)) (hP.sub [] rfl) (hD.sub [] (by decide +kernel) rfl) dX11_worth_39

set_option maxHeartbeats 4000000 in
set_option maxRecDepth 100000 in
theorem k79_X4_hasWord (l : Launch) (dC : Nat → ClassId) (dI : Nat → Nat → Nat) (cB cI cJ cZ cO : ClassId) (r : Nat → Nat) (x1 : Int32) (h0 : ¬ x1 < 0) (h1 : 0 ≤ x1) : CI l yX4_hasWord wsX4_hasWord ({ frames := 0, cells := 0, slots := 0, locals := 0 }) (dC, dI) (tyL cB cI cJ cZ cO) [.ref (r 18), .int x1] [((r 18), .inr (4, [.int 0, .ref (r 19), .ref (r 20), .int 0, .ref (r 21), .ref (r 22), .int 0, .ref (r 23), .ref (r 24), .int 0, .ref (r 25), .ref (r 26), .int 3, .int 0, .int 0, .ref (r 27)]))] (fun u => [((r 18), .inr (4, [.int 0, .ref (r 19), .ref (r 20), .int 0, .ref (r 21), .ref (r 22), .int 0, .ref (r 23), .ref (r 24), .int 0, .ref (r 25), .ref (r 26), .int 3, .int 0, .int 0, .ref (r 27)]))]) 0 := by
  intro sz
  refine ct_open (cc := cX4_hasWord) (maxL := 2) (ret := (some .boolean)) (by decide) rfl (Nat.le_of_ble_eq_true rfl) ?_
  intro p e s m below meth c ls A hx hb hr hml hts hown hlocks hin hP hK hD hA hS hl
  have hl : lv_has ls 2 [(0, .ref (r 18)), (1, .int x1)] := hl
  have hown : s.vm.findClass RX4 = some m.cls := hown
  have i4 : ∀ w ∈ u_ws RX4 TX4 16, w ∈ wsX4_hasWord := fun _ h => List.mem_cons_of_mem _ (List.mem_append_right _ h)
  have w1 := hts (.fieldLink RX4 45 "GuildCharter$Port" "words" "I") (List.mem_cons_of_mem _ (List.mem_append_left _ (List.mem_of_getElem? (i := 0) rfl)))
  refine lv_iload_n hx hb dX4_hasWord_0 rfl (lv_at hl 1 rfl) ?_
  refine lv_if_lt (tgt := 16) hx hb dX4_hasWord_1 z582 (fun c1 => absurd c1 (h0)) (fun _ => ?_)
  refine lv_iload_n hx hb dX4_hasWord_4 rfl (lv_at hl 1 rfl) ?_
  refine lv_aload_n hx hb dX4_hasWord_5 rfl (lv_at hl 0 rfl) ?_
  refine va_get (D := (dC, dI)) (ci := 4) (v := .int 0) (C := RX4) (T := TX4) (N := 16) hx hb hts i4 hown hK hP 0 rfl rfl 0 (nlt rfl) w1 (fun _ h9 => h9) rfl dX4_hasWord_6 ?_
  refine lv_icmp_ge (tgt := 16) hx hb dX4_hasWord_9 z590 (fun _ => ?_) (fun c1 => absurd (h1) c1)
  refine lv_iconst (v := 0) hx hb dX4_hasWord_16 z8 ?_
  refine W.widen (k := 0) (n := 0) (by decide +kernel) (by decide +kernel) ?_
  exact ret_z hx hb hr rfl hlocks hS (u := (fun _ => 0)) (hP.sub [0] rfl) (hD.sub [0] (by decide +kernel) rfl) dX4_hasWord_17

set_option maxHeartbeats 4000000 in
set_option maxRecDepth 100000 in
theorem k80_X10_worth (l : Launch) (dC : Nat → ClassId) (dI : Nat → Nat → Nat) (cB cI cJ cZ cO : ClassId) (r : Nat → Nat) (x1 : Int32) (x2 : Int32) (h0 : ¬ x1 < 0) (h1 : 0 ≤ x1) : CI l yX10_worth wsX10_worth ({ frames := 1, cells := 0, slots := 0, locals := 21 }) (dC, dI) (tyL cB cI cJ cZ cO) [.ref (r 0), .int x1, .int x2] [((r 0), .inr (10, fX r)), ((r 18), .inr (4, [.int 0, .ref (r 19), .ref (r 20), .int 0, .ref (r 21), .ref (r 22), .int 0, .ref (r 23), .ref (r 24), .int 0, .ref (r 25), .ref (r 26), .int 3, .int 0, .int 0, .ref (r 27)]))] (fun _ => []) (-1000000) := by
  intro sz
  refine ct_open (cc := cX10_worth) (maxL := 3) (ret := (some .int)) (by decide) rfl (Nat.le_of_ble_eq_true rfl) ?_
  intro p e s m below meth c ls A hx hb hr hml hts hown hlocks hin hP hK hD hA hS hl
  have hl : lv_has ls 3 [(0, .ref (r 0)), (1, .int x1), (2, .int x2)] := hl
  have hown : s.vm.findClass RX10 = some m.cls := hown
  have i10 : ∀ w ∈ u_ws RX10 TX10 18, w ∈ wsX10_worth := fun _ h => List.mem_cons_of_mem _ (List.mem_append_left _ (List.mem_append_right _ h))
  have w1 := hts (.fieldLink RX10 23 "GuildCharter" "told" "LGuildCharter$Port;") (List.mem_cons_of_mem _ (List.mem_append_left _ (List.mem_append_left _ (List.mem_of_getElem? (i := 0) rfl))))
  have w2 := hts (.constant RX10 153 (-1000000)) (List.mem_cons_of_mem _ (List.mem_append_left _ (List.mem_append_left _ (List.mem_of_getElem? (i := 2) rfl))))
  refine lv_aload_n hx hb dX10_worth_0 rfl (lv_at hl 0 rfl) ?_
  refine va_get (D := (dC, dI)) (ci := 10) (v := .ref (r 18)) (C := RX10) (T := TX10) (N := 18) hx hb hts i10 hown hK hP 0 rfl rfl 3 (nlt rfl) w1 (fun _ h9 => h9) rfl dX10_worth_1 ?_
  refine lv_iload_n hx hb dX10_worth_4 rfl (lv_at hl 1 rfl) ?_
  refine call_iV (ci := 4) (As := [.int x1]) (rest := []) (wr := [((r 0), .inr (10, fX r))]) ⟨hx, hb, hml, hown, hts⟩ (k79_X4_hasWord l dC dI cB cI cJ cZ cO r x1 h0 h1) (cwV 1 hts gX10_worth_X4_hasWord rfl rfl rfl ⟨rfl, z584⟩ ⟨Nat.le_of_ble_eq_true rfl, Nat.le_of_ble_eq_true rfl⟩) hK hP hD hS hA [1] [0] rfl rfl (by decide +kernel) (by decide +kernel) (by decide +kernel) rfl rfl rfl hl.1 (Nat.le_of_ble_eq_true rfl) rfl rfl dX10_worth_5 ⟨by decide +kernel, by decide +kernel⟩ (fun u0 H locs hP hD hS => ?_)
  refine lv_if_eq (tgt := 34) hx hb dX10_worth_8 z583 (fun _ => ?_) (fun c1 => absurd (rfl) c1)
  refine lv_ldc hx hb hown w2 dX10_worth_34 ?_
  refine W.widen (k := 0) (n := 0) (by decide +kernel) (by decide +kernel) ?_
  exact ret_i hx hb hr hlocks hS (u := (fun _ => 0)) (hP.sub [] rfl) (hD.sub [] (by decide +kernel) rfl) dX10_worth_36

set_option maxHeartbeats 4000000 in
set_option maxRecDepth 100000 in
theorem k81_X11_isIn (l : Launch) (dC : Nat → ClassId) (dI : Nat → Nat → Nat) (cB cI cJ cZ cO : ClassId) (x1 : Int32) (h0 : ¬ x1 < 0) (h1 : (-1) < x1) : CI l yX11_isIn wsX11_isIn ({ frames := 0, cells := 0, slots := 0, locals := 0 }) (dC, dI) (tyL cB cI cJ cZ cO) [.int x1, .int 0, .int (-1)] [] (fun _ => []) 0 := by
  intro sz
  refine ct_open (cc := cX11_isIn) (maxL := 3) (ret := (some .boolean)) (by decide) rfl (Nat.le_of_ble_eq_true rfl) ?_
  intro p e s m below meth c ls A hx hb hr hml hts hown hlocks hin hP hK hD hA hS hl
  have hl : lv_has ls 3 [(0, .int x1), (1, .int 0), (2, .int (-1))] := hl
  have hown : s.vm.findClass RX11 = some m.cls := hown
  refine lv_iload_n hx hb dX11_isIn_0 rfl (lv_at hl 0 rfl) ?_
  refine lv_iload_n hx hb dX11_isIn_1 rfl (lv_at hl 1 rfl) ?_
  refine lv_icmp_lt (tgt := 14) hx hb dX11_isIn_2 z586 (fun c1 => absurd c1 (h0)) (fun _ => ?_)
  refine lv_iload_n hx hb dX11_isIn_5 rfl (lv_at hl 0 rfl) ?_
  refine lv_iload_n hx hb dX11_isIn_6 rfl (lv_at hl 2 rfl) ?_
  refine lv_icmp_gt (tgt := 14) hx hb dX11_isIn_7 z591 (fun _ => ?_) (fun c1 => absurd (h1) c1)
  refine lv_iconst (v := 0) hx hb dX11_isIn_14 z8 ?_
  refine W.widen (k := 0) (n := 0) (by decide +kernel) (by decide +kernel) ?_
  exact ret_z hx hb hr rfl hlocks hS (u := (fun _ => 0)) (hP.sub [] rfl) (hD.sub [] (by decide +kernel) rfl) dX11_isIn_15

set_option maxHeartbeats 4000000 in
set_option maxRecDepth 100000 in
theorem k82_X11_isWordOf (l : Launch) (dC : Nat → ClassId) (dI : Nat → Nat → Nat) (cB cI cJ cZ cO : ClassId) (n : Nat → Nat) (x1 : Int32) (h0 : ¬ x1 < 0) (h1 : (-1) < x1) : CI l yX11_isWordOf wsX11_isWordOf ({ frames := 1, cells := 0, slots := 0, locals := 22 }) (dC, dI) (tyL cB cI cJ cZ cO) [.ref (n 0), .int x1] [((n 0), .inr (11, fM n)), ((n 3), .inl (cI, 2, .inl (fun _ => 0)))] (fun u => [((n 0), .inr (11, fM n)), ((n 3), .inl (cI, 2, .inl (fun _ => 0)))]) 0 := by
  intro sz
  refine ct_open (cc := cX11_isWordOf) (maxL := 2) (ret := (some .boolean)) (by decide) rfl (Nat.le_of_ble_eq_true rfl) ?_
  intro p e s m below meth c ls A hx hb hr hml hts hown hlocks hin hP hK hD hA hS hl
  have hl : lv_has ls 2 [(0, .ref (n 0)), (1, .int x1)] := hl
  have hown : s.vm.findClass RX11 = some m.cls := hown
  have i11 : ∀ w ∈ u_ws RX11 TX11 71, w ∈ wsX11_isWordOf := fun _ h => List.mem_cons_of_mem _ (List.mem_append_right _ h)
  have w1 := hts (.fieldLink RX11 20 "GuildCharterModel" "words" "[I") (List.mem_cons_of_mem _ (List.mem_append_left _ (List.mem_of_getElem? (i := 0) rfl)))
  have w2 := hts (.fieldLink RX11 233 "GuildCharterModel" "bank" "I") (List.mem_cons_of_mem _ (List.mem_append_left _ (List.mem_of_getElem? (i := 1) rfl)))
  refine lv_iload_n hx hb dX11_isWordOf_0 rfl (lv_at hl 1 rfl) ?_
  refine lv_iconst (v := 0) hx hb dX11_isWordOf_1 z8 ?_
  refine lv_aload_n hx hb dX11_isWordOf_2 rfl (lv_at hl 0 rfl) ?_
  refine va_get (D := (dC, dI)) (ci := 11) (v := .ref (n 3)) (C := RX11) (T := TX11) (N := 71) hx hb hts i11 hown hK hP 0 rfl rfl 11 (nlt rfl) w1 (fun _ h9 => h9) rfl dX11_isWordOf_3 ?_
  refine lv_aload_n hx hb dX11_isWordOf_6 rfl (lv_at hl 0 rfl) ?_
  refine va_get (D := (dC, dI)) (ci := 11) (v := .int 0) (C := RX11) (T := TX11) (N := 71) hx hb hts i11 hown hK hP 0 rfl rfl 29 (nlt rfl) w2 (fun _ h9 => h9) rfl dX11_isWordOf_7 ?_
  refine my_iald (v := 0) hx hb hK hP 1 1 rfl rfl z248 rfl dX11_isWordOf_10 ?_
  refine lv_iconst (v := 1) hx hb dX11_isWordOf_11 z39 ?_
  refine lv_isub hx hb dX11_isWordOf_12 ?_
  refine tpi z585 ?_
  refine call_iS (As := [.int x1, .int 0, .int (-1)]) (rest := []) (wr := [((n 0), .inr (11, fM n)), ((n 3), .inl (cI, 2, .inl (fun _ => 0)))]) ⟨hx, hb, hml, hown, hts⟩ (k81_X11_isIn l dC dI cB cI cJ cZ cO x1 h0 h1) (va_cwS 3 hts gX11_isWordOf_X11_isIn rfl rfl rfl z587 ⟨Nat.le_of_ble_eq_true rfl, Nat.le_of_ble_eq_true rfl⟩) hK hP hD hS hA [] [0, 1] rfl rfl (by decide +kernel) (by decide +kernel) (by decide +kernel) hl.1 (Nat.le_of_ble_eq_true rfl) rfl rfl dX11_isWordOf_13 ⟨by decide +kernel, by decide +kernel⟩ (fun u0 H locs hP hD hS => ?_)
  refine W.widen (k := 0) (n := 0) (by decide +kernel) (by decide +kernel) ?_
  exact ret_z hx hb hr rfl hlocks hS (u := (fun _ => 0)) (hP.sub [0, 1] rfl) (hD.sub [0, 1] (by decide +kernel) rfl) dX11_isWordOf_16

set_option maxHeartbeats 4000000 in
set_option maxRecDepth 100000 in
theorem k83_X11_worth (l : Launch) (dC : Nat → ClassId) (dI : Nat → Nat → Nat) (cB cI cJ cZ cO : ClassId) (n : Nat → Nat) (x1 : Int32) (x2 : Int32) (h0 : ¬ x1 < 0) (h1 : (-1) < x1) : CI l yX11_worth wsX11_worth ({ frames := 2, cells := 0, slots := 0, locals := 43 }) (dC, dI) (tyL cB cI cJ cZ cO) [.ref (n 0), .int x1, .int x2] [((n 0), .inr (11, fM n)), ((n 3), .inl (cI, 2, .inl (fun _ => 0)))] (fun _ => []) (-1000000) := by
  intro sz
  refine ct_open (cc := cX11_worth) (maxL := 3) (ret := (some .int)) (by decide) rfl (Nat.le_of_ble_eq_true rfl) ?_
  intro p e s m below meth c ls A hx hb hr hml hts hown hlocks hin hP hK hD hA hS hl
  have hl : lv_has ls 3 [(0, .ref (n 0)), (1, .int x1), (2, .int x2)] := hl
  have hown : s.vm.findClass RX11 = some m.cls := hown
  have w0 := hts (.constant RX11 311 (-1000000)) (List.mem_cons_of_mem _ (List.mem_append_left _ (List.mem_of_getElem? (i := 2) rfl)))
  refine lv_aload_n hx hb dX11_worth_0 rfl (lv_at hl 0 rfl) ?_
  refine lv_iload_n hx hb dX11_worth_1 rfl (lv_at hl 1 rfl) ?_
  refine call_iV (ci := 11) (As := [.int x1]) (rest := []) (wr := []) ⟨hx, hb, hml, hown, hts⟩ (k82_X11_isWordOf l dC dI cB cI cJ cZ cO n x1 h0 h1) (cwV 1 hts gX11_worth_X11_isWordOf rfl rfl rfl ⟨rfl, z589⟩ ⟨Nat.le_of_ble_eq_true rfl, Nat.le_of_ble_eq_true rfl⟩) hK hP hD hS hA [0, 1] [] rfl rfl (by decide +kernel) (by decide +kernel) (by decide +kernel) rfl rfl rfl hl.1 (Nat.le_of_ble_eq_true rfl) rfl rfl dX11_worth_2 ⟨by decide +kernel, by decide +kernel⟩ (fun u0 H locs hP hD hS => ?_)
  refine lv_if_eq (tgt := 36) hx hb dX11_worth_5 z588 (fun _ => ?_) (fun c1 => absurd (rfl) c1)
  refine lv_ldcw hx hb hown w0 dX11_worth_36 ?_
  refine W.widen (k := 0) (n := 0) (by decide +kernel) (by decide +kernel) ?_
  exact ret_i hx hb hr hlocks hS (u := (fun _ => 0)) (hP.sub [] rfl) (hD.sub [] (by decide +kernel) rfl) dX11_worth_39

set_option maxHeartbeats 4000000 in
set_option maxRecDepth 100000 in
theorem k84_X10_behind (l : Launch) (dC : Nat → ClassId) (dI : Nat → Nat → Nat) (cB cI cJ cZ cO : ClassId) (r : Nat → Nat) (x1 : Int32) (x2 : Int32) (x3 : Int32) (h0 : x1 < 0) : CI l yX10_behind wsX10_behind ({ frames := 1, cells := 0, slots := 0, locals := 21 }) (dC, dI) (tyL cB cI cJ cZ cO) [.ref (r 0), .int x1, .int x2, .int x3] [((r 0), .inr (10, fX r)), ((r 18), .inr (4, [.int 0, .ref (r 19), .ref (r 20), .int 0, .ref (r 21), .ref (r 22), .int 0, .ref (r 23), .ref (r 24), .int 0, .ref (r 25), .ref (r 26), .int 3, .int 0, .int 0, .ref (r 27)]))] (fun _ => []) (-1000000) := by
  intro sz
  refine ct_open (cc := cX10_behind) (maxL := 4) (ret := (some .int)) (by decide) rfl (Nat.le_of_ble_eq_true rfl) ?_
  intro p e s m below meth c ls A hx hb hr hml hts hown hlocks hin hP hK hD hA hS hl
  have hl : lv_has ls 4 [(0, .ref (r 0)), (1, .int x1), (2, .int x2), (3, .int x3)] := hl
  have hown : s.vm.findClass RX10 = some m.cls := hown
  have i10 : ∀ w ∈ u_ws RX10 TX10 18, w ∈ wsX10_behind := fun _ h => List.mem_cons_of_mem _ (List.mem_append_left _ (List.mem_append_right _ h))
  have w1 := hts (.fieldLink RX10 23 "GuildCharter" "told" "LGuildCharter$Port;") (List.mem_cons_of_mem _ (List.mem_append_left _ (List.mem_append_left _ (List.mem_of_getElem? (i := 0) rfl))))
  have w2 := hts (.constant RX10 153 (-1000000)) (List.mem_cons_of_mem _ (List.mem_append_left _ (List.mem_append_left _ (List.mem_of_getElem? (i := 1) rfl))))
  refine lv_aload_n hx hb dX10_behind_0 rfl (lv_at hl 0 rfl) ?_
  refine va_get (D := (dC, dI)) (ci := 10) (v := .ref (r 18)) (C := RX10) (T := TX10) (N := 18) hx hb hts i10 hown hK hP 0 rfl rfl 3 (nlt rfl) w1 (fun _ h9 => h9) rfl dX10_behind_1 ?_
  refine lv_iload_n hx hb dX10_behind_4 rfl (lv_at hl 1 rfl) ?_
  refine call_iV (ci := 4) (As := [.int x1]) (rest := []) (wr := [((r 0), .inr (10, fX r))]) ⟨hx, hb, hml, hown, hts⟩ (k74_X4_hasWord l dC dI cB cI cJ cZ cO r x1 h0) (cwV 1 hts gX10_behind_X4_hasWord rfl rfl rfl ⟨rfl, z584⟩ ⟨Nat.le_of_ble_eq_true rfl, Nat.le_of_ble_eq_true rfl⟩) hK hP hD hS hA [1] [0] rfl rfl (by decide +kernel) (by decide +kernel) (by decide +kernel) rfl rfl rfl hl.1 (Nat.le_of_ble_eq_true rfl) rfl rfl dX10_behind_5 ⟨by decide +kernel, by decide +kernel⟩ (fun u0 H locs hP hD hS => ?_)
  refine lv_if_eq (tgt := 29) hx hb dX10_behind_8 z592 (fun _ => ?_) (fun c1 => absurd (rfl) c1)
  refine lv_ldc hx hb hown w2 dX10_behind_29 ?_
  refine W.widen (k := 0) (n := 0) (by decide +kernel) (by decide +kernel) ?_
  exact ret_i hx hb hr hlocks hS (u := (fun _ => 0)) (hP.sub [] rfl) (hD.sub [] (by decide +kernel) rfl) dX10_behind_31

set_option maxHeartbeats 4000000 in
set_option maxRecDepth 100000 in
theorem k85_X11_behind (l : Launch) (dC : Nat → ClassId) (dI : Nat → Nat → Nat) (cB cI cJ cZ cO : ClassId) (n : Nat → Nat) (x1 : Int32) (x2 : Int32) (x3 : Int32) (h0 : x1 < 0) : CI l yX11_behind wsX11_behind ({ frames := 2, cells := 0, slots := 0, locals := 43 }) (dC, dI) (tyL cB cI cJ cZ cO) [.ref (n 0), .int x1, .int x2, .int x3] [((n 0), .inr (11, fM n)), ((n 3), .inl (cI, 2, .inl (fun _ => 0)))] (fun _ => []) (-1000000) := by
  intro sz
  refine ct_open (cc := cX11_behind) (maxL := 4) (ret := (some .int)) (by decide) rfl (Nat.le_of_ble_eq_true rfl) ?_
  intro p e s m below meth c ls A hx hb hr hml hts hown hlocks hin hP hK hD hA hS hl
  have hl : lv_has ls 4 [(0, .ref (n 0)), (1, .int x1), (2, .int x2), (3, .int x3)] := hl
  have hown : s.vm.findClass RX11 = some m.cls := hown
  have w0 := hts (.constant RX11 311 (-1000000)) (List.mem_cons_of_mem _ (List.mem_append_left _ (List.mem_of_getElem? (i := 0) rfl)))
  refine lv_aload_n hx hb dX11_behind_0 rfl (lv_at hl 0 rfl) ?_
  refine lv_iload_n hx hb dX11_behind_1 rfl (lv_at hl 1 rfl) ?_
  refine call_iV (ci := 11) (As := [.int x1]) (rest := []) (wr := []) ⟨hx, hb, hml, hown, hts⟩ (k77_X11_isWordOf l dC dI cB cI cJ cZ cO n x1 h0) (cwV 1 hts gX11_behind_X11_isWordOf rfl rfl rfl ⟨rfl, z589⟩ ⟨Nat.le_of_ble_eq_true rfl, Nat.le_of_ble_eq_true rfl⟩) hK hP hD hS hA [0, 1] [] rfl rfl (by decide +kernel) (by decide +kernel) (by decide +kernel) rfl rfl rfl hl.1 (Nat.le_of_ble_eq_true rfl) rfl rfl dX11_behind_2 ⟨by decide +kernel, by decide +kernel⟩ (fun u0 H locs hP hD hS => ?_)
  refine lv_if_eq (tgt := 33) hx hb dX11_behind_5 z593 (fun _ => ?_) (fun c1 => absurd (rfl) c1)
  refine lv_ldcw hx hb hown w0 dX11_behind_33 ?_
  refine W.widen (k := 0) (n := 0) (by decide +kernel) (by decide +kernel) ?_
  exact ret_i hx hb hr hlocks hS (u := (fun _ => 0)) (hP.sub [] rfl) (hD.sub [] (by decide +kernel) rfl) dX11_behind_36

set_option maxHeartbeats 4000000 in
set_option maxRecDepth 100000 in
theorem k86_X10_behind (l : Launch) (dC : Nat → ClassId) (dI : Nat → Nat → Nat) (cB cI cJ cZ cO : ClassId) (r : Nat → Nat) (x1 : Int32) (x2 : Int32) (x3 : Int32) (h0 : ¬ x1 < 0) (h1 : 0 ≤ x1) : CI l yX10_behind wsX10_behind ({ frames := 1, cells := 0, slots := 0, locals := 21 }) (dC, dI) (tyL cB cI cJ cZ cO) [.ref (r 0), .int x1, .int x2, .int x3] [((r 0), .inr (10, fX r)), ((r 18), .inr (4, [.int 0, .ref (r 19), .ref (r 20), .int 0, .ref (r 21), .ref (r 22), .int 0, .ref (r 23), .ref (r 24), .int 0, .ref (r 25), .ref (r 26), .int 3, .int 0, .int 0, .ref (r 27)]))] (fun _ => []) (-1000000) := by
  intro sz
  refine ct_open (cc := cX10_behind) (maxL := 4) (ret := (some .int)) (by decide) rfl (Nat.le_of_ble_eq_true rfl) ?_
  intro p e s m below meth c ls A hx hb hr hml hts hown hlocks hin hP hK hD hA hS hl
  have hl : lv_has ls 4 [(0, .ref (r 0)), (1, .int x1), (2, .int x2), (3, .int x3)] := hl
  have hown : s.vm.findClass RX10 = some m.cls := hown
  have i10 : ∀ w ∈ u_ws RX10 TX10 18, w ∈ wsX10_behind := fun _ h => List.mem_cons_of_mem _ (List.mem_append_left _ (List.mem_append_right _ h))
  have w1 := hts (.fieldLink RX10 23 "GuildCharter" "told" "LGuildCharter$Port;") (List.mem_cons_of_mem _ (List.mem_append_left _ (List.mem_append_left _ (List.mem_of_getElem? (i := 0) rfl))))
  have w2 := hts (.constant RX10 153 (-1000000)) (List.mem_cons_of_mem _ (List.mem_append_left _ (List.mem_append_left _ (List.mem_of_getElem? (i := 1) rfl))))
  refine lv_aload_n hx hb dX10_behind_0 rfl (lv_at hl 0 rfl) ?_
  refine va_get (D := (dC, dI)) (ci := 10) (v := .ref (r 18)) (C := RX10) (T := TX10) (N := 18) hx hb hts i10 hown hK hP 0 rfl rfl 3 (nlt rfl) w1 (fun _ h9 => h9) rfl dX10_behind_1 ?_
  refine lv_iload_n hx hb dX10_behind_4 rfl (lv_at hl 1 rfl) ?_
  refine call_iV (ci := 4) (As := [.int x1]) (rest := []) (wr := [((r 0), .inr (10, fX r))]) ⟨hx, hb, hml, hown, hts⟩ (k79_X4_hasWord l dC dI cB cI cJ cZ cO r x1 h0 h1) (cwV 1 hts gX10_behind_X4_hasWord rfl rfl rfl ⟨rfl, z584⟩ ⟨Nat.le_of_ble_eq_true rfl, Nat.le_of_ble_eq_true rfl⟩) hK hP hD hS hA [1] [0] rfl rfl (by decide +kernel) (by decide +kernel) (by decide +kernel) rfl rfl rfl hl.1 (Nat.le_of_ble_eq_true rfl) rfl rfl dX10_behind_5 ⟨by decide +kernel, by decide +kernel⟩ (fun u0 H locs hP hD hS => ?_)
  refine lv_if_eq (tgt := 29) hx hb dX10_behind_8 z592 (fun _ => ?_) (fun c1 => absurd (rfl) c1)
  refine lv_ldc hx hb hown w2 dX10_behind_29 ?_
  refine W.widen (k := 0) (n := 0) (by decide +kernel) (by decide +kernel) ?_
  exact ret_i hx hb hr hlocks hS (u := (fun _ => 0)) (hP.sub [] rfl) (hD.sub [] (by decide +kernel) rfl) dX10_behind_31

set_option maxHeartbeats 4000000 in
set_option maxRecDepth 100000 in
theorem k87_X11_behind (l : Launch) (dC : Nat → ClassId) (dI : Nat → Nat → Nat) (cB cI cJ cZ cO : ClassId) (n : Nat → Nat) (x1 : Int32) (x2 : Int32) (x3 : Int32) (h0 : ¬ x1 < 0) (h1 : (-1) < x1) : CI l yX11_behind wsX11_behind ({ frames := 2, cells := 0, slots := 0, locals := 43 }) (dC, dI) (tyL cB cI cJ cZ cO) [.ref (n 0), .int x1, .int x2, .int x3] [((n 0), .inr (11, fM n)), ((n 3), .inl (cI, 2, .inl (fun _ => 0)))] (fun _ => []) (-1000000) := by
  intro sz
  refine ct_open (cc := cX11_behind) (maxL := 4) (ret := (some .int)) (by decide) rfl (Nat.le_of_ble_eq_true rfl) ?_
  intro p e s m below meth c ls A hx hb hr hml hts hown hlocks hin hP hK hD hA hS hl
  have hl : lv_has ls 4 [(0, .ref (n 0)), (1, .int x1), (2, .int x2), (3, .int x3)] := hl
  have hown : s.vm.findClass RX11 = some m.cls := hown
  have w0 := hts (.constant RX11 311 (-1000000)) (List.mem_cons_of_mem _ (List.mem_append_left _ (List.mem_of_getElem? (i := 0) rfl)))
  refine lv_aload_n hx hb dX11_behind_0 rfl (lv_at hl 0 rfl) ?_
  refine lv_iload_n hx hb dX11_behind_1 rfl (lv_at hl 1 rfl) ?_
  refine call_iV (ci := 11) (As := [.int x1]) (rest := []) (wr := []) ⟨hx, hb, hml, hown, hts⟩ (k82_X11_isWordOf l dC dI cB cI cJ cZ cO n x1 h0 h1) (cwV 1 hts gX11_behind_X11_isWordOf rfl rfl rfl ⟨rfl, z589⟩ ⟨Nat.le_of_ble_eq_true rfl, Nat.le_of_ble_eq_true rfl⟩) hK hP hD hS hA [0, 1] [] rfl rfl (by decide +kernel) (by decide +kernel) (by decide +kernel) rfl rfl rfl hl.1 (Nat.le_of_ble_eq_true rfl) rfl rfl dX11_behind_2 ⟨by decide +kernel, by decide +kernel⟩ (fun u0 H locs hP hD hS => ?_)
  refine lv_if_eq (tgt := 33) hx hb dX11_behind_5 z593 (fun _ => ?_) (fun c1 => absurd (rfl) c1)
  refine lv_ldcw hx hb hown w0 dX11_behind_33 ?_
  refine W.widen (k := 0) (n := 0) (by decide +kernel) (by decide +kernel) ?_
  exact ret_i hx hb hr hlocks hS (u := (fun _ => 0)) (hP.sub [] rfl) (hD.sub [] (by decide +kernel) rfl) dX11_behind_36

set_option maxHeartbeats 4000000 in
set_option maxRecDepth 100000 in
theorem k88_X4_hasPlace (l : Launch) (dC : Nat → ClassId) (dI : Nat → Nat → Nat) (cB cI cJ cZ cO : ClassId) (r : Nat → Nat) (x1 : Int32) (h0 : x1 < 0) : CI l yX4_hasPlace wsX4_hasPlace ({ frames := 0, cells := 0, slots := 0, locals := 0 }) (dC, dI) (tyL cB cI cJ cZ cO) [.ref (r 18), .int x1] [((r 18), .inr (4, [.int 0, .ref (r 19), .ref (r 20), .int 0, .ref (r 21), .ref (r 22), .int 0, .ref (r 23), .ref (r 24), .int 0, .ref (r 25), .ref (r 26), .int 3, .int 0, .int 0, .ref (r 27)]))] (fun u => [((r 18), .inr (4, [.int 0, .ref (r 19), .ref (r 20), .int 0, .ref (r 21), .ref (r 22), .int 0, .ref (r 23), .ref (r 24), .int 0, .ref (r 25), .ref (r 26), .int 3, .int 0, .int 0, .ref (r 27)]))]) 0 := by
  intro sz
  refine ct_open (cc := cX4_hasPlace) (maxL := 2) (ret := (some .boolean)) (by decide) rfl (Nat.le_of_ble_eq_true rfl) ?_
  intro p e s m below meth c ls A hx hb hr hml hts hown hlocks hin hP hK hD hA hS hl
  have hl : lv_has ls 2 [(0, .ref (r 18)), (1, .int x1)] := hl
  have hown : s.vm.findClass RX4 = some m.cls := hown
  refine lv_iload_n hx hb dX4_hasPlace_0 rfl (lv_at hl 1 rfl) ?_
  refine lv_if_lt (tgt := 16) hx hb dX4_hasPlace_1 z582 (fun _ => ?_) (fun c1 => absurd (h0) c1)
  refine lv_iconst (v := 0) hx hb dX4_hasPlace_16 z8 ?_
  refine W.widen (k := 0) (n := 0) (by decide +kernel) (by decide +kernel) ?_
  exact ret_z hx hb hr rfl hlocks hS (u := (fun _ => 0)) (hP.sub [0] rfl) (hD.sub [0] (by decide +kernel) rfl) dX4_hasPlace_17

set_option maxHeartbeats 4000000 in
set_option maxRecDepth 100000 in
theorem k89_X10_turn (l : Launch) (dC : Nat → ClassId) (dI : Nat → Nat → Nat) (cB cI cJ cZ cO : ClassId) (r : Nat → Nat) (x1 : Int32) (h0 : x1 < 0) : CI l yX10_turn wsX10_turn ({ frames := 1, cells := 0, slots := 0, locals := 21 }) (dC, dI) (tyL cB cI cJ cZ cO) [.ref (r 0), .int x1] [((r 0), .inr (10, fX r)), ((r 18), .inr (4, [.int 0, .ref (r 19), .ref (r 20), .int 0, .ref (r 21), .ref (r 22), .int 0, .ref (r 23), .ref (r 24), .int 0, .ref (r 25), .ref (r 26), .int 3, .int 0, .int 0, .ref (r 27)]))] (fun _ => []) (-1) := by
  intro sz
  refine ct_open (cc := cX10_turn) (maxL := 2) (ret := (some .int)) (by decide) rfl (Nat.le_of_ble_eq_true rfl) ?_
  intro p e s m below meth c ls A hx hb hr hml hts hown hlocks hin hP hK hD hA hS hl
  have hl : lv_has ls 2 [(0, .ref (r 0)), (1, .int x1)] := hl
  have hown : s.vm.findClass RX10 = some m.cls := hown
  have i10 : ∀ w ∈ u_ws RX10 TX10 18, w ∈ wsX10_turn := fun _ h => List.mem_cons_of_mem _ (List.mem_append_left _ (List.mem_append_left _ (List.mem_append_right _ h)))
  have w1 := hts (.fieldLink RX10 23 "GuildCharter" "told" "LGuildCharter$Port;") (List.mem_cons_of_mem _ (List.mem_append_left _ (List.mem_append_left _ (List.mem_append_left _ (List.mem_of_getElem? (i := 0) rfl)))))
  refine lv_aload_n hx hb dX10_turn_0 rfl (lv_at hl 0 rfl) ?_
  refine va_get (D := (dC, dI)) (ci := 10) (v := .ref (r 18)) (C := RX10) (T := TX10) (N := 18) hx hb hts i10 hown hK hP 0 rfl rfl 3 (nlt rfl) w1 (fun _ h9 => h9) rfl dX10_turn_1 ?_
  refine lv_iload_n hx hb dX10_turn_4 rfl (lv_at hl 1 rfl) ?_
  refine call_iV (ci := 4) (As := [.int x1]) (rest := []) (wr := [((r 0), .inr (10, fX r))]) ⟨hx, hb, hml, hown, hts⟩ (k88_X4_hasPlace l dC dI cB cI cJ cZ cO r x1 h0) (cwV 1 hts gX10_turn_X4_hasPlace rfl rfl rfl ⟨rfl, z595⟩ ⟨Nat.le_of_ble_eq_true rfl, Nat.le_of_ble_eq_true rfl⟩) hK hP hD hS hA [1] [0] rfl rfl (by decide +kernel) (by decide +kernel) (by decide +kernel) rfl rfl rfl hl.1 (Nat.le_of_ble_eq_true rfl) rfl rfl dX10_turn_5 ⟨by decide +kernel, by decide +kernel⟩ (fun u0 H locs hP hD hS => ?_)
  refine lv_if_eq (tgt := 19) hx hb dX10_turn_8 z594 (fun _ => ?_) (fun c1 => absurd (rfl) c1)
  refine lv_iconst (v := (-1)) hx hb dX10_turn_19 z128 ?_
  refine W.widen (k := 0) (n := 0) (by decide +kernel) (by decide +kernel) ?_
  exact ret_i hx hb hr hlocks hS (u := (fun _ => 0)) (hP.sub [] rfl) (hD.sub [] (by decide +kernel) rfl) dX10_turn_20

set_option maxHeartbeats 4000000 in
set_option maxRecDepth 100000 in
theorem k90_X11_longOf (l : Launch) (dC : Nat → ClassId) (dI : Nat → Nat → Nat) (cB cI cJ cZ cO : ClassId) (n : Nat → Nat) : CI l yX11_longOf wsX11_longOf ({ frames := 0, cells := 0, slots := 0, locals := 0 }) (dC, dI) (tyL cB cI cJ cZ cO) [.ref (n 0)] [((n 0), .inr (11, fM n)), ((n 7), .inl (cI, 2, .inl (upd (fun _ => 0) 0 3)))] (fun u => [((n 0), .inr (11, fM n)), ((n 7), .inl (cI, 2, .inl (upd (fun _ => 0) 0 3)))]) 3 := by
  intro sz
  refine ct_open (cc := cX11_longOf) (maxL := 1) (ret := (some .int)) (by decide) rfl (Nat.le_of_ble_eq_true rfl) ?_
  intro p e s m below meth c ls A hx hb hr hml hts hown hlocks hin hP hK hD hA hS hl
  have hl : lv_has ls 1 [(0, .ref (n 0))] := hl
  have hown : s.vm.findClass RX11 = some m.cls := hown
  have i11 : ∀ w ∈ u_ws RX11 TX11 71, w ∈ wsX11_longOf := fun _ h => List.mem_cons_of_mem _ (List.mem_append_right _ h)
  have w1 := hts (.fieldLink RX11 33 "GuildCharterModel" "length" "[I") (List.mem_cons_of_mem _ (List.mem_append_left _ (List.mem_of_getElem? (i := 0) rfl)))
  have w2 := hts (.fieldLink RX11 233 "GuildCharterModel" "bank" "I") (List.mem_cons_of_mem _ (List.mem_append_left _ (List.mem_of_getElem? (i := 1) rfl)))
  refine lv_aload_n hx hb dX11_longOf_0 rfl (lv_at hl 0 rfl) ?_
  refine va_get (D := (dC, dI)) (ci := 11) (v := .ref (n 7)) (C := RX11) (T := TX11) (N := 71) hx hb hts i11 hown hK hP 0 rfl rfl 15 (nlt rfl) w1 (fun _ h9 => h9) rfl dX11_longOf_1 ?_
  refine lv_aload_n hx hb dX11_longOf_4 rfl (lv_at hl 0 rfl) ?_
  refine va_get (D := (dC, dI)) (ci := 11) (v := .int 0) (C := RX11) (T := TX11) (N := 71) hx hb hts i11 hown hK hP 0 rfl rfl 29 (nlt rfl) w2 (fun _ h9 => h9) rfl dX11_longOf_5 ?_
  refine my_iald (v := 3) hx hb hK hP 1 1 rfl rfl z248 rfl dX11_longOf_8 ?_
  refine W.widen (k := 0) (n := 0) (by decide +kernel) (by decide +kernel) ?_
  exact ret_i hx hb hr hlocks hS (u := (fun _ => 0)) (hP.sub [0, 1] rfl) (hD.sub [0, 1] (by decide +kernel) rfl) dX11_longOf_9

set_option maxHeartbeats 4000000 in
set_option maxRecDepth 100000 in
theorem k91_X11_isIn (l : Launch) (dC : Nat → ClassId) (dI : Nat → Nat → Nat) (cB cI cJ cZ cO : ClassId) (x1 : Int32) (h0 : x1 < 0) : CI l yX11_isIn wsX11_isIn ({ frames := 0, cells := 0, slots := 0, locals := 0 }) (dC, dI) (tyL cB cI cJ cZ cO) [.int x1, .int 0, .int 2] [] (fun _ => []) 0 := by
  intro sz
  refine ct_open (cc := cX11_isIn) (maxL := 3) (ret := (some .boolean)) (by decide) rfl (Nat.le_of_ble_eq_true rfl) ?_
  intro p e s m below meth c ls A hx hb hr hml hts hown hlocks hin hP hK hD hA hS hl
  have hl : lv_has ls 3 [(0, .int x1), (1, .int 0), (2, .int 2)] := hl
  have hown : s.vm.findClass RX11 = some m.cls := hown
  refine lv_iload_n hx hb dX11_isIn_0 rfl (lv_at hl 0 rfl) ?_
  refine lv_iload_n hx hb dX11_isIn_1 rfl (lv_at hl 1 rfl) ?_
  refine lv_icmp_lt (tgt := 14) hx hb dX11_isIn_2 z586 (fun _ => ?_) (fun c1 => absurd (h0) c1)
  refine lv_iconst (v := 0) hx hb dX11_isIn_14 z8 ?_
  refine W.widen (k := 0) (n := 0) (by decide +kernel) (by decide +kernel) ?_
  exact ret_z hx hb hr rfl hlocks hS (u := (fun _ => 0)) (hP.sub [] rfl) (hD.sub [] (by decide +kernel) rfl) dX11_isIn_15

set_option maxHeartbeats 4000000 in
set_option maxRecDepth 100000 in
theorem k92_X11_isPlace (l : Launch) (dC : Nat → ClassId) (dI : Nat → Nat → Nat) (cB cI cJ cZ cO : ClassId) (n : Nat → Nat) (x1 : Int32) (h0 : x1 < 0) : CI l yX11_isPlace wsX11_isPlace ({ frames := 1, cells := 0, slots := 0, locals := 22 }) (dC, dI) (tyL cB cI cJ cZ cO) [.ref (n 0), .int x1] [((n 0), .inr (11, fM n)), ((n 7), .inl (cI, 2, .inl (upd (fun _ => 0) 0 3)))] (fun u => [((n 0), .inr (11, fM n)), ((n 7), .inl (cI, 2, .inl (upd (fun _ => 0) 0 3)))]) 0 := by
  intro sz
  refine ct_open (cc := cX11_isPlace) (maxL := 2) (ret := (some .boolean)) (by decide) rfl (Nat.le_of_ble_eq_true rfl) ?_
  intro p e s m below meth c ls A hx hb hr hml hts hown hlocks hin hP hK hD hA hS hl
  have hl : lv_has ls 2 [(0, .ref (n 0)), (1, .int x1)] := hl
  have hown : s.vm.findClass RX11 = some m.cls := hown
  refine lv_iload_n hx hb dX11_isPlace_0 rfl (lv_at hl 1 rfl) ?_
  refine lv_iconst (v := 0) hx hb dX11_isPlace_1 z8 ?_
  refine lv_aload_n hx hb dX11_isPlace_2 rfl (lv_at hl 0 rfl) ?_
  refine call_iV (ci := 11) (As := []) (rest := [.int 0, .int x1]) (wr := []) ⟨hx, hb, hml, hown, hts⟩ (k90_X11_longOf l dC dI cB cI cJ cZ cO n) (cwV 0 hts gX11_isPlace_X11_longOf rfl rfl rfl ⟨rfl, z597⟩ ⟨Nat.le_of_ble_eq_true rfl, Nat.le_of_ble_eq_true rfl⟩) hK hP hD hS hA [0, 1] [] rfl rfl (by decide +kernel) (by decide +kernel) (by decide +kernel) rfl rfl rfl hl.1 (Nat.le_of_ble_eq_true rfl) rfl rfl dX11_isPlace_3 ⟨by decide +kernel, by decide +kernel⟩ (fun u0 H locs hP hD hS => ?_)
  refine lv_iconst (v := 1) hx hb dX11_isPlace_6 z39 ?_
  refine lv_isub hx hb dX11_isPlace_7 ?_
  refine tpi z596 ?_
  refine call_iS (As := [.int x1, .int 0, .int 2]) (rest := []) (wr := [((n 0), .inr (11, fM n)), ((n 7), .inl (cI, 2, .inl (upd (fun _ => 0) 0 3)))]) ⟨hx, hb, hml, hown, hts⟩ (k91_X11_isIn l dC dI cB cI cJ cZ cO x1 h0) (va_cwS 3 hts gX11_isPlace_X11_isIn rfl rfl rfl z587 ⟨Nat.le_of_ble_eq_true rfl, Nat.le_of_ble_eq_true rfl⟩) hK hP hD hS hA [] [0, 1] rfl rfl (by decide +kernel) (by decide +kernel) (by decide +kernel) hl.1 (Nat.le_of_ble_eq_true rfl) rfl rfl dX11_isPlace_8 ⟨by decide +kernel, by decide +kernel⟩ (fun u1 H locs hP hD hS => ?_)
  refine W.widen (k := 0) (n := 0) (by decide +kernel) (by decide +kernel) ?_
  exact ret_z hx hb hr rfl hlocks hS (u := (fun _ => 0)) (hP.sub [0, 1] rfl) (hD.sub [0, 1] (by decide +kernel) rfl) dX11_isPlace_11

set_option maxHeartbeats 4000000 in
set_option maxRecDepth 100000 in
theorem k93_X11_turn (l : Launch) (dC : Nat → ClassId) (dI : Nat → Nat → Nat) (cB cI cJ cZ cO : ClassId) (n : Nat → Nat) (x1 : Int32) (h0 : x1 < 0) : CI l yX11_turn wsX11_turn ({ frames := 2, cells := 0, slots := 0, locals := 43 }) (dC, dI) (tyL cB cI cJ cZ cO) [.ref (n 0), .int x1] [((n 0), .inr (11, fM n)), ((n 7), .inl (cI, 2, .inl (upd (fun _ => 0) 0 3)))] (fun _ => []) (-1) := by
  intro sz
  refine ct_open (cc := cX11_turn) (maxL := 2) (ret := (some .int)) (by decide) rfl (Nat.le_of_ble_eq_true rfl) ?_
  intro p e s m below meth c ls A hx hb hr hml hts hown hlocks hin hP hK hD hA hS hl
  have hl : lv_has ls 2 [(0, .ref (n 0)), (1, .int x1)] := hl
  have hown : s.vm.findClass RX11 = some m.cls := hown
  refine lv_aload_n hx hb dX11_turn_0 rfl (lv_at hl 0 rfl) ?_
  refine lv_iload_n hx hb dX11_turn_1 rfl (lv_at hl 1 rfl) ?_
  refine call_iV (ci := 11) (As := [.int x1]) (rest := []) (wr := []) ⟨hx, hb, hml, hown, hts⟩ (k92_X11_isPlace l dC dI cB cI cJ cZ cO n x1 h0) (cwV 1 hts gX11_turn_X11_isPlace rfl rfl rfl ⟨rfl, z599⟩ ⟨Nat.le_of_ble_eq_true rfl, Nat.le_of_ble_eq_true rfl⟩) hK hP hD hS hA [0, 1] [] rfl rfl (by decide +kernel) (by decide +kernel) (by decide +kernel) rfl rfl rfl hl.1 (Nat.le_of_ble_eq_true rfl) rfl rfl dX11_turn_2 ⟨by decide +kernel, by decide +kernel⟩ (fun u0 H locs hP hD hS => ?_)
  refine lv_if_eq (tgt := 17) hx hb dX11_turn_5 z598 (fun _ => ?_) (fun c1 => absurd (rfl) c1)
  refine lv_iconst (v := (-1)) hx hb dX11_turn_17 z128 ?_
  refine W.widen (k := 0) (n := 0) (by decide +kernel) (by decide +kernel) ?_
  exact ret_i hx hb hr hlocks hS (u := (fun _ => 0)) (hP.sub [] rfl) (hD.sub [] (by decide +kernel) rfl) dX11_turn_18

set_option maxHeartbeats 4000000 in
set_option maxRecDepth 100000 in
theorem k94_X4_hasPlace (l : Launch) (dC : Nat → ClassId) (dI : Nat → Nat → Nat) (cB cI cJ cZ cO : ClassId) (r : Nat → Nat) : CI l yX4_hasPlace wsX4_hasPlace ({ frames := 0, cells := 0, slots := 0, locals := 0 }) (dC, dI) (tyL cB cI cJ cZ cO) [.ref (r 18), .int 0] [((r 18), .inr (4, [.int 0, .ref (r 19), .ref (r 20), .int 0, .ref (r 21), .ref (r 22), .int 0, .ref (r 23), .ref (r 24), .int 0, .ref (r 25), .ref (r 26), .int 3, .int 0, .int 0, .ref (r 27)]))] (fun u => [((r 18), .inr (4, [.int 0, .ref (r 19), .ref (r 20), .int 0, .ref (r 21), .ref (r 22), .int 0, .ref (r 23), .ref (r 24), .int 0, .ref (r 25), .ref (r 26), .int 3, .int 0, .int 0, .ref (r 27)]))]) 1 := by
  intro sz
  refine ct_open (cc := cX4_hasPlace) (maxL := 2) (ret := (some .boolean)) (by decide) rfl (Nat.le_of_ble_eq_true rfl) ?_
  intro p e s m below meth c ls A hx hb hr hml hts hown hlocks hin hP hK hD hA hS hl
  have hl : lv_has ls 2 [(0, .ref (r 18)), (1, .int 0)] := hl
  have hown : s.vm.findClass RX4 = some m.cls := hown
  have i4 : ∀ w ∈ u_ws RX4 TX4 16, w ∈ wsX4_hasPlace := fun _ h => List.mem_cons_of_mem _ (List.mem_append_right _ h)
  have w1 := hts (.fieldLink RX4 41 "GuildCharter$Port" "length" "I") (List.mem_cons_of_mem _ (List.mem_append_left _ (List.mem_of_getElem? (i := 0) rfl)))
  refine lv_iload_n hx hb dX4_hasPlace_0 rfl (lv_at hl 1 rfl) ?_
  refine lv_if_lt (tgt := 16) hx hb dX4_hasPlace_1 z582 (fun c1 => absurd c1 (z125)) (fun _ => ?_)
  refine lv_iload_n hx hb dX4_hasPlace_4 rfl (lv_at hl 1 rfl) ?_
  refine lv_aload_n hx hb dX4_hasPlace_5 rfl (lv_at hl 0 rfl) ?_
  refine va_get (D := (dC, dI)) (ci := 4) (v := .int 3) (C := RX4) (T := TX4) (N := 16) hx hb hts i4 hown hK hP 0 rfl rfl 12 (nlt rfl) w1 (fun _ h9 => h9) rfl dX4_hasPlace_6 ?_
  refine lv_icmp_ge (tgt := 16) hx hb dX4_hasPlace_9 z590 (fun c1 => absurd c1 (z267)) (fun _ => ?_)
  refine lv_iconst (v := 1) hx hb dX4_hasPlace_12 z39 ?_
  refine lv_goto (tgt := 17) hx hb dX4_hasPlace_13 z600 ?_
  refine W.widen (k := 0) (n := 0) (by decide +kernel) (by decide +kernel) ?_
  exact ret_z hx hb hr rfl hlocks hS (u := (fun _ => 0)) (hP.sub [0] rfl) (hD.sub [0] (by decide +kernel) rfl) dX4_hasPlace_17

set_option maxHeartbeats 4000000 in
set_option maxRecDepth 100000 in
theorem k95_X4_turnAt (l : Launch) (dC : Nat → ClassId) (dI : Nat → Nat → Nat) (cB cI cJ cZ cO : ClassId) (r : Nat → Nat) : CI l yX4_turnAt wsX4_turnAt ({ frames := 0, cells := 0, slots := 0, locals := 0 }) (dC, dI) (tyL cB cI cJ cZ cO) [.ref (r 18), .int 0] [((r 18), .inr (4, [.int 0, .ref (r 19), .ref (r 20), .int 0, .ref (r 21), .ref (r 22), .int 0, .ref (r 23), .ref (r 24), .int 0, .ref (r 25), .ref (r 26), .int 3, .int 0, .int 0, .ref (r 27)]))] (fun u => [((r 18), .inr (4, [.int 0, .ref (r 19), .ref (r 20), .int 0, .ref (r 21), .ref (r 22), .int 0, .ref (r 23), .ref (r 24), .int 0, .ref (r 25), .ref (r 26), .int 3, .int 0, .int 0, .ref (r 27)]))]) 0 := by
  intro sz
  refine ct_open (cc := cX4_turnAt) (maxL := 2) (ret := (some .int)) (by decide) rfl (Nat.le_of_ble_eq_true rfl) ?_
  intro p e s m below meth c ls A hx hb hr hml hts hown hlocks hin hP hK hD hA hS hl
  have hl : lv_has ls 2 [(0, .ref (r 18)), (1, .int 0)] := hl
  have hown : s.vm.findClass RX4 = some m.cls := hown
  have i4 : ∀ w ∈ u_ws RX4 TX4 16, w ∈ wsX4_turnAt := fun _ h => List.mem_cons_of_mem _ (List.mem_append_right _ h)
  have w1 := hts (.fieldLink RX4 67 "GuildCharter$Port" "turnCount" "I") (List.mem_cons_of_mem _ (List.mem_append_left _ (List.mem_of_getElem? (i := 0) rfl)))
  refine lv_aload_n hx hb dX4_turnAt_0 rfl (lv_at hl 0 rfl) ?_
  refine va_get (D := (dC, dI)) (ci := 4) (v := .int 0) (C := RX4) (T := TX4) (N := 16) hx hb hts i4 hown hK hP 0 rfl rfl 14 (nlt rfl) w1 (fun _ h9 => h9) rfl dX4_turnAt_1 ?_
  refine lv_if_le (tgt := 21) hx hb dX4_turnAt_4 z602 (fun _ => ?_) (fun c1 => absurd (z510) c1)
  refine lv_iload_n hx hb dX4_turnAt_21 rfl (lv_at hl 1 rfl) ?_
  refine lv_iconst (v := 3) hx hb dX4_turnAt_22 z69 ?_
  refine lv_irem hx hb dX4_turnAt_23 z257 ?_
  refine tpi z258 ?_
  refine W.widen (k := 0) (n := 0) (by decide +kernel) (by decide +kernel) ?_
  exact ret_i hx hb hr hlocks hS (u := (fun _ => 0)) (hP.sub [0] rfl) (hD.sub [0] (by decide +kernel) rfl) dX4_turnAt_24

set_option maxHeartbeats 4000000 in
set_option maxRecDepth 100000 in
theorem k96_X10_ownerInEarnest (l : Launch) (dC : Nat → ClassId) (dI : Nat → Nat → Nat) (cB cI cJ cZ cO : ClassId) (r : Nat → Nat) : CI l yX10_ownerInEarnest wsX10_ownerInEarnest ({ frames := 1, cells := 0, slots := 0, locals := 21 }) (dC, dI) (tyL cB cI cJ cZ cO) [.ref (r 0), .int 0] [((r 0), .inr (10, fX r)), ((r 38), .inr (0, [.ref (r 39), .int 0, .ref (r 40), .ref (r 41), .ref (r 42), .ref (r 43), .ref (r 44), .int 0, .int 0])), ((r 40), .inl (cI, 6, .inl (upd (upd (upd (upd (upd (upd (fun _ => 0) 0 (-1)) 1 (-1)) 2 (-1)) 3 (-1)) 4 (-1)) 5 (-1)))), ((r 18), .inr (4, [.int 0, .ref (r 19), .ref (r 20), .int 0, .ref (r 21), .ref (r 22), .int 0, .ref (r 23), .ref (r 24), .int 0, .ref (r 25), .ref (r 26), .int 3, .int 0, .int 0, .ref (r 27)]))] (fun u => [((r 0), .inr (10, fX r)), ((r 38), .inr (0, [.ref (r 39), .int 0, .ref (r 40), .ref (r 41), .ref (r 42), .ref (r 43), .ref (r 44), .int 0, .int 0])), ((r 40), .inl (cI, 6, .inl (upd (upd (upd (upd (upd (upd (fun _ => 0) 0 (-1)) 1 (-1)) 2 (-1)) 3 (-1)) 4 (-1)) 5 (-1)))), ((r 18), .inr (4, [.int 0, .ref (r 19), .ref (r 20), .int 0, .ref (r 21), .ref (r 22), .int 0, .ref (r 23), .ref (r 24), .int 0, .ref (r 25), .ref (r 26), .int 3, .int 0, .int 0, .ref (r 27)]))]) 0 := by
  intro sz
  refine ct_open (cc := cX10_ownerInEarnest) (maxL := 2) (ret := (some .int)) (by decide) rfl (Nat.le_of_ble_eq_true rfl) ?_
  intro p e s m below meth c ls A hx hb hr hml hts hown hlocks hin hP hK hD hA hS hl
  have hl : lv_has ls 2 [(0, .ref (r 0)), (1, .int 0)] := hl
  have hown : s.vm.findClass RX10 = some m.cls := hown
  have i10 : ∀ w ∈ u_ws RX10 TX10 18, w ∈ wsX10_ownerInEarnest := fun _ h => List.mem_cons_of_mem _ (List.mem_append_left _ (List.mem_append_left _ (List.mem_append_right _ h)))
  have w1 := hts (.fieldLink RX10 33 "GuildCharter" "earnest" "LGuildCharter$Earnest;") (List.mem_cons_of_mem _ (List.mem_append_left _ (List.mem_append_left _ (List.mem_append_left _ (List.mem_of_getElem? (i := 0) rfl)))))
  have i0 : ∀ w ∈ u_ws RX0 TX0 9, w ∈ wsX10_ownerInEarnest := fun _ h => List.mem_cons_of_mem _ (List.mem_append_left _ (List.mem_append_right _ h))
  have w3 := hts (.fieldLink RX10 164 "GuildCharter$Earnest" "sold" "[I") (List.mem_cons_of_mem _ (List.mem_append_left _ (List.mem_append_left _ (List.mem_append_left _ (List.mem_of_getElem? (i := 1) rfl)))))
  have w4 := hts (.fieldLink RX10 23 "GuildCharter" "told" "LGuildCharter$Port;") (List.mem_cons_of_mem _ (List.mem_append_left _ (List.mem_append_left _ (List.mem_append_left _ (List.mem_of_getElem? (i := 2) rfl)))))
  refine lv_aload_n hx hb dX10_ownerInEarnest_0 rfl (lv_at hl 0 rfl) ?_
  refine va_get (D := (dC, dI)) (ci := 10) (v := .ref (r 38)) (C := RX10) (T := TX10) (N := 18) hx hb hts i10 hown hK hP 0 rfl rfl 5 (nlt rfl) w1 (fun _ h9 => h9) rfl dX10_ownerInEarnest_1 ?_
  refine va_get (D := (dC, dI)) (ci := 0) (v := .ref (r 40)) (C := RX0) (T := TX0) (N := 9) hx hb hts i0 hown hK hP 1 rfl rfl 2 (nlt rfl) w3 (fun _ h9 => h9) rfl dX10_ownerInEarnest_4 ?_
  refine lv_iload_n hx hb dX10_ownerInEarnest_7 rfl (lv_at hl 1 rfl) ?_
  refine my_iald (v := (-1)) hx hb hK hP 2 1 rfl rfl z38 rfl dX10_ownerInEarnest_8 ?_
  refine lv_iconst (v := (-1)) hx hb dX10_ownerInEarnest_9 z128 ?_
  refine lv_icmp_eq (tgt := 25) hx hb dX10_ownerInEarnest_10 z601 (fun _ => ?_) (fun c1 => absurd (rfl) c1)
  refine lv_aload_n hx hb dX10_ownerInEarnest_25 rfl (lv_at hl 0 rfl) ?_
  refine va_get (D := (dC, dI)) (ci := 10) (v := .ref (r 18)) (C := RX10) (T := TX10) (N := 18) hx hb hts i10 hown hK hP 0 rfl rfl 3 (nlt rfl) w4 (fun _ h9 => h9) rfl dX10_ownerInEarnest_26 ?_
  refine lv_iload_n hx hb dX10_ownerInEarnest_29 rfl (lv_at hl 1 rfl) ?_
  refine call_iV (ci := 4) (As := [.int 0]) (rest := []) (wr := [((r 0), .inr (10, fX r)), ((r 38), .inr (0, [.ref (r 39), .int 0, .ref (r 40), .ref (r 41), .ref (r 42), .ref (r 43), .ref (r 44), .int 0, .int 0])), ((r 40), .inl (cI, 6, .inl (upd (upd (upd (upd (upd (upd (fun _ => 0) 0 (-1)) 1 (-1)) 2 (-1)) 3 (-1)) 4 (-1)) 5 (-1))))]) ⟨hx, hb, hml, hown, hts⟩ (k95_X4_turnAt l dC dI cB cI cJ cZ cO r) (cwV 1 hts gX10_ownerInEarnest_X4_turnAt rfl rfl rfl ⟨rfl, z603⟩ ⟨Nat.le_of_ble_eq_true rfl, Nat.le_of_ble_eq_true rfl⟩) hK hP hD hS hA [3] [0, 1, 2] rfl rfl (by decide +kernel) (by decide +kernel) (by decide +kernel) rfl rfl rfl hl.1 (Nat.le_of_ble_eq_true rfl) rfl rfl dX10_ownerInEarnest_30 ⟨by decide +kernel, by decide +kernel⟩ (fun u0 H locs hP hD hS => ?_)
  refine W.widen (k := 0) (n := 0) (by decide +kernel) (by decide +kernel) ?_
  exact ret_i hx hb hr hlocks hS (u := (fun _ => 0)) (hP.sub [0, 1, 2, 3] rfl) (hD.sub [0, 1, 2, 3] (by decide +kernel) rfl) dX10_ownerInEarnest_33

set_option maxHeartbeats 4000000 in
set_option maxRecDepth 100000 in
theorem k97_X10_turn (l : Launch) (dC : Nat → ClassId) (dI : Nat → Nat → Nat) (cB cI cJ cZ cO : ClassId) (r : Nat → Nat) : CI l yX10_turn wsX10_turn ({ frames := 2, cells := 0, slots := 0, locals := 42 }) (dC, dI) (tyL cB cI cJ cZ cO) [.ref (r 0), .int 0] [((r 0), .inr (10, fX r)), ((r 18), .inr (4, [.int 0, .ref (r 19), .ref (r 20), .int 0, .ref (r 21), .ref (r 22), .int 0, .ref (r 23), .ref (r 24), .int 0, .ref (r 25), .ref (r 26), .int 3, .int 0, .int 0, .ref (r 27)])), ((r 38), .inr (0, [.ref (r 39), .int 0, .ref (r 40), .ref (r 41), .ref (r 42), .ref (r 43), .ref (r 44), .int 0, .int 0])), ((r 40), .inl (cI, 6, .inl (upd (upd (upd (upd (upd (upd (fun _ => 0) 0 (-1)) 1 (-1)) 2 (-1)) 3 (-1)) 4 (-1)) 5 (-1))))] (fun _ => []) 0 := by
  intro sz
  refine ct_open (cc := cX10_turn) (maxL := 2) (ret := (some .int)) (by decide) rfl (Nat.le_of_ble_eq_true rfl) ?_
  intro p e s m below meth c ls A hx hb hr hml hts hown hlocks hin hP hK hD hA hS hl
  have hl : lv_has ls 2 [(0, .ref (r 0)), (1, .int 0)] := hl
  have hown : s.vm.findClass RX10 = some m.cls := hown
  have i10 : ∀ w ∈ u_ws RX10 TX10 18, w ∈ wsX10_turn := fun _ h => List.mem_cons_of_mem _ (List.mem_append_left _ (List.mem_append_left _ (List.mem_append_right _ h)))
  have w1 := hts (.fieldLink RX10 23 "GuildCharter" "told" "LGuildCharter$Port;") (List.mem_cons_of_mem _ (List.mem_append_left _ (List.mem_append_left _ (List.mem_append_left _ (List.mem_of_getElem? (i := 0) rfl)))))
  refine lv_aload_n hx hb dX10_turn_0 rfl (lv_at hl 0 rfl) ?_
  refine va_get (D := (dC, dI)) (ci := 10) (v := .ref (r 18)) (C := RX10) (T := TX10) (N := 18) hx hb hts i10 hown hK hP 0 rfl rfl 3 (nlt rfl) w1 (fun _ h9 => h9) rfl dX10_turn_1 ?_
  refine lv_iload_n hx hb dX10_turn_4 rfl (lv_at hl 1 rfl) ?_
  refine call_iV (ci := 4) (As := [.int 0]) (rest := []) (wr := [((r 0), .inr (10, fX r)), ((r 38), .inr (0, [.ref (r 39), .int 0, .ref (r 40), .ref (r 41), .ref (r 42), .ref (r 43), .ref (r 44), .int 0, .int 0])), ((r 40), .inl (cI, 6, .inl (upd (upd (upd (upd (upd (upd (fun _ => 0) 0 (-1)) 1 (-1)) 2 (-1)) 3 (-1)) 4 (-1)) 5 (-1))))]) ⟨hx, hb, hml, hown, hts⟩ (k94_X4_hasPlace l dC dI cB cI cJ cZ cO r) (cwV 1 hts gX10_turn_X4_hasPlace rfl rfl rfl ⟨rfl, z595⟩ ⟨Nat.le_of_ble_eq_true rfl, Nat.le_of_ble_eq_true rfl⟩) hK hP hD hS hA [1] [0, 2, 3] rfl rfl (by decide +kernel) (by decide +kernel) (by decide +kernel) rfl rfl rfl hl.1 (Nat.le_of_ble_eq_true rfl) rfl rfl dX10_turn_5 ⟨by decide +kernel, by decide +kernel⟩ (fun u0 H locs hP hD hS => ?_)
  refine lv_if_eq (tgt := 19) hx hb dX10_turn_8 z594 (fun c1 => absurd c1 (z525)) (fun _ => ?_)
  refine lv_aload_n hx hb dX10_turn_11 rfl (lv_at hl 0 rfl) ?_
  refine lv_iload_n hx hb dX10_turn_12 rfl (lv_at hl 1 rfl) ?_
  refine call_iV (ci := 10) (As := [.int 0]) (rest := []) (wr := []) ⟨hx, hb, hml, hown, hts⟩ (k96_X10_ownerInEarnest l dC dI cB cI cJ cZ cO r) (cwV 1 hts gX10_turn_X10_ownerInEarnest rfl rfl rfl ⟨rfl, z605⟩ ⟨Nat.le_of_ble_eq_true rfl, Nat.le_of_ble_eq_true rfl⟩) hK hP hD hS hA [0, 1, 2, 3] [] rfl rfl (by decide +kernel) (by decide +kernel) (by decide +kernel) rfl rfl rfl hl.1 (Nat.le_of_ble_eq_true rfl) rfl rfl dX10_turn_13 ⟨by decide +kernel, by decide +kernel⟩ (fun u1 H locs hP hD hS => ?_)
  refine lv_goto (tgt := 20) hx hb dX10_turn_16 z604 ?_
  refine W.widen (k := 0) (n := 0) (by decide +kernel) (by decide +kernel) ?_
  exact ret_i hx hb hr hlocks hS (u := (fun _ => 0)) (hP.sub [] rfl) (hD.sub [] (by decide +kernel) rfl) dX10_turn_20

set_option maxHeartbeats 4000000 in
set_option maxRecDepth 100000 in
theorem k98_X11_isIn (l : Launch) (dC : Nat → ClassId) (dI : Nat → Nat → Nat) (cB cI cJ cZ cO : ClassId) : CI l yX11_isIn wsX11_isIn ({ frames := 0, cells := 0, slots := 0, locals := 0 }) (dC, dI) (tyL cB cI cJ cZ cO) [.int 0, .int 0, .int 2] [] (fun _ => []) 1 := by
  intro sz
  refine ct_open (cc := cX11_isIn) (maxL := 3) (ret := (some .boolean)) (by decide) rfl (Nat.le_of_ble_eq_true rfl) ?_
  intro p e s m below meth c ls A hx hb hr hml hts hown hlocks hin hP hK hD hA hS hl
  have hl : lv_has ls 3 [(0, .int 0), (1, .int 0), (2, .int 2)] := hl
  have hown : s.vm.findClass RX11 = some m.cls := hown
  refine lv_iload_n hx hb dX11_isIn_0 rfl (lv_at hl 0 rfl) ?_
  refine lv_iload_n hx hb dX11_isIn_1 rfl (lv_at hl 1 rfl) ?_
  refine lv_icmp_lt (tgt := 14) hx hb dX11_isIn_2 z586 (fun c1 => absurd c1 (z125)) (fun _ => ?_)
  refine lv_iload_n hx hb dX11_isIn_5 rfl (lv_at hl 0 rfl) ?_
  refine lv_iload_n hx hb dX11_isIn_6 rfl (lv_at hl 2 rfl) ?_
  refine lv_icmp_gt (tgt := 14) hx hb dX11_isIn_7 z591 (fun c1 => absurd c1 (z197)) (fun _ => ?_)
  refine lv_iconst (v := 1) hx hb dX11_isIn_10 z39 ?_
  refine lv_goto (tgt := 15) hx hb dX11_isIn_11 z606 ?_
  refine W.widen (k := 0) (n := 0) (by decide +kernel) (by decide +kernel) ?_
  exact ret_z hx hb hr rfl hlocks hS (u := (fun _ => 0)) (hP.sub [] rfl) (hD.sub [] (by decide +kernel) rfl) dX11_isIn_15

set_option maxHeartbeats 4000000 in
set_option maxRecDepth 100000 in
theorem k99_X11_isPlace (l : Launch) (dC : Nat → ClassId) (dI : Nat → Nat → Nat) (cB cI cJ cZ cO : ClassId) (n : Nat → Nat) : CI l yX11_isPlace wsX11_isPlace ({ frames := 1, cells := 0, slots := 0, locals := 22 }) (dC, dI) (tyL cB cI cJ cZ cO) [.ref (n 0), .int 0] [((n 0), .inr (11, fM n)), ((n 7), .inl (cI, 2, .inl (upd (fun _ => 0) 0 3)))] (fun u => [((n 0), .inr (11, fM n)), ((n 7), .inl (cI, 2, .inl (upd (fun _ => 0) 0 3)))]) 1 := by
  intro sz
  refine ct_open (cc := cX11_isPlace) (maxL := 2) (ret := (some .boolean)) (by decide) rfl (Nat.le_of_ble_eq_true rfl) ?_
  intro p e s m below meth c ls A hx hb hr hml hts hown hlocks hin hP hK hD hA hS hl
  have hl : lv_has ls 2 [(0, .ref (n 0)), (1, .int 0)] := hl
  have hown : s.vm.findClass RX11 = some m.cls := hown
  refine lv_iload_n hx hb dX11_isPlace_0 rfl (lv_at hl 1 rfl) ?_
  refine lv_iconst (v := 0) hx hb dX11_isPlace_1 z8 ?_
  refine lv_aload_n hx hb dX11_isPlace_2 rfl (lv_at hl 0 rfl) ?_
  refine call_iV (ci := 11) (As := []) (rest := [.int 0, .int 0]) (wr := []) ⟨hx, hb, hml, hown, hts⟩ (k90_X11_longOf l dC dI cB cI cJ cZ cO n) (cwV 0 hts gX11_isPlace_X11_longOf rfl rfl rfl ⟨rfl, z597⟩ ⟨Nat.le_of_ble_eq_true rfl, Nat.le_of_ble_eq_true rfl⟩) hK hP hD hS hA [0, 1] [] rfl rfl (by decide +kernel) (by decide +kernel) (by decide +kernel) rfl rfl rfl hl.1 (Nat.le_of_ble_eq_true rfl) rfl rfl dX11_isPlace_3 ⟨by decide +kernel, by decide +kernel⟩ (fun u0 H locs hP hD hS => ?_)
  refine lv_iconst (v := 1) hx hb dX11_isPlace_6 z39 ?_
  refine lv_isub hx hb dX11_isPlace_7 ?_
  refine tpi z596 ?_
  refine call_iS (As := [.int 0, .int 0, .int 2]) (rest := []) (wr := [((n 0), .inr (11, fM n)), ((n 7), .inl (cI, 2, .inl (upd (fun _ => 0) 0 3)))]) ⟨hx, hb, hml, hown, hts⟩ (k98_X11_isIn l dC dI cB cI cJ cZ cO) (va_cwS 3 hts gX11_isPlace_X11_isIn rfl rfl rfl z587 ⟨Nat.le_of_ble_eq_true rfl, Nat.le_of_ble_eq_true rfl⟩) hK hP hD hS hA [] [0, 1] rfl rfl (by decide +kernel) (by decide +kernel) (by decide +kernel) hl.1 (Nat.le_of_ble_eq_true rfl) rfl rfl dX11_isPlace_8 ⟨by decide +kernel, by decide +kernel⟩ (fun u1 H locs hP hD hS => ?_)
  refine W.widen (k := 0) (n := 0) (by decide +kernel) (by decide +kernel) ?_
  exact ret_z hx hb hr rfl hlocks hS (u := (fun _ => 0)) (hP.sub [0, 1] rfl) (hD.sub [0, 1] (by decide +kernel) rfl) dX11_isPlace_11

set_option maxHeartbeats 4000000 in
set_option maxRecDepth 100000 in
theorem k100_X11_turn (l : Launch) (dC : Nat → ClassId) (dI : Nat → Nat → Nat) (cB cI cJ cZ cO : ClassId) (n : Nat → Nat) : CI l yX11_turn wsX11_turn ({ frames := 2, cells := 0, slots := 0, locals := 43 }) (dC, dI) (tyL cB cI cJ cZ cO) [.ref (n 0), .int 0] [((n 0), .inr (11, fM n)), ((n 7), .inl (cI, 2, .inl (upd (fun _ => 0) 0 3))), ((n 27), .inl (cI, 6, .inl (upd (upd (upd (upd (fun _ => 0) 1 1) 2 2) 4 1) 5 2)))] (fun _ => []) 0 := by
  intro sz
  refine ct_open (cc := cX11_turn) (maxL := 2) (ret := (some .int)) (by decide) rfl (Nat.le_of_ble_eq_true rfl) ?_
  intro p e s m below meth c ls A hx hb hr hml hts hown hlocks hin hP hK hD hA hS hl
  have hl : lv_has ls 2 [(0, .ref (n 0)), (1, .int 0)] := hl
  have hown : s.vm.findClass RX11 = some m.cls := hown
  have i11 : ∀ w ∈ u_ws RX11 TX11 71, w ∈ wsX11_turn := fun _ h => List.mem_cons_of_mem _ (List.mem_append_right _ h)
  have w1 := hts (.fieldLink RX11 95 "GuildCharterModel" "turnNow" "[I") (List.mem_cons_of_mem _ (List.mem_append_left _ (List.mem_of_getElem? (i := 0) rfl)))
  refine lv_aload_n hx hb dX11_turn_0 rfl (lv_at hl 0 rfl) ?_
  refine lv_iload_n hx hb dX11_turn_1 rfl (lv_at hl 1 rfl) ?_
  refine call_iV (ci := 11) (As := [.int 0]) (rest := []) (wr := [((n 27), .inl (cI, 6, .inl (upd (upd (upd (upd (fun _ => 0) 1 1) 2 2) 4 1) 5 2)))]) ⟨hx, hb, hml, hown, hts⟩ (k99_X11_isPlace l dC dI cB cI cJ cZ cO n) (cwV 1 hts gX11_turn_X11_isPlace rfl rfl rfl ⟨rfl, z599⟩ ⟨Nat.le_of_ble_eq_true rfl, Nat.le_of_ble_eq_true rfl⟩) hK hP hD hS hA [0, 1] [2] rfl rfl (by decide +kernel) (by decide +kernel) (by decide +kernel) rfl rfl rfl hl.1 (Nat.le_of_ble_eq_true rfl) rfl rfl dX11_turn_2 ⟨by decide +kernel, by decide +kernel⟩ (fun u0 H locs hP hD hS => ?_)
  refine lv_if_eq (tgt := 17) hx hb dX11_turn_5 z598 (fun c1 => absurd c1 (z525)) (fun _ => ?_)
  refine lv_aload_n hx hb dX11_turn_8 rfl (lv_at hl 0 rfl) ?_
  refine va_get (D := (dC, dI)) (ci := 11) (v := .ref (n 27)) (C := RX11) (T := TX11) (N := 71) hx hb hts i11 hown hK hP 1 rfl rfl 37 (nlt rfl) w1 (fun _ h9 => h9) rfl dX11_turn_9 ?_
  refine lv_iload_n hx hb dX11_turn_12 rfl (lv_at hl 1 rfl) ?_
  refine my_iald (v := 0) hx hb hK hP 0 1 rfl rfl z38 rfl dX11_turn_13 ?_
  refine lv_goto (tgt := 18) hx hb dX11_turn_14 z607 ?_
  refine W.widen (k := 0) (n := 0) (by decide +kernel) (by decide +kernel) ?_
  exact ret_i hx hb hr hlocks hS (u := (fun _ => 0)) (hP.sub [] rfl) (hD.sub [] (by decide +kernel) rfl) dX11_turn_18

set_option maxHeartbeats 4000000 in
set_option maxRecDepth 100000 in
theorem k101_X4_hasPlace (l : Launch) (dC : Nat → ClassId) (dI : Nat → Nat → Nat) (cB cI cJ cZ cO : ClassId) (r : Nat → Nat) : CI l yX4_hasPlace wsX4_hasPlace ({ frames := 0, cells := 0, slots := 0, locals := 0 }) (dC, dI) (tyL cB cI cJ cZ cO) [.ref (r 18), .int 1] [((r 18), .inr (4, [.int 0, .ref (r 19), .ref (r 20), .int 0, .ref (r 21), .ref (r 22), .int 0, .ref (r 23), .ref (r 24), .int 0, .ref (r 25), .ref (r 26), .int 3, .int 0, .int 0, .ref (r 27)]))] (fun u => [((r 18), .inr (4, [.int 0, .ref (r 19), .ref (r 20), .int 0, .ref (r 21), .ref (r 22), .int 0, .ref (r 23), .ref (r 24), .int 0, .ref (r 25), .ref (r 26), .int 3, .int 0, .int 0, .ref (r 27)]))]) 1 := by
  intro sz
  refine ct_open (cc := cX4_hasPlace) (maxL := 2) (ret := (some .boolean)) (by decide) rfl (Nat.le_of_ble_eq_true rfl) ?_
  intro p e s m below meth c ls A hx hb hr hml hts hown hlocks hin hP hK hD hA hS hl
  have hl : lv_has ls 2 [(0, .ref (r 18)), (1, .int 1)] := hl
  have hown : s.vm.findClass RX4 = some m.cls := hown
  have i4 : ∀ w ∈ u_ws RX4 TX4 16, w ∈ wsX4_hasPlace := fun _ h => List.mem_cons_of_mem _ (List.mem_append_right _ h)
  have w1 := hts (.fieldLink RX4 41 "GuildCharter$Port" "length" "I") (List.mem_cons_of_mem _ (List.mem_append_left _ (List.mem_of_getElem? (i := 0) rfl)))
  refine lv_iload_n hx hb dX4_hasPlace_0 rfl (lv_at hl 1 rfl) ?_
  refine lv_if_lt (tgt := 16) hx hb dX4_hasPlace_1 z582 (fun c1 => absurd c1 (z608)) (fun _ => ?_)
  refine lv_iload_n hx hb dX4_hasPlace_4 rfl (lv_at hl 1 rfl) ?_
  refine lv_aload_n hx hb dX4_hasPlace_5 rfl (lv_at hl 0 rfl) ?_
  refine va_get (D := (dC, dI)) (ci := 4) (v := .int 3) (C := RX4) (T := TX4) (N := 16) hx hb hts i4 hown hK hP 0 rfl rfl 12 (nlt rfl) w1 (fun _ h9 => h9) rfl dX4_hasPlace_6 ?_
  refine lv_icmp_ge (tgt := 16) hx hb dX4_hasPlace_9 z590 (fun c1 => absurd c1 (z270)) (fun _ => ?_)
  refine lv_iconst (v := 1) hx hb dX4_hasPlace_12 z39 ?_
  refine lv_goto (tgt := 17) hx hb dX4_hasPlace_13 z600 ?_
  refine W.widen (k := 0) (n := 0) (by decide +kernel) (by decide +kernel) ?_
  exact ret_z hx hb hr rfl hlocks hS (u := (fun _ => 0)) (hP.sub [0] rfl) (hD.sub [0] (by decide +kernel) rfl) dX4_hasPlace_17

set_option maxHeartbeats 4000000 in
set_option maxRecDepth 100000 in
theorem k102_X4_turnAt (l : Launch) (dC : Nat → ClassId) (dI : Nat → Nat → Nat) (cB cI cJ cZ cO : ClassId) (r : Nat → Nat) : CI l yX4_turnAt wsX4_turnAt ({ frames := 0, cells := 0, slots := 0, locals := 0 }) (dC, dI) (tyL cB cI cJ cZ cO) [.ref (r 18), .int 1] [((r 18), .inr (4, [.int 0, .ref (r 19), .ref (r 20), .int 0, .ref (r 21), .ref (r 22), .int 0, .ref (r 23), .ref (r 24), .int 0, .ref (r 25), .ref (r 26), .int 3, .int 0, .int 0, .ref (r 27)]))] (fun u => [((r 18), .inr (4, [.int 0, .ref (r 19), .ref (r 20), .int 0, .ref (r 21), .ref (r 22), .int 0, .ref (r 23), .ref (r 24), .int 0, .ref (r 25), .ref (r 26), .int 3, .int 0, .int 0, .ref (r 27)]))]) 1 := by
  intro sz
  refine ct_open (cc := cX4_turnAt) (maxL := 2) (ret := (some .int)) (by decide) rfl (Nat.le_of_ble_eq_true rfl) ?_
  intro p e s m below meth c ls A hx hb hr hml hts hown hlocks hin hP hK hD hA hS hl
  have hl : lv_has ls 2 [(0, .ref (r 18)), (1, .int 1)] := hl
  have hown : s.vm.findClass RX4 = some m.cls := hown
  have i4 : ∀ w ∈ u_ws RX4 TX4 16, w ∈ wsX4_turnAt := fun _ h => List.mem_cons_of_mem _ (List.mem_append_right _ h)
  have w1 := hts (.fieldLink RX4 67 "GuildCharter$Port" "turnCount" "I") (List.mem_cons_of_mem _ (List.mem_append_left _ (List.mem_of_getElem? (i := 0) rfl)))
  refine lv_aload_n hx hb dX4_turnAt_0 rfl (lv_at hl 0 rfl) ?_
  refine va_get (D := (dC, dI)) (ci := 4) (v := .int 0) (C := RX4) (T := TX4) (N := 16) hx hb hts i4 hown hK hP 0 rfl rfl 14 (nlt rfl) w1 (fun _ h9 => h9) rfl dX4_turnAt_1 ?_
  refine lv_if_le (tgt := 21) hx hb dX4_turnAt_4 z602 (fun _ => ?_) (fun c1 => absurd (z510) c1)
  refine lv_iload_n hx hb dX4_turnAt_21 rfl (lv_at hl 1 rfl) ?_
  refine lv_iconst (v := 3) hx hb dX4_turnAt_22 z69 ?_
  refine lv_irem hx hb dX4_turnAt_23 z257 ?_
  refine tpi z261 ?_
  refine W.widen (k := 0) (n := 0) (by decide +kernel) (by decide +kernel) ?_
  exact ret_i hx hb hr hlocks hS (u := (fun _ => 0)) (hP.sub [0] rfl) (hD.sub [0] (by decide +kernel) rfl) dX4_turnAt_24

set_option maxHeartbeats 4000000 in
set_option maxRecDepth 100000 in
theorem k103_X10_ownerInEarnest (l : Launch) (dC : Nat → ClassId) (dI : Nat → Nat → Nat) (cB cI cJ cZ cO : ClassId) (r : Nat → Nat) : CI l yX10_ownerInEarnest wsX10_ownerInEarnest ({ frames := 1, cells := 0, slots := 0, locals := 21 }) (dC, dI) (tyL cB cI cJ cZ cO) [.ref (r 0), .int 1] [((r 0), .inr (10, fX r)), ((r 38), .inr (0, [.ref (r 39), .int 0, .ref (r 40), .ref (r 41), .ref (r 42), .ref (r 43), .ref (r 44), .int 0, .int 0])), ((r 40), .inl (cI, 6, .inl (upd (upd (upd (upd (upd (upd (fun _ => 0) 0 (-1)) 1 (-1)) 2 (-1)) 3 (-1)) 4 (-1)) 5 (-1)))), ((r 18), .inr (4, [.int 0, .ref (r 19), .ref (r 20), .int 0, .ref (r 21), .ref (r 22), .int 0, .ref (r 23), .ref (r 24), .int 0, .ref (r 25), .ref (r 26), .int 3, .int 0, .int 0, .ref (r 27)]))] (fun u => [((r 0), .inr (10, fX r)), ((r 38), .inr (0, [.ref (r 39), .int 0, .ref (r 40), .ref (r 41), .ref (r 42), .ref (r 43), .ref (r 44), .int 0, .int 0])), ((r 40), .inl (cI, 6, .inl (upd (upd (upd (upd (upd (upd (fun _ => 0) 0 (-1)) 1 (-1)) 2 (-1)) 3 (-1)) 4 (-1)) 5 (-1)))), ((r 18), .inr (4, [.int 0, .ref (r 19), .ref (r 20), .int 0, .ref (r 21), .ref (r 22), .int 0, .ref (r 23), .ref (r 24), .int 0, .ref (r 25), .ref (r 26), .int 3, .int 0, .int 0, .ref (r 27)]))]) 1 := by
  intro sz
  refine ct_open (cc := cX10_ownerInEarnest) (maxL := 2) (ret := (some .int)) (by decide) rfl (Nat.le_of_ble_eq_true rfl) ?_
  intro p e s m below meth c ls A hx hb hr hml hts hown hlocks hin hP hK hD hA hS hl
  have hl : lv_has ls 2 [(0, .ref (r 0)), (1, .int 1)] := hl
  have hown : s.vm.findClass RX10 = some m.cls := hown
  have i10 : ∀ w ∈ u_ws RX10 TX10 18, w ∈ wsX10_ownerInEarnest := fun _ h => List.mem_cons_of_mem _ (List.mem_append_left _ (List.mem_append_left _ (List.mem_append_right _ h)))
  have w1 := hts (.fieldLink RX10 33 "GuildCharter" "earnest" "LGuildCharter$Earnest;") (List.mem_cons_of_mem _ (List.mem_append_left _ (List.mem_append_left _ (List.mem_append_left _ (List.mem_of_getElem? (i := 0) rfl)))))
  have i0 : ∀ w ∈ u_ws RX0 TX0 9, w ∈ wsX10_ownerInEarnest := fun _ h => List.mem_cons_of_mem _ (List.mem_append_left _ (List.mem_append_right _ h))
  have w3 := hts (.fieldLink RX10 164 "GuildCharter$Earnest" "sold" "[I") (List.mem_cons_of_mem _ (List.mem_append_left _ (List.mem_append_left _ (List.mem_append_left _ (List.mem_of_getElem? (i := 1) rfl)))))
  have w4 := hts (.fieldLink RX10 23 "GuildCharter" "told" "LGuildCharter$Port;") (List.mem_cons_of_mem _ (List.mem_append_left _ (List.mem_append_left _ (List.mem_append_left _ (List.mem_of_getElem? (i := 2) rfl)))))
  refine lv_aload_n hx hb dX10_ownerInEarnest_0 rfl (lv_at hl 0 rfl) ?_
  refine va_get (D := (dC, dI)) (ci := 10) (v := .ref (r 38)) (C := RX10) (T := TX10) (N := 18) hx hb hts i10 hown hK hP 0 rfl rfl 5 (nlt rfl) w1 (fun _ h9 => h9) rfl dX10_ownerInEarnest_1 ?_
  refine va_get (D := (dC, dI)) (ci := 0) (v := .ref (r 40)) (C := RX0) (T := TX0) (N := 9) hx hb hts i0 hown hK hP 1 rfl rfl 2 (nlt rfl) w3 (fun _ h9 => h9) rfl dX10_ownerInEarnest_4 ?_
  refine lv_iload_n hx hb dX10_ownerInEarnest_7 rfl (lv_at hl 1 rfl) ?_
  refine my_iald (v := (-1)) hx hb hK hP 2 1 rfl rfl z53 rfl dX10_ownerInEarnest_8 ?_
  refine lv_iconst (v := (-1)) hx hb dX10_ownerInEarnest_9 z128 ?_
  refine lv_icmp_eq (tgt := 25) hx hb dX10_ownerInEarnest_10 z601 (fun _ => ?_) (fun c1 => absurd (rfl) c1)
  refine lv_aload_n hx hb dX10_ownerInEarnest_25 rfl (lv_at hl 0 rfl) ?_
  refine va_get (D := (dC, dI)) (ci := 10) (v := .ref (r 18)) (C := RX10) (T := TX10) (N := 18) hx hb hts i10 hown hK hP 0 rfl rfl 3 (nlt rfl) w4 (fun _ h9 => h9) rfl dX10_ownerInEarnest_26 ?_
  refine lv_iload_n hx hb dX10_ownerInEarnest_29 rfl (lv_at hl 1 rfl) ?_
  refine call_iV (ci := 4) (As := [.int 1]) (rest := []) (wr := [((r 0), .inr (10, fX r)), ((r 38), .inr (0, [.ref (r 39), .int 0, .ref (r 40), .ref (r 41), .ref (r 42), .ref (r 43), .ref (r 44), .int 0, .int 0])), ((r 40), .inl (cI, 6, .inl (upd (upd (upd (upd (upd (upd (fun _ => 0) 0 (-1)) 1 (-1)) 2 (-1)) 3 (-1)) 4 (-1)) 5 (-1))))]) ⟨hx, hb, hml, hown, hts⟩ (k102_X4_turnAt l dC dI cB cI cJ cZ cO r) (cwV 1 hts gX10_ownerInEarnest_X4_turnAt rfl rfl rfl ⟨rfl, z603⟩ ⟨Nat.le_of_ble_eq_true rfl, Nat.le_of_ble_eq_true rfl⟩) hK hP hD hS hA [3] [0, 1, 2] rfl rfl (by decide +kernel) (by decide +kernel) (by decide +kernel) rfl rfl rfl hl.1 (Nat.le_of_ble_eq_true rfl) rfl rfl dX10_ownerInEarnest_30 ⟨by decide +kernel, by decide +kernel⟩ (fun u0 H locs hP hD hS => ?_)
  refine W.widen (k := 0) (n := 0) (by decide +kernel) (by decide +kernel) ?_
  exact ret_i hx hb hr hlocks hS (u := (fun _ => 0)) (hP.sub [0, 1, 2, 3] rfl) (hD.sub [0, 1, 2, 3] (by decide +kernel) rfl) dX10_ownerInEarnest_33

set_option maxHeartbeats 4000000 in
set_option maxRecDepth 100000 in
theorem k104_X10_turn (l : Launch) (dC : Nat → ClassId) (dI : Nat → Nat → Nat) (cB cI cJ cZ cO : ClassId) (r : Nat → Nat) : CI l yX10_turn wsX10_turn ({ frames := 2, cells := 0, slots := 0, locals := 42 }) (dC, dI) (tyL cB cI cJ cZ cO) [.ref (r 0), .int 1] [((r 0), .inr (10, fX r)), ((r 18), .inr (4, [.int 0, .ref (r 19), .ref (r 20), .int 0, .ref (r 21), .ref (r 22), .int 0, .ref (r 23), .ref (r 24), .int 0, .ref (r 25), .ref (r 26), .int 3, .int 0, .int 0, .ref (r 27)])), ((r 38), .inr (0, [.ref (r 39), .int 0, .ref (r 40), .ref (r 41), .ref (r 42), .ref (r 43), .ref (r 44), .int 0, .int 0])), ((r 40), .inl (cI, 6, .inl (upd (upd (upd (upd (upd (upd (fun _ => 0) 0 (-1)) 1 (-1)) 2 (-1)) 3 (-1)) 4 (-1)) 5 (-1))))] (fun _ => []) 1 := by
  intro sz
  refine ct_open (cc := cX10_turn) (maxL := 2) (ret := (some .int)) (by decide) rfl (Nat.le_of_ble_eq_true rfl) ?_
  intro p e s m below meth c ls A hx hb hr hml hts hown hlocks hin hP hK hD hA hS hl
  have hl : lv_has ls 2 [(0, .ref (r 0)), (1, .int 1)] := hl
  have hown : s.vm.findClass RX10 = some m.cls := hown
  have i10 : ∀ w ∈ u_ws RX10 TX10 18, w ∈ wsX10_turn := fun _ h => List.mem_cons_of_mem _ (List.mem_append_left _ (List.mem_append_left _ (List.mem_append_right _ h)))
  have w1 := hts (.fieldLink RX10 23 "GuildCharter" "told" "LGuildCharter$Port;") (List.mem_cons_of_mem _ (List.mem_append_left _ (List.mem_append_left _ (List.mem_append_left _ (List.mem_of_getElem? (i := 0) rfl)))))
  refine lv_aload_n hx hb dX10_turn_0 rfl (lv_at hl 0 rfl) ?_
  refine va_get (D := (dC, dI)) (ci := 10) (v := .ref (r 18)) (C := RX10) (T := TX10) (N := 18) hx hb hts i10 hown hK hP 0 rfl rfl 3 (nlt rfl) w1 (fun _ h9 => h9) rfl dX10_turn_1 ?_
  refine lv_iload_n hx hb dX10_turn_4 rfl (lv_at hl 1 rfl) ?_
  refine call_iV (ci := 4) (As := [.int 1]) (rest := []) (wr := [((r 0), .inr (10, fX r)), ((r 38), .inr (0, [.ref (r 39), .int 0, .ref (r 40), .ref (r 41), .ref (r 42), .ref (r 43), .ref (r 44), .int 0, .int 0])), ((r 40), .inl (cI, 6, .inl (upd (upd (upd (upd (upd (upd (fun _ => 0) 0 (-1)) 1 (-1)) 2 (-1)) 3 (-1)) 4 (-1)) 5 (-1))))]) ⟨hx, hb, hml, hown, hts⟩ (k101_X4_hasPlace l dC dI cB cI cJ cZ cO r) (cwV 1 hts gX10_turn_X4_hasPlace rfl rfl rfl ⟨rfl, z595⟩ ⟨Nat.le_of_ble_eq_true rfl, Nat.le_of_ble_eq_true rfl⟩) hK hP hD hS hA [1] [0, 2, 3] rfl rfl (by decide +kernel) (by decide +kernel) (by decide +kernel) rfl rfl rfl hl.1 (Nat.le_of_ble_eq_true rfl) rfl rfl dX10_turn_5 ⟨by decide +kernel, by decide +kernel⟩ (fun u0 H locs hP hD hS => ?_)
  refine lv_if_eq (tgt := 19) hx hb dX10_turn_8 z594 (fun c1 => absurd c1 (z525)) (fun _ => ?_)
  refine lv_aload_n hx hb dX10_turn_11 rfl (lv_at hl 0 rfl) ?_
  refine lv_iload_n hx hb dX10_turn_12 rfl (lv_at hl 1 rfl) ?_
  refine call_iV (ci := 10) (As := [.int 1]) (rest := []) (wr := []) ⟨hx, hb, hml, hown, hts⟩ (k103_X10_ownerInEarnest l dC dI cB cI cJ cZ cO r) (cwV 1 hts gX10_turn_X10_ownerInEarnest rfl rfl rfl ⟨rfl, z605⟩ ⟨Nat.le_of_ble_eq_true rfl, Nat.le_of_ble_eq_true rfl⟩) hK hP hD hS hA [0, 1, 2, 3] [] rfl rfl (by decide +kernel) (by decide +kernel) (by decide +kernel) rfl rfl rfl hl.1 (Nat.le_of_ble_eq_true rfl) rfl rfl dX10_turn_13 ⟨by decide +kernel, by decide +kernel⟩ (fun u1 H locs hP hD hS => ?_)
  refine lv_goto (tgt := 20) hx hb dX10_turn_16 z604 ?_
  refine W.widen (k := 0) (n := 0) (by decide +kernel) (by decide +kernel) ?_
  exact ret_i hx hb hr hlocks hS (u := (fun _ => 0)) (hP.sub [] rfl) (hD.sub [] (by decide +kernel) rfl) dX10_turn_20

set_option maxHeartbeats 4000000 in
set_option maxRecDepth 100000 in
theorem k105_X11_isIn (l : Launch) (dC : Nat → ClassId) (dI : Nat → Nat → Nat) (cB cI cJ cZ cO : ClassId) : CI l yX11_isIn wsX11_isIn ({ frames := 0, cells := 0, slots := 0, locals := 0 }) (dC, dI) (tyL cB cI cJ cZ cO) [.int 1, .int 0, .int 2] [] (fun _ => []) 1 := by
  intro sz
  refine ct_open (cc := cX11_isIn) (maxL := 3) (ret := (some .boolean)) (by decide) rfl (Nat.le_of_ble_eq_true rfl) ?_
  intro p e s m below meth c ls A hx hb hr hml hts hown hlocks hin hP hK hD hA hS hl
  have hl : lv_has ls 3 [(0, .int 1), (1, .int 0), (2, .int 2)] := hl
  have hown : s.vm.findClass RX11 = some m.cls := hown
  refine lv_iload_n hx hb dX11_isIn_0 rfl (lv_at hl 0 rfl) ?_
  refine lv_iload_n hx hb dX11_isIn_1 rfl (lv_at hl 1 rfl) ?_
  refine lv_icmp_lt (tgt := 14) hx hb dX11_isIn_2 z586 (fun c1 => absurd c1 (z608)) (fun _ => ?_)
  refine lv_iload_n hx hb dX11_isIn_5 rfl (lv_at hl 0 rfl) ?_
  refine lv_iload_n hx hb dX11_isIn_6 rfl (lv_at hl 2 rfl) ?_
  refine lv_icmp_gt (tgt := 14) hx hb dX11_isIn_7 z591 (fun c1 => absurd c1 (z609)) (fun _ => ?_)
  refine lv_iconst (v := 1) hx hb dX11_isIn_10 z39 ?_
  refine lv_goto (tgt := 15) hx hb dX11_isIn_11 z606 ?_
  refine W.widen (k := 0) (n := 0) (by decide +kernel) (by decide +kernel) ?_
  exact ret_z hx hb hr rfl hlocks hS (u := (fun _ => 0)) (hP.sub [] rfl) (hD.sub [] (by decide +kernel) rfl) dX11_isIn_15

set_option maxHeartbeats 4000000 in
set_option maxRecDepth 100000 in
theorem k106_X11_isPlace (l : Launch) (dC : Nat → ClassId) (dI : Nat → Nat → Nat) (cB cI cJ cZ cO : ClassId) (n : Nat → Nat) : CI l yX11_isPlace wsX11_isPlace ({ frames := 1, cells := 0, slots := 0, locals := 22 }) (dC, dI) (tyL cB cI cJ cZ cO) [.ref (n 0), .int 1] [((n 0), .inr (11, fM n)), ((n 7), .inl (cI, 2, .inl (upd (fun _ => 0) 0 3)))] (fun u => [((n 0), .inr (11, fM n)), ((n 7), .inl (cI, 2, .inl (upd (fun _ => 0) 0 3)))]) 1 := by
  intro sz
  refine ct_open (cc := cX11_isPlace) (maxL := 2) (ret := (some .boolean)) (by decide) rfl (Nat.le_of_ble_eq_true rfl) ?_
  intro p e s m below meth c ls A hx hb hr hml hts hown hlocks hin hP hK hD hA hS hl
  have hl : lv_has ls 2 [(0, .ref (n 0)), (1, .int 1)] := hl
  have hown : s.vm.findClass RX11 = some m.cls := hown
  refine lv_iload_n hx hb dX11_isPlace_0 rfl (lv_at hl 1 rfl) ?_
  refine lv_iconst (v := 0) hx hb dX11_isPlace_1 z8 ?_
  refine lv_aload_n hx hb dX11_isPlace_2 rfl (lv_at hl 0 rfl) ?_
  refine call_iV (ci := 11) (As := []) (rest := [.int 0, .int 1]) (wr := []) ⟨hx, hb, hml, hown, hts⟩ (k90_X11_longOf l dC dI cB cI cJ cZ cO n) (cwV 0 hts gX11_isPlace_X11_longOf rfl rfl rfl ⟨rfl, z597⟩ ⟨Nat.le_of_ble_eq_true rfl, Nat.le_of_ble_eq_true rfl⟩) hK hP hD hS hA [0, 1] [] rfl rfl (by decide +kernel) (by decide +kernel) (by decide +kernel) rfl rfl rfl hl.1 (Nat.le_of_ble_eq_true rfl) rfl rfl dX11_isPlace_3 ⟨by decide +kernel, by decide +kernel⟩ (fun u0 H locs hP hD hS => ?_)
  refine lv_iconst (v := 1) hx hb dX11_isPlace_6 z39 ?_
  refine lv_isub hx hb dX11_isPlace_7 ?_
  refine tpi z596 ?_
  refine call_iS (As := [.int 1, .int 0, .int 2]) (rest := []) (wr := [((n 0), .inr (11, fM n)), ((n 7), .inl (cI, 2, .inl (upd (fun _ => 0) 0 3)))]) ⟨hx, hb, hml, hown, hts⟩ (k105_X11_isIn l dC dI cB cI cJ cZ cO) (va_cwS 3 hts gX11_isPlace_X11_isIn rfl rfl rfl z587 ⟨Nat.le_of_ble_eq_true rfl, Nat.le_of_ble_eq_true rfl⟩) hK hP hD hS hA [] [0, 1] rfl rfl (by decide +kernel) (by decide +kernel) (by decide +kernel) hl.1 (Nat.le_of_ble_eq_true rfl) rfl rfl dX11_isPlace_8 ⟨by decide +kernel, by decide +kernel⟩ (fun u1 H locs hP hD hS => ?_)
  refine W.widen (k := 0) (n := 0) (by decide +kernel) (by decide +kernel) ?_
  exact ret_z hx hb hr rfl hlocks hS (u := (fun _ => 0)) (hP.sub [0, 1] rfl) (hD.sub [0, 1] (by decide +kernel) rfl) dX11_isPlace_11

set_option maxHeartbeats 4000000 in
set_option maxRecDepth 100000 in
theorem k107_X11_turn (l : Launch) (dC : Nat → ClassId) (dI : Nat → Nat → Nat) (cB cI cJ cZ cO : ClassId) (n : Nat → Nat) : CI l yX11_turn wsX11_turn ({ frames := 2, cells := 0, slots := 0, locals := 43 }) (dC, dI) (tyL cB cI cJ cZ cO) [.ref (n 0), .int 1] [((n 0), .inr (11, fM n)), ((n 7), .inl (cI, 2, .inl (upd (fun _ => 0) 0 3))), ((n 27), .inl (cI, 6, .inl (upd (upd (upd (upd (fun _ => 0) 1 1) 2 2) 4 1) 5 2)))] (fun _ => []) 1 := by
  intro sz
  refine ct_open (cc := cX11_turn) (maxL := 2) (ret := (some .int)) (by decide) rfl (Nat.le_of_ble_eq_true rfl) ?_
  intro p e s m below meth c ls A hx hb hr hml hts hown hlocks hin hP hK hD hA hS hl
  have hl : lv_has ls 2 [(0, .ref (n 0)), (1, .int 1)] := hl
  have hown : s.vm.findClass RX11 = some m.cls := hown
  have i11 : ∀ w ∈ u_ws RX11 TX11 71, w ∈ wsX11_turn := fun _ h => List.mem_cons_of_mem _ (List.mem_append_right _ h)
  have w1 := hts (.fieldLink RX11 95 "GuildCharterModel" "turnNow" "[I") (List.mem_cons_of_mem _ (List.mem_append_left _ (List.mem_of_getElem? (i := 0) rfl)))
  refine lv_aload_n hx hb dX11_turn_0 rfl (lv_at hl 0 rfl) ?_
  refine lv_iload_n hx hb dX11_turn_1 rfl (lv_at hl 1 rfl) ?_
  refine call_iV (ci := 11) (As := [.int 1]) (rest := []) (wr := [((n 27), .inl (cI, 6, .inl (upd (upd (upd (upd (fun _ => 0) 1 1) 2 2) 4 1) 5 2)))]) ⟨hx, hb, hml, hown, hts⟩ (k106_X11_isPlace l dC dI cB cI cJ cZ cO n) (cwV 1 hts gX11_turn_X11_isPlace rfl rfl rfl ⟨rfl, z599⟩ ⟨Nat.le_of_ble_eq_true rfl, Nat.le_of_ble_eq_true rfl⟩) hK hP hD hS hA [0, 1] [2] rfl rfl (by decide +kernel) (by decide +kernel) (by decide +kernel) rfl rfl rfl hl.1 (Nat.le_of_ble_eq_true rfl) rfl rfl dX11_turn_2 ⟨by decide +kernel, by decide +kernel⟩ (fun u0 H locs hP hD hS => ?_)
  refine lv_if_eq (tgt := 17) hx hb dX11_turn_5 z598 (fun c1 => absurd c1 (z525)) (fun _ => ?_)
  refine lv_aload_n hx hb dX11_turn_8 rfl (lv_at hl 0 rfl) ?_
  refine va_get (D := (dC, dI)) (ci := 11) (v := .ref (n 27)) (C := RX11) (T := TX11) (N := 71) hx hb hts i11 hown hK hP 1 rfl rfl 37 (nlt rfl) w1 (fun _ h9 => h9) rfl dX11_turn_9 ?_
  refine lv_iload_n hx hb dX11_turn_12 rfl (lv_at hl 1 rfl) ?_
  refine my_iald (v := 1) hx hb hK hP 0 1 rfl rfl z53 rfl dX11_turn_13 ?_
  refine lv_goto (tgt := 18) hx hb dX11_turn_14 z607 ?_
  refine W.widen (k := 0) (n := 0) (by decide +kernel) (by decide +kernel) ?_
  exact ret_i hx hb hr hlocks hS (u := (fun _ => 0)) (hP.sub [] rfl) (hD.sub [] (by decide +kernel) rfl) dX11_turn_18
