set_option maxHeartbeats 4000000 in
set_option maxRecDepth 100000 in
theorem k277_X11_isWordOf (l : Launch) (dC : Nat → ClassId) (dI : Nat → Nat → Nat) (cB cI cJ cZ cO : ClassId) (n : Nat → Nat) (x2 : Int32) (h0 : ¬ x2 < 0) (h1 : (-1) < x2) : CI l yX11_isWordOf wsX11_isWordOf ({ frames := 1, cells := 0, slots := 0, locals := 22 }) (dC, dI) (tyL cB cI cJ cZ cO) [.ref (n 0), .int x2] [((n 0), .inr (11, fM n)), ((n 3), .inl (cI, 2, .inl (fun _ => 0)))] (fun u => [((n 0), .inr (11, fM n)), ((n 3), .inl (cI, 2, .inl (fun _ => 0)))]) 0 := by
  intro sz
  refine ct_open (cc := cX11_isWordOf) (maxL := 2) (ret := (some .boolean)) (by decide) rfl (Nat.le_of_ble_eq_true rfl) ?_
  intro p e s m below meth c ls A hx hb hr hml hts hown hlocks hin hP hK hD hA hS hl
  have hl : lv_has ls 2 [(0, .ref (n 0)), (1, .int x2)] := hl
  have hown : s.vm.findClass RX11 = some m.cls := hown
  have i11 : ∀ w ∈ u_ws RX11 TX11 71, w ∈ wsX11_isWordOf := fun _ h => List.mem_cons_of_mem _ (List.mem_append_right _ h)
  have w1 := hts (.fieldLink RX11 20 "GuildCharterModel" "words" "[I") (List.mem_cons_of_mem _ (List.mem_append_left _ (List.mem_of_getElem? (i := 0) rfl)))
  have w2 := hts (.fieldLink RX11 233 "GuildCharterModel" "bank" "I") (List.mem_cons_of_mem _ (List.mem_append_left _ (List.mem_of_getElem? (i := 1) rfl)))
  refine lv_iload_n hx hb dX11_isWordOf_0 rfl (lv_at hl 1 rfl) ?_
  refine lv_iconst (v := 0) hx hb dX11_isWordOf_1 z8 ?_
  refine lv_aload_n hx hb dX11_isWordOf_2 rfl (lv_at hl 0 rfl) ?_
  refine va_get (D := (dC, dI)) (ci := 11) (v := .ref (n 3)) (C := RX11) (T := TX11) (N := 71) hx hb hts i11 hown hK hP 0 rfl rfl 11 (nlt rfl) w1 (fun _ h9 => h9) rfl dX11_isWordOf_3 ?_
  refine lv_aload_n hx hb dX11_isWordOf_6 rfl (lv_at hl 0 rfl) ?_
  refine va_get (D := (dC, dI)) (ci := 11) (v := .int 0) (C := RX11) (T := TX11) (N := 71) hx hb hts i11 hown hK hP 0 rfl rfl 29 (nlt rfl) w2 (fun _ h9 => h9) rfl dX11_isWordOf_7 ?_
  refine my_iald (v := 0) hx hb hK hP 1 1 rfl rfl z248 rfl dX11_isWordOf_10 ?_
  refine lv_iconst (v := 1) hx hb dX11_isWordOf_11 z39 ?_
  refine lv_isub hx hb dX11_isWordOf_12 ?_
  refine tpi z585 ?_
  refine call_iS (As := [.int x2, .int 0, .int (-1)]) (rest := []) (wr := [((n 0), .inr (11, fM n)), ((n 3), .inl (cI, 2, .inl (fun _ => 0)))]) ⟨hx, hb, hml, hown, hts⟩ (k276_X11_isIn l dC dI cB cI cJ cZ cO x2 h0 h1) (va_cwS 3 hts gX11_isWordOf_X11_isIn rfl rfl rfl z587 ⟨Nat.le_of_ble_eq_true rfl, Nat.le_of_ble_eq_true rfl⟩) hK hP hD hS hA [] [0, 1] rfl rfl (by decide +kernel) (by decide +kernel) (by decide +kernel) hl.1 (Nat.le_of_ble_eq_true rfl) rfl rfl dX11_isWordOf_13 ⟨by decide +kernel, by decide +kernel⟩ (fun u0 H locs hP hD hS => ?_)
  refine W.widen (k := 0) (n := 0) (by decide +kernel) (by decide +kernel) ?_
  exact ret_z hx hb hr rfl hlocks hS (u := (fun _ => 0)) (hP.sub [0, 1] rfl) (hD.sub [0, 1] (by decide +kernel) rfl) dX11_isWordOf_16

set_option maxHeartbeats 4000000 in
set_option maxRecDepth 100000 in
theorem k278_X11_bribe (l : Launch) (dC : Nat → ClassId) (dI : Nat → Nat → Nat) (cB cI cJ cZ cO : ClassId) (n : Nat → Nat) (x1 : Int32) (x2 : Int32) (h0 : ¬ x1 < 0) (h1 : ¬ 2 < x1) (h2 : ¬ x2 < 0) (h3 : (-1) < x2) : CI l yX11_bribe wsX11_bribe ({ frames := 2, cells := 0, slots := 0, locals := 43 }) (dC, dI) (tyL cB cI cJ cZ cO) [.ref (n 0), .int x1, .int x2] [((n 0), .inr (11, fM n)), ((n 7), .inl (cI, 2, .inl (upd (fun _ => 0) 0 3))), ((n 3), .inl (cI, 2, .inl (fun _ => 0)))] (fun _ => []) (-2) := by
  intro sz
  refine ct_open (cc := cX11_bribe) (maxL := 3) (ret := (some .int)) (by decide) rfl (Nat.le_of_ble_eq_true rfl) ?_
  intro p e s m below meth c ls A hx hb hr hml hts hown hlocks hin hP hK hD hA hS hl
  have hl : lv_has ls 3 [(0, .ref (n 0)), (1, .int x1), (2, .int x2)] := hl
  have hown : s.vm.findClass RX11 = some m.cls := hown
  have i11 : ∀ w ∈ u_ws RX11 TX11 71, w ∈ wsX11_bribe := fun _ h => List.mem_cons_of_mem _ (List.mem_append_right _ h)
  have w1 := hts (.fieldLink RX11 336 "GuildCharterModel" "many" "I") (List.mem_cons_of_mem _ (List.mem_append_left _ (List.mem_append_left _ (List.mem_of_getElem? (i := 0) rfl))))
  refine lv_iload_n hx hb dX11_bribe_0 rfl (lv_at hl 1 rfl) ?_
  refine lv_aload_n hx hb dX11_bribe_1 rfl (lv_at hl 0 rfl) ?_
  refine va_get (D := (dC, dI)) (ci := 11) (v := .int 0) (C := RX11) (T := TX11) (N := 71) hx hb hts i11 hown hK hP 0 rfl rfl 39 (nlt rfl) w1 (fun _ h9 => h9) rfl dX11_bribe_2 ?_
  refine lv_aload_n hx hb dX11_bribe_5 rfl (lv_at hl 0 rfl) ?_
  refine call_iV (ci := 11) (As := []) (rest := [.int 0, .int x1]) (wr := [((n 3), .inl (cI, 2, .inl (fun _ => 0)))]) ⟨hx, hb, hml, hown, hts⟩ (k90_X11_longOf l dC dI cB cI cJ cZ cO n) (cwV 0 hts gX11_bribe_X11_longOf rfl rfl rfl ⟨rfl, z597⟩ ⟨Nat.le_of_ble_eq_true rfl, Nat.le_of_ble_eq_true rfl⟩) hK hP hD hS hA [0, 1] [2] rfl rfl (by decide +kernel) (by decide +kernel) (by decide +kernel) rfl rfl rfl hl.1 (Nat.le_of_ble_eq_true rfl) rfl rfl dX11_bribe_6 ⟨by decide +kernel, by decide +kernel⟩ (fun u0 H locs hP hD hS => ?_)
  refine lv_iconst (v := 1) hx hb dX11_bribe_9 z39 ?_
  refine lv_isub hx hb dX11_bribe_10 ?_
  refine tpi z596 ?_
  refine call_iS (As := [.int x1, .int 0, .int 2]) (rest := []) (wr := [((n 3), .inl (cI, 2, .inl (fun _ => 0))), ((n 0), .inr (11, fM n)), ((n 7), .inl (cI, 2, .inl (upd (fun _ => 0) 0 3)))]) ⟨hx, hb, hml, hown, hts⟩ (k208_X11_isIn l dC dI cB cI cJ cZ cO x1 h0 h1) (va_cwS 3 hts gX11_bribe_X11_isIn rfl rfl rfl z587 ⟨Nat.le_of_ble_eq_true rfl, Nat.le_of_ble_eq_true rfl⟩) hK hP hD hS hA [] [0, 1, 2] rfl rfl (by decide +kernel) (by decide +kernel) (by decide +kernel) hl.1 (Nat.le_of_ble_eq_true rfl) rfl rfl dX11_bribe_11 ⟨by decide +kernel, by decide +kernel⟩ (fun u1 H locs hP hD hS => ?_)
  refine lv_if_eq (tgt := 25) hx hb dX11_bribe_14 z758 (fun c1 => absurd c1 (z525)) (fun _ => ?_)
  refine lv_aload_n hx hb dX11_bribe_17 rfl (lv_at hl 0 rfl) ?_
  refine lv_iload_n hx hb dX11_bribe_18 rfl (lv_at hl 2 rfl) ?_
  refine call_iV (ci := 11) (As := [.int x2]) (rest := []) (wr := [((n 7), .inl (cI, 2, .inl (upd (fun _ => 0) 0 3)))]) ⟨hx, hb, hml, hown, hts⟩ (k277_X11_isWordOf l dC dI cB cI cJ cZ cO n x2 h2 h3) (cwV 1 hts gX11_bribe_X11_isWordOf rfl rfl rfl ⟨rfl, z589⟩ ⟨Nat.le_of_ble_eq_true rfl, Nat.le_of_ble_eq_true rfl⟩) hK hP hD hS hA [1, 0] [2] rfl rfl (by decide +kernel) (by decide +kernel) (by decide +kernel) rfl rfl rfl hl.1 (Nat.le_of_ble_eq_true rfl) rfl rfl dX11_bribe_19 ⟨by decide +kernel, by decide +kernel⟩ (fun u2 H locs hP hD hS => ?_)
  refine lv_if_ne (tgt := 28) hx hb dX11_bribe_22 z760 (fun c1 => absurd (rfl) c1) (fun _ => ?_)
  refine lv_bipush (v := (-2)) hx hb dX11_bribe_25 z757 ?_
  refine W.widen (k := 0) (n := 0) (by decide +kernel) (by decide +kernel) ?_
  exact ret_i hx hb hr hlocks hS (u := (fun _ => 0)) (hP.sub [] rfl) (hD.sub [] (by decide +kernel) rfl) dX11_bribe_27

set_option maxHeartbeats 4000000 in
set_option maxRecDepth 100000 in
theorem k279_X4_findShortest (l : Launch) (dC : Nat → ClassId) (dI : Nat → Nat → Nat) (cB cI cJ cZ cO : ClassId) (r : Nat → Nat) : CV l yX4_findShortest wsX4_findShortest ({ frames := 0, cells := 0, slots := 0, locals := 0 }) (dC, dI) (tyL cB cI cJ cZ cO) [.ref (r 18), .ref (r 87)] [((r 18), .inr (4, [.int 0, .ref (r 19), .ref (r 20), .int 0, .ref (r 21), .ref (r 22), .int 0, .ref (r 23), .ref (r 24), .int 0, .ref (r 25), .ref (r 26), .int 3, .int 0, .int 0, .ref (r 27)])), ((r 87), .inl (cI, 16, .inl (fun _ => 0)))] (fun u => [((r 18), .inr (4, [.int 0, .ref (r 19), .ref (r 20), .int 0, .ref (r 21), .ref (r 22), .int 0, .ref (r 23), .ref (r 24), .int 0, .ref (r 25), .ref (r 26), .int 3, .int 0, .int 0, .ref (r 27)])), ((r 87), .inl (cI, 16, .inl (fun _ => 0)))]) := by
  intro sz
  refine ct_open (cc := cX4_findShortest) (maxL := 7) (ret := none) (by decide) rfl (Nat.le_of_ble_eq_true rfl) ?_
  intro p e s m below meth c ls A hx hb hr hml hts hown hlocks hin hP hK hD hA hS hl
  have hl : lv_has ls 7 [(0, .ref (r 18)), (1, .ref (r 87))] := hl
  have hown : s.vm.findClass RX4 = some m.cls := hown
  have i4 : ∀ w ∈ u_ws RX4 TX4 16, w ∈ wsX4_findShortest := fun _ h => List.mem_cons_of_mem _ (List.mem_append_right _ h)
  have w1 := hts (.fieldLink RX4 45 "GuildCharter$Port" "words" "I") (List.mem_cons_of_mem _ (List.mem_append_left _ (List.mem_of_getElem? (i := 0) rfl)))
  have w2 := hts (.fieldLink RX4 57 "GuildCharter$Port" "rules" "I") (List.mem_cons_of_mem _ (List.mem_append_left _ (List.mem_of_getElem? (i := 1) rfl)))
  refine lv_iconst (v := 0) hx hb dX4_findShortest_0 z8 ?_
  refine lv_istore_n (lv' := [(2, .int 0), (0, .ref (r 18)), (1, .ref (r 87))]) hx hb dX4_findShortest_1 rfl hl (nlt rfl) rfl (fun ls hl => ?_)
  refine lv_iload_n hx hb dX4_findShortest_2 rfl (lv_at hl 0 rfl) ?_
  refine lv_bipush (v := 16) hx hb dX4_findShortest_3 z189 ?_
  refine lv_icmp_ge (tgt := 30) hx hb dX4_findShortest_5 z762 (fun c1 => absurd c1 (z761)) (fun _ => ?_)
  refine lv_aload_n hx hb dX4_findShortest_8 rfl (lv_at hl 2 rfl) ?_
  refine lv_iload_n hx hb dX4_findShortest_9 rfl (lv_at hl 0 rfl) ?_
  refine lv_iload_n hx hb dX4_findShortest_10 rfl (lv_at hl 0 rfl) ?_
  refine lv_aload_n hx hb dX4_findShortest_11 rfl (lv_at hl 1 rfl) ?_
  refine va_get (D := (dC, dI)) (ci := 4) (v := .int 0) (C := RX4) (T := TX4) (N := 16) hx hb hts i4 hown hK hP 0 rfl rfl 0 (nlt rfl) w1 (fun _ h9 => h9) rfl dX4_findShortest_12 ?_
  refine lv_icmp_ge (tgt := 22) hx hb dX4_findShortest_15 z763 (fun _ => ?_) (fun c1 => absurd (z510) c1)
  refine lv_iconst (v := 0) hx hb dX4_findShortest_22 z8 ?_
  refine my_iastS hx hb hK hP hD hS 1 1 rfl rfl z764 rfl dX4_findShortest_23 (fun H locs hP hD hS => ?_)
  refine lv_iinc (v := 1) (lv' := [(2, .int 1), (0, .ref (r 18)), (1, .ref (r 87))]) hx hb dX4_findShortest_24 hl (k := 0) rfl z17 (nlt rfl) rfl (fun ls hl => ?_)
  refine lv_goto (tgt := 2) hx hb dX4_findShortest_27 z765 ?_
  refine lv_iload_n hx hb dX4_findShortest_2 rfl (lv_at hl 0 rfl) ?_
  refine lv_bipush (v := 16) hx hb dX4_findShortest_3 z189 ?_
  refine lv_icmp_ge (tgt := 30) hx hb dX4_findShortest_5 z762 (fun c1 => absurd c1 (z766)) (fun _ => ?_)
  refine lv_aload_n hx hb dX4_findShortest_8 rfl (lv_at hl 2 rfl) ?_
  refine lv_iload_n hx hb dX4_findShortest_9 rfl (lv_at hl 0 rfl) ?_
  refine lv_iload_n hx hb dX4_findShortest_10 rfl (lv_at hl 0 rfl) ?_
  refine lv_aload_n hx hb dX4_findShortest_11 rfl (lv_at hl 1 rfl) ?_
  refine va_get (D := (dC, dI)) (ci := 4) (v := .int 0) (C := RX4) (T := TX4) (N := 16) hx hb hts i4 hown hK hP 0 rfl rfl 0 (nlt rfl) w1 (fun _ h9 => h9) rfl dX4_findShortest_12 ?_
  refine lv_icmp_ge (tgt := 22) hx hb dX4_findShortest_15 z763 (fun _ => ?_) (fun c1 => absurd (z699) c1)
  refine lv_iconst (v := 0) hx hb dX4_findShortest_22 z8 ?_
  refine my_iastS hx hb hK hP hD hS 1 1 rfl rfl z767 rfl dX4_findShortest_23 (fun H locs hP hD hS => ?_)
  refine lv_iinc (v := 2) (lv' := [(2, .int 2), (0, .ref (r 18)), (1, .ref (r 87))]) hx hb dX4_findShortest_24 hl (k := 0) rfl z24 (nlt rfl) rfl (fun ls hl => ?_)
  refine lv_goto (tgt := 2) hx hb dX4_findShortest_27 z765 ?_
  refine lv_iload_n hx hb dX4_findShortest_2 rfl (lv_at hl 0 rfl) ?_
  refine lv_bipush (v := 16) hx hb dX4_findShortest_3 z189 ?_
  refine lv_icmp_ge (tgt := 30) hx hb dX4_findShortest_5 z762 (fun c1 => absurd c1 (z768)) (fun _ => ?_)
  refine lv_aload_n hx hb dX4_findShortest_8 rfl (lv_at hl 2 rfl) ?_
  refine lv_iload_n hx hb dX4_findShortest_9 rfl (lv_at hl 0 rfl) ?_
  refine lv_iload_n hx hb dX4_findShortest_10 rfl (lv_at hl 0 rfl) ?_
  refine lv_aload_n hx hb dX4_findShortest_11 rfl (lv_at hl 1 rfl) ?_
  refine va_get (D := (dC, dI)) (ci := 4) (v := .int 0) (C := RX4) (T := TX4) (N := 16) hx hb hts i4 hown hK hP 0 rfl rfl 0 (nlt rfl) w1 (fun _ h9 => h9) rfl dX4_findShortest_12 ?_
  refine lv_icmp_ge (tgt := 22) hx hb dX4_findShortest_15 z763 (fun _ => ?_) (fun c1 => absurd (z702) c1)
  refine lv_iconst (v := 0) hx hb dX4_findShortest_22 z8 ?_
  refine my_iastS hx hb hK hP hD hS 1 1 rfl rfl z769 rfl dX4_findShortest_23 (fun H locs hP hD hS => ?_)
  refine lv_iinc (v := 3) (lv' := [(2, .int 3), (0, .ref (r 18)), (1, .ref (r 87))]) hx hb dX4_findShortest_24 hl (k := 0) rfl z30 (nlt rfl) rfl (fun ls hl => ?_)
  refine lv_goto (tgt := 2) hx hb dX4_findShortest_27 z765 ?_
  refine lv_iload_n hx hb dX4_findShortest_2 rfl (lv_at hl 0 rfl) ?_
  refine lv_bipush (v := 16) hx hb dX4_findShortest_3 z189 ?_
  refine lv_icmp_ge (tgt := 30) hx hb dX4_findShortest_5 z762 (fun c1 => absurd c1 (z770)) (fun _ => ?_)
  refine lv_aload_n hx hb dX4_findShortest_8 rfl (lv_at hl 2 rfl) ?_
  refine lv_iload_n hx hb dX4_findShortest_9 rfl (lv_at hl 0 rfl) ?_
  refine lv_iload_n hx hb dX4_findShortest_10 rfl (lv_at hl 0 rfl) ?_
  refine lv_aload_n hx hb dX4_findShortest_11 rfl (lv_at hl 1 rfl) ?_
  refine va_get (D := (dC, dI)) (ci := 4) (v := .int 0) (C := RX4) (T := TX4) (N := 16) hx hb hts i4 hown hK hP 0 rfl rfl 0 (nlt rfl) w1 (fun _ h9 => h9) rfl dX4_findShortest_12 ?_
  refine lv_icmp_ge (tgt := 22) hx hb dX4_findShortest_15 z763 (fun _ => ?_) (fun c1 => absurd (z705) c1)
  refine lv_iconst (v := 0) hx hb dX4_findShortest_22 z8 ?_
  refine my_iastS hx hb hK hP hD hS 1 1 rfl rfl z771 rfl dX4_findShortest_23 (fun H locs hP hD hS => ?_)
  refine lv_iinc (v := 4) (lv' := [(2, .int 4), (0, .ref (r 18)), (1, .ref (r 87))]) hx hb dX4_findShortest_24 hl (k := 0) rfl z36 (nlt rfl) rfl (fun ls hl => ?_)
  refine lv_goto (tgt := 2) hx hb dX4_findShortest_27 z765 ?_
  refine lv_iload_n hx hb dX4_findShortest_2 rfl (lv_at hl 0 rfl) ?_
  refine lv_bipush (v := 16) hx hb dX4_findShortest_3 z189 ?_
  refine lv_icmp_ge (tgt := 30) hx hb dX4_findShortest_5 z762 (fun c1 => absurd c1 (z772)) (fun _ => ?_)
  refine lv_aload_n hx hb dX4_findShortest_8 rfl (lv_at hl 2 rfl) ?_
  refine lv_iload_n hx hb dX4_findShortest_9 rfl (lv_at hl 0 rfl) ?_
  refine lv_iload_n hx hb dX4_findShortest_10 rfl (lv_at hl 0 rfl) ?_
  refine lv_aload_n hx hb dX4_findShortest_11 rfl (lv_at hl 1 rfl) ?_
  refine va_get (D := (dC, dI)) (ci := 4) (v := .int 0) (C := RX4) (T := TX4) (N := 16) hx hb hts i4 hown hK hP 0 rfl rfl 0 (nlt rfl) w1 (fun _ h9 => h9) rfl dX4_findShortest_12 ?_
  refine lv_icmp_ge (tgt := 22) hx hb dX4_findShortest_15 z763 (fun _ => ?_) (fun c1 => absurd (z708) c1)
  refine lv_iconst (v := 0) hx hb dX4_findShortest_22 z8 ?_
  refine my_iastS hx hb hK hP hD hS 1 1 rfl rfl z773 rfl dX4_findShortest_23 (fun H locs hP hD hS => ?_)
  refine lv_iinc (v := 5) (lv' := [(2, .int 5), (0, .ref (r 18)), (1, .ref (r 87))]) hx hb dX4_findShortest_24 hl (k := 0) rfl z98 (nlt rfl) rfl (fun ls hl => ?_)
  refine lv_goto (tgt := 2) hx hb dX4_findShortest_27 z765 ?_
  refine lv_iload_n hx hb dX4_findShortest_2 rfl (lv_at hl 0 rfl) ?_
  refine lv_bipush (v := 16) hx hb dX4_findShortest_3 z189 ?_
  refine lv_icmp_ge (tgt := 30) hx hb dX4_findShortest_5 z762 (fun c1 => absurd c1 (z774)) (fun _ => ?_)
  refine lv_aload_n hx hb dX4_findShortest_8 rfl (lv_at hl 2 rfl) ?_
  refine lv_iload_n hx hb dX4_findShortest_9 rfl (lv_at hl 0 rfl) ?_
  refine lv_iload_n hx hb dX4_findShortest_10 rfl (lv_at hl 0 rfl) ?_
  refine lv_aload_n hx hb dX4_findShortest_11 rfl (lv_at hl 1 rfl) ?_
  refine va_get (D := (dC, dI)) (ci := 4) (v := .int 0) (C := RX4) (T := TX4) (N := 16) hx hb hts i4 hown hK hP 0 rfl rfl 0 (nlt rfl) w1 (fun _ h9 => h9) rfl dX4_findShortest_12 ?_
  refine lv_icmp_ge (tgt := 22) hx hb dX4_findShortest_15 z763 (fun _ => ?_) (fun c1 => absurd (z711) c1)
  refine lv_iconst (v := 0) hx hb dX4_findShortest_22 z8 ?_
  refine my_iastS hx hb hK hP hD hS 1 1 rfl rfl z775 rfl dX4_findShortest_23 (fun H locs hP hD hS => ?_)
  refine lv_iinc (v := 6) (lv' := [(2, .int 6), (0, .ref (r 18)), (1, .ref (r 87))]) hx hb dX4_findShortest_24 hl (k := 0) rfl z104 (nlt rfl) rfl (fun ls hl => ?_)
  refine lv_goto (tgt := 2) hx hb dX4_findShortest_27 z765 ?_
  refine lv_iload_n hx hb dX4_findShortest_2 rfl (lv_at hl 0 rfl) ?_
  refine lv_bipush (v := 16) hx hb dX4_findShortest_3 z189 ?_
  refine lv_icmp_ge (tgt := 30) hx hb dX4_findShortest_5 z762 (fun c1 => absurd c1 (z776)) (fun _ => ?_)
  refine lv_aload_n hx hb dX4_findShortest_8 rfl (lv_at hl 2 rfl) ?_
  refine lv_iload_n hx hb dX4_findShortest_9 rfl (lv_at hl 0 rfl) ?_
  refine lv_iload_n hx hb dX4_findShortest_10 rfl (lv_at hl 0 rfl) ?_
  refine lv_aload_n hx hb dX4_findShortest_11 rfl (lv_at hl 1 rfl) ?_
  refine va_get (D := (dC, dI)) (ci := 4) (v := .int 0) (C := RX4) (T := TX4) (N := 16) hx hb hts i4 hown hK hP 0 rfl rfl 0 (nlt rfl) w1 (fun _ h9 => h9) rfl dX4_findShortest_12 ?_
  refine lv_icmp_ge (tgt := 22) hx hb dX4_findShortest_15 z763 (fun _ => ?_) (fun c1 => absurd (z777) c1)
  refine lv_iconst (v := 0) hx hb dX4_findShortest_22 z8 ?_
  refine my_iastS hx hb hK hP hD hS 1 1 rfl rfl z778 rfl dX4_findShortest_23 (fun H locs hP hD hS => ?_)
  refine lv_iinc (v := 7) (lv' := [(2, .int 7), (0, .ref (r 18)), (1, .ref (r 87))]) hx hb dX4_findShortest_24 hl (k := 0) rfl z392 (nlt rfl) rfl (fun ls hl => ?_)
  refine lv_goto (tgt := 2) hx hb dX4_findShortest_27 z765 ?_
  refine lv_iload_n hx hb dX4_findShortest_2 rfl (lv_at hl 0 rfl) ?_
  refine lv_bipush (v := 16) hx hb dX4_findShortest_3 z189 ?_
  refine lv_icmp_ge (tgt := 30) hx hb dX4_findShortest_5 z762 (fun c1 => absurd c1 (z779)) (fun _ => ?_)
  refine lv_aload_n hx hb dX4_findShortest_8 rfl (lv_at hl 2 rfl) ?_
  refine lv_iload_n hx hb dX4_findShortest_9 rfl (lv_at hl 0 rfl) ?_
  refine lv_iload_n hx hb dX4_findShortest_10 rfl (lv_at hl 0 rfl) ?_
  refine lv_aload_n hx hb dX4_findShortest_11 rfl (lv_at hl 1 rfl) ?_
  refine va_get (D := (dC, dI)) (ci := 4) (v := .int 0) (C := RX4) (T := TX4) (N := 16) hx hb hts i4 hown hK hP 0 rfl rfl 0 (nlt rfl) w1 (fun _ h9 => h9) rfl dX4_findShortest_12 ?_
  refine lv_icmp_ge (tgt := 22) hx hb dX4_findShortest_15 z763 (fun _ => ?_) (fun c1 => absurd (z780) c1)
  refine lv_iconst (v := 0) hx hb dX4_findShortest_22 z8 ?_
  refine my_iastS hx hb hK hP hD hS 1 1 rfl rfl z781 rfl dX4_findShortest_23 (fun H locs hP hD hS => ?_)
  refine lv_iinc (v := 8) (lv' := [(2, .int 8), (0, .ref (r 18)), (1, .ref (r 87))]) hx hb dX4_findShortest_24 hl (k := 0) rfl z399 (nlt rfl) rfl (fun ls hl => ?_)
  refine lv_goto (tgt := 2) hx hb dX4_findShortest_27 z765 ?_
  refine lv_iload_n hx hb dX4_findShortest_2 rfl (lv_at hl 0 rfl) ?_
  refine lv_bipush (v := 16) hx hb dX4_findShortest_3 z189 ?_
  refine lv_icmp_ge (tgt := 30) hx hb dX4_findShortest_5 z762 (fun c1 => absurd c1 (z782)) (fun _ => ?_)
  refine lv_aload_n hx hb dX4_findShortest_8 rfl (lv_at hl 2 rfl) ?_
  refine lv_iload_n hx hb dX4_findShortest_9 rfl (lv_at hl 0 rfl) ?_
  refine lv_iload_n hx hb dX4_findShortest_10 rfl (lv_at hl 0 rfl) ?_
  refine lv_aload_n hx hb dX4_findShortest_11 rfl (lv_at hl 1 rfl) ?_
  refine va_get (D := (dC, dI)) (ci := 4) (v := .int 0) (C := RX4) (T := TX4) (N := 16) hx hb hts i4 hown hK hP 0 rfl rfl 0 (nlt rfl) w1 (fun _ h9 => h9) rfl dX4_findShortest_12 ?_
  refine lv_icmp_ge (tgt := 22) hx hb dX4_findShortest_15 z763 (fun _ => ?_) (fun c1 => absurd (z783) c1)
  refine lv_iconst (v := 0) hx hb dX4_findShortest_22 z8 ?_
  refine my_iastS hx hb hK hP hD hS 1 1 rfl rfl z784 rfl dX4_findShortest_23 (fun H locs hP hD hS => ?_)
  refine lv_iinc (v := 9) (lv' := [(2, .int 9), (0, .ref (r 18)), (1, .ref (r 87))]) hx hb dX4_findShortest_24 hl (k := 0) rfl z409 (nlt rfl) rfl (fun ls hl => ?_)
  refine lv_goto (tgt := 2) hx hb dX4_findShortest_27 z765 ?_
  refine lv_iload_n hx hb dX4_findShortest_2 rfl (lv_at hl 0 rfl) ?_
  refine lv_bipush (v := 16) hx hb dX4_findShortest_3 z189 ?_
  refine lv_icmp_ge (tgt := 30) hx hb dX4_findShortest_5 z762 (fun c1 => absurd c1 (z785)) (fun _ => ?_)
  refine lv_aload_n hx hb dX4_findShortest_8 rfl (lv_at hl 2 rfl) ?_
  refine lv_iload_n hx hb dX4_findShortest_9 rfl (lv_at hl 0 rfl) ?_
  refine lv_iload_n hx hb dX4_findShortest_10 rfl (lv_at hl 0 rfl) ?_
  refine lv_aload_n hx hb dX4_findShortest_11 rfl (lv_at hl 1 rfl) ?_
  refine va_get (D := (dC, dI)) (ci := 4) (v := .int 0) (C := RX4) (T := TX4) (N := 16) hx hb hts i4 hown hK hP 0 rfl rfl 0 (nlt rfl) w1 (fun _ h9 => h9) rfl dX4_findShortest_12 ?_
  refine lv_icmp_ge (tgt := 22) hx hb dX4_findShortest_15 z763 (fun _ => ?_) (fun c1 => absurd (z786) c1)
  refine lv_iconst (v := 0) hx hb dX4_findShortest_22 z8 ?_
  refine my_iastS hx hb hK hP hD hS 1 1 rfl rfl z787 rfl dX4_findShortest_23 (fun H locs hP hD hS => ?_)
  refine lv_iinc (v := 10) (lv' := [(2, .int 10), (0, .ref (r 18)), (1, .ref (r 87))]) hx hb dX4_findShortest_24 hl (k := 0) rfl z417 (nlt rfl) rfl (fun ls hl => ?_)
  refine lv_goto (tgt := 2) hx hb dX4_findShortest_27 z765 ?_
  refine lv_iload_n hx hb dX4_findShortest_2 rfl (lv_at hl 0 rfl) ?_
  refine lv_bipush (v := 16) hx hb dX4_findShortest_3 z189 ?_
  refine lv_icmp_ge (tgt := 30) hx hb dX4_findShortest_5 z762 (fun c1 => absurd c1 (z788)) (fun _ => ?_)
  refine lv_aload_n hx hb dX4_findShortest_8 rfl (lv_at hl 2 rfl) ?_
  refine lv_iload_n hx hb dX4_findShortest_9 rfl (lv_at hl 0 rfl) ?_
  refine lv_iload_n hx hb dX4_findShortest_10 rfl (lv_at hl 0 rfl) ?_
  refine lv_aload_n hx hb dX4_findShortest_11 rfl (lv_at hl 1 rfl) ?_
  refine va_get (D := (dC, dI)) (ci := 4) (v := .int 0) (C := RX4) (T := TX4) (N := 16) hx hb hts i4 hown hK hP 0 rfl rfl 0 (nlt rfl) w1 (fun _ h9 => h9) rfl dX4_findShortest_12 ?_
  refine lv_icmp_ge (tgt := 22) hx hb dX4_findShortest_15 z763 (fun _ => ?_) (fun c1 => absurd (z789) c1)
  refine lv_iconst (v := 0) hx hb dX4_findShortest_22 z8 ?_
  refine my_iastS hx hb hK hP hD hS 1 1 rfl rfl z790 rfl dX4_findShortest_23 (fun H locs hP hD hS => ?_)
  refine lv_iinc (v := 11) (lv' := [(2, .int 11), (0, .ref (r 18)), (1, .ref (r 87))]) hx hb dX4_findShortest_24 hl (k := 0) rfl z425 (nlt rfl) rfl (fun ls hl => ?_)
  refine lv_goto (tgt := 2) hx hb dX4_findShortest_27 z765 ?_
  refine lv_iload_n hx hb dX4_findShortest_2 rfl (lv_at hl 0 rfl) ?_
  refine lv_bipush (v := 16) hx hb dX4_findShortest_3 z189 ?_
  refine lv_icmp_ge (tgt := 30) hx hb dX4_findShortest_5 z762 (fun c1 => absurd c1 (z791)) (fun _ => ?_)
  refine lv_aload_n hx hb dX4_findShortest_8 rfl (lv_at hl 2 rfl) ?_
  refine lv_iload_n hx hb dX4_findShortest_9 rfl (lv_at hl 0 rfl) ?_
  refine lv_iload_n hx hb dX4_findShortest_10 rfl (lv_at hl 0 rfl) ?_
  refine lv_aload_n hx hb dX4_findShortest_11 rfl (lv_at hl 1 rfl) ?_
  refine va_get (D := (dC, dI)) (ci := 4) (v := .int 0) (C := RX4) (T := TX4) (N := 16) hx hb hts i4 hown hK hP 0 rfl rfl 0 (nlt rfl) w1 (fun _ h9 => h9) rfl dX4_findShortest_12 ?_
  refine lv_icmp_ge (tgt := 22) hx hb dX4_findShortest_15 z763 (fun _ => ?_) (fun c1 => absurd (z792) c1)
  refine lv_iconst (v := 0) hx hb dX4_findShortest_22 z8 ?_
  refine my_iastS hx hb hK hP hD hS 1 1 rfl rfl z793 rfl dX4_findShortest_23 (fun H locs hP hD hS => ?_)
  refine lv_iinc (v := 12) (lv' := [(2, .int 12), (0, .ref (r 18)), (1, .ref (r 87))]) hx hb dX4_findShortest_24 hl (k := 0) rfl z433 (nlt rfl) rfl (fun ls hl => ?_)
  refine lv_goto (tgt := 2) hx hb dX4_findShortest_27 z765 ?_
  refine lv_iload_n hx hb dX4_findShortest_2 rfl (lv_at hl 0 rfl) ?_
  refine lv_bipush (v := 16) hx hb dX4_findShortest_3 z189 ?_
  refine lv_icmp_ge (tgt := 30) hx hb dX4_findShortest_5 z762 (fun c1 => absurd c1 (z438)) (fun _ => ?_)
  refine lv_aload_n hx hb dX4_findShortest_8 rfl (lv_at hl 2 rfl) ?_
  refine lv_iload_n hx hb dX4_findShortest_9 rfl (lv_at hl 0 rfl) ?_
  refine lv_iload_n hx hb dX4_findShortest_10 rfl (lv_at hl 0 rfl) ?_
  refine lv_aload_n hx hb dX4_findShortest_11 rfl (lv_at hl 1 rfl) ?_
  refine va_get (D := (dC, dI)) (ci := 4) (v := .int 0) (C := RX4) (T := TX4) (N := 16) hx hb hts i4 hown hK hP 0 rfl rfl 0 (nlt rfl) w1 (fun _ h9 => h9) rfl dX4_findShortest_12 ?_
  refine lv_icmp_ge (tgt := 22) hx hb dX4_findShortest_15 z763 (fun _ => ?_) (fun c1 => absurd (z794) c1)
  refine lv_iconst (v := 0) hx hb dX4_findShortest_22 z8 ?_
  refine my_iastS hx hb hK hP hD hS 1 1 rfl rfl z795 rfl dX4_findShortest_23 (fun H locs hP hD hS => ?_)
  refine lv_iinc (v := 13) (lv' := [(2, .int 13), (0, .ref (r 18)), (1, .ref (r 87))]) hx hb dX4_findShortest_24 hl (k := 0) rfl z444 (nlt rfl) rfl (fun ls hl => ?_)
  refine lv_goto (tgt := 2) hx hb dX4_findShortest_27 z765 ?_
  refine lv_iload_n hx hb dX4_findShortest_2 rfl (lv_at hl 0 rfl) ?_
  refine lv_bipush (v := 16) hx hb dX4_findShortest_3 z189 ?_
  refine lv_icmp_ge (tgt := 30) hx hb dX4_findShortest_5 z762 (fun c1 => absurd c1 (z449)) (fun _ => ?_)
  refine lv_aload_n hx hb dX4_findShortest_8 rfl (lv_at hl 2 rfl) ?_
  refine lv_iload_n hx hb dX4_findShortest_9 rfl (lv_at hl 0 rfl) ?_
  refine lv_iload_n hx hb dX4_findShortest_10 rfl (lv_at hl 0 rfl) ?_
  refine lv_aload_n hx hb dX4_findShortest_11 rfl (lv_at hl 1 rfl) ?_
  refine va_get (D := (dC, dI)) (ci := 4) (v := .int 0) (C := RX4) (T := TX4) (N := 16) hx hb hts i4 hown hK hP 0 rfl rfl 0 (nlt rfl) w1 (fun _ h9 => h9) rfl dX4_findShortest_12 ?_
  refine lv_icmp_ge (tgt := 22) hx hb dX4_findShortest_15 z763 (fun _ => ?_) (fun c1 => absurd (z796) c1)
  refine lv_iconst (v := 0) hx hb dX4_findShortest_22 z8 ?_
  refine my_iastS hx hb hK hP hD hS 1 1 rfl rfl z797 rfl dX4_findShortest_23 (fun H locs hP hD hS => ?_)
  refine lv_iinc (v := 14) (lv' := [(2, .int 14), (0, .ref (r 18)), (1, .ref (r 87))]) hx hb dX4_findShortest_24 hl (k := 0) rfl z453 (nlt rfl) rfl (fun ls hl => ?_)
  refine lv_goto (tgt := 2) hx hb dX4_findShortest_27 z765 ?_
  refine lv_iload_n hx hb dX4_findShortest_2 rfl (lv_at hl 0 rfl) ?_
  refine lv_bipush (v := 16) hx hb dX4_findShortest_3 z189 ?_
  refine lv_icmp_ge (tgt := 30) hx hb dX4_findShortest_5 z762 (fun c1 => absurd c1 (z458)) (fun _ => ?_)
  refine lv_aload_n hx hb dX4_findShortest_8 rfl (lv_at hl 2 rfl) ?_
  refine lv_iload_n hx hb dX4_findShortest_9 rfl (lv_at hl 0 rfl) ?_
  refine lv_iload_n hx hb dX4_findShortest_10 rfl (lv_at hl 0 rfl) ?_
  refine lv_aload_n hx hb dX4_findShortest_11 rfl (lv_at hl 1 rfl) ?_
  refine va_get (D := (dC, dI)) (ci := 4) (v := .int 0) (C := RX4) (T := TX4) (N := 16) hx hb hts i4 hown hK hP 0 rfl rfl 0 (nlt rfl) w1 (fun _ h9 => h9) rfl dX4_findShortest_12 ?_
  refine lv_icmp_ge (tgt := 22) hx hb dX4_findShortest_15 z763 (fun _ => ?_) (fun c1 => absurd (z798) c1)
  refine lv_iconst (v := 0) hx hb dX4_findShortest_22 z8 ?_
  refine my_iastS hx hb hK hP hD hS 1 1 rfl rfl z799 rfl dX4_findShortest_23 (fun H locs hP hD hS => ?_)
  refine lv_iinc (v := 15) (lv' := [(2, .int 15), (0, .ref (r 18)), (1, .ref (r 87))]) hx hb dX4_findShortest_24 hl (k := 0) rfl z462 (nlt rfl) rfl (fun ls hl => ?_)
  refine lv_goto (tgt := 2) hx hb dX4_findShortest_27 z765 ?_
  refine lv_iload_n hx hb dX4_findShortest_2 rfl (lv_at hl 0 rfl) ?_
  refine lv_bipush (v := 16) hx hb dX4_findShortest_3 z189 ?_
  refine lv_icmp_ge (tgt := 30) hx hb dX4_findShortest_5 z762 (fun c1 => absurd c1 (z467)) (fun _ => ?_)
  refine lv_aload_n hx hb dX4_findShortest_8 rfl (lv_at hl 2 rfl) ?_
  refine lv_iload_n hx hb dX4_findShortest_9 rfl (lv_at hl 0 rfl) ?_
  refine lv_iload_n hx hb dX4_findShortest_10 rfl (lv_at hl 0 rfl) ?_
  refine lv_aload_n hx hb dX4_findShortest_11 rfl (lv_at hl 1 rfl) ?_
  refine va_get (D := (dC, dI)) (ci := 4) (v := .int 0) (C := RX4) (T := TX4) (N := 16) hx hb hts i4 hown hK hP 0 rfl rfl 0 (nlt rfl) w1 (fun _ h9 => h9) rfl dX4_findShortest_12 ?_
  refine lv_icmp_ge (tgt := 22) hx hb dX4_findShortest_15 z763 (fun _ => ?_) (fun c1 => absurd (z800) c1)
  refine lv_iconst (v := 0) hx hb dX4_findShortest_22 z8 ?_
  refine my_iastS hx hb hK hP hD hS 1 1 rfl rfl z801 rfl dX4_findShortest_23 (fun H locs hP hD hS => ?_)
  refine lv_iinc (v := 16) (lv' := [(2, .int 16), (0, .ref (r 18)), (1, .ref (r 87))]) hx hb dX4_findShortest_24 hl (k := 0) rfl z471 (nlt rfl) rfl (fun ls hl => ?_)
  refine lv_goto (tgt := 2) hx hb dX4_findShortest_27 z765 ?_
  refine lv_iload_n hx hb dX4_findShortest_2 rfl (lv_at hl 0 rfl) ?_
  refine lv_bipush (v := 16) hx hb dX4_findShortest_3 z189 ?_
  refine lv_icmp_ge (tgt := 30) hx hb dX4_findShortest_5 z762 (fun _ => ?_) (fun c1 => absurd (z476) c1)
  refine lv_iconst (v := 0) hx hb dX4_findShortest_30 z8 ?_
  refine lv_istore_n (lv' := [(2, .int 0), (0, .ref (r 18)), (1, .ref (r 87))]) hx hb dX4_findShortest_31 rfl hl (nlt rfl) rfl (fun ls hl => ?_)
  refine lv_iload_n hx hb dX4_findShortest_32 rfl (lv_at hl 0 rfl) ?_
  refine lv_aload_n hx hb dX4_findShortest_33 rfl (lv_at hl 1 rfl) ?_
  refine va_get (D := (dC, dI)) (ci := 4) (v := .int 0) (C := RX4) (T := TX4) (N := 16) hx hb hts i4 hown hK hP 0 rfl rfl 6 (nlt rfl) w2 (fun _ h9 => h9) rfl dX4_findShortest_34 ?_
  refine lv_icmp_ge (tgt := 131) hx hb dX4_findShortest_37 z802 (fun _ => ?_) (fun c1 => absurd (z510) c1)
  refine W.widen (k := 0) (n := 0) (by decide +kernel) (by decide +kernel) ?_
  exact ret_v hx hb hr hlocks hS (u := (fun _ => 0)) (hP.sub [0, 1] rfl) (hD.sub [0, 1] (by decide +kernel) rfl) dX4_findShortest_131

set_option maxHeartbeats 4000000 in
set_option maxRecDepth 100000 in
theorem k280_X4_rulesOfUse (l : Launch) (dC : Nat → ClassId) (dI : Nat → Nat → Nat) (cB cI cJ cZ cO : ClassId) (r : Nat → Nat) : CI l yX4_rulesOfUse wsX4_rulesOfUse ({ frames := 0, cells := 0, slots := 0, locals := 0 }) (dC, dI) (tyL cB cI cJ cZ cO) [.ref (r 18), .ref (r 87)] [((r 18), .inr (4, [.int 0, .ref (r 19), .ref (r 20), .int 0, .ref (r 21), .ref (r 22), .int 0, .ref (r 23), .ref (r 24), .int 0, .ref (r 25), .ref (r 26), .int 3, .int 0, .int 0, .ref (r 27)]))] (fun u => [((r 18), .inr (4, [.int 0, .ref (r 19), .ref (r 20), .int 0, .ref (r 21), .ref (r 22), .int 0, .ref (r 23), .ref (r 24), .int 0, .ref (r 25), .ref (r 26), .int 3, .int 0, .int 0, .ref (r 27)]))]) 0 := by
  intro sz
  refine ct_open (cc := cX4_rulesOfUse) (maxL := 5) (ret := (some .int)) (by decide) rfl (Nat.le_of_ble_eq_true rfl) ?_
  intro p e s m below meth c ls A hx hb hr hml hts hown hlocks hin hP hK hD hA hS hl
  have hl : lv_has ls 5 [(0, .ref (r 18)), (1, .ref (r 87))] := hl
  have hown : s.vm.findClass RX4 = some m.cls := hown
  have i4 : ∀ w ∈ u_ws RX4 TX4 16, w ∈ wsX4_rulesOfUse := fun _ h => List.mem_cons_of_mem _ (List.mem_append_right _ h)
  have w1 := hts (.fieldLink RX4 57 "GuildCharter$Port" "rules" "I") (List.mem_cons_of_mem _ (List.mem_append_left _ (List.mem_of_getElem? (i := 0) rfl)))
  refine lv_aload_n hx hb dX4_rulesOfUse_0 rfl (lv_at hl 0 rfl) ?_
  refine va_get (D := (dC, dI)) (ci := 4) (v := .int 0) (C := RX4) (T := TX4) (N := 16) hx hb hts i4 hown hK hP 0 rfl rfl 6 (nlt rfl) w1 (fun _ h9 => h9) rfl dX4_rulesOfUse_1 ?_
  refine lv_if_le (tgt := 18) hx hb dX4_rulesOfUse_4 z685 (fun _ => ?_) (fun c1 => absurd (z510) c1)
  refine lv_iconst (v := 0) hx hb dX4_rulesOfUse_18 z8 ?_
  refine lv_istore_n (lv' := [(2, .int 0), (0, .ref (r 18)), (1, .ref (r 87))]) hx hb dX4_rulesOfUse_19 rfl hl (nlt rfl) rfl (fun ls hl => ?_)
  refine lv_iconst (v := 0) hx hb dX4_rulesOfUse_20 z8 ?_
  refine lv_istore_n (lv' := [(3, .int 0), (2, .int 0), (0, .ref (r 18)), (1, .ref (r 87))]) hx hb dX4_rulesOfUse_21 rfl hl (nlt rfl) rfl (fun ls hl => ?_)
  refine lv_iload_n hx hb dX4_rulesOfUse_22 rfl (lv_at hl 0 rfl) ?_
  refine lv_aload_n hx hb dX4_rulesOfUse_23 rfl (lv_at hl 2 rfl) ?_
  refine va_get (D := (dC, dI)) (ci := 4) (v := .int 0) (C := RX4) (T := TX4) (N := 16) hx hb hts i4 hown hK hP 0 rfl rfl 6 (nlt rfl) w1 (fun _ h9 => h9) rfl dX4_rulesOfUse_24 ?_
  refine lv_icmp_ge (tgt := 73) hx hb dX4_rulesOfUse_27 z803 (fun _ => ?_) (fun c1 => absurd (z510) c1)
  refine lv_iload_n hx hb dX4_rulesOfUse_73 rfl (lv_at hl 1 rfl) ?_
  refine W.widen (k := 0) (n := 0) (by decide +kernel) (by decide +kernel) ?_
  exact ret_i hx hb hr hlocks hS (u := (fun _ => 0)) (hP.sub [0] rfl) (hD.sub [0] (by decide +kernel) rfl) dX4_rulesOfUse_74

set_option maxHeartbeats 4000000 in
set_option maxRecDepth 100000 in
theorem k281_X10_used (l : Launch) (dC : Nat → ClassId) (dI : Nat → Nat → Nat) (cB cI cJ cZ cO : ClassId) (r : Nat → Nat) : CI l yX10_used wsX10_used ({ frames := 1, cells := 0, slots := 0, locals := 26 }) (dC, dI) (tyL cB cI cJ cZ cO) [.ref (r 0)] [((r 0), .inr (10, fX r)), ((r 18), .inr (4, [.int 0, .ref (r 19), .ref (r 20), .int 0, .ref (r 21), .ref (r 22), .int 0, .ref (r 23), .ref (r 24), .int 0, .ref (r 25), .ref (r 26), .int 3, .int 0, .int 0, .ref (r 27)])), ((r 87), .inl (cI, 16, .inl (fun _ => 0)))] (fun _ => []) 0 := by
  intro sz
  refine ct_open (cc := cX10_used) (maxL := 1) (ret := (some .int)) (by decide) rfl (Nat.le_of_ble_eq_true rfl) ?_
  intro p e s m below meth c ls A hx hb hr hml hts hown hlocks hin hP hK hD hA hS hl
  have hl : lv_has ls 1 [(0, .ref (r 0))] := hl
  have hown : s.vm.findClass RX10 = some m.cls := hown
  have i10 : ∀ w ∈ u_ws RX10 TX10 18, w ∈ wsX10_used := fun _ h => List.mem_cons_of_mem _ (List.mem_append_left _ (List.mem_append_right _ h))
  have w1 := hts (.fieldLink RX10 23 "GuildCharter" "told" "LGuildCharter$Port;") (List.mem_cons_of_mem _ (List.mem_append_left _ (List.mem_append_left _ (List.mem_of_getElem? (i := 0) rfl))))
  have w2 := hts (.fieldLink RX10 89 "GuildCharter" "scratch" "[I") (List.mem_cons_of_mem _ (List.mem_append_left _ (List.mem_append_left _ (List.mem_of_getElem? (i := 1) rfl))))
  refine lv_aload_n hx hb dX10_used_0 rfl (lv_at hl 0 rfl) ?_
  refine va_get (D := (dC, dI)) (ci := 10) (v := .ref (r 18)) (C := RX10) (T := TX10) (N := 18) hx hb hts i10 hown hK hP 0 rfl rfl 3 (nlt rfl) w1 (fun _ h9 => h9) rfl dX10_used_1 ?_
  refine lv_aload_n hx hb dX10_used_4 rfl (lv_at hl 0 rfl) ?_
  refine va_get (D := (dC, dI)) (ci := 10) (v := .ref (r 87)) (C := RX10) (T := TX10) (N := 18) hx hb hts i10 hown hK hP 0 rfl rfl 17 (nlt rfl) w2 (fun _ h9 => h9) rfl dX10_used_5 ?_
  refine call_vV (ci := 4) (As := [.ref (r 87)]) (rest := []) (wr := [((r 0), .inr (10, fX r))]) ⟨hx, hb, hml, hown, hts⟩ (k279_X4_findShortest l dC dI cB cI cJ cZ cO r) (cwV 1 hts gX10_used_X4_findShortest rfl rfl rfl ⟨rfl, z804⟩ ⟨Nat.le_of_ble_eq_true rfl, Nat.le_of_ble_eq_true rfl⟩) hK hP hD hS hA [1, 2] [0] rfl rfl (by decide +kernel) (by decide +kernel) (by decide +kernel) rfl rfl rfl hl.1 (Nat.le_of_ble_eq_true rfl) rfl rfl dX10_used_8 ⟨by decide +kernel, by decide +kernel⟩ (fun u0 H locs hP hD hS => ?_)
  refine lv_aload_n hx hb dX10_used_11 rfl (lv_at hl 0 rfl) ?_
  refine va_get (D := (dC, dI)) (ci := 10) (v := .ref (r 18)) (C := RX10) (T := TX10) (N := 18) hx hb hts i10 hown hK hP 0 rfl rfl 3 (nlt rfl) w1 (fun _ h9 => h9) rfl dX10_used_12 ?_
  refine lv_aload_n hx hb dX10_used_15 rfl (lv_at hl 0 rfl) ?_
  refine va_get (D := (dC, dI)) (ci := 10) (v := .ref (r 87)) (C := RX10) (T := TX10) (N := 18) hx hb hts i10 hown hK hP 0 rfl rfl 17 (nlt rfl) w2 (fun _ h9 => h9) rfl dX10_used_16 ?_
  refine call_iV (ci := 4) (As := [.ref (r 87)]) (rest := []) (wr := [((r 0), .inr (10, fX r)), ((r 87), .inl (cI, 16, .inl (fun _ => 0)))]) ⟨hx, hb, hml, hown, hts⟩ (k280_X4_rulesOfUse l dC dI cB cI cJ cZ cO r) (cwV 1 hts gX10_used_X4_rulesOfUse rfl rfl rfl ⟨rfl, z805⟩ ⟨Nat.le_of_ble_eq_true rfl, Nat.le_of_ble_eq_true rfl⟩) hK hP hD hS hA [1] [0, 2] rfl rfl (by decide +kernel) (by decide +kernel) (by decide +kernel) rfl rfl rfl hl.1 (Nat.le_of_ble_eq_true rfl) rfl rfl dX10_used_19 ⟨by decide +kernel, by decide +kernel⟩ (fun u1 H locs hP hD hS => ?_)
  refine W.widen (k := 0) (n := 0) (by decide +kernel) (by decide +kernel) ?_
  exact ret_i hx hb hr hlocks hS (u := (fun _ => 0)) (hP.sub [] rfl) (hD.sub [] (by decide +kernel) rfl) dX10_used_22

set_option maxHeartbeats 4000000 in
set_option maxRecDepth 100000 in
theorem k282_X11_layShortest (l : Launch) (dC : Nat → ClassId) (dI : Nat → Nat → Nat) (cB cI cJ cZ cO : ClassId) (n : Nat → Nat) : CV l yX11_layShortest wsX11_layShortest ({ frames := 0, cells := 0, slots := 0, locals := 0 }) (dC, dI) (tyL cB cI cJ cZ cO) [.ref (n 0)] [((n 0), .inr (11, fM n)), ((n 38), .inl (cI, 8, .inl (fun _ => 0))), ((n 6), .inl (cI, 2, .inl (fun _ => 0)))] (fun u => [((n 0), .inr (11, fM n)), ((n 38), .inl (cI, 8, .inl (fun _ => 0))), ((n 6), .inl (cI, 2, .inl (fun _ => 0)))]) := by
  intro sz
  refine ct_open (cc := cX11_layShortest) (maxL := 5) (ret := none) (by decide) rfl (Nat.le_of_ble_eq_true rfl) ?_
  intro p e s m below meth c ls A hx hb hr hml hts hown hlocks hin hP hK hD hA hS hl
  have hl : lv_has ls 5 [(0, .ref (n 0))] := hl
  have hown : s.vm.findClass RX11 = some m.cls := hown
  have i11 : ∀ w ∈ u_ws RX11 TX11 71, w ∈ wsX11_layShortest := fun _ h => List.mem_cons_of_mem _ (List.mem_append_right _ h)
  have w1 := hts (.fieldLink RX11 131 "GuildCharterModel" "shortestOf" "[I") (List.mem_cons_of_mem _ (List.mem_append_left _ (List.mem_of_getElem? (i := 0) rfl)))
  have w2 := hts (.fieldLink RX11 233 "GuildCharterModel" "bank" "I") (List.mem_cons_of_mem _ (List.mem_append_left _ (List.mem_of_getElem? (i := 1) rfl)))
  have w3 := hts (.fieldLink RX11 30 "GuildCharterModel" "alts" "[I") (List.mem_cons_of_mem _ (List.mem_append_left _ (List.mem_of_getElem? (i := 2) rfl)))
  refine lv_iconst (v := 0) hx hb dX11_layShortest_0 z8 ?_
  refine lv_istore_n (lv' := [(1, .int 0), (0, .ref (n 0))]) hx hb dX11_layShortest_1 rfl hl (nlt rfl) rfl (fun ls hl => ?_)
  refine lv_iload_n hx hb dX11_layShortest_2 rfl (lv_at hl 0 rfl) ?_
  refine lv_bipush (v := 8) hx hb dX11_layShortest_3 z130 ?_
  refine lv_icmp_ge (tgt := 21) hx hb dX11_layShortest_5 z552 (fun c1 => absurd c1 (z806)) (fun _ => ?_)
  refine lv_aload_n hx hb dX11_layShortest_8 rfl (lv_at hl 1 rfl) ?_
  refine va_get (D := (dC, dI)) (ci := 11) (v := .ref (n 38)) (C := RX11) (T := TX11) (N := 71) hx hb hts i11 hown hK hP 0 rfl rfl 60 (nlt rfl) w1 (fun _ h9 => h9) rfl dX11_layShortest_9 ?_
  refine lv_iload_n hx hb dX11_layShortest_12 rfl (lv_at hl 0 rfl) ?_
  refine lv_iconst (v := 0) hx hb dX11_layShortest_13 z8 ?_
  refine my_iastS hx hb hK hP hD hS 1 1 rfl rfl z807 rfl dX11_layShortest_14 (fun H locs hP hD hS => ?_)
  refine lv_iinc (v := 1) (lv' := [(1, .int 1), (0, .ref (n 0))]) hx hb dX11_layShortest_15 hl (k := 0) rfl z17 (nlt rfl) rfl (fun ls hl => ?_)
  refine lv_goto (tgt := 2) hx hb dX11_layShortest_18 z808 ?_
  refine lv_iload_n hx hb dX11_layShortest_2 rfl (lv_at hl 0 rfl) ?_
  refine lv_bipush (v := 8) hx hb dX11_layShortest_3 z130 ?_
  refine lv_icmp_ge (tgt := 21) hx hb dX11_layShortest_5 z552 (fun c1 => absurd c1 (z809)) (fun _ => ?_)
  refine lv_aload_n hx hb dX11_layShortest_8 rfl (lv_at hl 1 rfl) ?_
  refine va_get (D := (dC, dI)) (ci := 11) (v := .ref (n 38)) (C := RX11) (T := TX11) (N := 71) hx hb hts i11 hown hK hP 0 rfl rfl 60 (nlt rfl) w1 (fun _ h9 => h9) rfl dX11_layShortest_9 ?_
  refine lv_iload_n hx hb dX11_layShortest_12 rfl (lv_at hl 0 rfl) ?_
  refine lv_iconst (v := 0) hx hb dX11_layShortest_13 z8 ?_
  refine my_iastS hx hb hK hP hD hS 1 1 rfl rfl z810 rfl dX11_layShortest_14 (fun H locs hP hD hS => ?_)
  refine lv_iinc (v := 2) (lv' := [(1, .int 2), (0, .ref (n 0))]) hx hb dX11_layShortest_15 hl (k := 0) rfl z24 (nlt rfl) rfl (fun ls hl => ?_)
  refine lv_goto (tgt := 2) hx hb dX11_layShortest_18 z808 ?_
  refine lv_iload_n hx hb dX11_layShortest_2 rfl (lv_at hl 0 rfl) ?_
  refine lv_bipush (v := 8) hx hb dX11_layShortest_3 z130 ?_
  refine lv_icmp_ge (tgt := 21) hx hb dX11_layShortest_5 z552 (fun c1 => absurd c1 (z811)) (fun _ => ?_)
  refine lv_aload_n hx hb dX11_layShortest_8 rfl (lv_at hl 1 rfl) ?_
  refine va_get (D := (dC, dI)) (ci := 11) (v := .ref (n 38)) (C := RX11) (T := TX11) (N := 71) hx hb hts i11 hown hK hP 0 rfl rfl 60 (nlt rfl) w1 (fun _ h9 => h9) rfl dX11_layShortest_9 ?_
  refine lv_iload_n hx hb dX11_layShortest_12 rfl (lv_at hl 0 rfl) ?_
  refine lv_iconst (v := 0) hx hb dX11_layShortest_13 z8 ?_
  refine my_iastS hx hb hK hP hD hS 1 1 rfl rfl z812 rfl dX11_layShortest_14 (fun H locs hP hD hS => ?_)
  refine lv_iinc (v := 3) (lv' := [(1, .int 3), (0, .ref (n 0))]) hx hb dX11_layShortest_15 hl (k := 0) rfl z30 (nlt rfl) rfl (fun ls hl => ?_)
  refine lv_goto (tgt := 2) hx hb dX11_layShortest_18 z808 ?_
  refine lv_iload_n hx hb dX11_layShortest_2 rfl (lv_at hl 0 rfl) ?_
  refine lv_bipush (v := 8) hx hb dX11_layShortest_3 z130 ?_
  refine lv_icmp_ge (tgt := 21) hx hb dX11_layShortest_5 z552 (fun c1 => absurd c1 (z813)) (fun _ => ?_)
  refine lv_aload_n hx hb dX11_layShortest_8 rfl (lv_at hl 1 rfl) ?_
  refine va_get (D := (dC, dI)) (ci := 11) (v := .ref (n 38)) (C := RX11) (T := TX11) (N := 71) hx hb hts i11 hown hK hP 0 rfl rfl 60 (nlt rfl) w1 (fun _ h9 => h9) rfl dX11_layShortest_9 ?_
  refine lv_iload_n hx hb dX11_layShortest_12 rfl (lv_at hl 0 rfl) ?_
  refine lv_iconst (v := 0) hx hb dX11_layShortest_13 z8 ?_
  refine my_iastS hx hb hK hP hD hS 1 1 rfl rfl z814 rfl dX11_layShortest_14 (fun H locs hP hD hS => ?_)
  refine lv_iinc (v := 4) (lv' := [(1, .int 4), (0, .ref (n 0))]) hx hb dX11_layShortest_15 hl (k := 0) rfl z36 (nlt rfl) rfl (fun ls hl => ?_)
  refine lv_goto (tgt := 2) hx hb dX11_layShortest_18 z808 ?_
  refine lv_iload_n hx hb dX11_layShortest_2 rfl (lv_at hl 0 rfl) ?_
  refine lv_bipush (v := 8) hx hb dX11_layShortest_3 z130 ?_
  refine lv_icmp_ge (tgt := 21) hx hb dX11_layShortest_5 z552 (fun c1 => absurd c1 (z374)) (fun _ => ?_)
  refine lv_aload_n hx hb dX11_layShortest_8 rfl (lv_at hl 1 rfl) ?_
  refine va_get (D := (dC, dI)) (ci := 11) (v := .ref (n 38)) (C := RX11) (T := TX11) (N := 71) hx hb hts i11 hown hK hP 0 rfl rfl 60 (nlt rfl) w1 (fun _ h9 => h9) rfl dX11_layShortest_9 ?_
  refine lv_iload_n hx hb dX11_layShortest_12 rfl (lv_at hl 0 rfl) ?_
  refine lv_iconst (v := 0) hx hb dX11_layShortest_13 z8 ?_
  refine my_iastS hx hb hK hP hD hS 1 1 rfl rfl z815 rfl dX11_layShortest_14 (fun H locs hP hD hS => ?_)
  refine lv_iinc (v := 5) (lv' := [(1, .int 5), (0, .ref (n 0))]) hx hb dX11_layShortest_15 hl (k := 0) rfl z98 (nlt rfl) rfl (fun ls hl => ?_)
  refine lv_goto (tgt := 2) hx hb dX11_layShortest_18 z808 ?_
  refine lv_iload_n hx hb dX11_layShortest_2 rfl (lv_at hl 0 rfl) ?_
  refine lv_bipush (v := 8) hx hb dX11_layShortest_3 z130 ?_
  refine lv_icmp_ge (tgt := 21) hx hb dX11_layShortest_5 z552 (fun c1 => absurd c1 (z382)) (fun _ => ?_)
  refine lv_aload_n hx hb dX11_layShortest_8 rfl (lv_at hl 1 rfl) ?_
  refine va_get (D := (dC, dI)) (ci := 11) (v := .ref (n 38)) (C := RX11) (T := TX11) (N := 71) hx hb hts i11 hown hK hP 0 rfl rfl 60 (nlt rfl) w1 (fun _ h9 => h9) rfl dX11_layShortest_9 ?_
  refine lv_iload_n hx hb dX11_layShortest_12 rfl (lv_at hl 0 rfl) ?_
  refine lv_iconst (v := 0) hx hb dX11_layShortest_13 z8 ?_
  refine my_iastS hx hb hK hP hD hS 1 1 rfl rfl z816 rfl dX11_layShortest_14 (fun H locs hP hD hS => ?_)
  refine lv_iinc (v := 6) (lv' := [(1, .int 6), (0, .ref (n 0))]) hx hb dX11_layShortest_15 hl (k := 0) rfl z104 (nlt rfl) rfl (fun ls hl => ?_)
  refine lv_goto (tgt := 2) hx hb dX11_layShortest_18 z808 ?_
  refine lv_iload_n hx hb dX11_layShortest_2 rfl (lv_at hl 0 rfl) ?_
  refine lv_bipush (v := 8) hx hb dX11_layShortest_3 z130 ?_
  refine lv_icmp_ge (tgt := 21) hx hb dX11_layShortest_5 z552 (fun c1 => absurd c1 (z388)) (fun _ => ?_)
  refine lv_aload_n hx hb dX11_layShortest_8 rfl (lv_at hl 1 rfl) ?_
  refine va_get (D := (dC, dI)) (ci := 11) (v := .ref (n 38)) (C := RX11) (T := TX11) (N := 71) hx hb hts i11 hown hK hP 0 rfl rfl 60 (nlt rfl) w1 (fun _ h9 => h9) rfl dX11_layShortest_9 ?_
  refine lv_iload_n hx hb dX11_layShortest_12 rfl (lv_at hl 0 rfl) ?_
  refine lv_iconst (v := 0) hx hb dX11_layShortest_13 z8 ?_
  refine my_iastS hx hb hK hP hD hS 1 1 rfl rfl z817 rfl dX11_layShortest_14 (fun H locs hP hD hS => ?_)
  refine lv_iinc (v := 7) (lv' := [(1, .int 7), (0, .ref (n 0))]) hx hb dX11_layShortest_15 hl (k := 0) rfl z392 (nlt rfl) rfl (fun ls hl => ?_)
  refine lv_goto (tgt := 2) hx hb dX11_layShortest_18 z808 ?_
  refine lv_iload_n hx hb dX11_layShortest_2 rfl (lv_at hl 0 rfl) ?_
  refine lv_bipush (v := 8) hx hb dX11_layShortest_3 z130 ?_
  refine lv_icmp_ge (tgt := 21) hx hb dX11_layShortest_5 z552 (fun c1 => absurd c1 (z395)) (fun _ => ?_)
  refine lv_aload_n hx hb dX11_layShortest_8 rfl (lv_at hl 1 rfl) ?_
  refine va_get (D := (dC, dI)) (ci := 11) (v := .ref (n 38)) (C := RX11) (T := TX11) (N := 71) hx hb hts i11 hown hK hP 0 rfl rfl 60 (nlt rfl) w1 (fun _ h9 => h9) rfl dX11_layShortest_9 ?_
  refine lv_iload_n hx hb dX11_layShortest_12 rfl (lv_at hl 0 rfl) ?_
  refine lv_iconst (v := 0) hx hb dX11_layShortest_13 z8 ?_
  refine my_iastS hx hb hK hP hD hS 1 1 rfl rfl z818 rfl dX11_layShortest_14 (fun H locs hP hD hS => ?_)
  refine lv_iinc (v := 8) (lv' := [(1, .int 8), (0, .ref (n 0))]) hx hb dX11_layShortest_15 hl (k := 0) rfl z399 (nlt rfl) rfl (fun ls hl => ?_)
  refine lv_goto (tgt := 2) hx hb dX11_layShortest_18 z808 ?_
  refine lv_iload_n hx hb dX11_layShortest_2 rfl (lv_at hl 0 rfl) ?_
  refine lv_bipush (v := 8) hx hb dX11_layShortest_3 z130 ?_
  refine lv_icmp_ge (tgt := 21) hx hb dX11_layShortest_5 z552 (fun _ => ?_) (fun c1 => absurd (z402) c1)
  refine lv_iconst (v := 1) hx hb dX11_layShortest_21 z39 ?_
  refine lv_istore_n (lv' := [(1, .int 1), (0, .ref (n 0))]) hx hb dX11_layShortest_22 rfl hl (nlt rfl) rfl (fun ls hl => ?_)
  refine lv_iload_n hx hb dX11_layShortest_23 rfl (lv_at hl 0 rfl) ?_
  refine lv_if_eq (tgt := 119) hx hb dX11_layShortest_24 z819 (fun c1 => absurd c1 (z525)) (fun _ => ?_)
  refine lv_iconst (v := 0) hx hb dX11_layShortest_27 z8 ?_
  refine lv_istore_n (lv' := [(1, .int 0), (0, .ref (n 0))]) hx hb dX11_layShortest_28 rfl hl (nlt rfl) rfl (fun ls hl => ?_)
  refine lv_bipush (v := 24) hx hb dX11_layShortest_29 z134 ?_
  refine lv_aload_n hx hb dX11_layShortest_31 rfl (lv_at hl 1 rfl) ?_
  refine va_get (D := (dC, dI)) (ci := 11) (v := .int 0) (C := RX11) (T := TX11) (N := 71) hx hb hts i11 hown hK hP 0 rfl rfl 29 (nlt rfl) w2 (fun _ h9 => h9) rfl dX11_layShortest_32 ?_
  refine lv_imul hx hb dX11_layShortest_35 ?_
  refine tpi z820 ?_
  refine lv_istore_n (lv' := [(2, .int 0), (1, .int 0), (0, .ref (n 0))]) hx hb dX11_layShortest_36 rfl hl (nlt rfl) rfl (fun ls hl => ?_)
  refine lv_iload_n hx hb dX11_layShortest_37 rfl (lv_at hl 0 rfl) ?_
  refine lv_bipush (v := 24) hx hb dX11_layShortest_38 z134 ?_
  refine lv_aload_n hx hb dX11_layShortest_40 rfl (lv_at hl 2 rfl) ?_
  refine va_get (D := (dC, dI)) (ci := 11) (v := .int 0) (C := RX11) (T := TX11) (N := 71) hx hb hts i11 hown hK hP 0 rfl rfl 29 (nlt rfl) w2 (fun _ h9 => h9) rfl dX11_layShortest_41 ?_
  refine lv_imul hx hb dX11_layShortest_44 ?_
  refine tpi z820 ?_
  refine lv_aload_n hx hb dX11_layShortest_45 rfl (lv_at hl 2 rfl) ?_
  refine va_get (D := (dC, dI)) (ci := 11) (v := .ref (n 6)) (C := RX11) (T := TX11) (N := 71) hx hb hts i11 hown hK hP 0 rfl rfl 14 (nlt rfl) w3 (fun _ h9 => h9) rfl dX11_layShortest_46 ?_
  refine lv_aload_n hx hb dX11_layShortest_49 rfl (lv_at hl 2 rfl) ?_
  refine va_get (D := (dC, dI)) (ci := 11) (v := .int 0) (C := RX11) (T := TX11) (N := 71) hx hb hts i11 hown hK hP 0 rfl rfl 29 (nlt rfl) w2 (fun _ h9 => h9) rfl dX11_layShortest_50 ?_
  refine my_iald (v := 0) hx hb hK hP 2 1 rfl rfl z248 rfl dX11_layShortest_53 ?_
  refine lv_iadd hx hb dX11_layShortest_54 ?_
  refine tpi z350 ?_
  refine lv_icmp_ge (tgt := 116) hx hb dX11_layShortest_55 z821 (fun _ => ?_) (fun c1 => absurd (z510) c1)
  refine lv_goto (tgt := 23) hx hb dX11_layShortest_116 z822 ?_
  refine lv_iload_n hx hb dX11_layShortest_23 rfl (lv_at hl 1 rfl) ?_
  refine lv_if_eq (tgt := 119) hx hb dX11_layShortest_24 z819 (fun _ => ?_) (fun c1 => absurd (rfl) c1)
  refine W.widen (k := 0) (n := 0) (by decide +kernel) (by decide +kernel) ?_
  exact ret_v hx hb hr hlocks hS (u := (fun _ => 0)) (hP.sub [0, 1, 2] rfl) (hD.sub [0, 1, 2] (by decide +kernel) rfl) dX11_layShortest_119

set_option maxHeartbeats 4000000 in
set_option maxRecDepth 100000 in
theorem k283_X11_used (l : Launch) (dC : Nat → ClassId) (dI : Nat → Nat → Nat) (cB cI cJ cZ cO : ClassId) (n : Nat → Nat) : CI l yX11_used wsX11_used ({ frames := 1, cells := 0, slots := 0, locals := 24 }) (dC, dI) (tyL cB cI cJ cZ cO) [.ref (n 0)] [((n 0), .inr (11, fM n)), ((n 38), .inl (cI, 8, .inl (fun _ => 0))), ((n 6), .inl (cI, 2, .inl (fun _ => 0))), ((n 5), .inl (cI, 2, .inl (fun _ => 0)))] (fun _ => []) 0 := by
  intro sz
  refine ct_open (cc := cX11_used) (maxL := 5) (ret := (some .int)) (by decide) rfl (Nat.le_of_ble_eq_true rfl) ?_
  intro p e s m below meth c ls A hx hb hr hml hts hown hlocks hin hP hK hD hA hS hl
  have hl : lv_has ls 5 [(0, .ref (n 0))] := hl
  have hown : s.vm.findClass RX11 = some m.cls := hown
  have i11 : ∀ w ∈ u_ws RX11 TX11 71, w ∈ wsX11_used := fun _ h => List.mem_cons_of_mem _ (List.mem_append_right _ h)
  have w1 := hts (.fieldLink RX11 27 "GuildCharterModel" "rules" "[I") (List.mem_cons_of_mem _ (List.mem_append_left _ (List.mem_of_getElem? (i := 0) rfl)))
  have w2 := hts (.fieldLink RX11 233 "GuildCharterModel" "bank" "I") (List.mem_cons_of_mem _ (List.mem_append_left _ (List.mem_of_getElem? (i := 1) rfl)))
  refine lv_aload_n hx hb dX11_used_0 rfl (lv_at hl 0 rfl) ?_
  refine call_vV (ci := 11) (As := []) (rest := []) (wr := [((n 5), .inl (cI, 2, .inl (fun _ => 0)))]) ⟨hx, hb, hml, hown, hts⟩ (k282_X11_layShortest l dC dI cB cI cJ cZ cO n) (cwV 0 hts gX11_used_X11_layShortest rfl rfl rfl ⟨rfl, z824⟩ ⟨Nat.le_of_ble_eq_true rfl, Nat.le_of_ble_eq_true rfl⟩) hK hP hD hS hA [0, 1, 2] [3] rfl rfl (by decide +kernel) (by decide +kernel) (by decide +kernel) rfl rfl rfl hl.1 (Nat.le_of_ble_eq_true rfl) rfl rfl dX11_used_1 ⟨by decide +kernel, by decide +kernel⟩ (fun u0 H locs hP hD hS => ?_)
  refine lv_aload_n hx hb dX11_used_4 rfl (lv_at hl 0 rfl) ?_
  refine va_get (D := (dC, dI)) (ci := 11) (v := .ref (n 5)) (C := RX11) (T := TX11) (N := 71) hx hb hts i11 hown hK hP 1 rfl rfl 13 (nlt rfl) w1 (fun _ h9 => h9) rfl dX11_used_5 ?_
  refine lv_aload_n hx hb dX11_used_8 rfl (lv_at hl 0 rfl) ?_
  refine va_get (D := (dC, dI)) (ci := 11) (v := .int 0) (C := RX11) (T := TX11) (N := 71) hx hb hts i11 hown hK hP 1 rfl rfl 29 (nlt rfl) w2 (fun _ h9 => h9) rfl dX11_used_9 ?_
  refine my_iald (v := 0) hx hb hK hP 0 1 rfl rfl z248 rfl dX11_used_12 ?_
  refine lv_if_eq (tgt := 25) hx hb dX11_used_13 z823 (fun _ => ?_) (fun c1 => absurd (rfl) c1)
  refine lv_iconst (v := 0) hx hb dX11_used_25 z8 ?_
  refine W.widen (k := 0) (n := 0) (by decide +kernel) (by decide +kernel) ?_
  exact ret_i hx hb hr hlocks hS (u := (fun _ => 0)) (hP.sub [] rfl) (hD.sub [] (by decide +kernel) rfl) dX11_used_26

set_option maxHeartbeats 4000000 in
set_option maxRecDepth 100000 in
theorem k284_X10_shortest (l : Launch) (dC : Nat → ClassId) (dI : Nat → Nat → Nat) (cB cI cJ cZ cO : ClassId) (r : Nat → Nat) (x1 : Int32) (h0 : x1 < 0) : CI l yX10_shortest wsX10_shortest ({ frames := 0, cells := 0, slots := 0, locals := 0 }) (dC, dI) (tyL cB cI cJ cZ cO) [.ref (r 0), .int x1] [((r 0), .inr (10, fX r))] (fun _ => []) (-1) := by
  intro sz
  refine ct_open (cc := cX10_shortest) (maxL := 2) (ret := (some .int)) (by decide) rfl (Nat.le_of_ble_eq_true rfl) ?_
  intro p e s m below meth c ls A hx hb hr hml hts hown hlocks hin hP hK hD hA hS hl
  have hl : lv_has ls 2 [(0, .ref (r 0)), (1, .int x1)] := hl
  have hown : s.vm.findClass RX10 = some m.cls := hown
  refine lv_iload_n hx hb dX10_shortest_0 rfl (lv_at hl 1 rfl) ?_
  refine lv_if_lt (tgt := 15) hx hb dX10_shortest_1 z575 (fun _ => ?_) (fun c1 => absurd (h0) c1)
  refine lv_iconst (v := (-1)) hx hb dX10_shortest_15 z128 ?_
  refine W.widen (k := 0) (n := 0) (by decide +kernel) (by decide +kernel) ?_
  exact ret_i hx hb hr hlocks hS (u := (fun _ => 0)) (hP.sub [] rfl) (hD.sub [] (by decide +kernel) rfl) dX10_shortest_16

set_option maxHeartbeats 4000000 in
set_option maxRecDepth 100000 in
theorem k285_X11_shortest (l : Launch) (dC : Nat → ClassId) (dI : Nat → Nat → Nat) (cB cI cJ cZ cO : ClassId) (n : Nat → Nat) (x1 : Int32) (h0 : x1 < 0) : CI l yX11_shortest wsX11_shortest ({ frames := 1, cells := 0, slots := 0, locals := 22 }) (dC, dI) (tyL cB cI cJ cZ cO) [.ref (n 0), .int x1] [((n 0), .inr (11, fM n)), ((n 5), .inl (cI, 2, .inl (fun _ => 0)))] (fun _ => []) (-1) := by
  intro sz
  refine ct_open (cc := cX11_shortest) (maxL := 2) (ret := (some .int)) (by decide) rfl (Nat.le_of_ble_eq_true rfl) ?_
  intro p e s m below meth c ls A hx hb hr hml hts hown hlocks hin hP hK hD hA hS hl
  have hl : lv_has ls 2 [(0, .ref (n 0)), (1, .int x1)] := hl
  have hown : s.vm.findClass RX11 = some m.cls := hown
  have i11 : ∀ w ∈ u_ws RX11 TX11 71, w ∈ wsX11_shortest := fun _ h => List.mem_cons_of_mem _ (List.mem_append_right _ h)
  have w1 := hts (.fieldLink RX11 27 "GuildCharterModel" "rules" "[I") (List.mem_cons_of_mem _ (List.mem_append_left _ (List.mem_of_getElem? (i := 0) rfl)))
  have w2 := hts (.fieldLink RX11 233 "GuildCharterModel" "bank" "I") (List.mem_cons_of_mem _ (List.mem_append_left _ (List.mem_of_getElem? (i := 1) rfl)))
  refine lv_iload_n hx hb dX11_shortest_0 rfl (lv_at hl 1 rfl) ?_
  refine lv_iconst (v := 0) hx hb dX11_shortest_1 z8 ?_
  refine lv_aload_n hx hb dX11_shortest_2 rfl (lv_at hl 0 rfl) ?_
  refine va_get (D := (dC, dI)) (ci := 11) (v := .ref (n 5)) (C := RX11) (T := TX11) (N := 71) hx hb hts i11 hown hK hP 0 rfl rfl 13 (nlt rfl) w1 (fun _ h9 => h9) rfl dX11_shortest_3 ?_
  refine lv_aload_n hx hb dX11_shortest_6 rfl (lv_at hl 0 rfl) ?_
  refine va_get (D := (dC, dI)) (ci := 11) (v := .int 0) (C := RX11) (T := TX11) (N := 71) hx hb hts i11 hown hK hP 0 rfl rfl 29 (nlt rfl) w2 (fun _ h9 => h9) rfl dX11_shortest_7 ?_
  refine my_iald (v := 0) hx hb hK hP 1 1 rfl rfl z248 rfl dX11_shortest_10 ?_
  refine lv_iconst (v := 1) hx hb dX11_shortest_11 z39 ?_
  refine lv_isub hx hb dX11_shortest_12 ?_
  refine tpi z585 ?_
  refine call_iS (As := [.int x1, .int 0, .int (-1)]) (rest := []) (wr := [((n 0), .inr (11, fM n)), ((n 5), .inl (cI, 2, .inl (fun _ => 0)))]) ⟨hx, hb, hml, hown, hts⟩ (k76_X11_isIn l dC dI cB cI cJ cZ cO x1 h0) (va_cwS 3 hts gX11_shortest_X11_isIn rfl rfl rfl z587 ⟨Nat.le_of_ble_eq_true rfl, Nat.le_of_ble_eq_true rfl⟩) hK hP hD hS hA [] [0, 1] rfl rfl (by decide +kernel) (by decide +kernel) (by decide +kernel) hl.1 (Nat.le_of_ble_eq_true rfl) rfl rfl dX11_shortest_13 ⟨by decide +kernel, by decide +kernel⟩ (fun u0 H locs hP hD hS => ?_)
  refine lv_if_ne (tgt := 21) hx hb dX11_shortest_16 z825 (fun c1 => absurd (rfl) c1) (fun _ => ?_)
  refine lv_iconst (v := (-1)) hx hb dX11_shortest_19 z128 ?_
  refine W.widen (k := 0) (n := 0) (by decide +kernel) (by decide +kernel) ?_
  exact ret_i hx hb hr hlocks hS (u := (fun _ => 0)) (hP.sub [] rfl) (hD.sub [] (by decide +kernel) rfl) dX11_shortest_20

set_option maxHeartbeats 4000000 in
set_option maxRecDepth 100000 in
theorem k286_X10_shortest (l : Launch) (dC : Nat → ClassId) (dI : Nat → Nat → Nat) (cB cI cJ cZ cO : ClassId) (r : Nat → Nat) (x1 : Int32) (h0 : ¬ x1 < 0) : CI l yX10_shortest wsX10_shortest ({ frames := 0, cells := 0, slots := 0, locals := 0 }) (dC, dI) (tyL cB cI cJ cZ cO) [.ref (r 0), .int x1] [((r 0), .inr (10, fX r)), ((r 18), .inr (4, [.int 0, .ref (r 19), .ref (r 20), .int 0, .ref (r 21), .ref (r 22), .int 0, .ref (r 23), .ref (r 24), .int 0, .ref (r 25), .ref (r 26), .int 3, .int 0, .int 0, .ref (r 27)]))] (fun _ => []) (-1) := by
  intro sz
  refine ct_open (cc := cX10_shortest) (maxL := 2) (ret := (some .int)) (by decide) rfl (Nat.le_of_ble_eq_true rfl) ?_
  intro p e s m below meth c ls A hx hb hr hml hts hown hlocks hin hP hK hD hA hS hl
  have hl : lv_has ls 2 [(0, .ref (r 0)), (1, .int x1)] := hl
  have hown : s.vm.findClass RX10 = some m.cls := hown
  have i10 : ∀ w ∈ u_ws RX10 TX10 18, w ∈ wsX10_shortest := fun _ h => List.mem_cons_of_mem _ (List.mem_append_left _ (List.mem_append_right _ h))
  have w1 := hts (.fieldLink RX10 23 "GuildCharter" "told" "LGuildCharter$Port;") (List.mem_cons_of_mem _ (List.mem_append_left _ (List.mem_append_left _ (List.mem_of_getElem? (i := 0) rfl))))
  have i4 : ∀ w ∈ u_ws RX4 TX4 16, w ∈ wsX10_shortest := fun _ h => List.mem_cons_of_mem _ (List.mem_append_right _ h)
  have w3 := hts (.fieldLink RX10 273 "GuildCharter$Port" "rules" "I") (List.mem_cons_of_mem _ (List.mem_append_left _ (List.mem_append_left _ (List.mem_of_getElem? (i := 1) rfl))))
  refine lv_iload_n hx hb dX10_shortest_0 rfl (lv_at hl 1 rfl) ?_
  refine lv_if_lt (tgt := 15) hx hb dX10_shortest_1 z575 (fun c1 => absurd c1 (h0)) (fun _ => ?_)
  refine lv_iload_n hx hb dX10_shortest_4 rfl (lv_at hl 1 rfl) ?_
  refine lv_aload_n hx hb dX10_shortest_5 rfl (lv_at hl 0 rfl) ?_
  refine va_get (D := (dC, dI)) (ci := 10) (v := .ref (r 18)) (C := RX10) (T := TX10) (N := 18) hx hb hts i10 hown hK hP 0 rfl rfl 3 (nlt rfl) w1 (fun _ h9 => h9) rfl dX10_shortest_6 ?_
  refine va_get (D := (dC, dI)) (ci := 4) (v := .int 0) (C := RX4) (T := TX4) (N := 16) hx hb hts i4 hown hK hP 1 rfl rfl 6 (nlt rfl) w3 (fun _ h9 => h9) rfl dX10_shortest_9 ?_
  refine lv_icmp_lt (tgt := 17) hx hb dX10_shortest_12 z620 (fun c1 => absurd c1 (h0)) (fun _ => ?_)
  refine lv_iconst (v := (-1)) hx hb dX10_shortest_15 z128 ?_
  refine W.widen (k := 0) (n := 0) (by decide +kernel) (by decide +kernel) ?_
  exact ret_i hx hb hr hlocks hS (u := (fun _ => 0)) (hP.sub [] rfl) (hD.sub [] (by decide +kernel) rfl) dX10_shortest_16

set_option maxHeartbeats 4000000 in
set_option maxRecDepth 100000 in
theorem k287_X11_shortest (l : Launch) (dC : Nat → ClassId) (dI : Nat → Nat → Nat) (cB cI cJ cZ cO : ClassId) (n : Nat → Nat) (x1 : Int32) (h0 : ¬ x1 < 0) (h1 : (-1) < x1) : CI l yX11_shortest wsX11_shortest ({ frames := 1, cells := 0, slots := 0, locals := 22 }) (dC, dI) (tyL cB cI cJ cZ cO) [.ref (n 0), .int x1] [((n 0), .inr (11, fM n)), ((n 5), .inl (cI, 2, .inl (fun _ => 0)))] (fun _ => []) (-1) := by
  intro sz
  refine ct_open (cc := cX11_shortest) (maxL := 2) (ret := (some .int)) (by decide) rfl (Nat.le_of_ble_eq_true rfl) ?_
  intro p e s m below meth c ls A hx hb hr hml hts hown hlocks hin hP hK hD hA hS hl
  have hl : lv_has ls 2 [(0, .ref (n 0)), (1, .int x1)] := hl
  have hown : s.vm.findClass RX11 = some m.cls := hown
  have i11 : ∀ w ∈ u_ws RX11 TX11 71, w ∈ wsX11_shortest := fun _ h => List.mem_cons_of_mem _ (List.mem_append_right _ h)
  have w1 := hts (.fieldLink RX11 27 "GuildCharterModel" "rules" "[I") (List.mem_cons_of_mem _ (List.mem_append_left _ (List.mem_of_getElem? (i := 0) rfl)))
  have w2 := hts (.fieldLink RX11 233 "GuildCharterModel" "bank" "I") (List.mem_cons_of_mem _ (List.mem_append_left _ (List.mem_of_getElem? (i := 1) rfl)))
  refine lv_iload_n hx hb dX11_shortest_0 rfl (lv_at hl 1 rfl) ?_
  refine lv_iconst (v := 0) hx hb dX11_shortest_1 z8 ?_
  refine lv_aload_n hx hb dX11_shortest_2 rfl (lv_at hl 0 rfl) ?_
  refine va_get (D := (dC, dI)) (ci := 11) (v := .ref (n 5)) (C := RX11) (T := TX11) (N := 71) hx hb hts i11 hown hK hP 0 rfl rfl 13 (nlt rfl) w1 (fun _ h9 => h9) rfl dX11_shortest_3 ?_
  refine lv_aload_n hx hb dX11_shortest_6 rfl (lv_at hl 0 rfl) ?_
  refine va_get (D := (dC, dI)) (ci := 11) (v := .int 0) (C := RX11) (T := TX11) (N := 71) hx hb hts i11 hown hK hP 0 rfl rfl 29 (nlt rfl) w2 (fun _ h9 => h9) rfl dX11_shortest_7 ?_
  refine my_iald (v := 0) hx hb hK hP 1 1 rfl rfl z248 rfl dX11_shortest_10 ?_
  refine lv_iconst (v := 1) hx hb dX11_shortest_11 z39 ?_
  refine lv_isub hx hb dX11_shortest_12 ?_
  refine tpi z585 ?_
  refine call_iS (As := [.int x1, .int 0, .int (-1)]) (rest := []) (wr := [((n 0), .inr (11, fM n)), ((n 5), .inl (cI, 2, .inl (fun _ => 0)))]) ⟨hx, hb, hml, hown, hts⟩ (k81_X11_isIn l dC dI cB cI cJ cZ cO x1 h0 h1) (va_cwS 3 hts gX11_shortest_X11_isIn rfl rfl rfl z587 ⟨Nat.le_of_ble_eq_true rfl, Nat.le_of_ble_eq_true rfl⟩) hK hP hD hS hA [] [0, 1] rfl rfl (by decide +kernel) (by decide +kernel) (by decide +kernel) hl.1 (Nat.le_of_ble_eq_true rfl) rfl rfl dX11_shortest_13 ⟨by decide +kernel, by decide +kernel⟩ (fun u0 H locs hP hD hS => ?_)
  refine lv_if_ne (tgt := 21) hx hb dX11_shortest_16 z825 (fun c1 => absurd (rfl) c1) (fun _ => ?_)
  refine lv_iconst (v := (-1)) hx hb dX11_shortest_19 z128 ?_
  refine W.widen (k := 0) (n := 0) (by decide +kernel) (by decide +kernel) ?_
  exact ret_i hx hb hr hlocks hS (u := (fun _ => 0)) (hP.sub [] rfl) (hD.sub [] (by decide +kernel) rfl) dX11_shortest_20

set_option maxHeartbeats 4000000 in
set_option maxRecDepth 100000 in
theorem k288_X10_growWhole (l : Launch) (dC : Nat → ClassId) (dI : Nat → Nat → Nat) (cB cI cJ cZ cO : ClassId) (r : Nat → Nat) : CR l yX10_growWhole wsX10_growWhole ({ frames := 3, cells := 0, slots := 0, locals := 78 }) (dC, dI) (tyL cB cI cJ cZ cO) [.ref (r 0)] [((r 0), .inr (10, fX r)), ((r 38), .inr (0, [.ref (r 39), .int 0, .ref (r 40), .ref (r 41), .ref (r 42), .ref (r 43), .ref (r 44), .int 0, .int 0])), ((r 65), .inr (9, [.int 0, .int 0, .ref (r 66), .ref (r 67), .ref (r 68), .ref (r 69), .int 0, .int 0, .int 0, .int 0, .int 0])), ((r 18), .inr (4, [.int 0, .ref (r 19), .ref (r 20), .int 0, .ref (r 21), .ref (r 22), .int 0, .ref (r 23), .ref (r 24), .int 0, .ref (r 25), .ref (r 26), .int 3, .int 0, .int 0, .ref (r 27)])), ((r 66), .inl (cI, 3000, .inl (fun _ => 0))), ((r 67), .inl (cI, 3000, .inl (fun _ => 0))), ((r 69), .inl (cI, 3000, .inl (fun _ => 0))), ((r 68), .inl (cI, 9000, .inl (fun _ => 0))), ((r 55), .inr (5, [.ref (r 56), .ref (r 57)]))] (fun u => [((r 0), .inr (10, fX r)), ((r 38), .inr (0, [.ref (r 39), .int 0, .ref (r 40), .ref (r 41), .ref (r 42), .ref (r 43), .ref (r 44), .int 0, .int 0])), ((r 65), .inr (9, [.int 0, .int 0, .ref (r 66), .ref (r 67), .ref (r 68), .ref (r 69), .int 3, .int 1, .int 0, .int 0, .int 0])), ((r 18), .inr (4, [.int 0, .ref (r 19), .ref (r 20), .int 0, .ref (r 21), .ref (r 22), .int 0, .ref (r 23), .ref (r 24), .int 0, .ref (r 25), .ref (r 26), .int 3, .int 0, .int 0, .ref (r 27)])), ((r 66), .inl (cI, 3000, .inl (upd (fun _ => 0) 0 (-1)))), ((r 67), .inl (cI, 3000, .inl (fun _ => 0))), ((r 69), .inl (cI, 3000, .inl (fun _ => 0))), ((r 68), .inl (cI, 9000, .inl (fun _ => 0))), ((r 55), .inr (5, [.ref (r 56), .ref (r 57)]))]) (r 65) := by
  intro sz
  refine ct_open (cc := cX10_growWhole) (maxL := 1) (ret := (some (.object "GuildCharter$Tree"))) (by decide) rfl (Nat.le_of_ble_eq_true rfl) ?_
  intro p e s m below meth c ls A hx hb hr hml hts hown hlocks hin hP hK hD hA hS hl
  have hl : lv_has ls 1 [(0, .ref (r 0))] := hl
  have hown : s.vm.findClass RX10 = some m.cls := hown
  have i10 : ∀ w ∈ u_ws RX10 TX10 18, w ∈ wsX10_growWhole := fun _ h => List.mem_cons_of_mem _ (List.mem_append_left _ (List.mem_append_left _ (List.mem_append_left _ (List.mem_append_left _ (List.mem_append_right _ h)))))
  have w1 := hts (.fieldLink RX10 68 "GuildCharter" "wholeTree" "LGuildCharter$Tree;") (List.mem_cons_of_mem _ (List.mem_append_left _ (List.mem_append_left _ (List.mem_append_left _ (List.mem_append_left _ (List.mem_append_left _ (List.mem_append_left _ (List.mem_of_getElem? (i := 0) rfl))))))))
  have w2 := hts (.fieldLink RX10 23 "GuildCharter" "told" "LGuildCharter$Port;") (List.mem_cons_of_mem _ (List.mem_append_left _ (List.mem_append_left _ (List.mem_append_left _ (List.mem_append_left _ (List.mem_append_left _ (List.mem_append_left _ (List.mem_of_getElem? (i := 1) rfl))))))))
  have w3 := hts (.fieldLink RX10 47 "GuildCharter" "reader" "LGuildCharter$Reader;") (List.mem_cons_of_mem _ (List.mem_append_left _ (List.mem_append_left _ (List.mem_append_left _ (List.mem_append_left _ (List.mem_append_left _ (List.mem_append_left _ (List.mem_of_getElem? (i := 2) rfl))))))))
  have w4 := hts (.fieldLink RX10 33 "GuildCharter" "earnest" "LGuildCharter$Earnest;") (List.mem_cons_of_mem _ (List.mem_append_left _ (List.mem_append_left _ (List.mem_append_left _ (List.mem_append_left _ (List.mem_append_left _ (List.mem_append_left _ (List.mem_of_getElem? (i := 3) rfl))))))))
  have i0 : ∀ w ∈ u_ws RX0 TX0 9, w ∈ wsX10_growWhole := fun _ h => List.mem_cons_of_mem _ (List.mem_append_left _ (List.mem_append_left _ (List.mem_append_left _ (List.mem_append_right _ h))))
  have w6 := hts (.fieldLink RX10 194 "GuildCharter$Earnest" "row" "[I") (List.mem_cons_of_mem _ (List.mem_append_left _ (List.mem_append_left _ (List.mem_append_left _ (List.mem_append_left _ (List.mem_append_left _ (List.mem_append_left _ (List.mem_of_getElem? (i := 4) rfl))))))))
  refine lv_aload_n hx hb dX10_growWhole_0 rfl (lv_at hl 0 rfl) ?_
  refine va_get (D := (dC, dI)) (ci := 10) (v := .ref (r 65)) (C := RX10) (T := TX10) (N := 18) hx hb hts i10 hown hK hP 0 rfl rfl 10 (nlt rfl) w1 (fun _ h9 => h9) rfl dX10_growWhole_1 ?_
  refine lv_aload_n hx hb dX10_growWhole_4 rfl (lv_at hl 0 rfl) ?_
  refine va_get (D := (dC, dI)) (ci := 10) (v := .ref (r 18)) (C := RX10) (T := TX10) (N := 18) hx hb hts i10 hown hK hP 0 rfl rfl 3 (nlt rfl) w2 (fun _ h9 => h9) rfl dX10_growWhole_5 ?_
  refine lv_aload_n hx hb dX10_growWhole_8 rfl (lv_at hl 0 rfl) ?_
  refine va_get (D := (dC, dI)) (ci := 10) (v := .ref (r 55)) (C := RX10) (T := TX10) (N := 18) hx hb hts i10 hown hK hP 0 rfl rfl 7 (nlt rfl) w3 (fun _ h9 => h9) rfl dX10_growWhole_9 ?_
  refine lv_aload_n hx hb dX10_growWhole_12 rfl (lv_at hl 0 rfl) ?_
  refine va_get (D := (dC, dI)) (ci := 10) (v := .ref (r 38)) (C := RX10) (T := TX10) (N := 18) hx hb hts i10 hown hK hP 0 rfl rfl 5 (nlt rfl) w4 (fun _ h9 => h9) rfl dX10_growWhole_13 ?_
  refine va_get (D := (dC, dI)) (ci := 0) (v := .ref (r 39)) (C := RX0) (T := TX0) (N := 9) hx hb hts i0 hown hK hP 1 rfl rfl 0 (nlt rfl) w6 (fun _ h9 => h9) rfl dX10_growWhole_16 ?_
  refine lv_iconst (v := 0) hx hb dX10_growWhole_19 z8 ?_
  refine lv_iconst (v := 0) hx hb dX10_growWhole_20 z8 ?_
  refine call_vV (ci := 9) (As := [.ref (r 18), .ref (r 55), .ref (r 39), .int 0, .int 0]) (rest := []) (wr := [((r 0), .inr (10, fX r)), ((r 38), .inr (0, [.ref (r 39), .int 0, .ref (r 40), .ref (r 41), .ref (r 42), .ref (r 43), .ref (r 44), .int 0, .int 0]))]) ⟨hx, hb, hml, hown, hts⟩ (k221_X9_growFrom l dC dI cB cI cJ cZ cO r) (cwV 5 hts gX10_growWhole_X9_growFrom rfl rfl rfl ⟨rfl, z682⟩ ⟨Nat.le_of_ble_eq_true rfl, Nat.le_of_ble_eq_true rfl⟩) hK hP hD hS hA [2, 3, 4, 5, 6, 7, 8] [0, 1] rfl rfl (by decide +kernel) (by decide +kernel) (by decide +kernel) rfl rfl rfl hl.1 (Nat.le_of_ble_eq_true rfl) rfl rfl dX10_growWhole_21 ⟨by decide +kernel, by decide +kernel⟩ (fun u0 H locs hP hD hS => ?_)
  refine lv_aload_n hx hb dX10_growWhole_24 rfl (lv_at hl 0 rfl) ?_
  refine va_get (D := (dC, dI)) (ci := 10) (v := .ref (r 65)) (C := RX10) (T := TX10) (N := 18) hx hb hts i10 hown hK hP 0 rfl rfl 10 (nlt rfl) w1 (fun _ h9 => h9) rfl dX10_growWhole_25 ?_
  refine W.widen (k := 0) (n := 0) (by decide +kernel) (by decide +kernel) ?_
  exact ret_r hx hb hr hlocks hS (u := (fun _ => 0)) (hP.sub [0, 1, 2, 3, 4, 5, 6, 7, 8] rfl) (hD.sub [0, 1, 2, 3, 4, 5, 6, 7, 8] (by decide +kernel) rfl) dX10_growWhole_28

set_option maxHeartbeats 4000000 in
set_option maxRecDepth 100000 in
theorem k289_X10_doubtful (l : Launch) (dC : Nat → ClassId) (dI : Nat → Nat → Nat) (cB cI cJ cZ cO : ClassId) (r : Nat → Nat) : CI l yX10_doubtful wsX10_doubtful ({ frames := 4, cells := 0, slots := 0, locals := 98 }) (dC, dI) (tyL cB cI cJ cZ cO) [.ref (r 0)] [((r 0), .inr (10, fX r)), ((r 38), .inr (0, [.ref (r 39), .int 0, .ref (r 40), .ref (r 41), .ref (r 42), .ref (r 43), .ref (r 44), .int 0, .int 0])), ((r 65), .inr (9, [.int 0, .int 0, .ref (r 66), .ref (r 67), .ref (r 68), .ref (r 69), .int 0, .int 0, .int 0, .int 0, .int 0])), ((r 18), .inr (4, [.int 0, .ref (r 19), .ref (r 20), .int 0, .ref (r 21), .ref (r 22), .int 0, .ref (r 23), .ref (r 24), .int 0, .ref (r 25), .ref (r 26), .int 3, .int 0, .int 0, .ref (r 27)])), ((r 66), .inl (cI, 3000, .inl (fun _ => 0))), ((r 67), .inl (cI, 3000, .inl (fun _ => 0))), ((r 69), .inl (cI, 3000, .inl (fun _ => 0))), ((r 68), .inl (cI, 9000, .inl (fun _ => 0))), ((r 55), .inr (5, [.ref (r 56), .ref (r 57)]))] (fun _ => []) 0 := by
  intro sz
  refine ct_open (cc := cX10_doubtful) (maxL := 4) (ret := (some .int)) (by decide) rfl (Nat.le_of_ble_eq_true rfl) ?_
  intro p e s m below meth c ls A hx hb hr hml hts hown hlocks hin hP hK hD hA hS hl
  have hl : lv_has ls 4 [(0, .ref (r 0))] := hl
  have hown : s.vm.findClass RX10 = some m.cls := hown
  have i10 : ∀ w ∈ u_ws RX10 TX10 18, w ∈ wsX10_doubtful := fun _ h => List.mem_cons_of_mem _ (List.mem_append_left _ (List.mem_append_left _ (List.mem_append_left _ (List.mem_append_left _ (List.mem_append_left _ (List.mem_append_right _ h))))))
  have w1 := hts (.fieldLink RX10 128 "GuildCharter" "lyingSize" "I") (List.mem_cons_of_mem _ (List.mem_append_left _ (List.mem_append_left _ (List.mem_append_left _ (List.mem_append_left _ (List.mem_append_left _ (List.mem_append_left _ (List.mem_append_left _ (List.mem_of_getElem? (i := 0) rfl)))))))))
  have i9 : ∀ w ∈ u_ws RX9 TX9 11, w ∈ wsX10_doubtful := fun _ h => List.mem_cons_of_mem _ (List.mem_append_left _ (List.mem_append_left _ (List.mem_append_left _ (List.mem_append_left _ (List.mem_append_right _ h)))))
  have w3 := hts (.fieldLink RX10 279 "GuildCharter$Tree" "spent" "Z") (List.mem_cons_of_mem _ (List.mem_append_left _ (List.mem_append_left _ (List.mem_append_left _ (List.mem_append_left _ (List.mem_append_left _ (List.mem_append_left _ (List.mem_append_left _ (List.mem_of_getElem? (i := 1) rfl)))))))))
  have w4 := hts (.fieldLink RX10 282 "GuildCharter$Tree" "size" "I") (List.mem_cons_of_mem _ (List.mem_append_left _ (List.mem_append_left _ (List.mem_append_left _ (List.mem_append_left _ (List.mem_append_left _ (List.mem_append_left _ (List.mem_append_left _ (List.mem_of_getElem? (i := 2) rfl)))))))))
  refine lv_aload_n hx hb dX10_doubtful_0 rfl (lv_at hl 0 rfl) ?_
  refine lv_iconst (v := 0) hx hb dX10_doubtful_1 z8 ?_
  refine va_put (D := (dC, dI)) (ci := 10) (v := .int 0) (ty := tyX10 16) (C := RX10) (T := TX10) (N := 18) hx hb hts i10 tyX10 tyX10_ok nmX10 hown hK hP hD hS 0 rfl rfl 16 (nlt rfl) w1 (fun _ h9 => h9) rfl (tyX10_ok 16 (nlt rfl)) rfl rfl (nlt rfl) dX10_doubtful_2 (fun H locs hP hD hS => ?_)
  refine lv_aload_n hx hb dX10_doubtful_5 rfl (lv_at hl 0 rfl) ?_
  refine call_rV (ci := 10) (As := []) (rest := []) (wr := []) ⟨hx, hb, hml, hown, hts⟩ (k288_X10_growWhole l dC dI cB cI cJ cZ cO r) (cwV 0 hts gX10_doubtful_X10_growWhole rfl rfl rfl ⟨rfl, z828⟩ ⟨Nat.le_of_ble_eq_true rfl, Nat.le_of_ble_eq_true rfl⟩) hK hP hD hS hA [0, 1, 2, 3, 4, 5, 6, 7, 8] [] rfl rfl (by decide +kernel) (by decide +kernel) (by decide +kernel) rfl rfl rfl hl.1 (Nat.le_of_ble_eq_true rfl) rfl rfl dX10_doubtful_6 ⟨by decide +kernel, by decide +kernel⟩ (fun u0 H locs hP hD hS => ?_)
  refine lv_astore_n (lv' := [(1, .ref (r 65)), (0, .ref (r 0))]) hx hb dX10_doubtful_9 rfl hl (nlt rfl) rfl (fun ls hl => ?_)
  refine lv_aload_n hx hb dX10_doubtful_10 rfl (lv_at hl 0 rfl) ?_
  refine va_get (D := (dC, dI)) (ci := 9) (v := .int 0) (C := RX9) (T := TX9) (N := 11) hx hb hts i9 hown hK hP 2 rfl rfl 1 (nlt rfl) w3 (fun _ h9 => h9) rfl dX10_doubtful_11 ?_
  refine lv_if_eq (tgt := 20) hx hb dX10_doubtful_14 z826 (fun _ => ?_) (fun c1 => absurd (rfl) c1)
  refine lv_iconst (v := 0) hx hb dX10_doubtful_20 z8 ?_
  refine lv_istore_n (lv' := [(2, .int 0), (1, .ref (r 65)), (0, .ref (r 0))]) hx hb dX10_doubtful_21 rfl hl (nlt rfl) rfl (fun ls hl => ?_)
  refine lv_iload_n hx hb dX10_doubtful_22 rfl (lv_at hl 0 rfl) ?_
  refine lv_aload_n hx hb dX10_doubtful_23 rfl (lv_at hl 1 rfl) ?_
  refine va_get (D := (dC, dI)) (ci := 9) (v := .int 0) (C := RX9) (T := TX9) (N := 11) hx hb hts i9 hown hK hP 2 rfl rfl 0 (nlt rfl) w4 (fun _ h9 => h9) rfl dX10_doubtful_24 ?_
  refine lv_icmp_ge (tgt := 89) hx hb dX10_doubtful_27 z827 (fun _ => ?_) (fun c1 => absurd (z510) c1)
  refine lv_iconst (v := 0) hx hb dX10_doubtful_89 z8 ?_
  refine W.widen (k := 0) (n := 0) (by decide +kernel) (by decide +kernel) ?_
  exact ret_i hx hb hr hlocks hS (u := (fun _ => 0)) (hP.sub [] rfl) (hD.sub [] (by decide +kernel) rfl) dX10_doubtful_90

set_option maxHeartbeats 4000000 in
set_option maxRecDepth 100000 in
theorem k290_X11_layFromNone (l : Launch) (dC : Nat → ClassId) (dI : Nat → Nat → Nat) (cB cI cJ cZ cO : ClassId) (n : Nat → Nat) : CI l yX11_layFromNone wsX11_layFromNone ({ frames := 4, cells := 0, slots := 0, locals := 90 }) (dC, dI) (tyL cB cI cJ cZ cO) [.ref (n 0)] [((n 0), .inr (11, fM n)), ((n 7), .inl (cI, 2, .inl (upd (fun _ => 0) 0 3))), ((n 21), .inl (cI, 6, .inl (fun _ => 0))), ((n 5), .inl (cI, 2, .inl (fun _ => 0)))] (fun u => [((n 0), .inr (11, [.ref (n 1), .ref (n 2), .int 0, .int 0, .int 0, .int (-1), .int 0, .int 0, .int 0, .int 0, .long 0, .ref (n 3), .ref (n 4), .ref (n 5), .ref (n 6), .ref (n 7), .ref (n 8), .ref (n 9), .ref (n 10), .ref (n 11), .ref (n 12), .ref (n 13), .ref (n 14), .ref (n 15), .ref (n 16), .ref (n 17), .ref (n 18), .ref (n 19), .ref (n 20), .int 0, .int 0, .ref (n 21), .ref (n 22), .ref (n 23), .ref (n 24), .ref (n 25), .ref (n 26), .ref (n 27), .ref (n 28), .int 0, .ref (n 29), .ref (n 30), .int 0, .int 0, .ref (n 31), .ref (n 32), .ref (n 33), .ref (n 34), .int 0, .int 0, .int 0, .long 1000000, .ref (n 35), .ref (n 36), .int (-1), .int 0, .int 0, .int 0, .ref (n 37), .int 0, .ref (n 38), .ref (n 39), .ref (n 40), .ref (n 41), .ref (n 42), .ref (n 43), .int 0, .int 0, .ref (n 44), .ref (n 45), .ref (n 46)])), ((n 7), .inl (cI, 2, .inl (upd (fun _ => 0) 0 3))), ((n 21), .inl (cI, 6, .inl (upd (upd (upd (fun _ => 0) 0 (-1)) 1 (-1)) 2 (-1)))), ((n 5), .inl (cI, 2, .inl (fun _ => 0)))]) 1 := by
  intro sz
  refine ct_open (cc := cX11_layFromNone) (maxL := 1) (ret := (some .boolean)) (by decide) rfl (Nat.le_of_ble_eq_true rfl) ?_
  intro p e s m below meth c ls A hx hb hr hml hts hown hlocks hin hP hK hD hA hS hl
  have hl : lv_has ls 1 [(0, .ref (n 0))] := hl
  have hown : s.vm.findClass RX11 = some m.cls := hown
  refine lv_aload_n hx hb dX11_layFromNone_0 rfl (lv_at hl 0 rfl) ?_
  refine lv_iconst (v := 0) hx hb dX11_layFromNone_1 z8 ?_
  refine lv_iconst (v := 0) hx hb dX11_layFromNone_2 z8 ?_
  refine call_iV (ci := 11) (As := [.int 0, .int 0]) (rest := []) (wr := []) ⟨hx, hb, hml, hown, hts⟩ (k232_X11_layList l dC dI cB cI cJ cZ cO n) (cwV 2 hts gX11_layFromNone_X11_layList rfl rfl rfl ⟨rfl, z723⟩ ⟨Nat.le_of_ble_eq_true rfl, Nat.le_of_ble_eq_true rfl⟩) hK hP hD hS hA [0, 1, 2, 3] [] rfl rfl (by decide +kernel) (by decide +kernel) (by decide +kernel) rfl rfl rfl hl.1 (Nat.le_of_ble_eq_true rfl) rfl rfl dX11_layFromNone_3 ⟨by decide +kernel, by decide +kernel⟩ (fun u0 H locs hP hD hS => ?_)
  refine W.widen (k := 0) (n := 0) (by decide +kernel) (by decide +kernel) ?_
  exact ret_z hx hb hr rfl hlocks hS (u := (fun _ => 0)) (hP.sub [0, 1, 2, 3] rfl) (hD.sub [0, 1, 2, 3] (by decide +kernel) rfl) dX11_layFromNone_6

set_option maxHeartbeats 4000000 in
set_option maxRecDepth 100000 in
theorem k291_X11_doubtful (l : Launch) (dC : Nat → ClassId) (dI : Nat → Nat → Nat) (cB cI cJ cZ cO : ClassId) (n : Nat → Nat) : CI l yX11_doubtful wsX11_doubtful ({ frames := 5, cells := 0, slots := 0, locals := 110 }) (dC, dI) (tyL cB cI cJ cZ cO) [.ref (n 0)] [((n 0), .inr (11, fM n)), ((n 7), .inl (cI, 2, .inl (upd (fun _ => 0) 0 3))), ((n 21), .inl (cI, 6, .inl (fun _ => 0))), ((n 5), .inl (cI, 2, .inl (fun _ => 0)))] (fun _ => []) 0 := by
  intro sz
  refine ct_open (cc := cX11_doubtful) (maxL := 4) (ret := (some .int)) (by decide) rfl (Nat.le_of_ble_eq_true rfl) ?_
  intro p e s m below meth c ls A hx hb hr hml hts hown hlocks hin hP hK hD hA hS hl
  have hl : lv_has ls 4 [(0, .ref (n 0))] := hl
  have hown : s.vm.findClass RX11 = some m.cls := hown
  have i11 : ∀ w ∈ u_ws RX11 TX11 71, w ∈ wsX11_doubtful := fun _ h => List.mem_cons_of_mem _ (List.mem_append_right _ h)
  have w1 := hts (.fieldLink RX11 248 "GuildCharterModel" "laid" "I") (List.mem_cons_of_mem _ (List.mem_append_left _ (List.mem_append_left _ (List.mem_of_getElem? (i := 0) rfl))))
  have w2 := hts (.fieldLink RX11 390 "GuildCharterModel" "listMany" "I") (List.mem_cons_of_mem _ (List.mem_append_left _ (List.mem_append_left _ (List.mem_of_getElem? (i := 1) rfl))))
  refine lv_aload_n hx hb dX11_doubtful_0 rfl (lv_at hl 0 rfl) ?_
  refine lv_iconst (v := 0) hx hb dX11_doubtful_1 z8 ?_
  refine va_put (D := (dC, dI)) (ci := 11) (v := .int 0) (ty := tyX11 59) (C := RX11) (T := TX11) (N := 71) hx hb hts i11 tyX11 tyX11_ok nmX11 hown hK hP hD hS 0 rfl rfl 59 (nlt rfl) w1 (fun _ h9 => h9) rfl (tyX11_ok 59 (nlt rfl)) rfl rfl (nlt rfl) dX11_doubtful_2 (fun H locs hP hD hS => ?_)
  refine lv_aload_n hx hb dX11_doubtful_5 rfl (lv_at hl 0 rfl) ?_
  refine call_iV (ci := 11) (As := []) (rest := []) (wr := []) ⟨hx, hb, hml, hown, hts⟩ (k290_X11_layFromNone l dC dI cB cI cJ cZ cO n) (cwV 0 hts gX11_doubtful_X11_layFromNone rfl rfl rfl ⟨rfl, z831⟩ ⟨Nat.le_of_ble_eq_true rfl, Nat.le_of_ble_eq_true rfl⟩) hK hP hD hS hA [0, 1, 2, 3] [] rfl rfl (by decide +kernel) (by decide +kernel) (by decide +kernel) rfl rfl rfl hl.1 (Nat.le_of_ble_eq_true rfl) rfl rfl dX11_doubtful_6 ⟨by decide +kernel, by decide +kernel⟩ (fun u0 H locs hP hD hS => ?_)
  refine lv_if_ne (tgt := 15) hx hb dX11_doubtful_9 z829 (fun _ => ?_) (fun c1 => absurd c1 (z525))
  refine lv_iconst (v := 0) hx hb dX11_doubtful_15 z8 ?_
  refine lv_istore_n (lv' := [(1, .int 0), (0, .ref (n 0))]) hx hb dX11_doubtful_16 rfl hl (nlt rfl) rfl (fun ls hl => ?_)
  refine lv_iload_n hx hb dX11_doubtful_17 rfl (lv_at hl 0 rfl) ?_
  refine lv_aload_n hx hb dX11_doubtful_18 rfl (lv_at hl 1 rfl) ?_
  refine va_get (D := (dC, dI)) (ci := 11) (v := .int 0) (C := RX11) (T := TX11) (N := 71) hx hb hts i11 hown hK hP 0 rfl rfl 48 (nlt rfl) w2 (fun _ h9 => h9) rfl dX11_doubtful_19 ?_
  refine lv_icmp_ge (tgt := 69) hx hb dX11_doubtful_22 z830 (fun _ => ?_) (fun c1 => absurd (z510) c1)
  refine lv_iconst (v := 0) hx hb dX11_doubtful_69 z8 ?_
  refine W.widen (k := 0) (n := 0) (by decide +kernel) (by decide +kernel) ?_
  exact ret_i hx hb hr hlocks hS (u := (fun _ => 0)) (hP.sub [] rfl) (hD.sub [] (by decide +kernel) rfl) dX11_doubtful_70

set_option maxHeartbeats 4000000 in
set_option maxRecDepth 100000 in
theorem k292_X10_lots (l : Launch) (dC : Nat → ClassId) (dI : Nat → Nat → Nat) (cB cI cJ cZ cO : ClassId) (r : Nat → Nat) (x1 : Int32) (h0 : x1 < 0) : CI l yX10_lots wsX10_lots ({ frames := 4, cells := 0, slots := 0, locals := 98 }) (dC, dI) (tyL cB cI cJ cZ cO) [.ref (r 0), .int x1] [((r 0), .inr (10, fX r)), ((r 38), .inr (0, [.ref (r 39), .int 0, .ref (r 40), .ref (r 41), .ref (r 42), .ref (r 43), .ref (r 44), .int 0, .int 0])), ((r 65), .inr (9, [.int 0, .int 0, .ref (r 66), .ref (r 67), .ref (r 68), .ref (r 69), .int 0, .int 0, .int 0, .int 0, .int 0])), ((r 18), .inr (4, [.int 0, .ref (r 19), .ref (r 20), .int 0, .ref (r 21), .ref (r 22), .int 0, .ref (r 23), .ref (r 24), .int 0, .ref (r 25), .ref (r 26), .int 3, .int 0, .int 0, .ref (r 27)])), ((r 66), .inl (cI, 3000, .inl (fun _ => 0))), ((r 67), .inl (cI, 3000, .inl (fun _ => 0))), ((r 69), .inl (cI, 3000, .inl (fun _ => 0))), ((r 68), .inl (cI, 9000, .inl (fun _ => 0))), ((r 55), .inr (5, [.ref (r 56), .ref (r 57)]))] (fun _ => []) (-1000000) := by
  intro sz
  refine ct_open (cc := cX10_lots) (maxL := 5) (ret := (some .int)) (by decide) rfl (Nat.le_of_ble_eq_true rfl) ?_
  intro p e s m below meth c ls A hx hb hr hml hts hown hlocks hin hP hK hD hA hS hl
  have hl : lv_has ls 5 [(0, .ref (r 0)), (1, .int x1)] := hl
  have hown : s.vm.findClass RX10 = some m.cls := hown
  have w0 := hts (.constant RX10 153 (-1000000)) (List.mem_cons_of_mem _ (List.mem_append_left _ (List.mem_append_left _ (List.mem_append_left _ (List.mem_append_left _ (List.mem_append_left _ (List.mem_append_left _ (List.mem_append_left _ (List.mem_of_getElem? (i := 0) rfl)))))))))
  refine lv_aload_n hx hb dX10_lots_0 rfl (lv_at hl 0 rfl) ?_
  refine call_rV (ci := 10) (As := []) (rest := []) (wr := []) ⟨hx, hb, hml, hown, hts⟩ (k288_X10_growWhole l dC dI cB cI cJ cZ cO r) (cwV 0 hts gX10_lots_X10_growWhole rfl rfl rfl ⟨rfl, z828⟩ ⟨Nat.le_of_ble_eq_true rfl, Nat.le_of_ble_eq_true rfl⟩) hK hP hD hS hA [0, 1, 2, 3, 4, 5, 6, 7, 8] [] rfl rfl (by decide +kernel) (by decide +kernel) (by decide +kernel) rfl rfl rfl hl.1 (Nat.le_of_ble_eq_true rfl) rfl rfl dX10_lots_1 ⟨by decide +kernel, by decide +kernel⟩ (fun u0 H locs hP hD hS => ?_)
  refine lv_astore_n (lv' := [(2, .ref (r 65)), (0, .ref (r 0)), (1, .int x1)]) hx hb dX10_lots_4 rfl hl (nlt rfl) rfl (fun ls hl => ?_)
  refine lv_iload_n hx hb dX10_lots_5 rfl (lv_at hl 2 rfl) ?_
  refine call_iS (As := [.int x1]) (rest := []) (wr := [((r 0), .inr (10, fX r)), ((r 38), .inr (0, [.ref (r 39), .int 0, .ref (r 40), .ref (r 41), .ref (r 42), .ref (r 43), .ref (r 44), .int 0, .int 0])), ((r 65), .inr (9, [.int 0, .int 0, .ref (r 66), .ref (r 67), .ref (r 68), .ref (r 69), .int 3, .int 1, .int 0, .int 0, .int 0])), ((r 18), .inr (4, [.int 0, .ref (r 19), .ref (r 20), .int 0, .ref (r 21), .ref (r 22), .int 0, .ref (r 23), .ref (r 24), .int 0, .ref (r 25), .ref (r 26), .int 3, .int 0, .int 0, .ref (r 27)])), ((r 66), .inl (cI, 3000, .inl (upd (fun _ => 0) 0 (-1)))), ((r 67), .inl (cI, 3000, .inl (fun _ => 0))), ((r 69), .inl (cI, 3000, .inl (fun _ => 0))), ((r 68), .inl (cI, 9000, .inl (fun _ => 0))), ((r 55), .inr (5, [.ref (r 56), .ref (r 57)]))]) ⟨hx, hb, hml, hown, hts⟩ (k201_X10_isGuild l dC dI cB cI cJ cZ cO x1 h0) (va_cwS 1 hts gX10_lots_X10_isGuild rfl rfl rfl z621 ⟨Nat.le_of_ble_eq_true rfl, Nat.le_of_ble_eq_true rfl⟩) hK hP hD hS hA [] [0, 1, 2, 3, 4, 5, 6, 7, 8] rfl rfl (by decide +kernel) (by decide +kernel) (by decide +kernel) hl.1 (Nat.le_of_ble_eq_true rfl) rfl rfl dX10_lots_6 ⟨by decide +kernel, by decide +kernel⟩ (fun u1 H locs hP hD hS => ?_)
  refine lv_if_eq (tgt := 19) hx hb dX10_lots_9 z684 (fun _ => ?_) (fun c1 => absurd (rfl) c1)
  refine lv_ldc hx hb hown w0 dX10_lots_19 ?_
  refine W.widen (k := 0) (n := 0) (by decide +kernel) (by decide +kernel) ?_
  exact ret_i hx hb hr hlocks hS (u := (fun _ => 0)) (hP.sub [] rfl) (hD.sub [] (by decide +kernel) rfl) dX10_lots_21

set_option maxHeartbeats 4000000 in
set_option maxRecDepth 100000 in
theorem k293_X11_lots (l : Launch) (dC : Nat → ClassId) (dI : Nat → Nat → Nat) (cB cI cJ cZ cO : ClassId) (n : Nat → Nat) (x1 : Int32) (h0 : x1 < 0) : CI l yX11_lots wsX11_lots ({ frames := 2, cells := 0, slots := 0, locals := 42 }) (dC, dI) (tyL cB cI cJ cZ cO) [.ref (n 0), .int x1] [((n 0), .inr (11, fM n))] (fun _ => []) (-1000000) := by
  intro sz
  refine ct_open (cc := cX11_lots) (maxL := 4) (ret := (some .int)) (by decide) rfl (Nat.le_of_ble_eq_true rfl) ?_
  intro p e s m below meth c ls A hx hb hr hml hts hown hlocks hin hP hK hD hA hS hl
  have hl : lv_has ls 4 [(0, .ref (n 0)), (1, .int x1)] := hl
  have hown : s.vm.findClass RX11 = some m.cls := hown
  have w0 := hts (.constant RX11 311 (-1000000)) (List.mem_cons_of_mem _ (List.mem_append_left _ (List.mem_append_left _ (List.mem_of_getElem? (i := 1) rfl))))
  refine lv_iload_n hx hb dX11_lots_0 rfl (lv_at hl 1 rfl) ?_
  refine call_iS (As := [.int x1]) (rest := []) (wr := [((n 0), .inr (11, fM n))]) ⟨hx, hb, hml, hown, hts⟩ (k203_X11_isGuild l dC dI cB cI cJ cZ cO x1 h0) (va_cwS 1 hts gX11_lots_X11_isGuild rfl rfl rfl z623 ⟨Nat.le_of_ble_eq_true rfl, Nat.le_of_ble_eq_true rfl⟩) hK hP hD hS hA [] [0] rfl rfl (by decide +kernel) (by decide +kernel) (by decide +kernel) hl.1 (Nat.le_of_ble_eq_true rfl) rfl rfl dX11_lots_1 ⟨by decide +kernel, by decide +kernel⟩ (fun u0 H locs hP hD hS => ?_)
  refine lv_if_eq (tgt := 21) hx hb dX11_lots_4 z602 (fun _ => ?_) (fun c1 => absurd (rfl) c1)
  refine lv_ldcw hx hb hown w0 dX11_lots_21 ?_
  refine W.widen (k := 0) (n := 0) (by decide +kernel) (by decide +kernel) ?_
  exact ret_i hx hb hr hlocks hS (u := (fun _ => 0)) (hP.sub [] rfl) (hD.sub [] (by decide +kernel) rfl) dX11_lots_24
