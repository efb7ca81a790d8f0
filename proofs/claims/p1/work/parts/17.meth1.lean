set_option maxHeartbeats 4000000 in
set_option maxRecDepth 100000 in
theorem k33_X10_end (l : Launch) (dC : Nat → ClassId) (dI : Nat → Nat → Nat) (cB cI cJ cZ cO : ClassId) (r : Nat → Nat) (x1 : Int32) (h0 : x1 < 0) : CI l yX10_end wsX10_end ({ frames := 0, cells := 0, slots := 0, locals := 0 }) (dC, dI) (tyL cB cI cJ cZ cO) [.ref (r 0), .int x1] [((r 0), .inr (10, fX r))] (fun _ => []) (-1) := by
  intro sz
  refine ct_open (cc := cX10_end) (maxL := 2) (ret := (some .int)) (by decide) rfl (Nat.le_of_ble_eq_true rfl) ?_
  intro p e s m below meth c ls A hx hb hr hml hts hown hlocks hin hP hK hD hA hS hl
  have hl : lv_has ls 2 [(0, .ref (r 0)), (1, .int x1)] := hl
  have hown : s.vm.findClass RX10 = some m.cls := hown
  refine lv_iload_n hx hb dX10_end_0 rfl (lv_at hl 1 rfl) ?_
  refine lv_if_lt (tgt := 12) hx hb dX10_end_1 z509 (fun _ => ?_) (fun c1 => absurd (h0) c1)
  refine lv_iconst (v := (-1)) hx hb dX10_end_12 z128 ?_
  refine W.widen (k := 0) (n := 0) (by decide +kernel) (by decide +kernel) ?_
  exact ret_i hx hb hr hlocks hS (u := (fun _ => 0)) (hP.sub [] rfl) (hD.sub [] (by decide +kernel) rfl) dX10_end_13

set_option maxHeartbeats 4000000 in
set_option maxRecDepth 100000 in
theorem k34_X11_end (l : Launch) (dC : Nat → ClassId) (dI : Nat → Nat → Nat) (cB cI cJ cZ cO : ClassId) (n : Nat → Nat) (x1 : Int32) (h0 : x1 < 0) : CI l yX11_end wsX11_end ({ frames := 0, cells := 0, slots := 0, locals := 0 }) (dC, dI) (tyL cB cI cJ cZ cO) [.ref (n 0), .int x1] [((n 0), .inr (11, fM n))] (fun _ => []) (-1) := by
  intro sz
  refine ct_open (cc := cX11_end) (maxL := 2) (ret := (some .int)) (by decide) rfl (Nat.le_of_ble_eq_true rfl) ?_
  intro p e s m below meth c ls A hx hb hr hml hts hown hlocks hin hP hK hD hA hS hl
  have hl : lv_has ls 2 [(0, .ref (n 0)), (1, .int x1)] := hl
  have hown : s.vm.findClass RX11 = some m.cls := hown
  refine lv_iload_n hx hb dX11_end_0 rfl (lv_at hl 1 rfl) ?_
  refine lv_if_lt (tgt := 12) hx hb dX11_end_1 z509 (fun _ => ?_) (fun c1 => absurd (h0) c1)
  refine lv_iconst (v := (-1)) hx hb dX11_end_12 z128 ?_
  refine W.widen (k := 0) (n := 0) (by decide +kernel) (by decide +kernel) ?_
  exact ret_i hx hb hr hlocks hS (u := (fun _ => 0)) (hP.sub [] rfl) (hD.sub [] (by decide +kernel) rfl) dX11_end_13

set_option maxHeartbeats 4000000 in
set_option maxRecDepth 100000 in
theorem k35_X10_end (l : Launch) (dC : Nat → ClassId) (dI : Nat → Nat → Nat) (cB cI cJ cZ cO : ClassId) (r : Nat → Nat) : CI l yX10_end wsX10_end ({ frames := 0, cells := 0, slots := 0, locals := 0 }) (dC, dI) (tyL cB cI cJ cZ cO) [.ref (r 0), .int 0] [((r 0), .inr (10, fX r))] (fun _ => []) 0 := by
  intro sz
  refine ct_open (cc := cX10_end) (maxL := 2) (ret := (some .int)) (by decide) rfl (Nat.le_of_ble_eq_true rfl) ?_
  intro p e s m below meth c ls A hx hb hr hml hts hown hlocks hin hP hK hD hA hS hl
  have hl : lv_has ls 2 [(0, .ref (r 0)), (1, .int 0)] := hl
  have hown : s.vm.findClass RX10 = some m.cls := hown
  have i10 : ∀ w ∈ u_ws RX10 TX10 18, w ∈ wsX10_end := fun _ h => List.mem_cons_of_mem _ (List.mem_append_right _ h)
  have w1 := hts (.fieldLink RX10 92 "GuildCharter" "tapeSize" "I") (List.mem_cons_of_mem _ (List.mem_append_left _ (List.mem_of_getElem? (i := 0) rfl)))
  refine lv_iload_n hx hb dX10_end_0 rfl (lv_at hl 1 rfl) ?_
  refine lv_if_lt (tgt := 12) hx hb dX10_end_1 z509 (fun c1 => absurd c1 (z125)) (fun _ => ?_)
  refine lv_iload_n hx hb dX10_end_4 rfl (lv_at hl 1 rfl) ?_
  refine lv_aload_n hx hb dX10_end_5 rfl (lv_at hl 0 rfl) ?_
  refine va_get (D := (dC, dI)) (ci := 10) (v := .int 0) (C := RX10) (T := TX10) (N := 18) hx hb hts i10 hown hK hP 0 rfl rfl 1 (nlt rfl) w1 (fun _ h9 => h9) rfl dX10_end_6 ?_
  refine lv_icmp_le (tgt := 14) hx hb dX10_end_9 z511 (fun _ => ?_) (fun c1 => absurd (z510) c1)
  refine lv_aload_n hx hb dX10_end_14 rfl (lv_at hl 0 rfl) ?_
  refine lv_iload_n hx hb dX10_end_15 rfl (lv_at hl 1 rfl) ?_
  refine va_put (D := (dC, dI)) (ci := 10) (v := .int 0) (ty := tyX10 1) (C := RX10) (T := TX10) (N := 18) hx hb hts i10 tyX10 tyX10_ok nmX10 hown hK hP hD hS 0 rfl rfl 1 (nlt rfl) w1 (fun _ h9 => h9) rfl (tyX10_ok 1 (nlt rfl)) rfl rfl (nlt rfl) dX10_end_16 (fun H locs hP hD hS => ?_)
  refine lv_iload_n hx hb dX10_end_19 rfl (lv_at hl 1 rfl) ?_
  refine W.widen (k := 0) (n := 0) (by decide +kernel) (by decide +kernel) ?_
  exact ret_i hx hb hr hlocks hS (u := (fun _ => 0)) (hP.sub [] rfl) (hD.sub [] (by decide +kernel) rfl) dX10_end_20

set_option maxHeartbeats 4000000 in
set_option maxRecDepth 100000 in
theorem k36_X11_end (l : Launch) (dC : Nat → ClassId) (dI : Nat → Nat → Nat) (cB cI cJ cZ cO : ClassId) (n : Nat → Nat) : CI l yX11_end wsX11_end ({ frames := 0, cells := 0, slots := 0, locals := 0 }) (dC, dI) (tyL cB cI cJ cZ cO) [.ref (n 0), .int 0] [((n 0), .inr (11, fM n))] (fun _ => []) 0 := by
  intro sz
  refine ct_open (cc := cX11_end) (maxL := 2) (ret := (some .int)) (by decide) rfl (Nat.le_of_ble_eq_true rfl) ?_
  intro p e s m below meth c ls A hx hb hr hml hts hown hlocks hin hP hK hD hA hS hl
  have hl : lv_has ls 2 [(0, .ref (n 0)), (1, .int 0)] := hl
  have hown : s.vm.findClass RX11 = some m.cls := hown
  have i11 : ∀ w ∈ u_ws RX11 TX11 71, w ∈ wsX11_end := fun _ h => List.mem_cons_of_mem _ (List.mem_append_right _ h)
  have w1 := hts (.fieldLink RX11 230 "GuildCharterModel" "taped" "I") (List.mem_cons_of_mem _ (List.mem_append_left _ (List.mem_of_getElem? (i := 0) rfl)))
  refine lv_iload_n hx hb dX11_end_0 rfl (lv_at hl 1 rfl) ?_
  refine lv_if_lt (tgt := 12) hx hb dX11_end_1 z509 (fun c1 => absurd c1 (z125)) (fun _ => ?_)
  refine lv_iload_n hx hb dX11_end_4 rfl (lv_at hl 1 rfl) ?_
  refine lv_aload_n hx hb dX11_end_5 rfl (lv_at hl 0 rfl) ?_
  refine va_get (D := (dC, dI)) (ci := 11) (v := .int 0) (C := RX11) (T := TX11) (N := 71) hx hb hts i11 hown hK hP 0 rfl rfl 2 (nlt rfl) w1 (fun _ h9 => h9) rfl dX11_end_6 ?_
  refine lv_icmp_le (tgt := 14) hx hb dX11_end_9 z511 (fun _ => ?_) (fun c1 => absurd (z510) c1)
  refine lv_aload_n hx hb dX11_end_14 rfl (lv_at hl 0 rfl) ?_
  refine lv_iload_n hx hb dX11_end_15 rfl (lv_at hl 1 rfl) ?_
  refine va_put (D := (dC, dI)) (ci := 11) (v := .int 0) (ty := tyX11 2) (C := RX11) (T := TX11) (N := 71) hx hb hts i11 tyX11 tyX11_ok nmX11 hown hK hP hD hS 0 rfl rfl 2 (nlt rfl) w1 (fun _ h9 => h9) rfl (tyX11_ok 2 (nlt rfl)) rfl rfl (nlt rfl) dX11_end_16 (fun H locs hP hD hS => ?_)
  refine lv_iload_n hx hb dX11_end_19 rfl (lv_at hl 1 rfl) ?_
  refine W.widen (k := 0) (n := 0) (by decide +kernel) (by decide +kernel) ?_
  exact ret_i hx hb hr hlocks hS (u := (fun _ => 0)) (hP.sub [] rfl) (hD.sub [] (by decide +kernel) rfl) dX11_end_20

set_option maxHeartbeats 4000000 in
set_option maxRecDepth 100000 in
theorem k37_X10_end (l : Launch) (dC : Nat → ClassId) (dI : Nat → Nat → Nat) (cB cI cJ cZ cO : ClassId) (r : Nat → Nat) (x1 : Int32) (h0 : ¬ x1 < 0) (h1 : ¬ x1 ≤ 0) : CI l yX10_end wsX10_end ({ frames := 0, cells := 0, slots := 0, locals := 0 }) (dC, dI) (tyL cB cI cJ cZ cO) [.ref (r 0), .int x1] [((r 0), .inr (10, fX r))] (fun _ => []) (-1) := by
  intro sz
  refine ct_open (cc := cX10_end) (maxL := 2) (ret := (some .int)) (by decide) rfl (Nat.le_of_ble_eq_true rfl) ?_
  intro p e s m below meth c ls A hx hb hr hml hts hown hlocks hin hP hK hD hA hS hl
  have hl : lv_has ls 2 [(0, .ref (r 0)), (1, .int x1)] := hl
  have hown : s.vm.findClass RX10 = some m.cls := hown
  have i10 : ∀ w ∈ u_ws RX10 TX10 18, w ∈ wsX10_end := fun _ h => List.mem_cons_of_mem _ (List.mem_append_right _ h)
  have w1 := hts (.fieldLink RX10 92 "GuildCharter" "tapeSize" "I") (List.mem_cons_of_mem _ (List.mem_append_left _ (List.mem_of_getElem? (i := 0) rfl)))
  refine lv_iload_n hx hb dX10_end_0 rfl (lv_at hl 1 rfl) ?_
  refine lv_if_lt (tgt := 12) hx hb dX10_end_1 z509 (fun c1 => absurd c1 (h0)) (fun _ => ?_)
  refine lv_iload_n hx hb dX10_end_4 rfl (lv_at hl 1 rfl) ?_
  refine lv_aload_n hx hb dX10_end_5 rfl (lv_at hl 0 rfl) ?_
  refine va_get (D := (dC, dI)) (ci := 10) (v := .int 0) (C := RX10) (T := TX10) (N := 18) hx hb hts i10 hown hK hP 0 rfl rfl 1 (nlt rfl) w1 (fun _ h9 => h9) rfl dX10_end_6 ?_
  refine lv_icmp_le (tgt := 14) hx hb dX10_end_9 z511 (fun c1 => absurd c1 (h1)) (fun _ => ?_)
  refine lv_iconst (v := (-1)) hx hb dX10_end_12 z128 ?_
  refine W.widen (k := 0) (n := 0) (by decide +kernel) (by decide +kernel) ?_
  exact ret_i hx hb hr hlocks hS (u := (fun _ => 0)) (hP.sub [] rfl) (hD.sub [] (by decide +kernel) rfl) dX10_end_13

set_option maxHeartbeats 4000000 in
set_option maxRecDepth 100000 in
theorem k38_X11_end (l : Launch) (dC : Nat → ClassId) (dI : Nat → Nat → Nat) (cB cI cJ cZ cO : ClassId) (n : Nat → Nat) (x1 : Int32) (h0 : ¬ x1 < 0) (h1 : ¬ x1 ≤ 0) : CI l yX11_end wsX11_end ({ frames := 0, cells := 0, slots := 0, locals := 0 }) (dC, dI) (tyL cB cI cJ cZ cO) [.ref (n 0), .int x1] [((n 0), .inr (11, fM n))] (fun _ => []) (-1) := by
  intro sz
  refine ct_open (cc := cX11_end) (maxL := 2) (ret := (some .int)) (by decide) rfl (Nat.le_of_ble_eq_true rfl) ?_
  intro p e s m below meth c ls A hx hb hr hml hts hown hlocks hin hP hK hD hA hS hl
  have hl : lv_has ls 2 [(0, .ref (n 0)), (1, .int x1)] := hl
  have hown : s.vm.findClass RX11 = some m.cls := hown
  have i11 : ∀ w ∈ u_ws RX11 TX11 71, w ∈ wsX11_end := fun _ h => List.mem_cons_of_mem _ (List.mem_append_right _ h)
  have w1 := hts (.fieldLink RX11 230 "GuildCharterModel" "taped" "I") (List.mem_cons_of_mem _ (List.mem_append_left _ (List.mem_of_getElem? (i := 0) rfl)))
  refine lv_iload_n hx hb dX11_end_0 rfl (lv_at hl 1 rfl) ?_
  refine lv_if_lt (tgt := 12) hx hb dX11_end_1 z509 (fun c1 => absurd c1 (h0)) (fun _ => ?_)
  refine lv_iload_n hx hb dX11_end_4 rfl (lv_at hl 1 rfl) ?_
  refine lv_aload_n hx hb dX11_end_5 rfl (lv_at hl 0 rfl) ?_
  refine va_get (D := (dC, dI)) (ci := 11) (v := .int 0) (C := RX11) (T := TX11) (N := 71) hx hb hts i11 hown hK hP 0 rfl rfl 2 (nlt rfl) w1 (fun _ h9 => h9) rfl dX11_end_6 ?_
  refine lv_icmp_le (tgt := 14) hx hb dX11_end_9 z511 (fun c1 => absurd c1 (h1)) (fun _ => ?_)
  refine lv_iconst (v := (-1)) hx hb dX11_end_12 z128 ?_
  refine W.widen (k := 0) (n := 0) (by decide +kernel) (by decide +kernel) ?_
  exact ret_i hx hb hr hlocks hS (u := (fun _ => 0)) (hP.sub [] rfl) (hD.sub [] (by decide +kernel) rfl) dX11_end_13

set_option maxHeartbeats 4000000 in
set_option maxRecDepth 100000 in
theorem k39_J7_fill_53178 (l : Launch) (dC : Nat → ClassId) (dI : Nat → Nat → Nat) (cB cI cJ cZ cO : ClassId) (r : Nat → Nat) : CV l yJ7_fill_53178 wsJ7_fill_53178 ({ frames := 0, cells := 0, slots := 0, locals := 0 }) (dC, dI) (tyL cB cI cJ cZ cO) [.ref (r 32), .int 0] [((r 32), .inl (cI, 192, .inl (fun _ => 0)))] (fun u => [((r 32), .inl (cI, 192, .inl (fun _ => 0)))]) := by
  intro sz
  refine ct_open (cc := cJ7_fill_53178) (maxL := 4) (ret := none) (by decide) rfl (Nat.le_of_ble_eq_true rfl) ?_
  intro p e s m below meth c ls A hx hb hr hml hts hown hlocks hin hP hK hD hA hS hl
  have hl : lv_has ls 4 [(0, .ref (r 32)), (1, .int 0)] := hl
  have hown : s.vm.findClass RJ7 = some m.cls := hown
  refine lv_iconst (v := 0) hx hb dJ7_fill_53178_0 z8 ?_
  refine lv_istore_n (lv' := [(2, .int 0), (0, .ref (r 32)), (1, .int 0)]) hx hb dJ7_fill_53178_1 rfl hl (nlt rfl) rfl (fun ls hl => ?_)
  refine lv_aload_n hx hb dJ7_fill_53178_2 rfl (lv_at hl 1 rfl) ?_
  refine va_alen hx hb hK hP 0 1 rfl rfl (v := 192) rfl dJ7_fill_53178_3 ?_
  refine lv_istore_n (lv' := [(3, .int 192), (2, .int 0), (0, .ref (r 32)), (1, .int 0)]) hx hb dJ7_fill_53178_4 rfl hl (nlt rfl) rfl (fun ls hl => ?_)
  have loop : ∀ (Q : State → Prop), (∀ (H : Heap) (locs : List Loc) (ls : Array Slot), va_P (dC, dI) vwCl [((r 32), .inl (cI, 192, .inl (fun _ => 0)))] H → va_D A [((r 32), .inl (cI, 192, .inl (fun _ => 0)))] → va_S A s.heap H locs → lv_has ls 4 [(3, .int 192), (2, .int 192), (0, .ref (r 32)), (1, .int 0)] → W p l e ({ frames := 0, cells := 0, slots := 0, locals := 0 } : Room) s m ([.ref (r 32), .int 0] : List Value).toArray below meth c H locs 0 0 Q (F0 m 5 ls [])) → ∀ (k i : Nat), i + k = 192 → ∀ (H : Heap) (locs : List Loc) (ls : Array Slot), va_P (dC, dI) vwCl [((r 32), .inl (cI, 192, .inl (fun _ => 0)))] H → va_D A [((r 32), .inl (cI, 192, .inl (fun _ => 0)))] → va_S A s.heap H locs → lv_has ls 4 [(3, .int 192), (2, .int (nI i)), (0, .ref (r 32)), (1, .int 0)] → W p l e ({ frames := 0, cells := 0, slots := 0, locals := 0 } : Room) s m ([.ref (r 32), .int 0] : List Value).toArray below meth c H locs 0 0 Q (F0 m 5 ls []) := by
    intro Q hQ k
    induction k with
    | zero =>
      intro i hi H locs ls hP hD hS hl
      obtain rfl : i = 192 := by omega
      exact hQ H locs ls hP hD hS hl
    | succ k ih =>
      intro i hi H locs ls hP hD hS hl
      have hlt : i < 192 := by omega
      refine lv_iload_n hx hb dJ7_fill_53178_5 rfl (lv_at hl 1 rfl) ?_
      refine lv_iload_n hx hb dJ7_fill_53178_6 rfl (lv_at hl 0 rfl) ?_
      refine lv_icmp_ge (tgt := 20) hx hb dJ7_fill_53178_7 z162 (fun c1 => absurd c1 (nI_ge hlt (by decide))) (fun _ => ?_)
      refine lv_aload_n hx hb dJ7_fill_53178_10 rfl (lv_at hl 2 rfl) ?_
      refine lv_iload_n hx hb dJ7_fill_53178_11 rfl (lv_at hl 1 rfl) ?_
      refine lv_iload_n hx hb dJ7_fill_53178_12 rfl (lv_at hl 3 rfl) ?_
      refine my_iastS hx hb hK hP hD hS 0 1 rfl rfl (ix_nI (n := 192) (by omega) (by decide)) rfl dJ7_fill_53178_13 (fun H locs hP hD hS => ?_)
      refine lv_iinc (v := nI (i + 1)) (lv' := [(2, .int (nI (i + 1))), (3, .int 192), (0, .ref (r 32)), (1, .int 0)]) hx hb dJ7_fill_53178_14 hl (k := 1) rfl (nI_1 i) (nlt rfl) rfl (fun ls hl => ?_)
      refine lv_goto (tgt := 5) hx hb dJ7_fill_53178_17 z163 ?_
      exact ih (i + 1) (by omega) H locs ls hP hD hS (lv_sub hl [1, 0, 2, 3] rfl)
  refine loop _ (fun H locs ls hP hD hS hl => ?_) 192 0 rfl _ _ ls hP hD hS hl
  refine lv_iload_n hx hb dJ7_fill_53178_5 rfl (lv_at hl 1 rfl) ?_
  refine lv_iload_n hx hb dJ7_fill_53178_6 rfl (lv_at hl 0 rfl) ?_
  refine lv_icmp_ge (tgt := 20) hx hb dJ7_fill_53178_7 z162 (fun _ => ?_) (fun c1 => absurd (z512) c1)
  refine W.widen (k := 0) (n := 0) (by decide +kernel) (by decide +kernel) ?_
  exact ret_v hx hb hr hlocks hS (u := (fun _ => 0)) (hP.sub [0] rfl) (hD.sub [0] (by decide +kernel) rfl) dJ7_fill_53178_20

set_option maxHeartbeats 4000000 in
set_option maxRecDepth 100000 in
theorem k40_X4_empty (l : Launch) (dC : Nat → ClassId) (dI : Nat → Nat → Nat) (cB cI cJ cZ cO : ClassId) (r : Nat → Nat) : CV l yX4_empty wsX4_empty ({ frames := 1, cells := 0, slots := 0, locals := 23 }) (dC, dI) (tyL cB cI cJ cZ cO) [.ref (r 28)] [((r 28), .inr (4, [.int 0, .ref (r 29), .ref (r 30), .int 0, .ref (r 31), .ref (r 32), .int 0, .ref (r 33), .ref (r 34), .int 0, .ref (r 35), .ref (r 36), .int 3, .int 0, .int 0, .ref (r 37)])), ((r 32), .inl (cI, 192, .inl (fun _ => 0))), ((r 31), .inl (cZ, 64, .inl (fun _ => 0))), ((r 34), .inl (cI, 9, .inl (fun _ => 0)))] (fun u => [((r 28), .inr (4, [.int 0, .ref (r 29), .ref (r 30), .int 0, .ref (r 31), .ref (r 32), .int 0, .ref (r 33), .ref (r 34), .int 0, .ref (r 35), .ref (r 36), .int 3, .int 0, .int 0, .ref (r 37)])), ((r 32), .inl (cI, 192, .inl (fun _ => 0))), ((r 31), .inl (cZ, 64, .inl (fun _ => 0))), ((r 34), .inl (cI, 9, .inl (fun _ => 0)))]) := by
  intro sz
  refine ct_open (cc := cX4_empty) (maxL := 2) (ret := none) (by decide) rfl (Nat.le_of_ble_eq_true rfl) ?_
  intro p e s m below meth c ls A hx hb hr hml hts hown hlocks hin hP hK hD hA hS hl
  have hl : lv_has ls 2 [(0, .ref (r 28))] := hl
  have hown : s.vm.findClass RX4 = some m.cls := hown
  have i4 : ∀ w ∈ u_ws RX4 TX4 16, w ∈ wsX4_empty := fun _ h => List.mem_cons_of_mem _ (List.mem_append_right _ h)
  have w1 := hts (.fieldLink RX4 45 "GuildCharter$Port" "words" "I") (List.mem_cons_of_mem _ (List.mem_append_left _ (List.mem_of_getElem? (i := 0) rfl)))
  have w2 := hts (.fieldLink RX4 48 "GuildCharter$Port" "pairs" "I") (List.mem_cons_of_mem _ (List.mem_append_left _ (List.mem_of_getElem? (i := 1) rfl)))
  have w3 := hts (.fieldLink RX4 23 "GuildCharter$Port" "pairWorths" "[I") (List.mem_cons_of_mem _ (List.mem_append_left _ (List.mem_of_getElem? (i := 2) rfl)))
  have w4 := hts (.fieldLink RX4 19 "GuildCharter$Port" "paired" "[Z") (List.mem_cons_of_mem _ (List.mem_append_left _ (List.mem_of_getElem? (i := 3) rfl)))
  have w5 := hts (.fieldLink RX4 57 "GuildCharter$Port" "rules" "I") (List.mem_cons_of_mem _ (List.mem_append_left _ (List.mem_of_getElem? (i := 4) rfl)))
  have w6 := hts (.fieldLink RX4 29 "GuildCharter$Port" "firstAlts" "[I") (List.mem_cons_of_mem _ (List.mem_append_left _ (List.mem_of_getElem? (i := 5) rfl)))
  have w7 := hts (.fieldLink RX4 60 "GuildCharter$Port" "alts" "I") (List.mem_cons_of_mem _ (List.mem_append_left _ (List.mem_of_getElem? (i := 6) rfl)))
  have w8 := hts (.fieldLink RX4 41 "GuildCharter$Port" "length" "I") (List.mem_cons_of_mem _ (List.mem_append_left _ (List.mem_of_getElem? (i := 7) rfl)))
  have w9 := hts (.fieldLink RX4 63 "GuildCharter$Port" "lengthTold" "Z") (List.mem_cons_of_mem _ (List.mem_append_left _ (List.mem_of_getElem? (i := 8) rfl)))
  have w10 := hts (.fieldLink RX4 67 "GuildCharter$Port" "turnCount" "I") (List.mem_cons_of_mem _ (List.mem_append_left _ (List.mem_of_getElem? (i := 9) rfl)))
  refine lv_aload_n hx hb dX4_empty_0 rfl (lv_at hl 0 rfl) ?_
  refine lv_iconst (v := 0) hx hb dX4_empty_1 z8 ?_
  refine va_put (D := (dC, dI)) (ci := 4) (v := .int 0) (ty := tyX4 0) (C := RX4) (T := TX4) (N := 16) hx hb hts i4 tyX4 tyX4_ok nmX4 hown hK hP hD hS 0 rfl rfl 0 (nlt rfl) w1 (fun _ h9 => h9) rfl (tyX4_ok 0 (nlt rfl)) rfl rfl (nlt rfl) dX4_empty_2 (fun H locs hP hD hS => ?_)
  refine lv_aload_n hx hb dX4_empty_5 rfl (lv_at hl 0 rfl) ?_
  refine lv_iconst (v := 0) hx hb dX4_empty_6 z8 ?_
  refine va_put (D := (dC, dI)) (ci := 4) (v := .int 0) (ty := tyX4 3) (C := RX4) (T := TX4) (N := 16) hx hb hts i4 tyX4 tyX4_ok nmX4 hown hK hP hD hS 0 rfl rfl 3 (nlt rfl) w2 (fun _ h9 => h9) rfl (tyX4_ok 3 (nlt rfl)) rfl rfl (nlt rfl) dX4_empty_7 (fun H locs hP hD hS => ?_)
  refine lv_aload_n hx hb dX4_empty_10 rfl (lv_at hl 0 rfl) ?_
  refine va_get (D := (dC, dI)) (ci := 4) (v := .ref (r 32)) (C := RX4) (T := TX4) (N := 16) hx hb hts i4 hown hK hP 0 rfl rfl 5 (nlt rfl) w3 (fun _ h9 => h9) rfl dX4_empty_11 ?_
  refine lv_iconst (v := 0) hx hb dX4_empty_14 z8 ?_
  refine call_vS (As := [.ref (r 32), .int 0]) (rest := []) (wr := [((r 28), .inr (4, [.int 0, .ref (r 29), .ref (r 30), .int 0, .ref (r 31), .ref (r 32), .int 0, .ref (r 33), .ref (r 34), .int 0, .ref (r 35), .ref (r 36), .int 3, .int 0, .int 0, .ref (r 37)])), ((r 31), .inl (cZ, 64, .inl (fun _ => 0))), ((r 34), .inl (cI, 9, .inl (fun _ => 0)))]) ⟨hx, hb, hml, hown, hts⟩ (k39_J7_fill_53178 l dC dI cB cI cJ cZ cO r) (va_cwS 2 hts gX4_empty_J7_fill_53178 rfl rfl rfl z164 ⟨Nat.le_of_ble_eq_true rfl, Nat.le_of_ble_eq_true rfl⟩) hK hP hD hS hA [1] [0, 2, 3] rfl rfl (by decide +kernel) (by decide +kernel) (by decide +kernel) hl.1 (Nat.le_of_ble_eq_true rfl) rfl rfl dX4_empty_15 ⟨by decide +kernel, by decide +kernel⟩ (fun u0 H locs hP hD hS => ?_)
  refine lv_iconst (v := 0) hx hb dX4_empty_18 z8 ?_
  refine lv_istore_n (lv' := [(1, .int 0), (0, .ref (r 28))]) hx hb dX4_empty_19 rfl hl (nlt rfl) rfl (fun ls hl => ?_)
  have loop : ∀ (Q : State → Prop), (∀ (H : Heap) (locs : List Loc) (ls : Array Slot), va_P (dC, dI) vwCl [((r 28), .inr (4, [.int 0, .ref (r 29), .ref (r 30), .int 0, .ref (r 31), .ref (r 32), .int 0, .ref (r 33), .ref (r 34), .int 0, .ref (r 35), .ref (r 36), .int 3, .int 0, .int 0, .ref (r 37)])), ((r 31), .inl (cZ, 64, .inl (fun _ => 0))), ((r 34), .inl (cI, 9, .inl (fun _ => 0))), ((r 32), .inl (cI, 192, .inl (fun _ => 0)))] H → va_D A [((r 28), .inr (4, [.int 0, .ref (r 29), .ref (r 30), .int 0, .ref (r 31), .ref (r 32), .int 0, .ref (r 33), .ref (r 34), .int 0, .ref (r 35), .ref (r 36), .int 3, .int 0, .int 0, .ref (r 37)])), ((r 31), .inl (cZ, 64, .inl (fun _ => 0))), ((r 34), .inl (cI, 9, .inl (fun _ => 0))), ((r 32), .inl (cI, 192, .inl (fun _ => 0)))] → va_S A s.heap H locs → lv_has ls 2 [(1, .int 64), (0, .ref (r 28))] → W p l e ({ frames := 1, cells := 0, slots := 0, locals := 23 } : Room) s m ([.ref (r 28)] : List Value).toArray below meth c H locs 0 0 Q (F0 m 20 ls [])) → ∀ (k i : Nat), i + k = 64 → ∀ (H : Heap) (locs : List Loc) (ls : Array Slot), va_P (dC, dI) vwCl [((r 28), .inr (4, [.int 0, .ref (r 29), .ref (r 30), .int 0, .ref (r 31), .ref (r 32), .int 0, .ref (r 33), .ref (r 34), .int 0, .ref (r 35), .ref (r 36), .int 3, .int 0, .int 0, .ref (r 37)])), ((r 31), .inl (cZ, 64, .inl (fun _ => 0))), ((r 34), .inl (cI, 9, .inl (fun _ => 0))), ((r 32), .inl (cI, 192, .inl (fun _ => 0)))] H → va_D A [((r 28), .inr (4, [.int 0, .ref (r 29), .ref (r 30), .int 0, .ref (r 31), .ref (r 32), .int 0, .ref (r 33), .ref (r 34), .int 0, .ref (r 35), .ref (r 36), .int 3, .int 0, .int 0, .ref (r 37)])), ((r 31), .inl (cZ, 64, .inl (fun _ => 0))), ((r 34), .inl (cI, 9, .inl (fun _ => 0))), ((r 32), .inl (cI, 192, .inl (fun _ => 0)))] → va_S A s.heap H locs → lv_has ls 2 [(1, .int (nI i)), (0, .ref (r 28))] → W p l e ({ frames := 1, cells := 0, slots := 0, locals := 23 } : Room) s m ([.ref (r 28)] : List Value).toArray below meth c H locs 0 0 Q (F0 m 20 ls []) := by
    intro Q hQ k
    induction k with
    | zero =>
      intro i hi H locs ls hP hD hS hl
      obtain rfl : i = 64 := by omega
      exact hQ H locs ls hP hD hS hl
    | succ k ih =>
      intro i hi H locs ls hP hD hS hl
      have hlt : i < 64 := by omega
      refine lv_iload_n hx hb dX4_empty_20 rfl (lv_at hl 0 rfl) ?_
      refine lv_aload_n hx hb dX4_empty_21 rfl (lv_at hl 1 rfl) ?_
      refine va_get (D := (dC, dI)) (ci := 4) (v := .ref (r 31)) (C := RX4) (T := TX4) (N := 16) hx hb hts i4 hown hK hP 0 rfl rfl 4 (nlt rfl) w4 (fun _ h9 => h9) rfl dX4_empty_22 ?_
      refine va_alen hx hb hK hP 1 3 rfl rfl (v := 64) rfl dX4_empty_25 ?_
      refine lv_icmp_ge (tgt := 42) hx hb dX4_empty_26 z513 (fun c1 => absurd c1 (nI_ge hlt (by decide))) (fun _ => ?_)
      refine lv_aload_n hx hb dX4_empty_29 rfl (lv_at hl 1 rfl) ?_
      refine va_get (D := (dC, dI)) (ci := 4) (v := .ref (r 31)) (C := RX4) (T := TX4) (N := 16) hx hb hts i4 hown hK hP 0 rfl rfl 4 (nlt rfl) w4 (fun _ h9 => h9) rfl dX4_empty_30 ?_
      refine lv_iload_n hx hb dX4_empty_33 rfl (lv_at hl 0 rfl) ?_
      refine lv_iconst (v := 0) hx hb dX4_empty_34 z8 ?_
      refine my_zastS hx hb hK hP hD hS 1 3 rfl rfl (ix_nI (n := 64) (by omega) (by decide)) z249 rfl dX4_empty_35 (fun H locs hP hD hS => ?_)
      refine lv_iinc (v := nI (i + 1)) (lv' := [(1, .int (nI (i + 1))), (0, .ref (r 28))]) hx hb dX4_empty_36 hl (k := 0) rfl (nI_1 i) (nlt rfl) rfl (fun ls hl => ?_)
      refine lv_goto (tgt := 20) hx hb dX4_empty_39 z514 ?_
      exact ih (i + 1) (by omega) H locs ls hP hD hS (lv_sub hl [0, 1] rfl)
  refine loop _ (fun H locs ls hP hD hS hl => ?_) 64 0 rfl H locs ls hP hD hS hl
  refine lv_iload_n hx hb dX4_empty_20 rfl (lv_at hl 0 rfl) ?_
  refine lv_aload_n hx hb dX4_empty_21 rfl (lv_at hl 1 rfl) ?_
  refine va_get (D := (dC, dI)) (ci := 4) (v := .ref (r 31)) (C := RX4) (T := TX4) (N := 16) hx hb hts i4 hown hK hP 0 rfl rfl 4 (nlt rfl) w4 (fun _ h9 => h9) rfl dX4_empty_22 ?_
  refine va_alen hx hb hK hP 1 3 rfl rfl (v := 64) rfl dX4_empty_25 ?_
  refine lv_icmp_ge (tgt := 42) hx hb dX4_empty_26 z513 (fun _ => ?_) (fun c1 => absurd (z254) c1)
  refine lv_aload_n hx hb dX4_empty_42 rfl (lv_at hl 1 rfl) ?_
  refine lv_iconst (v := 0) hx hb dX4_empty_43 z8 ?_
  refine va_put (D := (dC, dI)) (ci := 4) (v := .int 0) (ty := tyX4 6) (C := RX4) (T := TX4) (N := 16) hx hb hts i4 tyX4 tyX4_ok nmX4 hown hK hP hD hS 0 rfl rfl 6 (nlt rfl) w5 (fun _ h9 => h9) rfl (tyX4_ok 6 (nlt rfl)) rfl rfl (nlt rfl) dX4_empty_44 (fun H locs hP hD hS => ?_)
  refine lv_aload_n hx hb dX4_empty_47 rfl (lv_at hl 1 rfl) ?_
  refine va_get (D := (dC, dI)) (ci := 4) (v := .ref (r 34)) (C := RX4) (T := TX4) (N := 16) hx hb hts i4 hown hK hP 0 rfl rfl 8 (nlt rfl) w6 (fun _ h9 => h9) rfl dX4_empty_48 ?_
  refine lv_iconst (v := 0) hx hb dX4_empty_51 z8 ?_
  refine lv_iconst (v := 0) hx hb dX4_empty_52 z8 ?_
  refine my_iastS hx hb hK hP hD hS 2 1 rfl rfl z515 rfl dX4_empty_53 (fun H locs hP hD hS => ?_)
  refine lv_aload_n hx hb dX4_empty_54 rfl (lv_at hl 1 rfl) ?_
  refine lv_iconst (v := 0) hx hb dX4_empty_55 z8 ?_
  refine va_put (D := (dC, dI)) (ci := 4) (v := .int 0) (ty := tyX4 9) (C := RX4) (T := TX4) (N := 16) hx hb hts i4 tyX4 tyX4_ok nmX4 hown hK hP hD hS 0 rfl rfl 9 (nlt rfl) w7 (fun _ h9 => h9) rfl (tyX4_ok 9 (nlt rfl)) rfl rfl (nlt rfl) dX4_empty_56 (fun H locs hP hD hS => ?_)
  refine lv_aload_n hx hb dX4_empty_59 rfl (lv_at hl 1 rfl) ?_
  refine lv_iconst (v := 3) hx hb dX4_empty_60 z69 ?_
  refine va_put (D := (dC, dI)) (ci := 4) (v := .int 3) (ty := tyX4 12) (C := RX4) (T := TX4) (N := 16) hx hb hts i4 tyX4 tyX4_ok nmX4 hown hK hP hD hS 0 rfl rfl 12 (nlt rfl) w8 (fun _ h9 => h9) rfl (tyX4_ok 12 (nlt rfl)) rfl rfl (nlt rfl) dX4_empty_61 (fun H locs hP hD hS => ?_)
  have hP : va_P (dC, dI) vwCl [((r 28), .inr (4, [.int 0, .ref (r 29), .ref (r 30), .int 0, .ref (r 31), .ref (r 32), .int 0, .ref (r 33), .ref (r 34), .int 0, .ref (r 35), .ref (r 36), .int 3, .int 0, .int 0, .ref (r 37)])), ((r 31), .inl (cZ, 64, .inl (fun _ => 0))), ((r 34), .inl (cI, 9, .inl (fun _ => 0))), ((r 32), .inl (cI, 192, .inl (fun _ => 0)))] H := hP
  have hD : va_D A [((r 28), .inr (4, [.int 0, .ref (r 29), .ref (r 30), .int 0, .ref (r 31), .ref (r 32), .int 0, .ref (r 33), .ref (r 34), .int 0, .ref (r 35), .ref (r 36), .int 3, .int 0, .int 0, .ref (r 37)])), ((r 31), .inl (cZ, 64, .inl (fun _ => 0))), ((r 34), .inl (cI, 9, .inl (fun _ => 0))), ((r 32), .inl (cI, 192, .inl (fun _ => 0)))] := hD
  refine lv_aload_n hx hb dX4_empty_64 rfl (lv_at hl 1 rfl) ?_
  refine lv_iconst (v := 0) hx hb dX4_empty_65 z8 ?_
  refine va_put (D := (dC, dI)) (ci := 4) (v := .int 0) (ty := tyX4 13) (C := RX4) (T := TX4) (N := 16) hx hb hts i4 tyX4 tyX4_ok nmX4 hown hK hP hD hS 0 rfl rfl 13 (nlt rfl) w9 (fun _ h9 => h9) rfl (tyX4_ok 13 (nlt rfl)) rfl rfl (nlt rfl) dX4_empty_66 (fun H locs hP hD hS => ?_)
  refine lv_aload_n hx hb dX4_empty_69 rfl (lv_at hl 1 rfl) ?_
  refine lv_iconst (v := 0) hx hb dX4_empty_70 z8 ?_
  refine va_put (D := (dC, dI)) (ci := 4) (v := .int 0) (ty := tyX4 14) (C := RX4) (T := TX4) (N := 16) hx hb hts i4 tyX4 tyX4_ok nmX4 hown hK hP hD hS 0 rfl rfl 14 (nlt rfl) w10 (fun _ h9 => h9) rfl (tyX4_ok 14 (nlt rfl)) rfl rfl (nlt rfl) dX4_empty_71 (fun H locs hP hD hS => ?_)
  refine W.widen (k := 0) (n := 0) (by decide +kernel) (by decide +kernel) ?_
  exact ret_v hx hb hr hlocks hS (u := (fun _ => 0)) (hP.sub [0, 3, 1, 2] rfl) (hD.sub [0, 3, 1, 2] (by decide +kernel) rfl) dX4_empty_74

set_option maxHeartbeats 4000000 in
set_option maxRecDepth 100000 in
theorem k41_X8_advance (l : Launch) (dC : Nat → ClassId) (dI : Nat → Nat → Nat) (cB cI cJ cZ cO : ClassId) (r : Nat → Nat) : CV l yX8_advance wsX8_advance ({ frames := 0, cells := 0, slots := 0, locals := 0 }) (dC, dI) (tyL cB cI cJ cZ cO) [.ref (r 3)] [((r 3), .inr (8, [.ref (r 4), .ref (r 1), .int 0, .int 0, .int 0, .int 0, .long 0, .int 0, .int 0, .int (-1)]))] (fun u => [((r 3), .inr (8, [.ref (r 4), .ref (r 1), .int 0, .int 0, .int 0, .int 0, .long 0, .int 0, .int 0, .int (-1)]))]) := by
  intro sz
  refine ct_open (cc := cX8_advance) (maxL := 2) (ret := none) (by decide) rfl (Nat.le_of_ble_eq_true rfl) ?_
  intro p e s m below meth c ls A hx hb hr hml hts hown hlocks hin hP hK hD hA hS hl
  have hl : lv_has ls 2 [(0, .ref (r 3))] := hl
  have hown : s.vm.findClass RX8 = some m.cls := hown
  have i8 : ∀ w ∈ u_ws RX8 TX8 10, w ∈ wsX8_advance := fun _ h => List.mem_cons_of_mem _ (List.mem_append_right _ h)
  have w1 := hts (.fieldLink RX8 57 "GuildCharter$Tokens" "behind" "I") (List.mem_cons_of_mem _ (List.mem_append_left _ (List.mem_of_getElem? (i := 0) rfl)))
  have w2 := hts (.fieldLink RX8 66 "GuildCharter$Tokens" "place" "I") (List.mem_cons_of_mem _ (List.mem_append_left _ (List.mem_of_getElem? (i := 1) rfl)))
  have w3 := hts (.fieldLink RX8 54 "GuildCharter$Tokens" "size" "I") (List.mem_cons_of_mem _ (List.mem_append_left _ (List.mem_of_getElem? (i := 2) rfl)))
  have w4 := hts (.fieldLink RX8 69 "GuildCharter$Tokens" "kind" "I") (List.mem_cons_of_mem _ (List.mem_append_left _ (List.mem_of_getElem? (i := 4) rfl)))
  refine lv_aload_n hx hb dX8_advance_0 rfl (lv_at hl 0 rfl) ?_
  refine lv_aload_n hx hb dX8_advance_1 rfl (lv_at hl 0 rfl) ?_
  refine va_get (D := (dC, dI)) (ci := 8) (v := .int 0) (C := RX8) (T := TX8) (N := 10) hx hb hts i8 hown hK hP 0 rfl rfl 3 (nlt rfl) w1 (fun _ h9 => h9) rfl dX8_advance_2 ?_
  refine va_put (D := (dC, dI)) (ci := 8) (v := .int 0) (ty := tyX8 4) (C := RX8) (T := TX8) (N := 10) hx hb hts i8 tyX8 tyX8_ok nmX8 hown hK hP hD hS 0 rfl rfl 4 (nlt rfl) w2 (fun _ h9 => h9) rfl (tyX8_ok 4 (nlt rfl)) rfl rfl (nlt rfl) dX8_advance_5 (fun H locs hP hD hS => ?_)
  refine lv_aload_n hx hb dX8_advance_8 rfl (lv_at hl 0 rfl) ?_
  refine va_get (D := (dC, dI)) (ci := 8) (v := .int 0) (C := RX8) (T := TX8) (N := 10) hx hb hts i8 hown hK hP 0 rfl rfl 4 (nlt rfl) w2 (fun _ h9 => h9) rfl dX8_advance_9 ?_
  refine lv_aload_n hx hb dX8_advance_12 rfl (lv_at hl 0 rfl) ?_
  refine va_get (D := (dC, dI)) (ci := 8) (v := .int 0) (C := RX8) (T := TX8) (N := 10) hx hb hts i8 hown hK hP 0 rfl rfl 2 (nlt rfl) w3 (fun _ h9 => h9) rfl dX8_advance_13 ?_
  refine lv_icmp_ge (tgt := 60) hx hb dX8_advance_16 z516 (fun _ => ?_) (fun c1 => absurd (z510) c1)
  refine lv_aload_n hx hb dX8_advance_60 rfl (lv_at hl 0 rfl) ?_
  refine lv_aload_n hx hb dX8_advance_61 rfl (lv_at hl 0 rfl) ?_
  refine va_get (D := (dC, dI)) (ci := 8) (v := .int 0) (C := RX8) (T := TX8) (N := 10) hx hb hts i8 hown hK hP 0 rfl rfl 4 (nlt rfl) w2 (fun _ h9 => h9) rfl dX8_advance_62 ?_
  refine va_put (D := (dC, dI)) (ci := 8) (v := .int 0) (ty := tyX8 3) (C := RX8) (T := TX8) (N := 10) hx hb hts i8 tyX8 tyX8_ok nmX8 hown hK hP hD hS 0 rfl rfl 3 (nlt rfl) w1 (fun _ h9 => h9) rfl (tyX8_ok 3 (nlt rfl)) rfl rfl (nlt rfl) dX8_advance_65 (fun H locs hP hD hS => ?_)
  refine lv_aload_n hx hb dX8_advance_68 rfl (lv_at hl 0 rfl) ?_
  refine va_get (D := (dC, dI)) (ci := 8) (v := .int 0) (C := RX8) (T := TX8) (N := 10) hx hb hts i8 hown hK hP 0 rfl rfl 4 (nlt rfl) w2 (fun _ h9 => h9) rfl dX8_advance_69 ?_
  refine lv_aload_n hx hb dX8_advance_72 rfl (lv_at hl 0 rfl) ?_
  refine va_get (D := (dC, dI)) (ci := 8) (v := .int 0) (C := RX8) (T := TX8) (N := 10) hx hb hts i8 hown hK hP 0 rfl rfl 2 (nlt rfl) w3 (fun _ h9 => h9) rfl dX8_advance_73 ?_
  refine lv_icmp_ge (tgt := 91) hx hb dX8_advance_76 z517 (fun _ => ?_) (fun c1 => absurd (z510) c1)
  refine lv_iconst (v := 0) hx hb dX8_advance_91 z8 ?_
  refine lv_istore_n (lv' := [(1, .int 0), (0, .ref (r 3))]) hx hb dX8_advance_92 rfl hl (nlt rfl) rfl (fun ls hl => ?_)
  refine lv_aload_n hx hb dX8_advance_93 rfl (lv_at hl 1 rfl) ?_
  refine va_get (D := (dC, dI)) (ci := 8) (v := .int 0) (C := RX8) (T := TX8) (N := 10) hx hb hts i8 hown hK hP 0 rfl rfl 4 (nlt rfl) w2 (fun _ h9 => h9) rfl dX8_advance_94 ?_
  refine lv_aload_n hx hb dX8_advance_97 rfl (lv_at hl 1 rfl) ?_
  refine va_get (D := (dC, dI)) (ci := 8) (v := .int 0) (C := RX8) (T := TX8) (N := 10) hx hb hts i8 hown hK hP 0 rfl rfl 2 (nlt rfl) w3 (fun _ h9 => h9) rfl dX8_advance_98 ?_
  refine lv_icmp_lt (tgt := 112) hx hb dX8_advance_101 z518 (fun c1 => absurd c1 (z125)) (fun _ => ?_)
  refine lv_aload_n hx hb dX8_advance_104 rfl (lv_at hl 1 rfl) ?_
  refine lv_iconst (v := 0) hx hb dX8_advance_105 z8 ?_
  refine va_put (D := (dC, dI)) (ci := 8) (v := .int 0) (ty := tyX8 5) (C := RX8) (T := TX8) (N := 10) hx hb hts i8 tyX8 tyX8_ok nmX8 hown hK hP hD hS 0 rfl rfl 5 (nlt rfl) w4 (fun _ h9 => h9) rfl (tyX8_ok 5 (nlt rfl)) rfl rfl (nlt rfl) dX8_advance_106 (fun H locs hP hD hS => ?_)
  have hP : va_P (dC, dI) vwCl [((r 3), .inr (8, [.ref (r 4), .ref (r 1), .int 0, .int 0, .int 0, .int 0, .long 0, .int 0, .int 0, .int (-1)]))] H := hP
  have hD : va_D A [((r 3), .inr (8, [.ref (r 4), .ref (r 1), .int 0, .int 0, .int 0, .int 0, .long 0, .int 0, .int 0, .int (-1)]))] := hD
  refine lv_goto (tgt := 185) hx hb dX8_advance_109 z519 ?_
  refine lv_aload_n hx hb dX8_advance_185 rfl (lv_at hl 1 rfl) ?_
  refine va_get (D := (dC, dI)) (ci := 8) (v := .int 0) (C := RX8) (T := TX8) (N := 10) hx hb hts i8 hown hK hP 0 rfl rfl 5 (nlt rfl) w4 (fun _ h9 => h9) rfl dX8_advance_186 ?_
  refine lv_iconst (v := 1) hx hb dX8_advance_189 z39 ?_
  refine lv_icmp_ne (tgt := 199) hx hb dX8_advance_190 z521 (fun _ => ?_) (fun c1 => absurd c1 (z520))
  refine W.widen (k := 0) (n := 0) (by decide +kernel) (by decide +kernel) ?_
  exact ret_v hx hb hr hlocks hS (u := (fun _ => 0)) (hP.sub [0] rfl) (hD.sub [0] (by decide +kernel) rfl) dX8_advance_199

set_option maxHeartbeats 4000000 in
set_option maxRecDepth 100000 in
theorem k42_X8_begin (l : Launch) (dC : Nat → ClassId) (dI : Nat → Nat → Nat) (cB cI cJ cZ cO : ClassId) (r : Nat → Nat) : CV l yX8_begin wsX8_begin ({ frames := 1, cells := 0, slots := 0, locals := 21 }) (dC, dI) (tyL cB cI cJ cZ cO) [.ref (r 3), .ref (r 1), .int 0] [((r 3), .inr (8, [.ref (r 4), .ref (r 5), .int 0, .int 0, .int 0, .int 0, .long 0, .int 0, .int 0, .int (-1)])), ((r 1), .inl (cB, 1600, .inl (fun _ => 0)))] (fun u => [((r 3), .inr (8, [.ref (r 4), .ref (r 1), .int 0, .int 0, .int 0, .int 0, .long 0, .int 0, .int 0, .int (-1)])), ((r 1), .inl (cB, 1600, .inl (fun _ => 0)))]) := by
  intro sz
  refine ct_open (cc := cX8_begin) (maxL := 3) (ret := none) (by decide) rfl (Nat.le_of_ble_eq_true rfl) ?_
  intro p e s m below meth c ls A hx hb hr hml hts hown hlocks hin hP hK hD hA hS hl
  have hl : lv_has ls 3 [(0, .ref (r 3)), (1, .ref (r 1)), (2, .int 0)] := hl
  have hown : s.vm.findClass RX8 = some m.cls := hown
  have i8 : ∀ w ∈ u_ws RX8 TX8 10, w ∈ wsX8_begin := fun _ h => List.mem_cons_of_mem _ (List.mem_append_right _ h)
  have w1 := hts (.fieldLink RX8 31 "GuildCharter$Tokens" "text" "[B") (List.mem_cons_of_mem _ (List.mem_append_left _ (List.mem_append_left _ (List.mem_of_getElem? (i := 0) rfl))))
  have w2 := hts (.methodLink RX8 48 Lib.Math.min.name) (List.mem_cons_of_mem _ (List.mem_append_left _ (List.mem_append_left _ (List.mem_of_getElem? (i := 1) rfl))))
  have w3 := hts (.static Lib.Math.min.name) (List.mem_cons_of_mem _ (List.mem_append_left _ (List.mem_append_left _ (List.mem_of_getElem? (i := 2) rfl))))
  have w4 := hts (.initialized "java/lang/Math") (List.mem_cons_of_mem _ (List.mem_append_left _ (List.mem_append_left _ (List.mem_of_getElem? (i := 3) rfl))))
  have w5 := hts (.code Lib.Math.min.name Lib.Math.min.code 2 (some .int)) (List.mem_cons_of_mem _ (List.mem_append_left _ (List.mem_append_left _ (List.mem_of_getElem? (i := 4) rfl))))
  have w6 := hts (.fieldLink RX8 54 "GuildCharter$Tokens" "size" "I") (List.mem_cons_of_mem _ (List.mem_append_left _ (List.mem_append_left _ (List.mem_of_getElem? (i := 5) rfl))))
  have w7 := hts (.fieldLink RX8 57 "GuildCharter$Tokens" "behind" "I") (List.mem_cons_of_mem _ (List.mem_append_left _ (List.mem_append_left _ (List.mem_of_getElem? (i := 6) rfl))))
  have w8 := hts (.fieldLink RX8 60 "GuildCharter$Tokens" "fault" "I") (List.mem_cons_of_mem _ (List.mem_append_left _ (List.mem_append_left _ (List.mem_of_getElem? (i := 7) rfl))))
  have w9 := hts (.fieldLink RX8 35 "GuildCharter$Tokens" "faultPlace" "I") (List.mem_cons_of_mem _ (List.mem_append_left _ (List.mem_append_left _ (List.mem_of_getElem? (i := 8) rfl))))
  refine lv_aload_n hx hb dX8_begin_0 rfl (lv_at hl 0 rfl) ?_
  refine lv_aload_n hx hb dX8_begin_1 rfl (lv_at hl 1 rfl) ?_
  refine va_put (D := (dC, dI)) (ci := 8) (v := .ref (r 1)) (ty := tyX8 1) (C := RX8) (T := TX8) (N := 10) hx hb hts i8 tyX8 tyX8_ok nmX8 hown hK hP hD hS 0 rfl rfl 1 (nlt rfl) w1 (fun _ h9 => h9) rfl (tyX8_ok 1 (nlt rfl)) rfl rfl (nlt rfl) dX8_begin_2 (fun H locs hP hD hS => ?_)
  refine lv_aload_n hx hb dX8_begin_5 rfl (lv_at hl 0 rfl) ?_
  refine lv_iload_n hx hb dX8_begin_6 rfl (lv_at hl 2 rfl) ?_
  refine lv_aload_n hx hb dX8_begin_7 rfl (lv_at hl 1 rfl) ?_
  refine va_alen hx hb hK hP 1 0 rfl rfl (v := 1600) rfl dX8_begin_8 ?_
  refine va_mmin hx hb (by rw [hml]; exact hl.1.symm) hown w2 w3 w4 w5 (by decide +kernel) (Nat.le_of_ble_eq_true rfl) (by decide +kernel) (by decide +kernel) dX8_begin_9 ?_
  refine tpi (v := 0) (by decide +kernel) ?_
  refine va_put (D := (dC, dI)) (ci := 8) (v := .int 0) (ty := tyX8 2) (C := RX8) (T := TX8) (N := 10) hx hb hts i8 tyX8 tyX8_ok nmX8 hown hK hP hD hS 0 rfl rfl 2 (nlt rfl) w6 (fun _ h9 => h9) rfl (tyX8_ok 2 (nlt rfl)) rfl rfl (nlt rfl) dX8_begin_12 (fun H locs hP hD hS => ?_)
  refine lv_aload_n hx hb dX8_begin_15 rfl (lv_at hl 0 rfl) ?_
  refine lv_iconst (v := 0) hx hb dX8_begin_16 z8 ?_
  refine va_put (D := (dC, dI)) (ci := 8) (v := .int 0) (ty := tyX8 3) (C := RX8) (T := TX8) (N := 10) hx hb hts i8 tyX8 tyX8_ok nmX8 hown hK hP hD hS 0 rfl rfl 3 (nlt rfl) w7 (fun _ h9 => h9) rfl (tyX8_ok 3 (nlt rfl)) rfl rfl (nlt rfl) dX8_begin_17 (fun H locs hP hD hS => ?_)
  have hP : va_P (dC, dI) vwCl [((r 3), .inr (8, [.ref (r 4), .ref (r 1), .int 0, .int 0, .int 0, .int 0, .long 0, .int 0, .int 0, .int (-1)])), ((r 1), .inl (cB, 1600, .inl (fun _ => 0)))] H := hP
  have hD : va_D A [((r 3), .inr (8, [.ref (r 4), .ref (r 1), .int 0, .int 0, .int 0, .int 0, .long 0, .int 0, .int 0, .int (-1)])), ((r 1), .inl (cB, 1600, .inl (fun _ => 0)))] := hD
  refine lv_aload_n hx hb dX8_begin_20 rfl (lv_at hl 0 rfl) ?_
  refine lv_iconst (v := 0) hx hb dX8_begin_21 z8 ?_
  refine va_put (D := (dC, dI)) (ci := 8) (v := .int 0) (ty := tyX8 8) (C := RX8) (T := TX8) (N := 10) hx hb hts i8 tyX8 tyX8_ok nmX8 hown hK hP hD hS 0 rfl rfl 8 (nlt rfl) w8 (fun _ h9 => h9) rfl (tyX8_ok 8 (nlt rfl)) rfl rfl (nlt rfl) dX8_begin_22 (fun H locs hP hD hS => ?_)
  refine lv_aload_n hx hb dX8_begin_25 rfl (lv_at hl 0 rfl) ?_
  refine lv_iconst (v := (-1)) hx hb dX8_begin_26 z128 ?_
  refine va_put (D := (dC, dI)) (ci := 8) (v := .int (-1)) (ty := tyX8 9) (C := RX8) (T := TX8) (N := 10) hx hb hts i8 tyX8 tyX8_ok nmX8 hown hK hP hD hS 0 rfl rfl 9 (nlt rfl) w9 (fun _ h9 => h9) rfl (tyX8_ok 9 (nlt rfl)) rfl rfl (nlt rfl) dX8_begin_27 (fun H locs hP hD hS => ?_)
  refine lv_aload_n hx hb dX8_begin_30 rfl (lv_at hl 0 rfl) ?_
  refine call_vV (ci := 8) (As := []) (rest := []) (wr := [((r 1), .inl (cB, 1600, .inl (fun _ => 0)))]) ⟨hx, hb, hml, hown, hts⟩ (k41_X8_advance l dC dI cB cI cJ cZ cO r) (cwV 0 hts gX8_begin_X8_advance rfl rfl rfl ⟨rfl, z522⟩ ⟨Nat.le_of_ble_eq_true rfl, Nat.le_of_ble_eq_true rfl⟩) hK hP hD hS hA [0] [1] rfl rfl (by decide +kernel) (by decide +kernel) (by decide +kernel) rfl rfl rfl hl.1 (Nat.le_of_ble_eq_true rfl) rfl rfl dX8_begin_31 ⟨by decide +kernel, by decide +kernel⟩ (fun u0 H locs hP hD hS => ?_)
  refine W.widen (k := 0) (n := 0) (by decide +kernel) (by decide +kernel) ?_
  exact ret_v hx hb hr hlocks hS (u := (fun _ => 0)) (hP.sub [1, 0] rfl) (hD.sub [1, 0] (by decide +kernel) rfl) dX8_begin_34

set_option maxHeartbeats 4000000 in
set_option maxRecDepth 100000 in
theorem k43_X2_bindParts (l : Launch) (dC : Nat → ClassId) (dI : Nat → Nat → Nat) (cB cI cJ cZ cO : ClassId) (r : Nat → Nat) : CI l yX2_bindParts wsX2_bindParts ({ frames := 0, cells := 0, slots := 0, locals := 0 }) (dC, dI) (tyL cB cI cJ cZ cO) [.ref (r 2)] [((r 2), .inr (2, [.ref (r 3), .ref (r 28), .ref (r 16), .ref (r 17)])), ((r 28), .inr (4, [.int 0, .ref (r 29), .ref (r 30), .int 0, .ref (r 31), .ref (r 32), .int 0, .ref (r 33), .ref (r 34), .int 0, .ref (r 35), .ref (r 36), .int 3, .int 0, .int 0, .ref (r 37)]))] (fun u => [((r 2), .inr (2, [.ref (r 3), .ref (r 28), .ref (r 16), .ref (r 17)])), ((r 28), .inr (4, [.int 0, .ref (r 29), .ref (r 30), .int 0, .ref (r 31), .ref (r 32), .int 0, .ref (r 33), .ref (r 34), .int 0, .ref (r 35), .ref (r 36), .int 3, .int 0, .int 0, .ref (r 37)]))]) 1 := by
  intro sz
  refine ct_open (cc := cX2_bindParts) (maxL := 3) (ret := (some .boolean)) (by decide) rfl (Nat.le_of_ble_eq_true rfl) ?_
  intro p e s m below meth c ls A hx hb hr hml hts hown hlocks hin hP hK hD hA hS hl
  have hl : lv_has ls 3 [(0, .ref (r 2))] := hl
  have hown : s.vm.findClass RX2 = some m.cls := hown
  have i2 : ∀ w ∈ u_ws RX2 TX2 4, w ∈ wsX2_bindParts := fun _ h => List.mem_cons_of_mem _ (List.mem_append_left _ (List.mem_append_left _ (List.mem_append_right _ h)))
  have w1 := hts (.fieldLink RX2 21 "GuildCharter$Parser" "port" "LGuildCharter$Port;") (List.mem_cons_of_mem _ (List.mem_append_left _ (List.mem_append_left _ (List.mem_append_left _ (List.mem_append_left _ (List.mem_of_getElem? (i := 0) rfl))))))
  have i4 : ∀ w ∈ u_ws RX4 TX4 16, w ∈ wsX2_bindParts := fun _ h => List.mem_cons_of_mem _ (List.mem_append_left _ (List.mem_append_right _ h))
  have w3 := hts (.fieldLink RX2 132 "GuildCharter$Port" "rules" "I") (List.mem_cons_of_mem _ (List.mem_append_left _ (List.mem_append_left _ (List.mem_append_left _ (List.mem_append_left _ (List.mem_of_getElem? (i := 1) rfl))))))
  refine lv_iconst (v := 0) hx hb dX2_bindParts_0 z8 ?_
  refine lv_istore_n (lv' := [(1, .int 0), (0, .ref (r 2))]) hx hb dX2_bindParts_1 rfl hl (nlt rfl) rfl (fun ls hl => ?_)
  refine lv_iload_n hx hb dX2_bindParts_2 rfl (lv_at hl 0 rfl) ?_
  refine lv_aload_n hx hb dX2_bindParts_3 rfl (lv_at hl 1 rfl) ?_
  refine va_get (D := (dC, dI)) (ci := 2) (v := .ref (r 28)) (C := RX2) (T := TX2) (N := 4) hx hb hts i2 hown hK hP 0 rfl rfl 1 (nlt rfl) w1 (fun _ h9 => h9) rfl dX2_bindParts_4 ?_
  refine va_get (D := (dC, dI)) (ci := 4) (v := .int 0) (C := RX4) (T := TX4) (N := 16) hx hb hts i4 hown hK hP 1 rfl rfl 6 (nlt rfl) w3 (fun _ h9 => h9) rfl dX2_bindParts_7 ?_
  refine lv_icmp_ge (tgt := 61) hx hb dX2_bindParts_10 z529 (fun _ => ?_) (fun c1 => absurd (z510) c1)
  refine lv_iconst (v := 1) hx hb dX2_bindParts_61 z39 ?_
  refine W.widen (k := 0) (n := 0) (by decide +kernel) (by decide +kernel) ?_
  exact ret_z hx hb hr rfl hlocks hS (u := (fun _ => 0)) (hP.sub [0, 1] rfl) (hD.sub [0, 1] (by decide +kernel) rfl) dX2_bindParts_62

set_option maxHeartbeats 4000000 in
set_option maxRecDepth 100000 in
theorem k44_X2_readsInto (l : Launch) (dC : Nat → ClassId) (dI : Nat → Nat → Nat) (cB cI cJ cZ cO : ClassId) (r : Nat → Nat) : CI l yX2_readsInto wsX2_readsInto ({ frames := 2, cells := 0, slots := 0, locals := 44 }) (dC, dI) (tyL cB cI cJ cZ cO) [.ref (r 2), .ref (r 28), .ref (r 1), .int 0] [((r 2), .inr (2, [.ref (r 3), .ref (r 6), .ref (r 16), .ref (r 17)])), ((r 28), .inr (4, [.int 0, .ref (r 29), .ref (r 30), .int 0, .ref (r 31), .ref (r 32), .int 0, .ref (r 33), .ref (r 34), .int 0, .ref (r 35), .ref (r 36), .int 3, .int 0, .int 0, .ref (r 37)])), ((r 32), .inl (cI, 192, .inl (fun _ => 0))), ((r 31), .inl (cZ, 64, .inl (fun _ => 0))), ((r 34), .inl (cI, 9, .inl (fun _ => 0))), ((r 3), .inr (8, [.ref (r 4), .ref (r 5), .int 0, .int 0, .int 0, .int 0, .long 0, .int 0, .int 0, .int (-1)])), ((r 1), .inl (cB, 1600, .inl (fun _ => 0)))] (fun u => [((r 2), .inr (2, [.ref (r 3), .ref (r 28), .ref (r 16), .ref (r 17)])), ((r 28), .inr (4, [.int 0, .ref (r 29), .ref (r 30), .int 0, .ref (r 31), .ref (r 32), .int 0, .ref (r 33), .ref (r 34), .int 0, .ref (r 35), .ref (r 36), .int 3, .int 0, .int 0, .ref (r 37)])), ((r 32), .inl (cI, 192, .inl (fun _ => 0))), ((r 31), .inl (cZ, 64, .inl (fun _ => 0))), ((r 34), .inl (cI, 9, .inl (fun _ => 0))), ((r 3), .inr (8, [.ref (r 4), .ref (r 1), .int 0, .int 0, .int 0, .int 0, .long 0, .int 0, .int 0, .int (-1)])), ((r 1), .inl (cB, 1600, .inl (fun _ => 0)))]) 1 := by
  intro sz
  refine ct_open (cc := cX2_readsInto) (maxL := 6) (ret := (some .boolean)) (by decide) rfl (Nat.le_of_ble_eq_true rfl) ?_
  intro p e s m below meth c ls A hx hb hr hml hts hown hlocks hin hP hK hD hA hS hl
  have hl : lv_has ls 6 [(0, .ref (r 2)), (1, .ref (r 28)), (2, .ref (r 1)), (3, .int 0)] := hl
  have hown : s.vm.findClass RX2 = some m.cls := hown
  have i2 : ∀ w ∈ u_ws RX2 TX2 4, w ∈ wsX2_readsInto := fun _ h => List.mem_cons_of_mem _ (List.mem_append_left _ (List.mem_append_left _ (List.mem_append_right _ h)))
  have w1 := hts (.fieldLink RX2 21 "GuildCharter$Parser" "port" "LGuildCharter$Port;") (List.mem_cons_of_mem _ (List.mem_append_left _ (List.mem_append_left _ (List.mem_append_left _ (List.mem_append_left _ (List.mem_of_getElem? (i := 0) rfl))))))
  have w2 := hts (.fieldLink RX2 12 "GuildCharter$Parser" "tokens" "LGuildCharter$Tokens;") (List.mem_cons_of_mem _ (List.mem_append_left _ (List.mem_append_left _ (List.mem_append_left _ (List.mem_append_left _ (List.mem_of_getElem? (i := 1) rfl))))))
  have i8 : ∀ w ∈ u_ws RX8 TX8 10, w ∈ wsX2_readsInto := fun _ h => List.mem_cons_of_mem _ (List.mem_append_left _ (List.mem_append_right _ h))
  have w4 := hts (.fieldLink RX2 40 "GuildCharter$Tokens" "fault" "I") (List.mem_cons_of_mem _ (List.mem_append_left _ (List.mem_append_left _ (List.mem_append_left _ (List.mem_append_left _ (List.mem_of_getElem? (i := 2) rfl))))))
  have w5 := hts (.fieldLink RX2 44 "GuildCharter$Tokens" "kind" "I") (List.mem_cons_of_mem _ (List.mem_append_left _ (List.mem_append_left _ (List.mem_append_left _ (List.mem_append_left _ (List.mem_of_getElem? (i := 3) rfl))))))
  refine lv_aload_n hx hb dX2_readsInto_0 rfl (lv_at hl 0 rfl) ?_
  refine lv_aload_n hx hb dX2_readsInto_1 rfl (lv_at hl 1 rfl) ?_
  refine va_put (D := (dC, dI)) (ci := 2) (v := .ref (r 28)) (ty := tyX2 1) (C := RX2) (T := TX2) (N := 4) hx hb hts i2 tyX2 tyX2_ok nmX2 hown hK hP hD hS 0 rfl rfl 1 (nlt rfl) w1 (fun _ h9 => h9) rfl (tyX2_ok 1 (nlt rfl)) rfl rfl (nlt rfl) dX2_readsInto_2 (fun H locs hP hD hS => ?_)
  refine lv_aload_n hx hb dX2_readsInto_5 rfl (lv_at hl 0 rfl) ?_
  refine va_get (D := (dC, dI)) (ci := 2) (v := .ref (r 28)) (C := RX2) (T := TX2) (N := 4) hx hb hts i2 hown hK hP 0 rfl rfl 1 (nlt rfl) w1 (fun _ h9 => h9) rfl dX2_readsInto_6 ?_
  refine call_vV (ci := 4) (As := []) (rest := []) (wr := [((r 2), .inr (2, [.ref (r 3), .ref (r 28), .ref (r 16), .ref (r 17)])), ((r 3), .inr (8, [.ref (r 4), .ref (r 5), .int 0, .int 0, .int 0, .int 0, .long 0, .int 0, .int 0, .int (-1)])), ((r 1), .inl (cB, 1600, .inl (fun _ => 0)))]) ⟨hx, hb, hml, hown, hts⟩ (k40_X4_empty l dC dI cB cI cJ cZ cO r) (cwV 0 hts gX2_readsInto_X4_empty rfl rfl rfl ⟨rfl, z532⟩ ⟨Nat.le_of_ble_eq_true rfl, Nat.le_of_ble_eq_true rfl⟩) hK hP hD hS hA [1, 2, 3, 4] [0, 5, 6] rfl rfl (by decide +kernel) (by decide +kernel) (by decide +kernel) rfl rfl rfl hl.1 (Nat.le_of_ble_eq_true rfl) rfl rfl dX2_readsInto_9 ⟨by decide +kernel, by decide +kernel⟩ (fun u0 H locs hP hD hS => ?_)
  refine lv_aload_n hx hb dX2_readsInto_12 rfl (lv_at hl 0 rfl) ?_
  refine va_get (D := (dC, dI)) (ci := 2) (v := .ref (r 3)) (C := RX2) (T := TX2) (N := 4) hx hb hts i2 hown hK hP 0 rfl rfl 0 (nlt rfl) w2 (fun _ h9 => h9) rfl dX2_readsInto_13 ?_
  refine lv_aload_n hx hb dX2_readsInto_16 rfl (lv_at hl 2 rfl) ?_
  refine lv_iload_n hx hb dX2_readsInto_17 rfl (lv_at hl 3 rfl) ?_
  refine call_vV (ci := 8) (As := [.ref (r 1), .int 0]) (rest := []) (wr := [((r 2), .inr (2, [.ref (r 3), .ref (r 28), .ref (r 16), .ref (r 17)])), ((r 28), .inr (4, [.int 0, .ref (r 29), .ref (r 30), .int 0, .ref (r 31), .ref (r 32), .int 0, .ref (r 33), .ref (r 34), .int 0, .ref (r 35), .ref (r 36), .int 3, .int 0, .int 0, .ref (r 37)])), ((r 32), .inl (cI, 192, .inl (fun _ => 0))), ((r 31), .inl (cZ, 64, .inl (fun _ => 0))), ((r 34), .inl (cI, 9, .inl (fun _ => 0)))]) ⟨hx, hb, hml, hown, hts⟩ (k42_X8_begin l dC dI cB cI cJ cZ cO r) (cwV 2 hts gX2_readsInto_X8_begin rfl rfl rfl ⟨rfl, z533⟩ ⟨Nat.le_of_ble_eq_true rfl, Nat.le_of_ble_eq_true rfl⟩) hK hP hD hS hA [1, 2] [0, 3, 4, 5, 6] rfl rfl (by decide +kernel) (by decide +kernel) (by decide +kernel) rfl rfl rfl hl.1 (Nat.le_of_ble_eq_true rfl) rfl rfl dX2_readsInto_18 ⟨by decide +kernel, by decide +kernel⟩ (fun u1 H locs hP hD hS => ?_)
  refine lv_aload_n hx hb dX2_readsInto_21 rfl (lv_at hl 0 rfl) ?_
  refine va_get (D := (dC, dI)) (ci := 2) (v := .ref (r 3)) (C := RX2) (T := TX2) (N := 4) hx hb hts i2 hown hK hP 0 rfl rfl 0 (nlt rfl) w2 (fun _ h9 => h9) rfl dX2_readsInto_22 ?_
  refine va_get (D := (dC, dI)) (ci := 8) (v := .int 0) (C := RX8) (T := TX8) (N := 10) hx hb hts i8 hown hK hP 5 rfl rfl 8 (nlt rfl) w4 (fun _ h9 => h9) rfl dX2_readsInto_25 ?_
  refine lv_if_ne (tgt := 35) hx hb dX2_readsInto_28 z348 (fun c1 => absurd (rfl) c1) (fun _ => ?_)
  refine lv_iconst (v := 1) hx hb dX2_readsInto_31 z39 ?_
  refine lv_goto (tgt := 36) hx hb dX2_readsInto_32 z523 ?_
  refine lv_istore (lv' := [(4, .int 1), (0, .ref (r 2)), (1, .ref (r 28)), (2, .ref (r 1)), (3, .int 0)]) hx hb dX2_readsInto_36 hl (nlt rfl) rfl (fun ls hl => ?_)
  refine lv_iconst (v := 0) hx hb dX2_readsInto_38 z8 ?_
  refine lv_istore (lv' := [(5, .int 0), (4, .int 1), (0, .ref (r 2)), (1, .ref (r 28)), (2, .ref (r 1)), (3, .int 0)]) hx hb dX2_readsInto_39 hl (nlt rfl) rfl (fun ls hl => ?_)
  refine lv_iload hx hb dX2_readsInto_41 (lv_at hl 0 rfl) ?_
  refine lv_sipush (v := 1600) hx hb dX2_readsInto_43 z0 ?_
  refine lv_icmp_ge (tgt := 189) hx hb dX2_readsInto_46 z524 (fun c1 => absurd c1 (z278)) (fun _ => ?_)
  refine lv_iload hx hb dX2_readsInto_49 (lv_at hl 1 rfl) ?_
  refine lv_if_eq (tgt := 189) hx hb dX2_readsInto_51 z526 (fun c1 => absurd c1 (z525)) (fun _ => ?_)
  refine lv_aload_n hx hb dX2_readsInto_54 rfl (lv_at hl 2 rfl) ?_
  refine va_get (D := (dC, dI)) (ci := 2) (v := .ref (r 3)) (C := RX2) (T := TX2) (N := 4) hx hb hts i2 hown hK hP 0 rfl rfl 0 (nlt rfl) w2 (fun _ h9 => h9) rfl dX2_readsInto_55 ?_
  refine va_get (D := (dC, dI)) (ci := 8) (v := .int 0) (C := RX8) (T := TX8) (N := 10) hx hb hts i8 hown hK hP 5 rfl rfl 5 (nlt rfl) w5 (fun _ h9 => h9) rfl dX2_readsInto_58 ?_
  refine lv_if_eq (tgt := 189) hx hb dX2_readsInto_61 z527 (fun _ => ?_) (fun c1 => absurd (rfl) c1)
  refine lv_iload hx hb dX2_readsInto_189 (lv_at hl 1 rfl) ?_
  refine lv_if_eq (tgt := 205) hx hb dX2_readsInto_191 z528 (fun c1 => absurd c1 (z525)) (fun _ => ?_)
  refine lv_aload_n hx hb dX2_readsInto_194 rfl (lv_at hl 2 rfl) ?_
  refine call_iV (ci := 2) (As := []) (rest := []) (wr := [((r 32), .inl (cI, 192, .inl (fun _ => 0))), ((r 31), .inl (cZ, 64, .inl (fun _ => 0))), ((r 34), .inl (cI, 9, .inl (fun _ => 0))), ((r 3), .inr (8, [.ref (r 4), .ref (r 1), .int 0, .int 0, .int 0, .int 0, .long 0, .int 0, .int 0, .int (-1)])), ((r 1), .inl (cB, 1600, .inl (fun _ => 0)))]) ⟨hx, hb, hml, hown, hts⟩ (k43_X2_bindParts l dC dI cB cI cJ cZ cO r) (cwV 0 hts gX2_readsInto_X2_bindParts rfl rfl rfl ⟨rfl, z534⟩ ⟨Nat.le_of_ble_eq_true rfl, Nat.le_of_ble_eq_true rfl⟩) hK hP hD hS hA [0, 1] [2, 3, 4, 5, 6] rfl rfl (by decide +kernel) (by decide +kernel) (by decide +kernel) rfl rfl rfl hl.1 (Nat.le_of_ble_eq_true rfl) rfl rfl dX2_readsInto_195 ⟨by decide +kernel, by decide +kernel⟩ (fun u2 H locs hP hD hS => ?_)
  refine lv_if_eq (tgt := 205) hx hb dX2_readsInto_198 z530 (fun c1 => absurd c1 (z525)) (fun _ => ?_)
  refine lv_iconst (v := 1) hx hb dX2_readsInto_201 z39 ?_
  refine lv_goto (tgt := 206) hx hb dX2_readsInto_202 z531 ?_
  refine W.widen (k := 0) (n := 0) (by decide +kernel) (by decide +kernel) ?_
  exact ret_z hx hb hr rfl hlocks hS (u := (fun _ => 0)) (hP.sub [5, 6, 0, 1, 2, 3, 4] rfl) (hD.sub [5, 6, 0, 1, 2, 3, 4] (by decide +kernel) rfl) dX2_readsInto_206

set_option maxHeartbeats 4000000 in
set_option maxRecDepth 100000 in
theorem k45_J7_fill_53178 (l : Launch) (dC : Nat → ClassId) (dI : Nat → Nat → Nat) (cB cI cJ cZ cO : ClassId) (r : Nat → Nat) : CV l yJ7_fill_53178 wsJ7_fill_53178 ({ frames := 0, cells := 0, slots := 0, locals := 0 }) (dC, dI) (tyL cB cI cJ cZ cO) [.ref (r 40), .int (-1)] [((r 40), .inl (cI, 6, .inl (upd (upd (upd (upd (upd (upd (fun _ => 0) 0 (-1)) 1 (-1)) 2 (-1)) 3 (-1)) 4 (-1)) 5 (-1))))] (fun u => [((r 40), .inl (cI, 6, .inl (upd (upd (upd (upd (upd (upd (fun _ => 0) 0 (-1)) 1 (-1)) 2 (-1)) 3 (-1)) 4 (-1)) 5 (-1))))]) := by
  intro sz
  refine ct_open (cc := cJ7_fill_53178) (maxL := 4) (ret := none) (by decide) rfl (Nat.le_of_ble_eq_true rfl) ?_
  intro p e s m below meth c ls A hx hb hr hml hts hown hlocks hin hP hK hD hA hS hl
  have hl : lv_has ls 4 [(0, .ref (r 40)), (1, .int (-1))] := hl
  have hown : s.vm.findClass RJ7 = some m.cls := hown
  refine lv_iconst (v := 0) hx hb dJ7_fill_53178_0 z8 ?_
  refine lv_istore_n (lv' := [(2, .int 0), (0, .ref (r 40)), (1, .int (-1))]) hx hb dJ7_fill_53178_1 rfl hl (nlt rfl) rfl (fun ls hl => ?_)
  refine lv_aload_n hx hb dJ7_fill_53178_2 rfl (lv_at hl 1 rfl) ?_
  refine va_alen hx hb hK hP 0 1 rfl rfl (v := 6) rfl dJ7_fill_53178_3 ?_
  refine lv_istore_n (lv' := [(3, .int 6), (2, .int 0), (0, .ref (r 40)), (1, .int (-1))]) hx hb dJ7_fill_53178_4 rfl hl (nlt rfl) rfl (fun ls hl => ?_)
  refine lv_iload_n hx hb dJ7_fill_53178_5 rfl (lv_at hl 1 rfl) ?_
  refine lv_iload_n hx hb dJ7_fill_53178_6 rfl (lv_at hl 0 rfl) ?_
  refine lv_icmp_ge (tgt := 20) hx hb dJ7_fill_53178_7 z162 (fun c1 => absurd c1 (z78)) (fun _ => ?_)
  refine lv_aload_n hx hb dJ7_fill_53178_10 rfl (lv_at hl 2 rfl) ?_
  refine lv_iload_n hx hb dJ7_fill_53178_11 rfl (lv_at hl 1 rfl) ?_
  refine lv_iload_n hx hb dJ7_fill_53178_12 rfl (lv_at hl 3 rfl) ?_
  refine my_iastS hx hb hK hP hD hS 0 1 rfl rfl z38 rfl dJ7_fill_53178_13 (fun H locs hP hD hS => ?_)
  refine lv_iinc (v := 1) (lv' := [(2, .int 1), (3, .int 6), (0, .ref (r 40)), (1, .int (-1))]) hx hb dJ7_fill_53178_14 hl (k := 1) rfl z17 (nlt rfl) rfl (fun ls hl => ?_)
  refine lv_goto (tgt := 5) hx hb dJ7_fill_53178_17 z163 ?_
  refine lv_iload_n hx hb dJ7_fill_53178_5 rfl (lv_at hl 0 rfl) ?_
  refine lv_iload_n hx hb dJ7_fill_53178_6 rfl (lv_at hl 1 rfl) ?_
  refine lv_icmp_ge (tgt := 20) hx hb dJ7_fill_53178_7 z162 (fun c1 => absurd c1 (z80)) (fun _ => ?_)
  refine lv_aload_n hx hb dJ7_fill_53178_10 rfl (lv_at hl 2 rfl) ?_
  refine lv_iload_n hx hb dJ7_fill_53178_11 rfl (lv_at hl 0 rfl) ?_
  refine lv_iload_n hx hb dJ7_fill_53178_12 rfl (lv_at hl 3 rfl) ?_
  refine my_iastS hx hb hK hP hD hS 0 1 rfl rfl z53 rfl dJ7_fill_53178_13 (fun H locs hP hD hS => ?_)
  refine lv_iinc (v := 2) (lv' := [(2, .int 2), (3, .int 6), (0, .ref (r 40)), (1, .int (-1))]) hx hb dJ7_fill_53178_14 hl (k := 0) rfl z24 (nlt rfl) rfl (fun ls hl => ?_)
  refine lv_goto (tgt := 5) hx hb dJ7_fill_53178_17 z163 ?_
  refine lv_iload_n hx hb dJ7_fill_53178_5 rfl (lv_at hl 0 rfl) ?_
  refine lv_iload_n hx hb dJ7_fill_53178_6 rfl (lv_at hl 1 rfl) ?_
  refine lv_icmp_ge (tgt := 20) hx hb dJ7_fill_53178_7 z162 (fun c1 => absurd c1 (z83)) (fun _ => ?_)
  refine lv_aload_n hx hb dJ7_fill_53178_10 rfl (lv_at hl 2 rfl) ?_
  refine lv_iload_n hx hb dJ7_fill_53178_11 rfl (lv_at hl 0 rfl) ?_
  refine lv_iload_n hx hb dJ7_fill_53178_12 rfl (lv_at hl 3 rfl) ?_
  refine my_iastS hx hb hK hP hD hS 0 1 rfl rfl z68 rfl dJ7_fill_53178_13 (fun H locs hP hD hS => ?_)
  refine lv_iinc (v := 3) (lv' := [(2, .int 3), (3, .int 6), (0, .ref (r 40)), (1, .int (-1))]) hx hb dJ7_fill_53178_14 hl (k := 0) rfl z30 (nlt rfl) rfl (fun ls hl => ?_)
  refine lv_goto (tgt := 5) hx hb dJ7_fill_53178_17 z163 ?_
  refine lv_iload_n hx hb dJ7_fill_53178_5 rfl (lv_at hl 0 rfl) ?_
  refine lv_iload_n hx hb dJ7_fill_53178_6 rfl (lv_at hl 1 rfl) ?_
  refine lv_icmp_ge (tgt := 20) hx hb dJ7_fill_53178_7 z162 (fun c1 => absurd c1 (z88)) (fun _ => ?_)
  refine lv_aload_n hx hb dJ7_fill_53178_10 rfl (lv_at hl 2 rfl) ?_
  refine lv_iload_n hx hb dJ7_fill_53178_11 rfl (lv_at hl 0 rfl) ?_
  refine lv_iload_n hx hb dJ7_fill_53178_12 rfl (lv_at hl 3 rfl) ?_
  refine my_iastS hx hb hK hP hD hS 0 1 rfl rfl z76 rfl dJ7_fill_53178_13 (fun H locs hP hD hS => ?_)
  refine lv_iinc (v := 4) (lv' := [(2, .int 4), (3, .int 6), (0, .ref (r 40)), (1, .int (-1))]) hx hb dJ7_fill_53178_14 hl (k := 0) rfl z36 (nlt rfl) rfl (fun ls hl => ?_)
  refine lv_goto (tgt := 5) hx hb dJ7_fill_53178_17 z163 ?_
  refine lv_iload_n hx hb dJ7_fill_53178_5 rfl (lv_at hl 0 rfl) ?_
  refine lv_iload_n hx hb dJ7_fill_53178_6 rfl (lv_at hl 1 rfl) ?_
  refine lv_icmp_ge (tgt := 20) hx hb dJ7_fill_53178_7 z162 (fun c1 => absurd c1 (z93)) (fun _ => ?_)
  refine lv_aload_n hx hb dJ7_fill_53178_10 rfl (lv_at hl 2 rfl) ?_
  refine lv_iload_n hx hb dJ7_fill_53178_11 rfl (lv_at hl 0 rfl) ?_
  refine lv_iload_n hx hb dJ7_fill_53178_12 rfl (lv_at hl 3 rfl) ?_
  refine my_iastS hx hb hK hP hD hS 0 1 rfl rfl z106 rfl dJ7_fill_53178_13 (fun H locs hP hD hS => ?_)
  refine lv_iinc (v := 5) (lv' := [(2, .int 5), (3, .int 6), (0, .ref (r 40)), (1, .int (-1))]) hx hb dJ7_fill_53178_14 hl (k := 0) rfl z98 (nlt rfl) rfl (fun ls hl => ?_)
  refine lv_goto (tgt := 5) hx hb dJ7_fill_53178_17 z163 ?_
  refine lv_iload_n hx hb dJ7_fill_53178_5 rfl (lv_at hl 0 rfl) ?_
  refine lv_iload_n hx hb dJ7_fill_53178_6 rfl (lv_at hl 1 rfl) ?_
  refine lv_icmp_ge (tgt := 20) hx hb dJ7_fill_53178_7 z162 (fun c1 => absurd c1 (z99)) (fun _ => ?_)
  refine lv_aload_n hx hb dJ7_fill_53178_10 rfl (lv_at hl 2 rfl) ?_
  refine lv_iload_n hx hb dJ7_fill_53178_11 rfl (lv_at hl 0 rfl) ?_
  refine lv_iload_n hx hb dJ7_fill_53178_12 rfl (lv_at hl 3 rfl) ?_
  refine my_iastS hx hb hK hP hD hS 0 1 rfl rfl z124 rfl dJ7_fill_53178_13 (fun H locs hP hD hS => ?_)
  refine lv_iinc (v := 6) (lv' := [(2, .int 6), (3, .int 6), (0, .ref (r 40)), (1, .int (-1))]) hx hb dJ7_fill_53178_14 hl (k := 0) rfl z104 (nlt rfl) rfl (fun ls hl => ?_)
  refine lv_goto (tgt := 5) hx hb dJ7_fill_53178_17 z163 ?_
  refine lv_iload_n hx hb dJ7_fill_53178_5 rfl (lv_at hl 0 rfl) ?_
  refine lv_iload_n hx hb dJ7_fill_53178_6 rfl (lv_at hl 1 rfl) ?_
  refine lv_icmp_ge (tgt := 20) hx hb dJ7_fill_53178_7 z162 (fun _ => ?_) (fun c1 => absurd (z105) c1)
  refine W.widen (k := 0) (n := 0) (by decide +kernel) (by decide +kernel) ?_
  exact ret_v hx hb hr hlocks hS (u := (fun _ => 0)) (hP.sub [0] rfl) (hD.sub [0] (by decide +kernel) rfl) dJ7_fill_53178_20

set_option maxHeartbeats 4000000 in
set_option maxRecDepth 100000 in
theorem k46_X0_forgetActs (l : Launch) (dC : Nat → ClassId) (dI : Nat → Nat → Nat) (cB cI cJ cZ cO : ClassId) (r : Nat → Nat) : CV l yX0_forgetActs wsX0_forgetActs ({ frames := 0, cells := 0, slots := 0, locals := 0 }) (dC, dI) (tyL cB cI cJ cZ cO) [.ref (r 38)] [((r 38), .inr (0, [.ref (r 39), .int 0, .ref (r 40), .ref (r 41), .ref (r 42), .ref (r 43), .ref (r 44), .int 0, .int 0]))] (fun u => [((r 38), .inr (0, [.ref (r 39), .int 0, .ref (r 40), .ref (r 41), .ref (r 42), .ref (r 43), .ref (r 44), .int 0, .int 0]))]) := by
  intro sz
  refine ct_open (cc := cX0_forgetActs) (maxL := 1) (ret := none) (by decide) rfl (Nat.le_of_ble_eq_true rfl) ?_
  intro p e s m below meth c ls A hx hb hr hml hts hown hlocks hin hP hK hD hA hS hl
  have hl : lv_has ls 1 [(0, .ref (r 38))] := hl
  have hown : s.vm.findClass RX0 = some m.cls := hown
  have i0 : ∀ w ∈ u_ws RX0 TX0 9, w ∈ wsX0_forgetActs := fun _ h => List.mem_cons_of_mem _ (List.mem_append_right _ h)
  have w1 := hts (.fieldLink RX0 44 "GuildCharter$Earnest" "done" "I") (List.mem_cons_of_mem _ (List.mem_append_left _ (List.mem_of_getElem? (i := 0) rfl)))
  have w2 := hts (.fieldLink RX0 47 "GuildCharter$Earnest" "kept" "I") (List.mem_cons_of_mem _ (List.mem_append_left _ (List.mem_of_getElem? (i := 1) rfl)))
  refine lv_aload_n hx hb dX0_forgetActs_0 rfl (lv_at hl 0 rfl) ?_
  refine lv_iconst (v := 0) hx hb dX0_forgetActs_1 z8 ?_
  refine va_put (D := (dC, dI)) (ci := 0) (v := .int 0) (ty := tyX0 7) (C := RX0) (T := TX0) (N := 9) hx hb hts i0 tyX0 tyX0_ok nmX0 hown hK hP hD hS 0 rfl rfl 7 (nlt rfl) w1 (fun _ h9 => h9) rfl (tyX0_ok 7 (nlt rfl)) rfl rfl (nlt rfl) dX0_forgetActs_2 (fun H locs hP hD hS => ?_)
  refine lv_aload_n hx hb dX0_forgetActs_5 rfl (lv_at hl 0 rfl) ?_
  refine lv_iconst (v := 0) hx hb dX0_forgetActs_6 z8 ?_
  refine va_put (D := (dC, dI)) (ci := 0) (v := .int 0) (ty := tyX0 8) (C := RX0) (T := TX0) (N := 9) hx hb hts i0 tyX0 tyX0_ok nmX0 hown hK hP hD hS 0 rfl rfl 8 (nlt rfl) w2 (fun _ h9 => h9) rfl (tyX0_ok 8 (nlt rfl)) rfl rfl (nlt rfl) dX0_forgetActs_7 (fun H locs hP hD hS => ?_)
  refine W.widen (k := 0) (n := 0) (by decide +kernel) (by decide +kernel) ?_
  exact ret_v hx hb hr hlocks hS (u := (fun _ => 0)) (hP.sub [0] rfl) (hD.sub [0] (by decide +kernel) rfl) dX0_forgetActs_10

set_option maxHeartbeats 4000000 in
set_option maxRecDepth 100000 in
theorem k47_X0_empty (l : Launch) (dC : Nat → ClassId) (dI : Nat → Nat → Nat) (cB cI cJ cZ cO : ClassId) (r : Nat → Nat) : CV l yX0_empty wsX0_empty ({ frames := 1, cells := 0, slots := 0, locals := 23 }) (dC, dI) (tyL cB cI cJ cZ cO) [.ref (r 38)] [((r 38), .inr (0, [.ref (r 39), .int 0, .ref (r 40), .ref (r 41), .ref (r 42), .ref (r 43), .ref (r 44), .int 0, .int 0])), ((r 40), .inl (cI, 6, .inl (upd (upd (upd (upd (upd (upd (fun _ => 0) 0 (-1)) 1 (-1)) 2 (-1)) 3 (-1)) 4 (-1)) 5 (-1))))] (fun u => [((r 38), .inr (0, [.ref (r 39), .int 0, .ref (r 40), .ref (r 41), .ref (r 42), .ref (r 43), .ref (r 44), .int 0, .int 0])), ((r 40), .inl (cI, 6, .inl (upd (upd (upd (upd (upd (upd (fun _ => 0) 0 (-1)) 1 (-1)) 2 (-1)) 3 (-1)) 4 (-1)) 5 (-1))))]) := by
  intro sz
  refine ct_open (cc := cX0_empty) (maxL := 1) (ret := none) (by decide) rfl (Nat.le_of_ble_eq_true rfl) ?_
  intro p e s m below meth c ls A hx hb hr hml hts hown hlocks hin hP hK hD hA hS hl
  have hl : lv_has ls 1 [(0, .ref (r 38))] := hl
  have hown : s.vm.findClass RX0 = some m.cls := hown
  have i0 : ∀ w ∈ u_ws RX0 TX0 9, w ∈ wsX0_empty := fun _ h => List.mem_cons_of_mem _ (List.mem_append_right _ h)
  have w1 := hts (.fieldLink RX0 37 "GuildCharter$Earnest" "size" "I") (List.mem_cons_of_mem _ (List.mem_append_left _ (List.mem_of_getElem? (i := 0) rfl)))
  have w2 := hts (.fieldLink RX0 15 "GuildCharter$Earnest" "sold" "[I") (List.mem_cons_of_mem _ (List.mem_append_left _ (List.mem_of_getElem? (i := 1) rfl)))
  refine lv_aload_n hx hb dX0_empty_0 rfl (lv_at hl 0 rfl) ?_
  refine lv_iconst (v := 0) hx hb dX0_empty_1 z8 ?_
  refine va_put (D := (dC, dI)) (ci := 0) (v := .int 0) (ty := tyX0 1) (C := RX0) (T := TX0) (N := 9) hx hb hts i0 tyX0 tyX0_ok nmX0 hown hK hP hD hS 0 rfl rfl 1 (nlt rfl) w1 (fun _ h9 => h9) rfl (tyX0_ok 1 (nlt rfl)) rfl rfl (nlt rfl) dX0_empty_2 (fun H locs hP hD hS => ?_)
  refine lv_aload_n hx hb dX0_empty_5 rfl (lv_at hl 0 rfl) ?_
  refine va_get (D := (dC, dI)) (ci := 0) (v := .ref (r 40)) (C := RX0) (T := TX0) (N := 9) hx hb hts i0 hown hK hP 0 rfl rfl 2 (nlt rfl) w2 (fun _ h9 => h9) rfl dX0_empty_6 ?_
  refine lv_iconst (v := (-1)) hx hb dX0_empty_9 z128 ?_
  refine call_vS (As := [.ref (r 40), .int (-1)]) (rest := []) (wr := [((r 38), .inr (0, [.ref (r 39), .int 0, .ref (r 40), .ref (r 41), .ref (r 42), .ref (r 43), .ref (r 44), .int 0, .int 0]))]) ⟨hx, hb, hml, hown, hts⟩ (k45_J7_fill_53178 l dC dI cB cI cJ cZ cO r) (va_cwS 2 hts gX0_empty_J7_fill_53178 rfl rfl rfl z164 ⟨Nat.le_of_ble_eq_true rfl, Nat.le_of_ble_eq_true rfl⟩) hK hP hD hS hA [1] [0] rfl rfl (by decide +kernel) (by decide +kernel) (by decide +kernel) hl.1 (Nat.le_of_ble_eq_true rfl) rfl rfl dX0_empty_10 ⟨by decide +kernel, by decide +kernel⟩ (fun u0 H locs hP hD hS => ?_)
  refine lv_aload_n hx hb dX0_empty_13 rfl (lv_at hl 0 rfl) ?_
  refine call_vV (ci := 0) (As := []) (rest := []) (wr := [((r 40), .inl (cI, 6, .inl (upd (upd (upd (upd (upd (upd (fun _ => 0) 0 (-1)) 1 (-1)) 2 (-1)) 3 (-1)) 4 (-1)) 5 (-1))))]) ⟨hx, hb, hml, hown, hts⟩ (k46_X0_forgetActs l dC dI cB cI cJ cZ cO r) (cwV 0 hts gX0_empty_X0_forgetActs rfl rfl rfl ⟨rfl, z536⟩ ⟨Nat.le_of_ble_eq_true rfl, Nat.le_of_ble_eq_true rfl⟩) hK hP hD hS hA [0] [1] rfl rfl (by decide +kernel) (by decide +kernel) (by decide +kernel) rfl rfl rfl hl.1 (Nat.le_of_ble_eq_true rfl) rfl rfl dX0_empty_14 ⟨by decide +kernel, by decide +kernel⟩ (fun u1 H locs hP hD hS => ?_)
  refine W.widen (k := 0) (n := 0) (by decide +kernel) (by decide +kernel) ?_
  exact ret_v hx hb hr hlocks hS (u := (fun _ => 0)) (hP.sub [1, 0] rfl) (hD.sub [1, 0] (by decide +kernel) rfl) dX0_empty_17

set_option maxHeartbeats 4000000 in
set_option maxRecDepth 100000 in
theorem k48_X7_forget (l : Launch) (dC : Nat → ClassId) (dI : Nat → Nat → Nat) (cB cI cJ cZ cO : ClassId) (r : Nat → Nat) : CV l yX7_forget wsX7_forget ({ frames := 0, cells := 0, slots := 0, locals := 0 }) (dC, dI) (tyL cB cI cJ cZ cO) [.ref (r 58)] [((r 58), .inr (7, [.ref (r 59), .int 0, .ref (r 60)]))] (fun u => [((r 58), .inr (7, [.ref (r 59), .int 0, .ref (r 60)]))]) := by
  intro sz
  refine ct_open (cc := cX7_forget) (maxL := 1) (ret := none) (by decide) rfl (Nat.le_of_ble_eq_true rfl) ?_
  intro p e s m below meth c ls A hx hb hr hml hts hown hlocks hin hP hK hD hA hS hl
  have hl : lv_has ls 1 [(0, .ref (r 58))] := hl
  have hown : s.vm.findClass RX7 = some m.cls := hown
  have i7 : ∀ w ∈ u_ws RX7 TX7 3, w ∈ wsX7_forget := fun _ h => List.mem_cons_of_mem _ (List.mem_append_right _ h)
  have w1 := hts (.fieldLink RX7 18 "GuildCharter$Tally" "size" "I") (List.mem_cons_of_mem _ (List.mem_append_left _ (List.mem_of_getElem? (i := 0) rfl)))
  refine lv_aload_n hx hb dX7_forget_0 rfl (lv_at hl 0 rfl) ?_
  refine lv_iconst (v := 0) hx hb dX7_forget_1 z8 ?_
  refine va_put (D := (dC, dI)) (ci := 7) (v := .int 0) (ty := tyX7 1) (C := RX7) (T := TX7) (N := 3) hx hb hts i7 tyX7 tyX7_ok nmX7 hown hK hP hD hS 0 rfl rfl 1 (nlt rfl) w1 (fun _ h9 => h9) rfl (tyX7_ok 1 (nlt rfl)) rfl rfl (nlt rfl) dX7_forget_2 (fun H locs hP hD hS => ?_)
  refine W.widen (k := 0) (n := 0) (by decide +kernel) (by decide +kernel) ?_
  exact ret_v hx hb hr hlocks hS (u := (fun _ => 0)) (hP.sub [0] rfl) (hD.sub [0] (by decide +kernel) rfl) dX7_forget_5

set_option maxHeartbeats 4000000 in
set_option maxRecDepth 100000 in
theorem k49_X9_forget (l : Launch) (dC : Nat → ClassId) (dI : Nat → Nat → Nat) (cB cI cJ cZ cO : ClassId) (r : Nat → Nat) : CV l yX9_forget wsX9_forget ({ frames := 0, cells := 0, slots := 0, locals := 0 }) (dC, dI) (tyL cB cI cJ cZ cO) [.ref (r 65)] [((r 65), .inr (9, [.int 0, .int 0, .ref (r 66), .ref (r 67), .ref (r 68), .ref (r 69), .int 0, .int 0, .int 0, .int 0, .int 0]))] (fun u => [((r 65), .inr (9, [.int 0, .int 0, .ref (r 66), .ref (r 67), .ref (r 68), .ref (r 69), .int 0, .int 0, .int 0, .int 0, .int 0]))]) := by
  intro sz
  refine ct_open (cc := cX9_forget) (maxL := 1) (ret := none) (by decide) rfl (Nat.le_of_ble_eq_true rfl) ?_
  intro p e s m below meth c ls A hx hb hr hml hts hown hlocks hin hP hK hD hA hS hl
  have hl : lv_has ls 1 [(0, .ref (r 65))] := hl
  have hown : s.vm.findClass RX9 = some m.cls := hown
  have i9 : ∀ w ∈ u_ws RX9 TX9 11, w ∈ wsX9_forget := fun _ h => List.mem_cons_of_mem _ (List.mem_append_right _ h)
  have w1 := hts (.fieldLink RX9 24 "GuildCharter$Tree" "grown" "Z") (List.mem_cons_of_mem _ (List.mem_append_left _ (List.mem_of_getElem? (i := 0) rfl)))
  refine lv_aload_n hx hb dX9_forget_0 rfl (lv_at hl 0 rfl) ?_
  refine lv_iconst (v := 0) hx hb dX9_forget_1 z8 ?_
  refine va_put (D := (dC, dI)) (ci := 9) (v := .int 0) (ty := tyX9 7) (C := RX9) (T := TX9) (N := 11) hx hb hts i9 tyX9 tyX9_ok nmX9 hown hK hP hD hS 0 rfl rfl 7 (nlt rfl) w1 (fun _ h9 => h9) rfl (tyX9_ok 7 (nlt rfl)) rfl rfl (nlt rfl) dX9_forget_2 (fun H locs hP hD hS => ?_)
  refine W.widen (k := 0) (n := 0) (by decide +kernel) (by decide +kernel) ?_
  exact ret_v hx hb hr hlocks hS (u := (fun _ => 0)) (hP.sub [0] rfl) (hD.sub [0] (by decide +kernel) rfl) dX9_forget_5

set_option maxHeartbeats 4000000 in
set_option maxRecDepth 100000 in
theorem k50_X9_forget (l : Launch) (dC : Nat → ClassId) (dI : Nat → Nat → Nat) (cB cI cJ cZ cO : ClassId) (r : Nat → Nat) : CV l yX9_forget wsX9_forget ({ frames := 0, cells := 0, slots := 0, locals := 0 }) (dC, dI) (tyL cB cI cJ cZ cO) [.ref (r 70)] [((r 70), .inr (9, [.int 0, .int 0, .ref (r 71), .ref (r 72), .ref (r 73), .ref (r 74), .int 0, .int 0, .int 0, .int 0, .int 0]))] (fun u => [((r 70), .inr (9, [.int 0, .int 0, .ref (r 71), .ref (r 72), .ref (r 73), .ref (r 74), .int 0, .int 0, .int 0, .int 0, .int 0]))]) := by
  intro sz
  refine ct_open (cc := cX9_forget) (maxL := 1) (ret := none) (by decide) rfl (Nat.le_of_ble_eq_true rfl) ?_
  intro p e s m below meth c ls A hx hb hr hml hts hown hlocks hin hP hK hD hA hS hl
  have hl : lv_has ls 1 [(0, .ref (r 70))] := hl
  have hown : s.vm.findClass RX9 = some m.cls := hown
  have i9 : ∀ w ∈ u_ws RX9 TX9 11, w ∈ wsX9_forget := fun _ h => List.mem_cons_of_mem _ (List.mem_append_right _ h)
  have w1 := hts (.fieldLink RX9 24 "GuildCharter$Tree" "grown" "Z") (List.mem_cons_of_mem _ (List.mem_append_left _ (List.mem_of_getElem? (i := 0) rfl)))
  refine lv_aload_n hx hb dX9_forget_0 rfl (lv_at hl 0 rfl) ?_
  refine lv_iconst (v := 0) hx hb dX9_forget_1 z8 ?_
  refine va_put (D := (dC, dI)) (ci := 9) (v := .int 0) (ty := tyX9 7) (C := RX9) (T := TX9) (N := 11) hx hb hts i9 tyX9 tyX9_ok nmX9 hown hK hP hD hS 0 rfl rfl 7 (nlt rfl) w1 (fun _ h9 => h9) rfl (tyX9_ok 7 (nlt rfl)) rfl rfl (nlt rfl) dX9_forget_2 (fun H locs hP hD hS => ?_)
  refine W.widen (k := 0) (n := 0) (by decide +kernel) (by decide +kernel) ?_
  exact ret_v hx hb hr hlocks hS (u := (fun _ => 0)) (hP.sub [0] rfl) (hD.sub [0] (by decide +kernel) rfl) dX9_forget_5

set_option maxHeartbeats 4000000 in
set_option maxRecDepth 100000 in
theorem k51_X9_forget (l : Launch) (dC : Nat → ClassId) (dI : Nat → Nat → Nat) (cB cI cJ cZ cO : ClassId) (r : Nat → Nat) : CV l yX9_forget wsX9_forget ({ frames := 0, cells := 0, slots := 0, locals := 0 }) (dC, dI) (tyL cB cI cJ cZ cO) [.ref (r 75)] [((r 75), .inr (9, [.int 0, .int 0, .ref (r 76), .ref (r 77), .ref (r 78), .ref (r 79), .int 0, .int 0, .int 0, .int 0, .int 0]))] (fun u => [((r 75), .inr (9, [.int 0, .int 0, .ref (r 76), .ref (r 77), .ref (r 78), .ref (r 79), .int 0, .int 0, .int 0, .int 0, .int 0]))]) := by
  intro sz
  refine ct_open (cc := cX9_forget) (maxL := 1) (ret := none) (by decide) rfl (Nat.le_of_ble_eq_true rfl) ?_
  intro p e s m below meth c ls A hx hb hr hml hts hown hlocks hin hP hK hD hA hS hl
  have hl : lv_has ls 1 [(0, .ref (r 75))] := hl
  have hown : s.vm.findClass RX9 = some m.cls := hown
  have i9 : ∀ w ∈ u_ws RX9 TX9 11, w ∈ wsX9_forget := fun _ h => List.mem_cons_of_mem _ (List.mem_append_right _ h)
  have w1 := hts (.fieldLink RX9 24 "GuildCharter$Tree" "grown" "Z") (List.mem_cons_of_mem _ (List.mem_append_left _ (List.mem_of_getElem? (i := 0) rfl)))
  refine lv_aload_n hx hb dX9_forget_0 rfl (lv_at hl 0 rfl) ?_
  refine lv_iconst (v := 0) hx hb dX9_forget_1 z8 ?_
  refine va_put (D := (dC, dI)) (ci := 9) (v := .int 0) (ty := tyX9 7) (C := RX9) (T := TX9) (N := 11) hx hb hts i9 tyX9 tyX9_ok nmX9 hown hK hP hD hS 0 rfl rfl 7 (nlt rfl) w1 (fun _ h9 => h9) rfl (tyX9_ok 7 (nlt rfl)) rfl rfl (nlt rfl) dX9_forget_2 (fun H locs hP hD hS => ?_)
  refine W.widen (k := 0) (n := 0) (by decide +kernel) (by decide +kernel) ?_
  exact ret_v hx hb hr hlocks hS (u := (fun _ => 0)) (hP.sub [0] rfl) (hD.sub [0] (by decide +kernel) rfl) dX9_forget_5

set_option maxHeartbeats 4000000 in
set_option maxRecDepth 100000 in
theorem k52_X3_forget (l : Launch) (dC : Nat → ClassId) (dI : Nat → Nat → Nat) (cB cI cJ cZ cO : ClassId) (r : Nat → Nat) : CV l yX3_forget wsX3_forget ({ frames := 0, cells := 0, slots := 0, locals := 0 }) (dC, dI) (tyL cB cI cJ cZ cO) [.ref (r 61)] [((r 61), .inr (3, [.ref (r 62), .ref (r 63), .ref (r 64), .int 0, .int (-1), .int 0, .int 0, .int 0, .int 0]))] (fun u => [((r 61), .inr (3, [.ref (r 62), .ref (r 63), .ref (r 64), .int 0, .int (-1), .int 0, .int 0, .int 0, .int 0]))]) := by
  intro sz
  refine ct_open (cc := cX3_forget) (maxL := 1) (ret := none) (by decide) rfl (Nat.le_of_ble_eq_true rfl) ?_
  intro p e s m below meth c ls A hx hb hr hml hts hown hlocks hin hP hK hD hA hS hl
  have hl : lv_has ls 1 [(0, .ref (r 61))] := hl
  have hown : s.vm.findClass RX3 = some m.cls := hown
  have i3 : ∀ w ∈ u_ws RX3 TX3 9, w ∈ wsX3_forget := fun _ h => List.mem_cons_of_mem _ (List.mem_append_right _ h)
  have w1 := hts (.fieldLink RX3 25 "GuildCharter$Play" "lotsKnown" "Z") (List.mem_cons_of_mem _ (List.mem_append_left _ (List.mem_of_getElem? (i := 0) rfl)))
  refine lv_aload_n hx hb dX3_forget_0 rfl (lv_at hl 0 rfl) ?_
  refine lv_iconst (v := 0) hx hb dX3_forget_1 z8 ?_
  refine va_put (D := (dC, dI)) (ci := 3) (v := .int 0) (ty := tyX3 3) (C := RX3) (T := TX3) (N := 9) hx hb hts i3 tyX3 tyX3_ok nmX3 hown hK hP hD hS 0 rfl rfl 3 (nlt rfl) w1 (fun _ h9 => h9) rfl (tyX3_ok 3 (nlt rfl)) rfl rfl (nlt rfl) dX3_forget_2 (fun H locs hP hD hS => ?_)
  refine W.widen (k := 0) (n := 0) (by decide +kernel) (by decide +kernel) ?_
  exact ret_v hx hb hr hlocks hS (u := (fun _ => 0)) (hP.sub [0] rfl) (hD.sub [0] (by decide +kernel) rfl) dX3_forget_5

set_option maxHeartbeats 4000000 in
set_option maxRecDepth 100000 in
theorem k53_X10_forgetOldPort (l : Launch) (dC : Nat → ClassId) (dI : Nat → Nat → Nat) (cB cI cJ cZ cO : ClassId) (r : Nat → Nat) : CV l yX10_forgetOldPort wsX10_forgetOldPort ({ frames := 2, cells := 0, slots := 0, locals := 43 }) (dC, dI) (tyL cB cI cJ cZ cO) [.ref (r 0)] [((r 0), .inr (10, [.ref (r 1), .int 0, .ref (r 2), .ref (r 28), .ref (r 18), .ref (r 38), .ref (r 45), .ref (r 55), .ref (r 58), .ref (r 61), .ref (r 65), .ref (r 70), .ref (r 75), .int 0, .ref (r 80), .ref (r 86), .int 0, .ref (r 87)])), ((r 38), .inr (0, [.ref (r 39), .int 0, .ref (r 40), .ref (r 41), .ref (r 42), .ref (r 43), .ref (r 44), .int 0, .int 0])), ((r 40), .inl (cI, 6, .inl (upd (upd (upd (upd (upd (upd (fun _ => 0) 0 (-1)) 1 (-1)) 2 (-1)) 3 (-1)) 4 (-1)) 5 (-1)))), ((r 45), .inl (cO, 3, .inr (.inr (.inr (.inr (va_up (va_up (va_up (fun _ => none) 0 (some (r 46))) 1 (some (r 49))) 2 (some (r 52)))))))), ((r 46), .inr (1, [.int 0, .ref (r 47), .int 0, .ref (r 48)])), ((r 49), .inr (1, [.int 0, .ref (r 50), .int 0, .ref (r 51)])), ((r 52), .inr (1, [.int 0, .ref (r 53), .int 0, .ref (r 54)])), ((r 58), .inr (7, [.ref (r 59), .int 0, .ref (r 60)])), ((r 65), .inr (9, [.int 0, .int 0, .ref (r 66), .ref (r 67), .ref (r 68), .ref (r 69), .int 0, .int 0, .int 0, .int 0, .int 0])), ((r 70), .inr (9, [.int 0, .int 0, .ref (r 71), .ref (r 72), .ref (r 73), .ref (r 74), .int 0, .int 0, .int 0, .int 0, .int 0])), ((r 75), .inr (9, [.int 0, .int 0, .ref (r 76), .ref (r 77), .ref (r 78), .ref (r 79), .int 0, .int 0, .int 0, .int 0, .int 0])), ((r 61), .inr (3, [.ref (r 62), .ref (r 63), .ref (r 64), .int 0, .int (-1), .int 0, .int 0, .int 0, .int 0])), ((r 80), .inr (6, [.int 0, .int 0, .ref (r 81), .ref (r 82), .ref (r 83), .ref (r 84), .ref (r 85)]))] (fun u => [((r 0), .inr (10, [.ref (r 1), .int 0, .ref (r 2), .ref (r 28), .ref (r 18), .ref (r 38), .ref (r 45), .ref (r 55), .ref (r 58), .ref (r 61), .ref (r 65), .ref (r 70), .ref (r 75), .int 0, .ref (r 80), .ref (r 86), .int 0, .ref (r 87)])), ((r 38), .inr (0, [.ref (r 39), .int 0, .ref (r 40), .ref (r 41), .ref (r 42), .ref (r 43), .ref (r 44), .int 0, .int 0])), ((r 40), .inl (cI, 6, .inl (upd (upd (upd (upd (upd (upd (fun _ => 0) 0 (-1)) 1 (-1)) 2 (-1)) 3 (-1)) 4 (-1)) 5 (-1)))), ((r 45), .inl (cO, 3, .inr (.inr (.inr (.inr (va_up (va_up (va_up (fun _ => none) 0 (some (r 46))) 1 (some (r 49))) 2 (some (r 52)))))))), ((r 46), .inr (1, [.int 0, .ref (r 47), .int 0, .ref (r 48)])), ((r 49), .inr (1, [.int 0, .ref (r 50), .int 0, .ref (r 51)])), ((r 52), .inr (1, [.int 0, .ref (r 53), .int 0, .ref (r 54)])), ((r 58), .inr (7, [.ref (r 59), .int 0, .ref (r 60)])), ((r 65), .inr (9, [.int 0, .int 0, .ref (r 66), .ref (r 67), .ref (r 68), .ref (r 69), .int 0, .int 0, .int 0, .int 0, .int 0])), ((r 70), .inr (9, [.int 0, .int 0, .ref (r 71), .ref (r 72), .ref (r 73), .ref (r 74), .int 0, .int 0, .int 0, .int 0, .int 0])), ((r 75), .inr (9, [.int 0, .int 0, .ref (r 76), .ref (r 77), .ref (r 78), .ref (r 79), .int 0, .int 0, .int 0, .int 0, .int 0])), ((r 61), .inr (3, [.ref (r 62), .ref (r 63), .ref (r 64), .int 0, .int (-1), .int 0, .int 0, .int 0, .int 0])), ((r 80), .inr (6, [.int 0, .int 0, .ref (r 81), .ref (r 82), .ref (r 83), .ref (r 84), .ref (r 85)]))]) := by
  intro sz
  refine ct_open (cc := cX10_forgetOldPort) (maxL := 2) (ret := none) (by decide) rfl (Nat.le_of_ble_eq_true rfl) ?_
  intro p e s m below meth c ls A hx hb hr hml hts hown hlocks hin hP hK hD hA hS hl
  have hl : lv_has ls 2 [(0, .ref (r 0))] := hl
  have hown : s.vm.findClass RX10 = some m.cls := hown
  have i10 : ∀ w ∈ u_ws RX10 TX10 18, w ∈ wsX10_forgetOldPort := fun _ h => List.mem_cons_of_mem _ (List.mem_append_left _ (List.mem_append_left _ (List.mem_append_left _ (List.mem_append_left _ (List.mem_append_left _ (List.mem_append_left _ (List.mem_append_right _ h)))))))
  have w1 := hts (.fieldLink RX10 33 "GuildCharter" "earnest" "LGuildCharter$Earnest;") (List.mem_cons_of_mem _ (List.mem_append_left _ (List.mem_append_left _ (List.mem_append_left _ (List.mem_append_left _ (List.mem_append_left _ (List.mem_append_left _ (List.mem_append_left _ (List.mem_append_left _ (List.mem_of_getElem? (i := 0) rfl))))))))))
  have w2 := hts (.fieldLink RX10 40 "GuildCharter" "boxes" "[LGuildCharter$Image;") (List.mem_cons_of_mem _ (List.mem_append_left _ (List.mem_append_left _ (List.mem_append_left _ (List.mem_append_left _ (List.mem_append_left _ (List.mem_append_left _ (List.mem_append_left _ (List.mem_append_left _ (List.mem_of_getElem? (i := 1) rfl))))))))))
  have i1 : ∀ w ∈ u_ws RX1 TX1 4, w ∈ wsX10_forgetOldPort := fun _ h => List.mem_cons_of_mem _ (List.mem_append_left _ (List.mem_append_left _ (List.mem_append_left _ (List.mem_append_left _ (List.mem_append_left _ (List.mem_append_right _ h))))))
  have w4 := hts (.fieldLink RX10 113 "GuildCharter$Image" "full" "Z") (List.mem_cons_of_mem _ (List.mem_append_left _ (List.mem_append_left _ (List.mem_append_left _ (List.mem_append_left _ (List.mem_append_left _ (List.mem_append_left _ (List.mem_append_left _ (List.mem_append_left _ (List.mem_of_getElem? (i := 2) rfl))))))))))
  have w5 := hts (.fieldLink RX10 54 "GuildCharter" "tally" "LGuildCharter$Tally;") (List.mem_cons_of_mem _ (List.mem_append_left _ (List.mem_append_left _ (List.mem_append_left _ (List.mem_append_left _ (List.mem_append_left _ (List.mem_append_left _ (List.mem_append_left _ (List.mem_append_left _ (List.mem_of_getElem? (i := 3) rfl))))))))))
  have w6 := hts (.fieldLink RX10 68 "GuildCharter" "wholeTree" "LGuildCharter$Tree;") (List.mem_cons_of_mem _ (List.mem_append_left _ (List.mem_append_left _ (List.mem_append_left _ (List.mem_append_left _ (List.mem_append_left _ (List.mem_append_left _ (List.mem_append_left _ (List.mem_append_left _ (List.mem_of_getElem? (i := 4) rfl))))))))))
  have w7 := hts (.fieldLink RX10 72 "GuildCharter" "earnestTree" "LGuildCharter$Tree;") (List.mem_cons_of_mem _ (List.mem_append_left _ (List.mem_append_left _ (List.mem_append_left _ (List.mem_append_left _ (List.mem_append_left _ (List.mem_append_left _ (List.mem_append_left _ (List.mem_append_left _ (List.mem_of_getElem? (i := 5) rfl))))))))))
  have w8 := hts (.fieldLink RX10 75 "GuildCharter" "holeTree" "LGuildCharter$Tree;") (List.mem_cons_of_mem _ (List.mem_append_left _ (List.mem_append_left _ (List.mem_append_left _ (List.mem_append_left _ (List.mem_append_left _ (List.mem_append_left _ (List.mem_append_left _ (List.mem_append_left _ (List.mem_of_getElem? (i := 6) rfl))))))))))
  have w9 := hts (.fieldLink RX10 61 "GuildCharter" "play" "LGuildCharter$Play;") (List.mem_cons_of_mem _ (List.mem_append_left _ (List.mem_append_left _ (List.mem_append_left _ (List.mem_append_left _ (List.mem_append_left _ (List.mem_append_left _ (List.mem_append_left _ (List.mem_append_left _ (List.mem_of_getElem? (i := 7) rfl))))))))))
  have w10 := hts (.fieldLink RX10 122 "GuildCharter" "holes" "I") (List.mem_cons_of_mem _ (List.mem_append_left _ (List.mem_append_left _ (List.mem_append_left _ (List.mem_append_left _ (List.mem_append_left _ (List.mem_append_left _ (List.mem_append_left _ (List.mem_append_left _ (List.mem_of_getElem? (i := 8) rfl))))))))))
  have w11 := hts (.fieldLink RX10 81 "GuildCharter" "sightings" "LGuildCharter$Sightings;") (List.mem_cons_of_mem _ (List.mem_append_left _ (List.mem_append_left _ (List.mem_append_left _ (List.mem_append_left _ (List.mem_append_left _ (List.mem_append_left _ (List.mem_append_left _ (List.mem_append_left _ (List.mem_of_getElem? (i := 9) rfl))))))))))
  have i6 : ∀ w ∈ u_ws RX6 TX6 7, w ∈ wsX10_forgetOldPort := fun _ h => List.mem_cons_of_mem _ (List.mem_append_left _ (List.mem_append_left _ (List.mem_append_left _ (List.mem_append_left _ (List.mem_append_right _ h)))))
  have w13 := hts (.fieldLink RX10 125 "GuildCharter$Sightings" "count" "I") (List.mem_cons_of_mem _ (List.mem_append_left _ (List.mem_append_left _ (List.mem_append_left _ (List.mem_append_left _ (List.mem_append_left _ (List.mem_append_left _ (List.mem_append_left _ (List.mem_append_left _ (List.mem_of_getElem? (i := 10) rfl))))))))))
  have w14 := hts (.fieldLink RX10 128 "GuildCharter" "lyingSize" "I") (List.mem_cons_of_mem _ (List.mem_append_left _ (List.mem_append_left _ (List.mem_append_left _ (List.mem_append_left _ (List.mem_append_left _ (List.mem_append_left _ (List.mem_append_left _ (List.mem_append_left _ (List.mem_of_getElem? (i := 11) rfl))))))))))
  refine lv_aload_n hx hb dX10_forgetOldPort_0 rfl (lv_at hl 0 rfl) ?_
  refine va_get (D := (dC, dI)) (ci := 10) (v := .ref (r 38)) (C := RX10) (T := TX10) (N := 18) hx hb hts i10 hown hK hP 0 rfl rfl 5 (nlt rfl) w1 (fun _ h9 => h9) rfl dX10_forgetOldPort_1 ?_
  refine call_vV (ci := 0) (As := []) (rest := []) (wr := [((r 0), .inr (10, [.ref (r 1), .int 0, .ref (r 2), .ref (r 28), .ref (r 18), .ref (r 38), .ref (r 45), .ref (r 55), .ref (r 58), .ref (r 61), .ref (r 65), .ref (r 70), .ref (r 75), .int 0, .ref (r 80), .ref (r 86), .int 0, .ref (r 87)])), ((r 45), .inl (cO, 3, .inr (.inr (.inr (.inr (va_up (va_up (va_up (fun _ => none) 0 (some (r 46))) 1 (some (r 49))) 2 (some (r 52)))))))), ((r 46), .inr (1, [.int 0, .ref (r 47), .int 0, .ref (r 48)])), ((r 49), .inr (1, [.int 0, .ref (r 50), .int 0, .ref (r 51)])), ((r 52), .inr (1, [.int 0, .ref (r 53), .int 0, .ref (r 54)])), ((r 58), .inr (7, [.ref (r 59), .int 0, .ref (r 60)])), ((r 65), .inr (9, [.int 0, .int 0, .ref (r 66), .ref (r 67), .ref (r 68), .ref (r 69), .int 0, .int 0, .int 0, .int 0, .int 0])), ((r 70), .inr (9, [.int 0, .int 0, .ref (r 71), .ref (r 72), .ref (r 73), .ref (r 74), .int 0, .int 0, .int 0, .int 0, .int 0])), ((r 75), .inr (9, [.int 0, .int 0, .ref (r 76), .ref (r 77), .ref (r 78), .ref (r 79), .int 0, .int 0, .int 0, .int 0, .int 0])), ((r 61), .inr (3, [.ref (r 62), .ref (r 63), .ref (r 64), .int 0, .int (-1), .int 0, .int 0, .int 0, .int 0])), ((r 80), .inr (6, [.int 0, .int 0, .ref (r 81), .ref (r 82), .ref (r 83), .ref (r 84), .ref (r 85)]))]) ⟨hx, hb, hml, hown, hts⟩ (k47_X0_empty l dC dI cB cI cJ cZ cO r) (cwV 0 hts gX10_forgetOldPort_X0_empty rfl rfl rfl ⟨rfl, z539⟩ ⟨Nat.le_of_ble_eq_true rfl, Nat.le_of_ble_eq_true rfl⟩) hK hP hD hS hA [1, 2] [0, 3, 4, 5, 6, 7, 8, 9, 10, 11, 12] rfl rfl (by decide +kernel) (by decide +kernel) (by decide +kernel) rfl rfl rfl hl.1 (Nat.le_of_ble_eq_true rfl) rfl rfl dX10_forgetOldPort_4 ⟨by decide +kernel, by decide +kernel⟩ (fun u0 H locs hP hD hS => ?_)
  refine lv_iconst (v := 0) hx hb dX10_forgetOldPort_7 z8 ?_
  refine lv_istore_n (lv' := [(1, .int 0), (0, .ref (r 0))]) hx hb dX10_forgetOldPort_8 rfl hl (nlt rfl) rfl (fun ls hl => ?_)
  refine lv_iload_n hx hb dX10_forgetOldPort_9 rfl (lv_at hl 0 rfl) ?_
  refine lv_iconst (v := 3) hx hb dX10_forgetOldPort_10 z69 ?_
  refine lv_icmp_ge (tgt := 30) hx hb dX10_forgetOldPort_11 z537 (fun c1 => absurd c1 (z267)) (fun _ => ?_)
  refine lv_aload_n hx hb dX10_forgetOldPort_14 rfl (lv_at hl 1 rfl) ?_
  refine va_get (D := (dC, dI)) (ci := 10) (v := .ref (r 45)) (C := RX10) (T := TX10) (N := 18) hx hb hts i10 hown hK hP 0 rfl rfl 6 (nlt rfl) w2 (fun _ h9 => h9) rfl dX10_forgetOldPort_15 ?_
  refine lv_iload_n hx hb dX10_forgetOldPort_18 rfl (lv_at hl 0 rfl) ?_
  refine my_aldq (v := (r 46)) hx hb hK hP 1 4 rfl rfl z165 rfl dX10_forgetOldPort_19 ?_
  refine lv_iconst (v := 0) hx hb dX10_forgetOldPort_20 z8 ?_
  refine va_put (D := (dC, dI)) (ci := 1) (v := .int 0) (ty := tyX1 0) (C := RX1) (T := TX1) (N := 4) hx hb hts i1 tyX1 tyX1_ok nmX1 hown hK hP hD hS 2 rfl rfl 0 (nlt rfl) w4 (fun _ h9 => h9) rfl (tyX1_ok 0 (nlt rfl)) rfl rfl (nlt rfl) dX10_forgetOldPort_21 (fun H locs hP hD hS => ?_)
  refine lv_iinc (v := 1) (lv' := [(1, .int 1), (0, .ref (r 0))]) hx hb dX10_forgetOldPort_24 hl (k := 0) rfl z17 (nlt rfl) rfl (fun ls hl => ?_)
  refine lv_goto (tgt := 9) hx hb dX10_forgetOldPort_27 z538 ?_
  refine lv_iload_n hx hb dX10_forgetOldPort_9 rfl (lv_at hl 0 rfl) ?_
  refine lv_iconst (v := 3) hx hb dX10_forgetOldPort_10 z69 ?_
  refine lv_icmp_ge (tgt := 30) hx hb dX10_forgetOldPort_11 z537 (fun c1 => absurd c1 (z270)) (fun _ => ?_)
  refine lv_aload_n hx hb dX10_forgetOldPort_14 rfl (lv_at hl 1 rfl) ?_
  refine va_get (D := (dC, dI)) (ci := 10) (v := .ref (r 45)) (C := RX10) (T := TX10) (N := 18) hx hb hts i10 hown hK hP 0 rfl rfl 6 (nlt rfl) w2 (fun _ h9 => h9) rfl dX10_forgetOldPort_15 ?_
  refine lv_iload_n hx hb dX10_forgetOldPort_18 rfl (lv_at hl 0 rfl) ?_
  refine my_aldq (v := (r 49)) hx hb hK hP 1 4 rfl rfl z166 rfl dX10_forgetOldPort_19 ?_
  refine lv_iconst (v := 0) hx hb dX10_forgetOldPort_20 z8 ?_
  refine va_put (D := (dC, dI)) (ci := 1) (v := .int 0) (ty := tyX1 0) (C := RX1) (T := TX1) (N := 4) hx hb hts i1 tyX1 tyX1_ok nmX1 hown hK hP hD hS 3 rfl rfl 0 (nlt rfl) w4 (fun _ h9 => h9) rfl (tyX1_ok 0 (nlt rfl)) rfl rfl (nlt rfl) dX10_forgetOldPort_21 (fun H locs hP hD hS => ?_)
  refine lv_iinc (v := 2) (lv' := [(1, .int 2), (0, .ref (r 0))]) hx hb dX10_forgetOldPort_24 hl (k := 0) rfl z24 (nlt rfl) rfl (fun ls hl => ?_)
  refine lv_goto (tgt := 9) hx hb dX10_forgetOldPort_27 z538 ?_
  refine lv_iload_n hx hb dX10_forgetOldPort_9 rfl (lv_at hl 0 rfl) ?_
  refine lv_iconst (v := 3) hx hb dX10_forgetOldPort_10 z69 ?_
  refine lv_icmp_ge (tgt := 30) hx hb dX10_forgetOldPort_11 z537 (fun c1 => absurd c1 (z271)) (fun _ => ?_)
  refine lv_aload_n hx hb dX10_forgetOldPort_14 rfl (lv_at hl 1 rfl) ?_
  refine va_get (D := (dC, dI)) (ci := 10) (v := .ref (r 45)) (C := RX10) (T := TX10) (N := 18) hx hb hts i10 hown hK hP 0 rfl rfl 6 (nlt rfl) w2 (fun _ h9 => h9) rfl dX10_forgetOldPort_15 ?_
  refine lv_iload_n hx hb dX10_forgetOldPort_18 rfl (lv_at hl 0 rfl) ?_
  refine my_aldq (v := (r 52)) hx hb hK hP 1 4 rfl rfl z167 rfl dX10_forgetOldPort_19 ?_
  refine lv_iconst (v := 0) hx hb dX10_forgetOldPort_20 z8 ?_
  refine va_put (D := (dC, dI)) (ci := 1) (v := .int 0) (ty := tyX1 0) (C := RX1) (T := TX1) (N := 4) hx hb hts i1 tyX1 tyX1_ok nmX1 hown hK hP hD hS 4 rfl rfl 0 (nlt rfl) w4 (fun _ h9 => h9) rfl (tyX1_ok 0 (nlt rfl)) rfl rfl (nlt rfl) dX10_forgetOldPort_21 (fun H locs hP hD hS => ?_)
  have hP : va_P (dC, dI) vwCl [((r 0), .inr (10, [.ref (r 1), .int 0, .ref (r 2), .ref (r 28), .ref (r 18), .ref (r 38), .ref (r 45), .ref (r 55), .ref (r 58), .ref (r 61), .ref (r 65), .ref (r 70), .ref (r 75), .int 0, .ref (r 80), .ref (r 86), .int 0, .ref (r 87)])), ((r 45), .inl (cO, 3, .inr (.inr (.inr (.inr (va_up (va_up (va_up (fun _ => none) 0 (some (r 46))) 1 (some (r 49))) 2 (some (r 52)))))))), ((r 46), .inr (1, [.int 0, .ref (r 47), .int 0, .ref (r 48)])), ((r 49), .inr (1, [.int 0, .ref (r 50), .int 0, .ref (r 51)])), ((r 52), .inr (1, [.int 0, .ref (r 53), .int 0, .ref (r 54)])), ((r 58), .inr (7, [.ref (r 59), .int 0, .ref (r 60)])), ((r 65), .inr (9, [.int 0, .int 0, .ref (r 66), .ref (r 67), .ref (r 68), .ref (r 69), .int 0, .int 0, .int 0, .int 0, .int 0])), ((r 70), .inr (9, [.int 0, .int 0, .ref (r 71), .ref (r 72), .ref (r 73), .ref (r 74), .int 0, .int 0, .int 0, .int 0, .int 0])), ((r 75), .inr (9, [.int 0, .int 0, .ref (r 76), .ref (r 77), .ref (r 78), .ref (r 79), .int 0, .int 0, .int 0, .int 0, .int 0])), ((r 61), .inr (3, [.ref (r 62), .ref (r 63), .ref (r 64), .int 0, .int (-1), .int 0, .int 0, .int 0, .int 0])), ((r 80), .inr (6, [.int 0, .int 0, .ref (r 81), .ref (r 82), .ref (r 83), .ref (r 84), .ref (r 85)])), ((r 38), .inr (0, [.ref (r 39), .int 0, .ref (r 40), .ref (r 41), .ref (r 42), .ref (r 43), .ref (r 44), .int 0, .int 0])), ((r 40), .inl (cI, 6, .inl (upd (upd (upd (upd (upd (upd (fun _ => 0) 0 (-1)) 1 (-1)) 2 (-1)) 3 (-1)) 4 (-1)) 5 (-1))))] H := hP
  have hD : va_D A [((r 0), .inr (10, [.ref (r 1), .int 0, .ref (r 2), .ref (r 28), .ref (r 18), .ref (r 38), .ref (r 45), .ref (r 55), .ref (r 58), .ref (r 61), .ref (r 65), .ref (r 70), .ref (r 75), .int 0, .ref (r 80), .ref (r 86), .int 0, .ref (r 87)])), ((r 45), .inl (cO, 3, .inr (.inr (.inr (.inr (va_up (va_up (va_up (fun _ => none) 0 (some (r 46))) 1 (some (r 49))) 2 (some (r 52)))))))), ((r 46), .inr (1, [.int 0, .ref (r 47), .int 0, .ref (r 48)])), ((r 49), .inr (1, [.int 0, .ref (r 50), .int 0, .ref (r 51)])), ((r 52), .inr (1, [.int 0, .ref (r 53), .int 0, .ref (r 54)])), ((r 58), .inr (7, [.ref (r 59), .int 0, .ref (r 60)])), ((r 65), .inr (9, [.int 0, .int 0, .ref (r 66), .ref (r 67), .ref (r 68), .ref (r 69), .int 0, .int 0, .int 0, .int 0, .int 0])), ((r 70), .inr (9, [.int 0, .int 0, .ref (r 71), .ref (r 72), .ref (r 73), .ref (r 74), .int 0, .int 0, .int 0, .int 0, .int 0])), ((r 75), .inr (9, [.int 0, .int 0, .ref (r 76), .ref (r 77), .ref (r 78), .ref (r 79), .int 0, .int 0, .int 0, .int 0, .int 0])), ((r 61), .inr (3, [.ref (r 62), .ref (r 63), .ref (r 64), .int 0, .int (-1), .int 0, .int 0, .int 0, .int 0])), ((r 80), .inr (6, [.int 0, .int 0, .ref (r 81), .ref (r 82), .ref (r 83), .ref (r 84), .ref (r 85)])), ((r 38), .inr (0, [.ref (r 39), .int 0, .ref (r 40), .ref (r 41), .ref (r 42), .ref (r 43), .ref (r 44), .int 0, .int 0])), ((r 40), .inl (cI, 6, .inl (upd (upd (upd (upd (upd (upd (fun _ => 0) 0 (-1)) 1 (-1)) 2 (-1)) 3 (-1)) 4 (-1)) 5 (-1))))] := hD
  refine lv_iinc (v := 3) (lv' := [(1, .int 3), (0, .ref (r 0))]) hx hb dX10_forgetOldPort_24 hl (k := 0) rfl z30 (nlt rfl) rfl (fun ls hl => ?_)
  refine lv_goto (tgt := 9) hx hb dX10_forgetOldPort_27 z538 ?_
  refine lv_iload_n hx hb dX10_forgetOldPort_9 rfl (lv_at hl 0 rfl) ?_
  refine lv_iconst (v := 3) hx hb dX10_forgetOldPort_10 z69 ?_
  refine lv_icmp_ge (tgt := 30) hx hb dX10_forgetOldPort_11 z537 (fun _ => ?_) (fun c1 => absurd (z272) c1)
  refine lv_aload_n hx hb dX10_forgetOldPort_30 rfl (lv_at hl 1 rfl) ?_
  refine va_get (D := (dC, dI)) (ci := 10) (v := .ref (r 58)) (C := RX10) (T := TX10) (N := 18) hx hb hts i10 hown hK hP 0 rfl rfl 8 (nlt rfl) w5 (fun _ h9 => h9) rfl dX10_forgetOldPort_31 ?_
  refine call_vV (ci := 7) (As := []) (rest := []) (wr := [((r 0), .inr (10, [.ref (r 1), .int 0, .ref (r 2), .ref (r 28), .ref (r 18), .ref (r 38), .ref (r 45), .ref (r 55), .ref (r 58), .ref (r 61), .ref (r 65), .ref (r 70), .ref (r 75), .int 0, .ref (r 80), .ref (r 86), .int 0, .ref (r 87)])), ((r 45), .inl (cO, 3, .inr (.inr (.inr (.inr (va_up (va_up (va_up (fun _ => none) 0 (some (r 46))) 1 (some (r 49))) 2 (some (r 52)))))))), ((r 46), .inr (1, [.int 0, .ref (r 47), .int 0, .ref (r 48)])), ((r 49), .inr (1, [.int 0, .ref (r 50), .int 0, .ref (r 51)])), ((r 52), .inr (1, [.int 0, .ref (r 53), .int 0, .ref (r 54)])), ((r 65), .inr (9, [.int 0, .int 0, .ref (r 66), .ref (r 67), .ref (r 68), .ref (r 69), .int 0, .int 0, .int 0, .int 0, .int 0])), ((r 70), .inr (9, [.int 0, .int 0, .ref (r 71), .ref (r 72), .ref (r 73), .ref (r 74), .int 0, .int 0, .int 0, .int 0, .int 0])), ((r 75), .inr (9, [.int 0, .int 0, .ref (r 76), .ref (r 77), .ref (r 78), .ref (r 79), .int 0, .int 0, .int 0, .int 0, .int 0])), ((r 61), .inr (3, [.ref (r 62), .ref (r 63), .ref (r 64), .int 0, .int (-1), .int 0, .int 0, .int 0, .int 0])), ((r 80), .inr (6, [.int 0, .int 0, .ref (r 81), .ref (r 82), .ref (r 83), .ref (r 84), .ref (r 85)])), ((r 38), .inr (0, [.ref (r 39), .int 0, .ref (r 40), .ref (r 41), .ref (r 42), .ref (r 43), .ref (r 44), .int 0, .int 0])), ((r 40), .inl (cI, 6, .inl (upd (upd (upd (upd (upd (upd (fun _ => 0) 0 (-1)) 1 (-1)) 2 (-1)) 3 (-1)) 4 (-1)) 5 (-1))))]) ⟨hx, hb, hml, hown, hts⟩ (k48_X7_forget l dC dI cB cI cJ cZ cO r) (cwV 0 hts gX10_forgetOldPort_X7_forget rfl rfl rfl ⟨rfl, z540⟩ ⟨Nat.le_of_ble_eq_true rfl, Nat.le_of_ble_eq_true rfl⟩) hK hP hD hS hA [5] [0, 1, 2, 3, 4, 6, 7, 8, 9, 10, 11, 12] rfl rfl (by decide +kernel) (by decide +kernel) (by decide +kernel) rfl rfl rfl hl.1 (Nat.le_of_ble_eq_true rfl) rfl rfl dX10_forgetOldPort_34 ⟨by decide +kernel, by decide +kernel⟩ (fun u1 H locs hP hD hS => ?_)
  refine lv_aload_n hx hb dX10_forgetOldPort_37 rfl (lv_at hl 1 rfl) ?_
  refine va_get (D := (dC, dI)) (ci := 10) (v := .ref (r 65)) (C := RX10) (T := TX10) (N := 18) hx hb hts i10 hown hK hP 0 rfl rfl 10 (nlt rfl) w6 (fun _ h9 => h9) rfl dX10_forgetOldPort_38 ?_
  refine call_vV (ci := 9) (As := []) (rest := []) (wr := [((r 0), .inr (10, [.ref (r 1), .int 0, .ref (r 2), .ref (r 28), .ref (r 18), .ref (r 38), .ref (r 45), .ref (r 55), .ref (r 58), .ref (r 61), .ref (r 65), .ref (r 70), .ref (r 75), .int 0, .ref (r 80), .ref (r 86), .int 0, .ref (r 87)])), ((r 45), .inl (cO, 3, .inr (.inr (.inr (.inr (va_up (va_up (va_up (fun _ => none) 0 (some (r 46))) 1 (some (r 49))) 2 (some (r 52)))))))), ((r 46), .inr (1, [.int 0, .ref (r 47), .int 0, .ref (r 48)])), ((r 49), .inr (1, [.int 0, .ref (r 50), .int 0, .ref (r 51)])), ((r 52), .inr (1, [.int 0, .ref (r 53), .int 0, .ref (r 54)])), ((r 70), .inr (9, [.int 0, .int 0, .ref (r 71), .ref (r 72), .ref (r 73), .ref (r 74), .int 0, .int 0, .int 0, .int 0, .int 0])), ((r 75), .inr (9, [.int 0, .int 0, .ref (r 76), .ref (r 77), .ref (r 78), .ref (r 79), .int 0, .int 0, .int 0, .int 0, .int 0])), ((r 61), .inr (3, [.ref (r 62), .ref (r 63), .ref (r 64), .int 0, .int (-1), .int 0, .int 0, .int 0, .int 0])), ((r 80), .inr (6, [.int 0, .int 0, .ref (r 81), .ref (r 82), .ref (r 83), .ref (r 84), .ref (r 85)])), ((r 38), .inr (0, [.ref (r 39), .int 0, .ref (r 40), .ref (r 41), .ref (r 42), .ref (r 43), .ref (r 44), .int 0, .int 0])), ((r 40), .inl (cI, 6, .inl (upd (upd (upd (upd (upd (upd (fun _ => 0) 0 (-1)) 1 (-1)) 2 (-1)) 3 (-1)) 4 (-1)) 5 (-1)))), ((r 58), .inr (7, [.ref (r 59), .int 0, .ref (r 60)]))]) ⟨hx, hb, hml, hown, hts⟩ (k49_X9_forget l dC dI cB cI cJ cZ cO r) (cwV 0 hts gX10_forgetOldPort_X9_forget rfl rfl rfl ⟨rfl, z541⟩ ⟨Nat.le_of_ble_eq_true rfl, Nat.le_of_ble_eq_true rfl⟩) hK hP hD hS hA [5] [0, 1, 2, 3, 4, 6, 7, 8, 9, 10, 11, 12] rfl rfl (by decide +kernel) (by decide +kernel) (by decide +kernel) rfl rfl rfl hl.1 (Nat.le_of_ble_eq_true rfl) rfl rfl dX10_forgetOldPort_41 ⟨by decide +kernel, by decide +kernel⟩ (fun u2 H locs hP hD hS => ?_)
  refine lv_aload_n hx hb dX10_forgetOldPort_44 rfl (lv_at hl 1 rfl) ?_
  refine va_get (D := (dC, dI)) (ci := 10) (v := .ref (r 70)) (C := RX10) (T := TX10) (N := 18) hx hb hts i10 hown hK hP 0 rfl rfl 11 (nlt rfl) w7 (fun _ h9 => h9) rfl dX10_forgetOldPort_45 ?_
  refine call_vV (ci := 9) (As := []) (rest := []) (wr := [((r 0), .inr (10, [.ref (r 1), .int 0, .ref (r 2), .ref (r 28), .ref (r 18), .ref (r 38), .ref (r 45), .ref (r 55), .ref (r 58), .ref (r 61), .ref (r 65), .ref (r 70), .ref (r 75), .int 0, .ref (r 80), .ref (r 86), .int 0, .ref (r 87)])), ((r 45), .inl (cO, 3, .inr (.inr (.inr (.inr (va_up (va_up (va_up (fun _ => none) 0 (some (r 46))) 1 (some (r 49))) 2 (some (r 52)))))))), ((r 46), .inr (1, [.int 0, .ref (r 47), .int 0, .ref (r 48)])), ((r 49), .inr (1, [.int 0, .ref (r 50), .int 0, .ref (r 51)])), ((r 52), .inr (1, [.int 0, .ref (r 53), .int 0, .ref (r 54)])), ((r 75), .inr (9, [.int 0, .int 0, .ref (r 76), .ref (r 77), .ref (r 78), .ref (r 79), .int 0, .int 0, .int 0, .int 0, .int 0])), ((r 61), .inr (3, [.ref (r 62), .ref (r 63), .ref (r 64), .int 0, .int (-1), .int 0, .int 0, .int 0, .int 0])), ((r 80), .inr (6, [.int 0, .int 0, .ref (r 81), .ref (r 82), .ref (r 83), .ref (r 84), .ref (r 85)])), ((r 38), .inr (0, [.ref (r 39), .int 0, .ref (r 40), .ref (r 41), .ref (r 42), .ref (r 43), .ref (r 44), .int 0, .int 0])), ((r 40), .inl (cI, 6, .inl (upd (upd (upd (upd (upd (upd (fun _ => 0) 0 (-1)) 1 (-1)) 2 (-1)) 3 (-1)) 4 (-1)) 5 (-1)))), ((r 58), .inr (7, [.ref (r 59), .int 0, .ref (r 60)])), ((r 65), .inr (9, [.int 0, .int 0, .ref (r 66), .ref (r 67), .ref (r 68), .ref (r 69), .int 0, .int 0, .int 0, .int 0, .int 0]))]) ⟨hx, hb, hml, hown, hts⟩ (k50_X9_forget l dC dI cB cI cJ cZ cO r) (cwV 0 hts gX10_forgetOldPort_X9_forget rfl rfl rfl ⟨rfl, z541⟩ ⟨Nat.le_of_ble_eq_true rfl, Nat.le_of_ble_eq_true rfl⟩) hK hP hD hS hA [5] [0, 1, 2, 3, 4, 6, 7, 8, 9, 10, 11, 12] rfl rfl (by decide +kernel) (by decide +kernel) (by decide +kernel) rfl rfl rfl hl.1 (Nat.le_of_ble_eq_true rfl) rfl rfl dX10_forgetOldPort_48 ⟨by decide +kernel, by decide +kernel⟩ (fun u3 H locs hP hD hS => ?_)
  refine lv_aload_n hx hb dX10_forgetOldPort_51 rfl (lv_at hl 1 rfl) ?_
  refine va_get (D := (dC, dI)) (ci := 10) (v := .ref (r 75)) (C := RX10) (T := TX10) (N := 18) hx hb hts i10 hown hK hP 0 rfl rfl 12 (nlt rfl) w8 (fun _ h9 => h9) rfl dX10_forgetOldPort_52 ?_
  refine call_vV (ci := 9) (As := []) (rest := []) (wr := [((r 0), .inr (10, [.ref (r 1), .int 0, .ref (r 2), .ref (r 28), .ref (r 18), .ref (r 38), .ref (r 45), .ref (r 55), .ref (r 58), .ref (r 61), .ref (r 65), .ref (r 70), .ref (r 75), .int 0, .ref (r 80), .ref (r 86), .int 0, .ref (r 87)])), ((r 45), .inl (cO, 3, .inr (.inr (.inr (.inr (va_up (va_up (va_up (fun _ => none) 0 (some (r 46))) 1 (some (r 49))) 2 (some (r 52)))))))), ((r 46), .inr (1, [.int 0, .ref (r 47), .int 0, .ref (r 48)])), ((r 49), .inr (1, [.int 0, .ref (r 50), .int 0, .ref (r 51)])), ((r 52), .inr (1, [.int 0, .ref (r 53), .int 0, .ref (r 54)])), ((r 61), .inr (3, [.ref (r 62), .ref (r 63), .ref (r 64), .int 0, .int (-1), .int 0, .int 0, .int 0, .int 0])), ((r 80), .inr (6, [.int 0, .int 0, .ref (r 81), .ref (r 82), .ref (r 83), .ref (r 84), .ref (r 85)])), ((r 38), .inr (0, [.ref (r 39), .int 0, .ref (r 40), .ref (r 41), .ref (r 42), .ref (r 43), .ref (r 44), .int 0, .int 0])), ((r 40), .inl (cI, 6, .inl (upd (upd (upd (upd (upd (upd (fun _ => 0) 0 (-1)) 1 (-1)) 2 (-1)) 3 (-1)) 4 (-1)) 5 (-1)))), ((r 58), .inr (7, [.ref (r 59), .int 0, .ref (r 60)])), ((r 65), .inr (9, [.int 0, .int 0, .ref (r 66), .ref (r 67), .ref (r 68), .ref (r 69), .int 0, .int 0, .int 0, .int 0, .int 0])), ((r 70), .inr (9, [.int 0, .int 0, .ref (r 71), .ref (r 72), .ref (r 73), .ref (r 74), .int 0, .int 0, .int 0, .int 0, .int 0]))]) ⟨hx, hb, hml, hown, hts⟩ (k51_X9_forget l dC dI cB cI cJ cZ cO r) (cwV 0 hts gX10_forgetOldPort_X9_forget rfl rfl rfl ⟨rfl, z541⟩ ⟨Nat.le_of_ble_eq_true rfl, Nat.le_of_ble_eq_true rfl⟩) hK hP hD hS hA [5] [0, 1, 2, 3, 4, 6, 7, 8, 9, 10, 11, 12] rfl rfl (by decide +kernel) (by decide +kernel) (by decide +kernel) rfl rfl rfl hl.1 (Nat.le_of_ble_eq_true rfl) rfl rfl dX10_forgetOldPort_55 ⟨by decide +kernel, by decide +kernel⟩ (fun u4 H locs hP hD hS => ?_)
  refine lv_aload_n hx hb dX10_forgetOldPort_58 rfl (lv_at hl 1 rfl) ?_
  refine va_get (D := (dC, dI)) (ci := 10) (v := .ref (r 61)) (C := RX10) (T := TX10) (N := 18) hx hb hts i10 hown hK hP 0 rfl rfl 9 (nlt rfl) w9 (fun _ h9 => h9) rfl dX10_forgetOldPort_59 ?_
  refine call_vV (ci := 3) (As := []) (rest := []) (wr := [((r 0), .inr (10, [.ref (r 1), .int 0, .ref (r 2), .ref (r 28), .ref (r 18), .ref (r 38), .ref (r 45), .ref (r 55), .ref (r 58), .ref (r 61), .ref (r 65), .ref (r 70), .ref (r 75), .int 0, .ref (r 80), .ref (r 86), .int 0, .ref (r 87)])), ((r 45), .inl (cO, 3, .inr (.inr (.inr (.inr (va_up (va_up (va_up (fun _ => none) 0 (some (r 46))) 1 (some (r 49))) 2 (some (r 52)))))))), ((r 46), .inr (1, [.int 0, .ref (r 47), .int 0, .ref (r 48)])), ((r 49), .inr (1, [.int 0, .ref (r 50), .int 0, .ref (r 51)])), ((r 52), .inr (1, [.int 0, .ref (r 53), .int 0, .ref (r 54)])), ((r 80), .inr (6, [.int 0, .int 0, .ref (r 81), .ref (r 82), .ref (r 83), .ref (r 84), .ref (r 85)])), ((r 38), .inr (0, [.ref (r 39), .int 0, .ref (r 40), .ref (r 41), .ref (r 42), .ref (r 43), .ref (r 44), .int 0, .int 0])), ((r 40), .inl (cI, 6, .inl (upd (upd (upd (upd (upd (upd (fun _ => 0) 0 (-1)) 1 (-1)) 2 (-1)) 3 (-1)) 4 (-1)) 5 (-1)))), ((r 58), .inr (7, [.ref (r 59), .int 0, .ref (r 60)])), ((r 65), .inr (9, [.int 0, .int 0, .ref (r 66), .ref (r 67), .ref (r 68), .ref (r 69), .int 0, .int 0, .int 0, .int 0, .int 0])), ((r 70), .inr (9, [.int 0, .int 0, .ref (r 71), .ref (r 72), .ref (r 73), .ref (r 74), .int 0, .int 0, .int 0, .int 0, .int 0])), ((r 75), .inr (9, [.int 0, .int 0, .ref (r 76), .ref (r 77), .ref (r 78), .ref (r 79), .int 0, .int 0, .int 0, .int 0, .int 0]))]) ⟨hx, hb, hml, hown, hts⟩ (k52_X3_forget l dC dI cB cI cJ cZ cO r) (cwV 0 hts gX10_forgetOldPort_X3_forget rfl rfl rfl ⟨rfl, z542⟩ ⟨Nat.le_of_ble_eq_true rfl, Nat.le_of_ble_eq_true rfl⟩) hK hP hD hS hA [5] [0, 1, 2, 3, 4, 6, 7, 8, 9, 10, 11, 12] rfl rfl (by decide +kernel) (by decide +kernel) (by decide +kernel) rfl rfl rfl hl.1 (Nat.le_of_ble_eq_true rfl) rfl rfl dX10_forgetOldPort_62 ⟨by decide +kernel, by decide +kernel⟩ (fun u5 H locs hP hD hS => ?_)
  refine lv_aload_n hx hb dX10_forgetOldPort_65 rfl (lv_at hl 1 rfl) ?_
  refine lv_iconst (v := 0) hx hb dX10_forgetOldPort_66 z8 ?_
  refine va_put (D := (dC, dI)) (ci := 10) (v := .int 0) (ty := tyX10 13) (C := RX10) (T := TX10) (N := 18) hx hb hts i10 tyX10 tyX10_ok nmX10 hown hK hP hD hS 0 rfl rfl 13 (nlt rfl) w10 (fun _ h9 => h9) rfl (tyX10_ok 13 (nlt rfl)) rfl rfl (nlt rfl) dX10_forgetOldPort_67 (fun H locs hP hD hS => ?_)
  refine lv_aload_n hx hb dX10_forgetOldPort_70 rfl (lv_at hl 1 rfl) ?_
  refine va_get (D := (dC, dI)) (ci := 10) (v := .ref (r 80)) (C := RX10) (T := TX10) (N := 18) hx hb hts i10 hown hK hP 0 rfl rfl 14 (nlt rfl) w11 (fun _ h9 => h9) rfl dX10_forgetOldPort_71 ?_
  refine lv_iconst (v := 0) hx hb dX10_forgetOldPort_74 z8 ?_
  refine va_put (D := (dC, dI)) (ci := 6) (v := .int 0) (ty := tyX6 0) (C := RX6) (T := TX6) (N := 7) hx hb hts i6 tyX6 tyX6_ok nmX6 hown hK hP hD hS 5 rfl rfl 0 (nlt rfl) w13 (fun _ h9 => h9) rfl (tyX6_ok 0 (nlt rfl)) rfl rfl (nlt rfl) dX10_forgetOldPort_75 (fun H locs hP hD hS => ?_)
  refine lv_aload_n hx hb dX10_forgetOldPort_78 rfl (lv_at hl 1 rfl) ?_
  refine lv_iconst (v := 0) hx hb dX10_forgetOldPort_79 z8 ?_
  refine va_put (D := (dC, dI)) (ci := 10) (v := .int 0) (ty := tyX10 16) (C := RX10) (T := TX10) (N := 18) hx hb hts i10 tyX10 tyX10_ok nmX10 hown hK hP hD hS 0 rfl rfl 16 (nlt rfl) w14 (fun _ h9 => h9) rfl (tyX10_ok 16 (nlt rfl)) rfl rfl (nlt rfl) dX10_forgetOldPort_80 (fun H locs hP hD hS => ?_)
  have hP : va_P (dC, dI) vwCl [((r 0), .inr (10, [.ref (r 1), .int 0, .ref (r 2), .ref (r 28), .ref (r 18), .ref (r 38), .ref (r 45), .ref (r 55), .ref (r 58), .ref (r 61), .ref (r 65), .ref (r 70), .ref (r 75), .int 0, .ref (r 80), .ref (r 86), .int 0, .ref (r 87)])), ((r 45), .inl (cO, 3, .inr (.inr (.inr (.inr (va_up (va_up (va_up (fun _ => none) 0 (some (r 46))) 1 (some (r 49))) 2 (some (r 52)))))))), ((r 46), .inr (1, [.int 0, .ref (r 47), .int 0, .ref (r 48)])), ((r 49), .inr (1, [.int 0, .ref (r 50), .int 0, .ref (r 51)])), ((r 52), .inr (1, [.int 0, .ref (r 53), .int 0, .ref (r 54)])), ((r 80), .inr (6, [.int 0, .int 0, .ref (r 81), .ref (r 82), .ref (r 83), .ref (r 84), .ref (r 85)])), ((r 38), .inr (0, [.ref (r 39), .int 0, .ref (r 40), .ref (r 41), .ref (r 42), .ref (r 43), .ref (r 44), .int 0, .int 0])), ((r 40), .inl (cI, 6, .inl (upd (upd (upd (upd (upd (upd (fun _ => 0) 0 (-1)) 1 (-1)) 2 (-1)) 3 (-1)) 4 (-1)) 5 (-1)))), ((r 58), .inr (7, [.ref (r 59), .int 0, .ref (r 60)])), ((r 65), .inr (9, [.int 0, .int 0, .ref (r 66), .ref (r 67), .ref (r 68), .ref (r 69), .int 0, .int 0, .int 0, .int 0, .int 0])), ((r 70), .inr (9, [.int 0, .int 0, .ref (r 71), .ref (r 72), .ref (r 73), .ref (r 74), .int 0, .int 0, .int 0, .int 0, .int 0])), ((r 75), .inr (9, [.int 0, .int 0, .ref (r 76), .ref (r 77), .ref (r 78), .ref (r 79), .int 0, .int 0, .int 0, .int 0, .int 0])), ((r 61), .inr (3, [.ref (r 62), .ref (r 63), .ref (r 64), .int 0, .int (-1), .int 0, .int 0, .int 0, .int 0]))] H := hP
  have hD : va_D A [((r 0), .inr (10, [.ref (r 1), .int 0, .ref (r 2), .ref (r 28), .ref (r 18), .ref (r 38), .ref (r 45), .ref (r 55), .ref (r 58), .ref (r 61), .ref (r 65), .ref (r 70), .ref (r 75), .int 0, .ref (r 80), .ref (r 86), .int 0, .ref (r 87)])), ((r 45), .inl (cO, 3, .inr (.inr (.inr (.inr (va_up (va_up (va_up (fun _ => none) 0 (some (r 46))) 1 (some (r 49))) 2 (some (r 52)))))))), ((r 46), .inr (1, [.int 0, .ref (r 47), .int 0, .ref (r 48)])), ((r 49), .inr (1, [.int 0, .ref (r 50), .int 0, .ref (r 51)])), ((r 52), .inr (1, [.int 0, .ref (r 53), .int 0, .ref (r 54)])), ((r 80), .inr (6, [.int 0, .int 0, .ref (r 81), .ref (r 82), .ref (r 83), .ref (r 84), .ref (r 85)])), ((r 38), .inr (0, [.ref (r 39), .int 0, .ref (r 40), .ref (r 41), .ref (r 42), .ref (r 43), .ref (r 44), .int 0, .int 0])), ((r 40), .inl (cI, 6, .inl (upd (upd (upd (upd (upd (upd (fun _ => 0) 0 (-1)) 1 (-1)) 2 (-1)) 3 (-1)) 4 (-1)) 5 (-1)))), ((r 58), .inr (7, [.ref (r 59), .int 0, .ref (r 60)])), ((r 65), .inr (9, [.int 0, .int 0, .ref (r 66), .ref (r 67), .ref (r 68), .ref (r 69), .int 0, .int 0, .int 0, .int 0, .int 0])), ((r 70), .inr (9, [.int 0, .int 0, .ref (r 71), .ref (r 72), .ref (r 73), .ref (r 74), .int 0, .int 0, .int 0, .int 0, .int 0])), ((r 75), .inr (9, [.int 0, .int 0, .ref (r 76), .ref (r 77), .ref (r 78), .ref (r 79), .int 0, .int 0, .int 0, .int 0, .int 0])), ((r 61), .inr (3, [.ref (r 62), .ref (r 63), .ref (r 64), .int 0, .int (-1), .int 0, .int 0, .int 0, .int 0]))] := hD
  refine W.widen (k := 0) (n := 0) (by decide +kernel) (by decide +kernel) ?_
  exact ret_v hx hb hr hlocks hS (u := (fun _ => 0)) (hP.sub [0, 6, 7, 1, 2, 3, 4, 8, 9, 10, 11, 12, 5] rfl) (hD.sub [0, 6, 7, 1, 2, 3, 4, 8, 9, 10, 11, 12, 5] (by decide +kernel) rfl) dX10_forgetOldPort_83

set_option maxHeartbeats 4000000 in
set_option maxRecDepth 100000 in
theorem k54_X10_port (l : Launch) (dC : Nat → ClassId) (dI : Nat → Nat → Nat) (cB cI cJ cZ cO : ClassId) (r : Nat → Nat) : CI l yX10_port wsX10_port ({ frames := 3, cells := 0, slots := 0, locals := 69 }) (dC, dI) (tyL cB cI cJ cZ cO) [.ref (r 0)] [((r 0), .inr (10, fX r)), ((r 2), .inr (2, [.ref (r 3), .ref (r 6), .ref (r 16), .ref (r 17)])), ((r 28), .inr (4, [.int 0, .ref (r 29), .ref (r 30), .int 0, .ref (r 31), .ref (r 32), .int 0, .ref (r 33), .ref (r 34), .int 0, .ref (r 35), .ref (r 36), .int 3, .int 0, .int 0, .ref (r 37)])), ((r 32), .inl (cI, 192, .inl (fun _ => 0))), ((r 31), .inl (cZ, 64, .inl (fun _ => 0))), ((r 34), .inl (cI, 9, .inl (fun _ => 0))), ((r 3), .inr (8, [.ref (r 4), .ref (r 5), .int 0, .int 0, .int 0, .int 0, .long 0, .int 0, .int 0, .int (-1)])), ((r 1), .inl (cB, 1600, .inl (fun _ => 0))), ((r 38), .inr (0, [.ref (r 39), .int 0, .ref (r 40), .ref (r 41), .ref (r 42), .ref (r 43), .ref (r 44), .int 0, .int 0])), ((r 40), .inl (cI, 6, .inl (upd (upd (upd (upd (upd (upd (fun _ => 0) 0 (-1)) 1 (-1)) 2 (-1)) 3 (-1)) 4 (-1)) 5 (-1)))), ((r 45), .inl (cO, 3, .inr (.inr (.inr (.inr (va_up (va_up (va_up (fun _ => none) 0 (some (r 46))) 1 (some (r 49))) 2 (some (r 52)))))))), ((r 46), .inr (1, [.int 0, .ref (r 47), .int 0, .ref (r 48)])), ((r 49), .inr (1, [.int 0, .ref (r 50), .int 0, .ref (r 51)])), ((r 52), .inr (1, [.int 0, .ref (r 53), .int 0, .ref (r 54)])), ((r 58), .inr (7, [.ref (r 59), .int 0, .ref (r 60)])), ((r 65), .inr (9, [.int 0, .int 0, .ref (r 66), .ref (r 67), .ref (r 68), .ref (r 69), .int 0, .int 0, .int 0, .int 0, .int 0])), ((r 70), .inr (9, [.int 0, .int 0, .ref (r 71), .ref (r 72), .ref (r 73), .ref (r 74), .int 0, .int 0, .int 0, .int 0, .int 0])), ((r 75), .inr (9, [.int 0, .int 0, .ref (r 76), .ref (r 77), .ref (r 78), .ref (r 79), .int 0, .int 0, .int 0, .int 0, .int 0])), ((r 61), .inr (3, [.ref (r 62), .ref (r 63), .ref (r 64), .int 0, .int (-1), .int 0, .int 0, .int 0, .int 0])), ((r 80), .inr (6, [.int 0, .int 0, .ref (r 81), .ref (r 82), .ref (r 83), .ref (r 84), .ref (r 85)]))] (fun _ => []) 0 := by
  intro sz
  refine ct_open (cc := cX10_port) (maxL := 2) (ret := (some .int)) (by decide) rfl (Nat.le_of_ble_eq_true rfl) ?_
  intro p e s m below meth c ls A hx hb hr hml hts hown hlocks hin hP hK hD hA hS hl
  have hl : lv_has ls 2 [(0, .ref (r 0))] := hl
  have hown : s.vm.findClass RX10 = some m.cls := hown
  have i10 : ∀ w ∈ u_ws RX10 TX10 18, w ∈ wsX10_port := fun _ h => List.mem_cons_of_mem _ (List.mem_append_left _ (List.mem_append_left _ (List.mem_append_left _ (List.mem_append_left _ (List.mem_append_left _ (List.mem_append_left _ (List.mem_append_left _ (List.mem_append_left _ (List.mem_append_left _ (List.mem_append_right _ h))))))))))
  have w1 := hts (.fieldLink RX10 16 "GuildCharter" "parser" "LGuildCharter$Parser;") (List.mem_cons_of_mem _ (List.mem_append_left _ (List.mem_append_left _ (List.mem_append_left _ (List.mem_append_left _ (List.mem_append_left _ (List.mem_append_left _ (List.mem_append_left _ (List.mem_append_left _ (List.mem_append_left _ (List.mem_append_left _ (List.mem_append_left _ (List.mem_of_getElem? (i := 0) rfl)))))))))))))
  have w2 := hts (.fieldLink RX10 27 "GuildCharter" "spare" "LGuildCharter$Port;") (List.mem_cons_of_mem _ (List.mem_append_left _ (List.mem_append_left _ (List.mem_append_left _ (List.mem_append_left _ (List.mem_append_left _ (List.mem_append_left _ (List.mem_append_left _ (List.mem_append_left _ (List.mem_append_left _ (List.mem_append_left _ (List.mem_append_left _ (List.mem_of_getElem? (i := 1) rfl)))))))))))))
  have w3 := hts (.fieldLink RX10 9 "GuildCharter" "tape" "[B") (List.mem_cons_of_mem _ (List.mem_append_left _ (List.mem_append_left _ (List.mem_append_left _ (List.mem_append_left _ (List.mem_append_left _ (List.mem_append_left _ (List.mem_append_left _ (List.mem_append_left _ (List.mem_append_left _ (List.mem_append_left _ (List.mem_append_left _ (List.mem_of_getElem? (i := 2) rfl)))))))))))))
  have w4 := hts (.fieldLink RX10 92 "GuildCharter" "tapeSize" "I") (List.mem_cons_of_mem _ (List.mem_append_left _ (List.mem_append_left _ (List.mem_append_left _ (List.mem_append_left _ (List.mem_append_left _ (List.mem_append_left _ (List.mem_append_left _ (List.mem_append_left _ (List.mem_append_left _ (List.mem_append_left _ (List.mem_append_left _ (List.mem_of_getElem? (i := 3) rfl)))))))))))))
  have w5 := hts (.fieldLink RX10 23 "GuildCharter" "told" "LGuildCharter$Port;") (List.mem_cons_of_mem _ (List.mem_append_left _ (List.mem_append_left _ (List.mem_append_left _ (List.mem_append_left _ (List.mem_append_left _ (List.mem_append_left _ (List.mem_append_left _ (List.mem_append_left _ (List.mem_append_left _ (List.mem_append_left _ (List.mem_append_left _ (List.mem_of_getElem? (i := 4) rfl)))))))))))))
  have i4 : ∀ w ∈ u_ws RX4 TX4 16, w ∈ wsX10_port := fun _ h => List.mem_cons_of_mem _ (List.mem_append_left _ (List.mem_append_left _ (List.mem_append_left _ (List.mem_append_left _ (List.mem_append_left _ (List.mem_append_left _ (List.mem_append_left _ (List.mem_append_left _ (List.mem_append_right _ h)))))))))
  have w7 := hts (.fieldLink RX10 107 "GuildCharter$Port" "words" "I") (List.mem_cons_of_mem _ (List.mem_append_left _ (List.mem_append_left _ (List.mem_append_left _ (List.mem_append_left _ (List.mem_append_left _ (List.mem_append_left _ (List.mem_append_left _ (List.mem_append_left _ (List.mem_append_left _ (List.mem_append_left _ (List.mem_append_left _ (List.mem_of_getElem? (i := 5) rfl)))))))))))))
  refine lv_aload_n hx hb dX10_port_0 rfl (lv_at hl 0 rfl) ?_
  refine va_get (D := (dC, dI)) (ci := 10) (v := .ref (r 2)) (C := RX10) (T := TX10) (N := 18) hx hb hts i10 hown hK hP 0 rfl rfl 2 (nlt rfl) w1 (fun _ h9 => h9) rfl dX10_port_1 ?_
  refine lv_aload_n hx hb dX10_port_4 rfl (lv_at hl 0 rfl) ?_
  refine va_get (D := (dC, dI)) (ci := 10) (v := .ref (r 28)) (C := RX10) (T := TX10) (N := 18) hx hb hts i10 hown hK hP 0 rfl rfl 4 (nlt rfl) w2 (fun _ h9 => h9) rfl dX10_port_5 ?_
  refine lv_aload_n hx hb dX10_port_8 rfl (lv_at hl 0 rfl) ?_
  refine va_get (D := (dC, dI)) (ci := 10) (v := .ref (r 1)) (C := RX10) (T := TX10) (N := 18) hx hb hts i10 hown hK hP 0 rfl rfl 0 (nlt rfl) w3 (fun _ h9 => h9) rfl dX10_port_9 ?_
  refine lv_aload_n hx hb dX10_port_12 rfl (lv_at hl 0 rfl) ?_
  refine va_get (D := (dC, dI)) (ci := 10) (v := .int 0) (C := RX10) (T := TX10) (N := 18) hx hb hts i10 hown hK hP 0 rfl rfl 1 (nlt rfl) w4 (fun _ h9 => h9) rfl dX10_port_13 ?_
  refine call_iV (ci := 2) (As := [.ref (r 28), .ref (r 1), .int 0]) (rest := []) (wr := [((r 0), .inr (10, fX r)), ((r 38), .inr (0, [.ref (r 39), .int 0, .ref (r 40), .ref (r 41), .ref (r 42), .ref (r 43), .ref (r 44), .int 0, .int 0])), ((r 40), .inl (cI, 6, .inl (upd (upd (upd (upd (upd (upd (fun _ => 0) 0 (-1)) 1 (-1)) 2 (-1)) 3 (-1)) 4 (-1)) 5 (-1)))), ((r 45), .inl (cO, 3, .inr (.inr (.inr (.inr (va_up (va_up (va_up (fun _ => none) 0 (some (r 46))) 1 (some (r 49))) 2 (some (r 52)))))))), ((r 46), .inr (1, [.int 0, .ref (r 47), .int 0, .ref (r 48)])), ((r 49), .inr (1, [.int 0, .ref (r 50), .int 0, .ref (r 51)])), ((r 52), .inr (1, [.int 0, .ref (r 53), .int 0, .ref (r 54)])), ((r 58), .inr (7, [.ref (r 59), .int 0, .ref (r 60)])), ((r 65), .inr (9, [.int 0, .int 0, .ref (r 66), .ref (r 67), .ref (r 68), .ref (r 69), .int 0, .int 0, .int 0, .int 0, .int 0])), ((r 70), .inr (9, [.int 0, .int 0, .ref (r 71), .ref (r 72), .ref (r 73), .ref (r 74), .int 0, .int 0, .int 0, .int 0, .int 0])), ((r 75), .inr (9, [.int 0, .int 0, .ref (r 76), .ref (r 77), .ref (r 78), .ref (r 79), .int 0, .int 0, .int 0, .int 0, .int 0])), ((r 61), .inr (3, [.ref (r 62), .ref (r 63), .ref (r 64), .int 0, .int (-1), .int 0, .int 0, .int 0, .int 0])), ((r 80), .inr (6, [.int 0, .int 0, .ref (r 81), .ref (r 82), .ref (r 83), .ref (r 84), .ref (r 85)]))]) ⟨hx, hb, hml, hown, hts⟩ (k44_X2_readsInto l dC dI cB cI cJ cZ cO r) (cwV 3 hts gX10_port_X2_readsInto rfl rfl rfl ⟨rfl, z543⟩ ⟨Nat.le_of_ble_eq_true rfl, Nat.le_of_ble_eq_true rfl⟩) hK hP hD hS hA [1, 2, 3, 4, 5, 6, 7] [0, 8, 9, 10, 11, 12, 13, 14, 15, 16, 17, 18, 19] rfl rfl (by decide +kernel) (by decide +kernel) (by decide +kernel) rfl rfl rfl hl.1 (Nat.le_of_ble_eq_true rfl) rfl rfl dX10_port_16 ⟨by decide +kernel, by decide +kernel⟩ (fun u0 H locs hP hD hS => ?_)
  refine lv_if_ne (tgt := 24) hx hb dX10_port_19 z535 (fun _ => ?_) (fun c1 => absurd c1 (z525))
  refine lv_aload_n hx hb dX10_port_24 rfl (lv_at hl 0 rfl) ?_
  refine va_get (D := (dC, dI)) (ci := 10) (v := .ref (r 18)) (C := RX10) (T := TX10) (N := 18) hx hb hts i10 hown hK hP 0 rfl rfl 3 (nlt rfl) w5 (fun _ h9 => h9) rfl dX10_port_25 ?_
  refine lv_astore_n (lv' := [(1, .ref (r 18)), (0, .ref (r 0))]) hx hb dX10_port_28 rfl hl (nlt rfl) rfl (fun ls hl => ?_)
  refine lv_aload_n hx hb dX10_port_29 rfl (lv_at hl 1 rfl) ?_
  refine lv_aload_n hx hb dX10_port_30 rfl (lv_at hl 1 rfl) ?_
  refine va_get (D := (dC, dI)) (ci := 10) (v := .ref (r 28)) (C := RX10) (T := TX10) (N := 18) hx hb hts i10 hown hK hP 0 rfl rfl 4 (nlt rfl) w2 (fun _ h9 => h9) rfl dX10_port_31 ?_
  refine va_put (D := (dC, dI)) (ci := 10) (v := .ref (r 28)) (ty := tyX10 3) (C := RX10) (T := TX10) (N := 18) hx hb hts i10 tyX10 tyX10_ok nmX10 hown hK hP hD hS 0 rfl rfl 3 (nlt rfl) w5 (fun _ h9 => h9) rfl (tyX10_ok 3 (nlt rfl)) rfl rfl (nlt rfl) dX10_port_34 (fun H locs hP hD hS => ?_)
  refine lv_aload_n hx hb dX10_port_37 rfl (lv_at hl 1 rfl) ?_
  refine lv_aload_n hx hb dX10_port_38 rfl (lv_at hl 0 rfl) ?_
  refine va_put (D := (dC, dI)) (ci := 10) (v := .ref (r 18)) (ty := tyX10 4) (C := RX10) (T := TX10) (N := 18) hx hb hts i10 tyX10 tyX10_ok nmX10 hown hK hP hD hS 0 rfl rfl 4 (nlt rfl) w2 (fun _ h9 => h9) rfl (tyX10_ok 4 (nlt rfl)) rfl rfl (nlt rfl) dX10_port_39 (fun H locs hP hD hS => ?_)
  refine lv_aload_n hx hb dX10_port_42 rfl (lv_at hl 1 rfl) ?_
  refine lv_iconst (v := 0) hx hb dX10_port_43 z8 ?_
  refine va_put (D := (dC, dI)) (ci := 10) (v := .int 0) (ty := tyX10 1) (C := RX10) (T := TX10) (N := 18) hx hb hts i10 tyX10 tyX10_ok nmX10 hown hK hP hD hS 0 rfl rfl 1 (nlt rfl) w4 (fun _ h9 => h9) rfl (tyX10_ok 1 (nlt rfl)) rfl rfl (nlt rfl) dX10_port_44 (fun H locs hP hD hS => ?_)
  have hP : va_P (dC, dI) vwCl [((r 0), .inr (10, [.ref (r 1), .int 0, .ref (r 2), .ref (r 28), .ref (r 18), .ref (r 38), .ref (r 45), .ref (r 55), .ref (r 58), .ref (r 61), .ref (r 65), .ref (r 70), .ref (r 75), .int 0, .ref (r 80), .ref (r 86), .int 0, .ref (r 87)])), ((r 38), .inr (0, [.ref (r 39), .int 0, .ref (r 40), .ref (r 41), .ref (r 42), .ref (r 43), .ref (r 44), .int 0, .int 0])), ((r 40), .inl (cI, 6, .inl (upd (upd (upd (upd (upd (upd (fun _ => 0) 0 (-1)) 1 (-1)) 2 (-1)) 3 (-1)) 4 (-1)) 5 (-1)))), ((r 45), .inl (cO, 3, .inr (.inr (.inr (.inr (va_up (va_up (va_up (fun _ => none) 0 (some (r 46))) 1 (some (r 49))) 2 (some (r 52)))))))), ((r 46), .inr (1, [.int 0, .ref (r 47), .int 0, .ref (r 48)])), ((r 49), .inr (1, [.int 0, .ref (r 50), .int 0, .ref (r 51)])), ((r 52), .inr (1, [.int 0, .ref (r 53), .int 0, .ref (r 54)])), ((r 58), .inr (7, [.ref (r 59), .int 0, .ref (r 60)])), ((r 65), .inr (9, [.int 0, .int 0, .ref (r 66), .ref (r 67), .ref (r 68), .ref (r 69), .int 0, .int 0, .int 0, .int 0, .int 0])), ((r 70), .inr (9, [.int 0, .int 0, .ref (r 71), .ref (r 72), .ref (r 73), .ref (r 74), .int 0, .int 0, .int 0, .int 0, .int 0])), ((r 75), .inr (9, [.int 0, .int 0, .ref (r 76), .ref (r 77), .ref (r 78), .ref (r 79), .int 0, .int 0, .int 0, .int 0, .int 0])), ((r 61), .inr (3, [.ref (r 62), .ref (r 63), .ref (r 64), .int 0, .int (-1), .int 0, .int 0, .int 0, .int 0])), ((r 80), .inr (6, [.int 0, .int 0, .ref (r 81), .ref (r 82), .ref (r 83), .ref (r 84), .ref (r 85)])), ((r 2), .inr (2, [.ref (r 3), .ref (r 28), .ref (r 16), .ref (r 17)])), ((r 28), .inr (4, [.int 0, .ref (r 29), .ref (r 30), .int 0, .ref (r 31), .ref (r 32), .int 0, .ref (r 33), .ref (r 34), .int 0, .ref (r 35), .ref (r 36), .int 3, .int 0, .int 0, .ref (r 37)])), ((r 32), .inl (cI, 192, .inl (fun _ => 0))), ((r 31), .inl (cZ, 64, .inl (fun _ => 0))), ((r 34), .inl (cI, 9, .inl (fun _ => 0))), ((r 3), .inr (8, [.ref (r 4), .ref (r 1), .int 0, .int 0, .int 0, .int 0, .long 0, .int 0, .int 0, .int (-1)])), ((r 1), .inl (cB, 1600, .inl (fun _ => 0)))] H := hP
  have hD : va_D A [((r 0), .inr (10, [.ref (r 1), .int 0, .ref (r 2), .ref (r 28), .ref (r 18), .ref (r 38), .ref (r 45), .ref (r 55), .ref (r 58), .ref (r 61), .ref (r 65), .ref (r 70), .ref (r 75), .int 0, .ref (r 80), .ref (r 86), .int 0, .ref (r 87)])), ((r 38), .inr (0, [.ref (r 39), .int 0, .ref (r 40), .ref (r 41), .ref (r 42), .ref (r 43), .ref (r 44), .int 0, .int 0])), ((r 40), .inl (cI, 6, .inl (upd (upd (upd (upd (upd (upd (fun _ => 0) 0 (-1)) 1 (-1)) 2 (-1)) 3 (-1)) 4 (-1)) 5 (-1)))), ((r 45), .inl (cO, 3, .inr (.inr (.inr (.inr (va_up (va_up (va_up (fun _ => none) 0 (some (r 46))) 1 (some (r 49))) 2 (some (r 52)))))))), ((r 46), .inr (1, [.int 0, .ref (r 47), .int 0, .ref (r 48)])), ((r 49), .inr (1, [.int 0, .ref (r 50), .int 0, .ref (r 51)])), ((r 52), .inr (1, [.int 0, .ref (r 53), .int 0, .ref (r 54)])), ((r 58), .inr (7, [.ref (r 59), .int 0, .ref (r 60)])), ((r 65), .inr (9, [.int 0, .int 0, .ref (r 66), .ref (r 67), .ref (r 68), .ref (r 69), .int 0, .int 0, .int 0, .int 0, .int 0])), ((r 70), .inr (9, [.int 0, .int 0, .ref (r 71), .ref (r 72), .ref (r 73), .ref (r 74), .int 0, .int 0, .int 0, .int 0, .int 0])), ((r 75), .inr (9, [.int 0, .int 0, .ref (r 76), .ref (r 77), .ref (r 78), .ref (r 79), .int 0, .int 0, .int 0, .int 0, .int 0])), ((r 61), .inr (3, [.ref (r 62), .ref (r 63), .ref (r 64), .int 0, .int (-1), .int 0, .int 0, .int 0, .int 0])), ((r 80), .inr (6, [.int 0, .int 0, .ref (r 81), .ref (r 82), .ref (r 83), .ref (r 84), .ref (r 85)])), ((r 2), .inr (2, [.ref (r 3), .ref (r 28), .ref (r 16), .ref (r 17)])), ((r 28), .inr (4, [.int 0, .ref (r 29), .ref (r 30), .int 0, .ref (r 31), .ref (r 32), .int 0, .ref (r 33), .ref (r 34), .int 0, .ref (r 35), .ref (r 36), .int 3, .int 0, .int 0, .ref (r 37)])), ((r 32), .inl (cI, 192, .inl (fun _ => 0))), ((r 31), .inl (cZ, 64, .inl (fun _ => 0))), ((r 34), .inl (cI, 9, .inl (fun _ => 0))), ((r 3), .inr (8, [.ref (r 4), .ref (r 1), .int 0, .int 0, .int 0, .int 0, .long 0, .int 0, .int 0, .int (-1)])), ((r 1), .inl (cB, 1600, .inl (fun _ => 0)))] := hD
  refine lv_aload_n hx hb dX10_port_47 rfl (lv_at hl 1 rfl) ?_
  refine call_vV (ci := 10) (As := []) (rest := []) (wr := [((r 2), .inr (2, [.ref (r 3), .ref (r 28), .ref (r 16), .ref (r 17)])), ((r 28), .inr (4, [.int 0, .ref (r 29), .ref (r 30), .int 0, .ref (r 31), .ref (r 32), .int 0, .ref (r 33), .ref (r 34), .int 0, .ref (r 35), .ref (r 36), .int 3, .int 0, .int 0, .ref (r 37)])), ((r 32), .inl (cI, 192, .inl (fun _ => 0))), ((r 31), .inl (cZ, 64, .inl (fun _ => 0))), ((r 34), .inl (cI, 9, .inl (fun _ => 0))), ((r 3), .inr (8, [.ref (r 4), .ref (r 1), .int 0, .int 0, .int 0, .int 0, .long 0, .int 0, .int 0, .int (-1)])), ((r 1), .inl (cB, 1600, .inl (fun _ => 0)))]) ⟨hx, hb, hml, hown, hts⟩ (k53_X10_forgetOldPort l dC dI cB cI cJ cZ cO r) (cwV 0 hts gX10_port_X10_forgetOldPort rfl rfl rfl ⟨rfl, z544⟩ ⟨Nat.le_of_ble_eq_true rfl, Nat.le_of_ble_eq_true rfl⟩) hK hP hD hS hA [0, 1, 2, 3, 4, 5, 6, 7, 8, 9, 10, 11, 12] [13, 14, 15, 16, 17, 18, 19] rfl rfl (by decide +kernel) (by decide +kernel) (by decide +kernel) rfl rfl rfl hl.1 (Nat.le_of_ble_eq_true rfl) rfl rfl dX10_port_48 ⟨by decide +kernel, by decide +kernel⟩ (fun u1 H locs hP hD hS => ?_)
  refine lv_aload_n hx hb dX10_port_51 rfl (lv_at hl 1 rfl) ?_
  refine va_get (D := (dC, dI)) (ci := 10) (v := .ref (r 28)) (C := RX10) (T := TX10) (N := 18) hx hb hts i10 hown hK hP 7 rfl rfl 3 (nlt rfl) w5 (fun _ h9 => h9) rfl dX10_port_52 ?_
  refine va_get (D := (dC, dI)) (ci := 4) (v := .int 0) (C := RX4) (T := TX4) (N := 16) hx hb hts i4 hown hK hP 1 rfl rfl 0 (nlt rfl) w7 (fun _ h9 => h9) rfl dX10_port_55 ?_
  refine W.widen (k := 0) (n := 0) (by decide +kernel) (by decide +kernel) ?_
  exact ret_i hx hb hr hlocks hS (u := (fun _ => 0)) (hP.sub [] rfl) (hD.sub [] (by decide +kernel) rfl) dX10_port_58
