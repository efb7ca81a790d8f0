set_option maxHeartbeats 4000000 in
set_option maxRecDepth 100000 in
theorem k346_X10_seen (l : Launch) (dC : Nat → ClassId) (dI : Nat → Nat → Nat) (cB cI cJ cZ cO : ClassId) (r : Nat → Nat) (x1 : Int32) (x2 : Int32) (h0 : x1 < 0) : CI l yX10_seen wsX10_seen ({ frames := 1, cells := 0, slots := 0, locals := 21 }) (dC, dI) (tyL cB cI cJ cZ cO) [.ref (r 0), .int x1, .int x2, .int 0] [((r 0), .inr (10, fX r)), ((r 18), .inr (4, [.int 0, .ref (r 19), .ref (r 20), .int 0, .ref (r 21), .ref (r 22), .int 0, .ref (r 23), .ref (r 24), .int 0, .ref (r 25), .ref (r 26), .int 3, .int 0, .int 0, .ref (r 27)]))] (fun _ => []) (-1) := by
  intro sz
  refine ct_open (cc := cX10_seen) (maxL := 4) (ret := (some .int)) (by decide) rfl (Nat.le_of_ble_eq_true rfl) ?_
  intro p e s m below meth c ls A hx hb hr hml hts hown hlocks hin hP hK hD hA hS hl
  have hl : lv_has ls 4 [(0, .ref (r 0)), (1, .int x1), (2, .int x2), (3, .int 0)] := hl
  have hown : s.vm.findClass RX10 = some m.cls := hown
  have i10 : ∀ w ∈ u_ws RX10 TX10 18, w ∈ wsX10_seen := fun _ h => List.mem_cons_of_mem _ (List.mem_append_left _ (List.mem_append_left _ (List.mem_append_right _ h)))
  have w1 := hts (.fieldLink RX10 23 "GuildCharter" "told" "LGuildCharter$Port;") (List.mem_cons_of_mem _ (List.mem_append_left _ (List.mem_append_left _ (List.mem_append_left _ (List.mem_append_left _ (List.mem_of_getElem? (i := 0) rfl))))))
  refine lv_aload_n hx hb dX10_seen_0 rfl (lv_at hl 0 rfl) ?_
  refine va_get (D := (dC, dI)) (ci := 10) (v := .ref (r 18)) (C := RX10) (T := TX10) (N := 18) hx hb hts i10 hown hK hP 0 rfl rfl 3 (nlt rfl) w1 (fun _ h9 => h9) rfl dX10_seen_1 ?_
  refine lv_iload_n hx hb dX10_seen_4 rfl (lv_at hl 1 rfl) ?_
  refine call_iV (ci := 4) (As := [.int x1]) (rest := []) (wr := [((r 0), .inr (10, fX r))]) ⟨hx, hb, hml, hown, hts⟩ (k88_X4_hasPlace l dC dI cB cI cJ cZ cO r x1 h0) (cwV 1 hts gX10_seen_X4_hasPlace rfl rfl rfl ⟨rfl, z595⟩ ⟨Nat.le_of_ble_eq_true rfl, Nat.le_of_ble_eq_true rfl⟩) hK hP hD hS hA [1] [0] rfl rfl (by decide +kernel) (by decide +kernel) (by decide +kernel) rfl rfl rfl hl.1 (Nat.le_of_ble_eq_true rfl) rfl rfl dX10_seen_5 ⟨by decide +kernel, by decide +kernel⟩ (fun u0 H locs hP hD hS => ?_)
  refine lv_if_eq (tgt := 22) hx hb dX10_seen_8 z611 (fun _ => ?_) (fun c1 => absurd (rfl) c1)
  refine lv_iconst (v := (-1)) hx hb dX10_seen_22 z128 ?_
  refine W.widen (k := 0) (n := 0) (by decide +kernel) (by decide +kernel) ?_
  exact ret_i hx hb hr hlocks hS (u := (fun _ => 0)) (hP.sub [] rfl) (hD.sub [] (by decide +kernel) rfl) dX10_seen_23

set_option maxHeartbeats 4000000 in
set_option maxRecDepth 100000 in
theorem k347_X11_seen (l : Launch) (dC : Nat → ClassId) (dI : Nat → Nat → Nat) (cB cI cJ cZ cO : ClassId) (n : Nat → Nat) (x1 : Int32) (x2 : Int32) (h0 : x1 < 0) : CI l yX11_seen wsX11_seen ({ frames := 2, cells := 0, slots := 0, locals := 43 }) (dC, dI) (tyL cB cI cJ cZ cO) [.ref (n 0), .int x1, .int x2, .int 0] [((n 0), .inr (11, fM n)), ((n 7), .inl (cI, 2, .inl (upd (fun _ => 0) 0 3)))] (fun _ => []) (-1) := by
  intro sz
  refine ct_open (cc := cX11_seen) (maxL := 4) (ret := (some .int)) (by decide) rfl (Nat.le_of_ble_eq_true rfl) ?_
  intro p e s m below meth c ls A hx hb hr hml hts hown hlocks hin hP hK hD hA hS hl
  have hl : lv_has ls 4 [(0, .ref (n 0)), (1, .int x1), (2, .int x2), (3, .int 0)] := hl
  have hown : s.vm.findClass RX11 = some m.cls := hown
  refine lv_aload_n hx hb dX11_seen_0 rfl (lv_at hl 0 rfl) ?_
  refine lv_iload_n hx hb dX11_seen_1 rfl (lv_at hl 1 rfl) ?_
  refine call_iV (ci := 11) (As := [.int x1]) (rest := []) (wr := []) ⟨hx, hb, hml, hown, hts⟩ (k92_X11_isPlace l dC dI cB cI cJ cZ cO n x1 h0) (cwV 1 hts gX11_seen_X11_isPlace rfl rfl rfl ⟨rfl, z599⟩ ⟨Nat.le_of_ble_eq_true rfl, Nat.le_of_ble_eq_true rfl⟩) hK hP hD hS hA [0, 1] [] rfl rfl (by decide +kernel) (by decide +kernel) (by decide +kernel) rfl rfl rfl hl.1 (Nat.le_of_ble_eq_true rfl) rfl rfl dX11_seen_2 ⟨by decide +kernel, by decide +kernel⟩ (fun u0 H locs hP hD hS => ?_)
  refine lv_if_eq (tgt := 25) hx hb dX11_seen_5 z879 (fun _ => ?_) (fun c1 => absurd (rfl) c1)
  refine lv_iconst (v := (-1)) hx hb dX11_seen_25 z128 ?_
  refine W.widen (k := 0) (n := 0) (by decide +kernel) (by decide +kernel) ?_
  exact ret_i hx hb hr hlocks hS (u := (fun _ => 0)) (hP.sub [] rfl) (hD.sub [] (by decide +kernel) rfl) dX11_seen_26

set_option maxHeartbeats 4000000 in
set_option maxRecDepth 100000 in
theorem k348_X10_seen (l : Launch) (dC : Nat → ClassId) (dI : Nat → Nat → Nat) (cB cI cJ cZ cO : ClassId) (r : Nat → Nat) (x1 : Int32) (x2 : Int32) (h0 : x1 < 0) : CI l yX10_seen wsX10_seen ({ frames := 1, cells := 0, slots := 0, locals := 21 }) (dC, dI) (tyL cB cI cJ cZ cO) [.ref (r 0), .int x1, .int x2, .int 1] [((r 0), .inr (10, fX r)), ((r 18), .inr (4, [.int 0, .ref (r 19), .ref (r 20), .int 0, .ref (r 21), .ref (r 22), .int 0, .ref (r 23), .ref (r 24), .int 0, .ref (r 25), .ref (r 26), .int 3, .int 0, .int 0, .ref (r 27)]))] (fun _ => []) (-1) := by
  intro sz
  refine ct_open (cc := cX10_seen) (maxL := 4) (ret := (some .int)) (by decide) rfl (Nat.le_of_ble_eq_true rfl) ?_
  intro p e s m below meth c ls A hx hb hr hml hts hown hlocks hin hP hK hD hA hS hl
  have hl : lv_has ls 4 [(0, .ref (r 0)), (1, .int x1), (2, .int x2), (3, .int 1)] := hl
  have hown : s.vm.findClass RX10 = some m.cls := hown
  have i10 : ∀ w ∈ u_ws RX10 TX10 18, w ∈ wsX10_seen := fun _ h => List.mem_cons_of_mem _ (List.mem_append_left _ (List.mem_append_left _ (List.mem_append_right _ h)))
  have w1 := hts (.fieldLink RX10 23 "GuildCharter" "told" "LGuildCharter$Port;") (List.mem_cons_of_mem _ (List.mem_append_left _ (List.mem_append_left _ (List.mem_append_left _ (List.mem_append_left _ (List.mem_of_getElem? (i := 0) rfl))))))
  refine lv_aload_n hx hb dX10_seen_0 rfl (lv_at hl 0 rfl) ?_
  refine va_get (D := (dC, dI)) (ci := 10) (v := .ref (r 18)) (C := RX10) (T := TX10) (N := 18) hx hb hts i10 hown hK hP 0 rfl rfl 3 (nlt rfl) w1 (fun _ h9 => h9) rfl dX10_seen_1 ?_
  refine lv_iload_n hx hb dX10_seen_4 rfl (lv_at hl 1 rfl) ?_
  refine call_iV (ci := 4) (As := [.int x1]) (rest := []) (wr := [((r 0), .inr (10, fX r))]) ⟨hx, hb, hml, hown, hts⟩ (k88_X4_hasPlace l dC dI cB cI cJ cZ cO r x1 h0) (cwV 1 hts gX10_seen_X4_hasPlace rfl rfl rfl ⟨rfl, z595⟩ ⟨Nat.le_of_ble_eq_true rfl, Nat.le_of_ble_eq_true rfl⟩) hK hP hD hS hA [1] [0] rfl rfl (by decide +kernel) (by decide +kernel) (by decide +kernel) rfl rfl rfl hl.1 (Nat.le_of_ble_eq_true rfl) rfl rfl dX10_seen_5 ⟨by decide +kernel, by decide +kernel⟩ (fun u0 H locs hP hD hS => ?_)
  refine lv_if_eq (tgt := 22) hx hb dX10_seen_8 z611 (fun _ => ?_) (fun c1 => absurd (rfl) c1)
  refine lv_iconst (v := (-1)) hx hb dX10_seen_22 z128 ?_
  refine W.widen (k := 0) (n := 0) (by decide +kernel) (by decide +kernel) ?_
  exact ret_i hx hb hr hlocks hS (u := (fun _ => 0)) (hP.sub [] rfl) (hD.sub [] (by decide +kernel) rfl) dX10_seen_23

set_option maxHeartbeats 4000000 in
set_option maxRecDepth 100000 in
theorem k349_X11_seen (l : Launch) (dC : Nat → ClassId) (dI : Nat → Nat → Nat) (cB cI cJ cZ cO : ClassId) (n : Nat → Nat) (x1 : Int32) (x2 : Int32) (h0 : x1 < 0) : CI l yX11_seen wsX11_seen ({ frames := 2, cells := 0, slots := 0, locals := 43 }) (dC, dI) (tyL cB cI cJ cZ cO) [.ref (n 0), .int x1, .int x2, .int 1] [((n 0), .inr (11, fM n)), ((n 7), .inl (cI, 2, .inl (upd (fun _ => 0) 0 3)))] (fun _ => []) (-1) := by
  intro sz
  refine ct_open (cc := cX11_seen) (maxL := 4) (ret := (some .int)) (by decide) rfl (Nat.le_of_ble_eq_true rfl) ?_
  intro p e s m below meth c ls A hx hb hr hml hts hown hlocks hin hP hK hD hA hS hl
  have hl : lv_has ls 4 [(0, .ref (n 0)), (1, .int x1), (2, .int x2), (3, .int 1)] := hl
  have hown : s.vm.findClass RX11 = some m.cls := hown
  refine lv_aload_n hx hb dX11_seen_0 rfl (lv_at hl 0 rfl) ?_
  refine lv_iload_n hx hb dX11_seen_1 rfl (lv_at hl 1 rfl) ?_
  refine call_iV (ci := 11) (As := [.int x1]) (rest := []) (wr := []) ⟨hx, hb, hml, hown, hts⟩ (k92_X11_isPlace l dC dI cB cI cJ cZ cO n x1 h0) (cwV 1 hts gX11_seen_X11_isPlace rfl rfl rfl ⟨rfl, z599⟩ ⟨Nat.le_of_ble_eq_true rfl, Nat.le_of_ble_eq_true rfl⟩) hK hP hD hS hA [0, 1] [] rfl rfl (by decide +kernel) (by decide +kernel) (by decide +kernel) rfl rfl rfl hl.1 (Nat.le_of_ble_eq_true rfl) rfl rfl dX11_seen_2 ⟨by decide +kernel, by decide +kernel⟩ (fun u0 H locs hP hD hS => ?_)
  refine lv_if_eq (tgt := 25) hx hb dX11_seen_5 z879 (fun _ => ?_) (fun c1 => absurd (rfl) c1)
  refine lv_iconst (v := (-1)) hx hb dX11_seen_25 z128 ?_
  refine W.widen (k := 0) (n := 0) (by decide +kernel) (by decide +kernel) ?_
  exact ret_i hx hb hr hlocks hS (u := (fun _ => 0)) (hP.sub [] rfl) (hD.sub [] (by decide +kernel) rfl) dX11_seen_26

set_option maxHeartbeats 4000000 in
set_option maxRecDepth 100000 in
theorem k350_X10_seen (l : Launch) (dC : Nat → ClassId) (dI : Nat → Nat → Nat) (cB cI cJ cZ cO : ClassId) (r : Nat → Nat) (x1 : Int32) (x2 : Int32) (h0 : ¬ x1 < 0) (h1 : 3 ≤ x1) : CI l yX10_seen wsX10_seen ({ frames := 1, cells := 0, slots := 0, locals := 21 }) (dC, dI) (tyL cB cI cJ cZ cO) [.ref (r 0), .int x1, .int x2, .int 0] [((r 0), .inr (10, fX r)), ((r 18), .inr (4, [.int 0, .ref (r 19), .ref (r 20), .int 0, .ref (r 21), .ref (r 22), .int 0, .ref (r 23), .ref (r 24), .int 0, .ref (r 25), .ref (r 26), .int 3, .int 0, .int 0, .ref (r 27)]))] (fun _ => []) (-1) := by
  intro sz
  refine ct_open (cc := cX10_seen) (maxL := 4) (ret := (some .int)) (by decide) rfl (Nat.le_of_ble_eq_true rfl) ?_
  intro p e s m below meth c ls A hx hb hr hml hts hown hlocks hin hP hK hD hA hS hl
  have hl : lv_has ls 4 [(0, .ref (r 0)), (1, .int x1), (2, .int x2), (3, .int 0)] := hl
  have hown : s.vm.findClass RX10 = some m.cls := hown
  have i10 : ∀ w ∈ u_ws RX10 TX10 18, w ∈ wsX10_seen := fun _ h => List.mem_cons_of_mem _ (List.mem_append_left _ (List.mem_append_left _ (List.mem_append_right _ h)))
  have w1 := hts (.fieldLink RX10 23 "GuildCharter" "told" "LGuildCharter$Port;") (List.mem_cons_of_mem _ (List.mem_append_left _ (List.mem_append_left _ (List.mem_append_left _ (List.mem_append_left _ (List.mem_of_getElem? (i := 0) rfl))))))
  refine lv_aload_n hx hb dX10_seen_0 rfl (lv_at hl 0 rfl) ?_
  refine va_get (D := (dC, dI)) (ci := 10) (v := .ref (r 18)) (C := RX10) (T := TX10) (N := 18) hx hb hts i10 hown hK hP 0 rfl rfl 3 (nlt rfl) w1 (fun _ h9 => h9) rfl dX10_seen_1 ?_
  refine lv_iload_n hx hb dX10_seen_4 rfl (lv_at hl 1 rfl) ?_
  refine call_iV (ci := 4) (As := [.int x1]) (rest := []) (wr := [((r 0), .inr (10, fX r))]) ⟨hx, hb, hml, hown, hts⟩ (k115_X4_hasPlace l dC dI cB cI cJ cZ cO r x1 h0 h1) (cwV 1 hts gX10_seen_X4_hasPlace rfl rfl rfl ⟨rfl, z595⟩ ⟨Nat.le_of_ble_eq_true rfl, Nat.le_of_ble_eq_true rfl⟩) hK hP hD hS hA [1] [0] rfl rfl (by decide +kernel) (by decide +kernel) (by decide +kernel) rfl rfl rfl hl.1 (Nat.le_of_ble_eq_true rfl) rfl rfl dX10_seen_5 ⟨by decide +kernel, by decide +kernel⟩ (fun u0 H locs hP hD hS => ?_)
  refine lv_if_eq (tgt := 22) hx hb dX10_seen_8 z611 (fun _ => ?_) (fun c1 => absurd (rfl) c1)
  refine lv_iconst (v := (-1)) hx hb dX10_seen_22 z128 ?_
  refine W.widen (k := 0) (n := 0) (by decide +kernel) (by decide +kernel) ?_
  exact ret_i hx hb hr hlocks hS (u := (fun _ => 0)) (hP.sub [] rfl) (hD.sub [] (by decide +kernel) rfl) dX10_seen_23

set_option maxHeartbeats 4000000 in
set_option maxRecDepth 100000 in
theorem k351_X11_seen (l : Launch) (dC : Nat → ClassId) (dI : Nat → Nat → Nat) (cB cI cJ cZ cO : ClassId) (n : Nat → Nat) (x1 : Int32) (x2 : Int32) (h0 : ¬ x1 < 0) (h1 : 2 < x1) : CI l yX11_seen wsX11_seen ({ frames := 2, cells := 0, slots := 0, locals := 43 }) (dC, dI) (tyL cB cI cJ cZ cO) [.ref (n 0), .int x1, .int x2, .int 0] [((n 0), .inr (11, fM n)), ((n 7), .inl (cI, 2, .inl (upd (fun _ => 0) 0 3)))] (fun _ => []) (-1) := by
  intro sz
  refine ct_open (cc := cX11_seen) (maxL := 4) (ret := (some .int)) (by decide) rfl (Nat.le_of_ble_eq_true rfl) ?_
  intro p e s m below meth c ls A hx hb hr hml hts hown hlocks hin hP hK hD hA hS hl
  have hl : lv_has ls 4 [(0, .ref (n 0)), (1, .int x1), (2, .int x2), (3, .int 0)] := hl
  have hown : s.vm.findClass RX11 = some m.cls := hown
  refine lv_aload_n hx hb dX11_seen_0 rfl (lv_at hl 0 rfl) ?_
  refine lv_iload_n hx hb dX11_seen_1 rfl (lv_at hl 1 rfl) ?_
  refine call_iV (ci := 11) (As := [.int x1]) (rest := []) (wr := []) ⟨hx, hb, hml, hown, hts⟩ (k118_X11_isPlace l dC dI cB cI cJ cZ cO n x1 h0 h1) (cwV 1 hts gX11_seen_X11_isPlace rfl rfl rfl ⟨rfl, z599⟩ ⟨Nat.le_of_ble_eq_true rfl, Nat.le_of_ble_eq_true rfl⟩) hK hP hD hS hA [0, 1] [] rfl rfl (by decide +kernel) (by decide +kernel) (by decide +kernel) rfl rfl rfl hl.1 (Nat.le_of_ble_eq_true rfl) rfl rfl dX11_seen_2 ⟨by decide +kernel, by decide +kernel⟩ (fun u0 H locs hP hD hS => ?_)
  refine lv_if_eq (tgt := 25) hx hb dX11_seen_5 z879 (fun _ => ?_) (fun c1 => absurd (rfl) c1)
  refine lv_iconst (v := (-1)) hx hb dX11_seen_25 z128 ?_
  refine W.widen (k := 0) (n := 0) (by decide +kernel) (by decide +kernel) ?_
  exact ret_i hx hb hr hlocks hS (u := (fun _ => 0)) (hP.sub [] rfl) (hD.sub [] (by decide +kernel) rfl) dX11_seen_26

set_option maxHeartbeats 4000000 in
set_option maxRecDepth 100000 in
theorem k352_X10_seen (l : Launch) (dC : Nat → ClassId) (dI : Nat → Nat → Nat) (cB cI cJ cZ cO : ClassId) (r : Nat → Nat) (x1 : Int32) (x2 : Int32) (h0 : ¬ x1 < 0) (h1 : 3 ≤ x1) : CI l yX10_seen wsX10_seen ({ frames := 1, cells := 0, slots := 0, locals := 21 }) (dC, dI) (tyL cB cI cJ cZ cO) [.ref (r 0), .int x1, .int x2, .int 1] [((r 0), .inr (10, fX r)), ((r 18), .inr (4, [.int 0, .ref (r 19), .ref (r 20), .int 0, .ref (r 21), .ref (r 22), .int 0, .ref (r 23), .ref (r 24), .int 0, .ref (r 25), .ref (r 26), .int 3, .int 0, .int 0, .ref (r 27)]))] (fun _ => []) (-1) := by
  intro sz
  refine ct_open (cc := cX10_seen) (maxL := 4) (ret := (some .int)) (by decide) rfl (Nat.le_of_ble_eq_true rfl) ?_
  intro p e s m below meth c ls A hx hb hr hml hts hown hlocks hin hP hK hD hA hS hl
  have hl : lv_has ls 4 [(0, .ref (r 0)), (1, .int x1), (2, .int x2), (3, .int 1)] := hl
  have hown : s.vm.findClass RX10 = some m.cls := hown
  have i10 : ∀ w ∈ u_ws RX10 TX10 18, w ∈ wsX10_seen := fun _ h => List.mem_cons_of_mem _ (List.mem_append_left _ (List.mem_append_left _ (List.mem_append_right _ h)))
  have w1 := hts (.fieldLink RX10 23 "GuildCharter" "told" "LGuildCharter$Port;") (List.mem_cons_of_mem _ (List.mem_append_left _ (List.mem_append_left _ (List.mem_append_left _ (List.mem_append_left _ (List.mem_of_getElem? (i := 0) rfl))))))
  refine lv_aload_n hx hb dX10_seen_0 rfl (lv_at hl 0 rfl) ?_
  refine va_get (D := (dC, dI)) (ci := 10) (v := .ref (r 18)) (C := RX10) (T := TX10) (N := 18) hx hb hts i10 hown hK hP 0 rfl rfl 3 (nlt rfl) w1 (fun _ h9 => h9) rfl dX10_seen_1 ?_
  refine lv_iload_n hx hb dX10_seen_4 rfl (lv_at hl 1 rfl) ?_
  refine call_iV (ci := 4) (As := [.int x1]) (rest := []) (wr := [((r 0), .inr (10, fX r))]) ⟨hx, hb, hml, hown, hts⟩ (k115_X4_hasPlace l dC dI cB cI cJ cZ cO r x1 h0 h1) (cwV 1 hts gX10_seen_X4_hasPlace rfl rfl rfl ⟨rfl, z595⟩ ⟨Nat.le_of_ble_eq_true rfl, Nat.le_of_ble_eq_true rfl⟩) hK hP hD hS hA [1] [0] rfl rfl (by decide +kernel) (by decide +kernel) (by decide +kernel) rfl rfl rfl hl.1 (Nat.le_of_ble_eq_true rfl) rfl rfl dX10_seen_5 ⟨by decide +kernel, by decide +kernel⟩ (fun u0 H locs hP hD hS => ?_)
  refine lv_if_eq (tgt := 22) hx hb dX10_seen_8 z611 (fun _ => ?_) (fun c1 => absurd (rfl) c1)
  refine lv_iconst (v := (-1)) hx hb dX10_seen_22 z128 ?_
  refine W.widen (k := 0) (n := 0) (by decide +kernel) (by decide +kernel) ?_
  exact ret_i hx hb hr hlocks hS (u := (fun _ => 0)) (hP.sub [] rfl) (hD.sub [] (by decide +kernel) rfl) dX10_seen_23

set_option maxHeartbeats 4000000 in
set_option maxRecDepth 100000 in
theorem k353_X11_seen (l : Launch) (dC : Nat → ClassId) (dI : Nat → Nat → Nat) (cB cI cJ cZ cO : ClassId) (n : Nat → Nat) (x1 : Int32) (x2 : Int32) (h0 : ¬ x1 < 0) (h1 : 2 < x1) : CI l yX11_seen wsX11_seen ({ frames := 2, cells := 0, slots := 0, locals := 43 }) (dC, dI) (tyL cB cI cJ cZ cO) [.ref (n 0), .int x1, .int x2, .int 1] [((n 0), .inr (11, fM n)), ((n 7), .inl (cI, 2, .inl (upd (fun _ => 0) 0 3)))] (fun _ => []) (-1) := by
  intro sz
  refine ct_open (cc := cX11_seen) (maxL := 4) (ret := (some .int)) (by decide) rfl (Nat.le_of_ble_eq_true rfl) ?_
  intro p e s m below meth c ls A hx hb hr hml hts hown hlocks hin hP hK hD hA hS hl
  have hl : lv_has ls 4 [(0, .ref (n 0)), (1, .int x1), (2, .int x2), (3, .int 1)] := hl
  have hown : s.vm.findClass RX11 = some m.cls := hown
  refine lv_aload_n hx hb dX11_seen_0 rfl (lv_at hl 0 rfl) ?_
  refine lv_iload_n hx hb dX11_seen_1 rfl (lv_at hl 1 rfl) ?_
  refine call_iV (ci := 11) (As := [.int x1]) (rest := []) (wr := []) ⟨hx, hb, hml, hown, hts⟩ (k118_X11_isPlace l dC dI cB cI cJ cZ cO n x1 h0 h1) (cwV 1 hts gX11_seen_X11_isPlace rfl rfl rfl ⟨rfl, z599⟩ ⟨Nat.le_of_ble_eq_true rfl, Nat.le_of_ble_eq_true rfl⟩) hK hP hD hS hA [0, 1] [] rfl rfl (by decide +kernel) (by decide +kernel) (by decide +kernel) rfl rfl rfl hl.1 (Nat.le_of_ble_eq_true rfl) rfl rfl dX11_seen_2 ⟨by decide +kernel, by decide +kernel⟩ (fun u0 H locs hP hD hS => ?_)
  refine lv_if_eq (tgt := 25) hx hb dX11_seen_5 z879 (fun _ => ?_) (fun c1 => absurd (rfl) c1)
  refine lv_iconst (v := (-1)) hx hb dX11_seen_25 z128 ?_
  refine W.widen (k := 0) (n := 0) (by decide +kernel) (by decide +kernel) ?_
  exact ret_i hx hb hr hlocks hS (u := (fun _ => 0)) (hP.sub [] rfl) (hD.sub [] (by decide +kernel) rfl) dX11_seen_26

set_option maxHeartbeats 4000000 in
set_option maxRecDepth 100000 in
theorem k354_X10_seen (l : Launch) (dC : Nat → ClassId) (dI : Nat → Nat → Nat) (cB cI cJ cZ cO : ClassId) (r : Nat → Nat) (x1 : Int32) (x2 : Int32) (h0 : ¬ x1 < 0) (h1 : ¬ 3 ≤ x1) (h2 : x2 < 0) : CI l yX10_seen wsX10_seen ({ frames := 1, cells := 0, slots := 0, locals := 21 }) (dC, dI) (tyL cB cI cJ cZ cO) [.ref (r 0), .int x1, .int x2, .int 0] [((r 0), .inr (10, fX r)), ((r 18), .inr (4, [.int 0, .ref (r 19), .ref (r 20), .int 0, .ref (r 21), .ref (r 22), .int 0, .ref (r 23), .ref (r 24), .int 0, .ref (r 25), .ref (r 26), .int 3, .int 0, .int 0, .ref (r 27)]))] (fun _ => []) (-1) := by
  intro sz
  refine ct_open (cc := cX10_seen) (maxL := 4) (ret := (some .int)) (by decide) rfl (Nat.le_of_ble_eq_true rfl) ?_
  intro p e s m below meth c ls A hx hb hr hml hts hown hlocks hin hP hK hD hA hS hl
  have hl : lv_has ls 4 [(0, .ref (r 0)), (1, .int x1), (2, .int x2), (3, .int 0)] := hl
  have hown : s.vm.findClass RX10 = some m.cls := hown
  have i10 : ∀ w ∈ u_ws RX10 TX10 18, w ∈ wsX10_seen := fun _ h => List.mem_cons_of_mem _ (List.mem_append_left _ (List.mem_append_left _ (List.mem_append_right _ h)))
  have w1 := hts (.fieldLink RX10 23 "GuildCharter" "told" "LGuildCharter$Port;") (List.mem_cons_of_mem _ (List.mem_append_left _ (List.mem_append_left _ (List.mem_append_left _ (List.mem_append_left _ (List.mem_of_getElem? (i := 0) rfl))))))
  refine lv_aload_n hx hb dX10_seen_0 rfl (lv_at hl 0 rfl) ?_
  refine va_get (D := (dC, dI)) (ci := 10) (v := .ref (r 18)) (C := RX10) (T := TX10) (N := 18) hx hb hts i10 hown hK hP 0 rfl rfl 3 (nlt rfl) w1 (fun _ h9 => h9) rfl dX10_seen_1 ?_
  refine lv_iload_n hx hb dX10_seen_4 rfl (lv_at hl 1 rfl) ?_
  refine call_iV (ci := 4) (As := [.int x1]) (rest := []) (wr := [((r 0), .inr (10, fX r))]) ⟨hx, hb, hml, hown, hts⟩ (k267_X4_hasPlace l dC dI cB cI cJ cZ cO r x1 h0 h1) (cwV 1 hts gX10_seen_X4_hasPlace rfl rfl rfl ⟨rfl, z595⟩ ⟨Nat.le_of_ble_eq_true rfl, Nat.le_of_ble_eq_true rfl⟩) hK hP hD hS hA [1] [0] rfl rfl (by decide +kernel) (by decide +kernel) (by decide +kernel) rfl rfl rfl hl.1 (Nat.le_of_ble_eq_true rfl) rfl rfl dX10_seen_5 ⟨by decide +kernel, by decide +kernel⟩ (fun u0 H locs hP hD hS => ?_)
  refine lv_if_eq (tgt := 22) hx hb dX10_seen_8 z611 (fun c1 => absurd c1 (z525)) (fun _ => ?_)
  refine lv_aload_n hx hb dX10_seen_11 rfl (lv_at hl 0 rfl) ?_
  refine va_get (D := (dC, dI)) (ci := 10) (v := .ref (r 18)) (C := RX10) (T := TX10) (N := 18) hx hb hts i10 hown hK hP 0 rfl rfl 3 (nlt rfl) w1 (fun _ h9 => h9) rfl dX10_seen_12 ?_
  refine lv_iload_n hx hb dX10_seen_15 rfl (lv_at hl 2 rfl) ?_
  refine call_iV (ci := 4) (As := [.int x2]) (rest := []) (wr := [((r 0), .inr (10, fX r))]) ⟨hx, hb, hml, hown, hts⟩ (k269_X4_hasWord l dC dI cB cI cJ cZ cO r x2 h2) (cwV 1 hts gX10_seen_X4_hasWord rfl rfl rfl ⟨rfl, z584⟩ ⟨Nat.le_of_ble_eq_true rfl, Nat.le_of_ble_eq_true rfl⟩) hK hP hD hS hA [1] [0] rfl rfl (by decide +kernel) (by decide +kernel) (by decide +kernel) rfl rfl rfl hl.1 (Nat.le_of_ble_eq_true rfl) rfl rfl dX10_seen_16 ⟨by decide +kernel, by decide +kernel⟩ (fun u1 H locs hP hD hS => ?_)
  refine lv_if_ne (tgt := 24) hx hb dX10_seen_19 z535 (fun c1 => absurd (rfl) c1) (fun _ => ?_)
  refine lv_iconst (v := (-1)) hx hb dX10_seen_22 z128 ?_
  refine W.widen (k := 0) (n := 0) (by decide +kernel) (by decide +kernel) ?_
  exact ret_i hx hb hr hlocks hS (u := (fun _ => 0)) (hP.sub [] rfl) (hD.sub [] (by decide +kernel) rfl) dX10_seen_23

set_option maxHeartbeats 4000000 in
set_option maxRecDepth 100000 in
theorem k355_X11_isPlace (l : Launch) (dC : Nat → ClassId) (dI : Nat → Nat → Nat) (cB cI cJ cZ cO : ClassId) (n : Nat → Nat) (x1 : Int32) (h0 : ¬ x1 < 0) (h1 : ¬ 2 < x1) : CI l yX11_isPlace wsX11_isPlace ({ frames := 1, cells := 0, slots := 0, locals := 22 }) (dC, dI) (tyL cB cI cJ cZ cO) [.ref (n 0), .int x1] [((n 0), .inr (11, fM n)), ((n 7), .inl (cI, 2, .inl (upd (fun _ => 0) 0 3)))] (fun u => [((n 0), .inr (11, fM n)), ((n 7), .inl (cI, 2, .inl (upd (fun _ => 0) 0 3)))]) 1 := by
  intro sz
  refine ct_open (cc := cX11_isPlace) (maxL := 2) (ret := (some .boolean)) (by decide) rfl (Nat.le_of_ble_eq_true rfl) ?_
  intro p e s m below meth c ls A hx hb hr hml hts hown hlocks hin hP hK hD hA hS hl
  have hl : lv_has ls 2 [(0, .ref (n 0)), (1, .int x1)] := hl
  have hown : s.vm.findClass RX11 = some m.cls := hown
  refine lv_iload_n hx hb dX11_isPlace_0 rfl (lv_at hl 1 rfl) ?_
  refine lv_iconst (v := 0) hx hb dX11_isPlace_1 z8 ?_
  refine lv_aload_n hx hb dX11_isPlace_2 rfl (lv_at hl 0 rfl) ?_
  refine call_iV (ci := 11) (As := []) (rest := [.int 0, .int x1]) (wr := []) ⟨hx, hb, hml, hown, hts⟩ (k90_X11_longOf l dC dI cB cI cJ cZ cO n) (cwV 0 hts gX11_isPlace_X11_longOf rfl rfl rfl ⟨rfl, z597⟩ ⟨Nat.le_of_ble_eq_true rfl, Nat.le_of_ble_eq_true rfl⟩) hK hP hD hS hA [0, 1] [] rfl rfl (by decide +kernel) (by decide +kernel) (by decide +kernel) rfl rfl rfl hl.1 (Nat.le_of_ble_eq_true rfl) rfl rfl dX11_isPlace_3 ⟨by decide +kernel, by decide +kernel⟩ (fun u0 H locs hP hD hS => ?_)
  refine lv_iconst (v := 1) hx hb dX11_isPlace_6 z39 ?_
  refine lv_isub hx hb dX11_isPlace_7 ?_
  refine tpi z596 ?_
  refine call_iS (As := [.int x1, .int 0, .int 2]) (rest := []) (wr := [((n 0), .inr (11, fM n)), ((n 7), .inl (cI, 2, .inl (upd (fun _ => 0) 0 3)))]) ⟨hx, hb, hml, hown, hts⟩ (k208_X11_isIn l dC dI cB cI cJ cZ cO x1 h0 h1) (va_cwS 3 hts gX11_isPlace_X11_isIn rfl rfl rfl z587 ⟨Nat.le_of_ble_eq_true rfl, Nat.le_of_ble_eq_true rfl⟩) hK hP hD hS hA [] [0, 1] rfl rfl (by decide +kernel) (by decide +kernel) (by decide +kernel) hl.1 (Nat.le_of_ble_eq_true rfl) rfl rfl dX11_isPlace_8 ⟨by decide +kernel, by decide +kernel⟩ (fun u1 H locs hP hD hS => ?_)
  refine W.widen (k := 0) (n := 0) (by decide +kernel) (by decide +kernel) ?_
  exact ret_z hx hb hr rfl hlocks hS (u := (fun _ => 0)) (hP.sub [0, 1] rfl) (hD.sub [0, 1] (by decide +kernel) rfl) dX11_isPlace_11

set_option maxHeartbeats 4000000 in
set_option maxRecDepth 100000 in
theorem k356_X11_seen (l : Launch) (dC : Nat → ClassId) (dI : Nat → Nat → Nat) (cB cI cJ cZ cO : ClassId) (n : Nat → Nat) (x1 : Int32) (x2 : Int32) (h0 : ¬ x1 < 0) (h1 : ¬ 2 < x1) (h2 : x2 < 0) : CI l yX11_seen wsX11_seen ({ frames := 2, cells := 0, slots := 0, locals := 43 }) (dC, dI) (tyL cB cI cJ cZ cO) [.ref (n 0), .int x1, .int x2, .int 0] [((n 0), .inr (11, fM n)), ((n 7), .inl (cI, 2, .inl (upd (fun _ => 0) 0 3))), ((n 3), .inl (cI, 2, .inl (fun _ => 0)))] (fun _ => []) (-1) := by
  intro sz
  refine ct_open (cc := cX11_seen) (maxL := 4) (ret := (some .int)) (by decide) rfl (Nat.le_of_ble_eq_true rfl) ?_
  intro p e s m below meth c ls A hx hb hr hml hts hown hlocks hin hP hK hD hA hS hl
  have hl : lv_has ls 4 [(0, .ref (n 0)), (1, .int x1), (2, .int x2), (3, .int 0)] := hl
  have hown : s.vm.findClass RX11 = some m.cls := hown
  refine lv_aload_n hx hb dX11_seen_0 rfl (lv_at hl 0 rfl) ?_
  refine lv_iload_n hx hb dX11_seen_1 rfl (lv_at hl 1 rfl) ?_
  refine call_iV (ci := 11) (As := [.int x1]) (rest := []) (wr := [((n 3), .inl (cI, 2, .inl (fun _ => 0)))]) ⟨hx, hb, hml, hown, hts⟩ (k355_X11_isPlace l dC dI cB cI cJ cZ cO n x1 h0 h1) (cwV 1 hts gX11_seen_X11_isPlace rfl rfl rfl ⟨rfl, z599⟩ ⟨Nat.le_of_ble_eq_true rfl, Nat.le_of_ble_eq_true rfl⟩) hK hP hD hS hA [0, 1] [2] rfl rfl (by decide +kernel) (by decide +kernel) (by decide +kernel) rfl rfl rfl hl.1 (Nat.le_of_ble_eq_true rfl) rfl rfl dX11_seen_2 ⟨by decide +kernel, by decide +kernel⟩ (fun u0 H locs hP hD hS => ?_)
  refine lv_if_eq (tgt := 25) hx hb dX11_seen_5 z879 (fun c1 => absurd c1 (z525)) (fun _ => ?_)
  refine lv_aload_n hx hb dX11_seen_8 rfl (lv_at hl 0 rfl) ?_
  refine lv_iload_n hx hb dX11_seen_9 rfl (lv_at hl 2 rfl) ?_
  refine call_iV (ci := 11) (As := [.int x2]) (rest := []) (wr := [((n 7), .inl (cI, 2, .inl (upd (fun _ => 0) 0 3)))]) ⟨hx, hb, hml, hown, hts⟩ (k272_X11_isWordOf l dC dI cB cI cJ cZ cO n x2 h2) (cwV 1 hts gX11_seen_X11_isWordOf rfl rfl rfl ⟨rfl, z589⟩ ⟨Nat.le_of_ble_eq_true rfl, Nat.le_of_ble_eq_true rfl⟩) hK hP hD hS hA [1, 0] [2] rfl rfl (by decide +kernel) (by decide +kernel) (by decide +kernel) rfl rfl rfl hl.1 (Nat.le_of_ble_eq_true rfl) rfl rfl dX11_seen_10 ⟨by decide +kernel, by decide +kernel⟩ (fun u1 H locs hP hD hS => ?_)
  refine lv_if_eq (tgt := 25) hx hb dX11_seen_13 z823 (fun _ => ?_) (fun c1 => absurd (rfl) c1)
  refine lv_iconst (v := (-1)) hx hb dX11_seen_25 z128 ?_
  refine W.widen (k := 0) (n := 0) (by decide +kernel) (by decide +kernel) ?_
  exact ret_i hx hb hr hlocks hS (u := (fun _ => 0)) (hP.sub [] rfl) (hD.sub [] (by decide +kernel) rfl) dX11_seen_26

set_option maxHeartbeats 4000000 in
set_option maxRecDepth 100000 in
theorem k357_X10_seen (l : Launch) (dC : Nat → ClassId) (dI : Nat → Nat → Nat) (cB cI cJ cZ cO : ClassId) (r : Nat → Nat) (x1 : Int32) (x2 : Int32) (h0 : ¬ x1 < 0) (h1 : ¬ 3 ≤ x1) (h2 : x2 < 0) : CI l yX10_seen wsX10_seen ({ frames := 1, cells := 0, slots := 0, locals := 21 }) (dC, dI) (tyL cB cI cJ cZ cO) [.ref (r 0), .int x1, .int x2, .int 1] [((r 0), .inr (10, fX r)), ((r 18), .inr (4, [.int 0, .ref (r 19), .ref (r 20), .int 0, .ref (r 21), .ref (r 22), .int 0, .ref (r 23), .ref (r 24), .int 0, .ref (r 25), .ref (r 26), .int 3, .int 0, .int 0, .ref (r 27)]))] (fun _ => []) (-1) := by
  intro sz
  refine ct_open (cc := cX10_seen) (maxL := 4) (ret := (some .int)) (by decide) rfl (Nat.le_of_ble_eq_true rfl) ?_
  intro p e s m below meth c ls A hx hb hr hml hts hown hlocks hin hP hK hD hA hS hl
  have hl : lv_has ls 4 [(0, .ref (r 0)), (1, .int x1), (2, .int x2), (3, .int 1)] := hl
  have hown : s.vm.findClass RX10 = some m.cls := hown
  have i10 : ∀ w ∈ u_ws RX10 TX10 18, w ∈ wsX10_seen := fun _ h => List.mem_cons_of_mem _ (List.mem_append_left _ (List.mem_append_left _ (List.mem_append_right _ h)))
  have w1 := hts (.fieldLink RX10 23 "GuildCharter" "told" "LGuildCharter$Port;") (List.mem_cons_of_mem _ (List.mem_append_left _ (List.mem_append_left _ (List.mem_append_left _ (List.mem_append_left _ (List.mem_of_getElem? (i := 0) rfl))))))
  refine lv_aload_n hx hb dX10_seen_0 rfl (lv_at hl 0 rfl) ?_
  refine va_get (D := (dC, dI)) (ci := 10) (v := .ref (r 18)) (C := RX10) (T := TX10) (N := 18) hx hb hts i10 hown hK hP 0 rfl rfl 3 (nlt rfl) w1 (fun _ h9 => h9) rfl dX10_seen_1 ?_
  refine lv_iload_n hx hb dX10_seen_4 rfl (lv_at hl 1 rfl) ?_
  refine call_iV (ci := 4) (As := [.int x1]) (rest := []) (wr := [((r 0), .inr (10, fX r))]) ⟨hx, hb, hml, hown, hts⟩ (k267_X4_hasPlace l dC dI cB cI cJ cZ cO r x1 h0 h1) (cwV 1 hts gX10_seen_X4_hasPlace rfl rfl rfl ⟨rfl, z595⟩ ⟨Nat.le_of_ble_eq_true rfl, Nat.le_of_ble_eq_true rfl⟩) hK hP hD hS hA [1] [0] rfl rfl (by decide +kernel) (by decide +kernel) (by decide +kernel) rfl rfl rfl hl.1 (Nat.le_of_ble_eq_true rfl) rfl rfl dX10_seen_5 ⟨by decide +kernel, by decide +kernel⟩ (fun u0 H locs hP hD hS => ?_)
  refine lv_if_eq (tgt := 22) hx hb dX10_seen_8 z611 (fun c1 => absurd c1 (z525)) (fun _ => ?_)
  refine lv_aload_n hx hb dX10_seen_11 rfl (lv_at hl 0 rfl) ?_
  refine va_get (D := (dC, dI)) (ci := 10) (v := .ref (r 18)) (C := RX10) (T := TX10) (N := 18) hx hb hts i10 hown hK hP 0 rfl rfl 3 (nlt rfl) w1 (fun _ h9 => h9) rfl dX10_seen_12 ?_
  refine lv_iload_n hx hb dX10_seen_15 rfl (lv_at hl 2 rfl) ?_
  refine call_iV (ci := 4) (As := [.int x2]) (rest := []) (wr := [((r 0), .inr (10, fX r))]) ⟨hx, hb, hml, hown, hts⟩ (k269_X4_hasWord l dC dI cB cI cJ cZ cO r x2 h2) (cwV 1 hts gX10_seen_X4_hasWord rfl rfl rfl ⟨rfl, z584⟩ ⟨Nat.le_of_ble_eq_true rfl, Nat.le_of_ble_eq_true rfl⟩) hK hP hD hS hA [1] [0] rfl rfl (by decide +kernel) (by decide +kernel) (by decide +kernel) rfl rfl rfl hl.1 (Nat.le_of_ble_eq_true rfl) rfl rfl dX10_seen_16 ⟨by decide +kernel, by decide +kernel⟩ (fun u1 H locs hP hD hS => ?_)
  refine lv_if_ne (tgt := 24) hx hb dX10_seen_19 z535 (fun c1 => absurd (rfl) c1) (fun _ => ?_)
  refine lv_iconst (v := (-1)) hx hb dX10_seen_22 z128 ?_
  refine W.widen (k := 0) (n := 0) (by decide +kernel) (by decide +kernel) ?_
  exact ret_i hx hb hr hlocks hS (u := (fun _ => 0)) (hP.sub [] rfl) (hD.sub [] (by decide +kernel) rfl) dX10_seen_23

set_option maxHeartbeats 4000000 in
set_option maxRecDepth 100000 in
theorem k358_X11_seen (l : Launch) (dC : Nat → ClassId) (dI : Nat → Nat → Nat) (cB cI cJ cZ cO : ClassId) (n : Nat → Nat) (x1 : Int32) (x2 : Int32) (h0 : ¬ x1 < 0) (h1 : ¬ 2 < x1) (h2 : x2 < 0) : CI l yX11_seen wsX11_seen ({ frames := 2, cells := 0, slots := 0, locals := 43 }) (dC, dI) (tyL cB cI cJ cZ cO) [.ref (n 0), .int x1, .int x2, .int 1] [((n 0), .inr (11, fM n)), ((n 7), .inl (cI, 2, .inl (upd (fun _ => 0) 0 3))), ((n 3), .inl (cI, 2, .inl (fun _ => 0)))] (fun _ => []) (-1) := by
  intro sz
  refine ct_open (cc := cX11_seen) (maxL := 4) (ret := (some .int)) (by decide) rfl (Nat.le_of_ble_eq_true rfl) ?_
  intro p e s m below meth c ls A hx hb hr hml hts hown hlocks hin hP hK hD hA hS hl
  have hl : lv_has ls 4 [(0, .ref (n 0)), (1, .int x1), (2, .int x2), (3, .int 1)] := hl
  have hown : s.vm.findClass RX11 = some m.cls := hown
  refine lv_aload_n hx hb dX11_seen_0 rfl (lv_at hl 0 rfl) ?_
  refine lv_iload_n hx hb dX11_seen_1 rfl (lv_at hl 1 rfl) ?_
  refine call_iV (ci := 11) (As := [.int x1]) (rest := []) (wr := [((n 3), .inl (cI, 2, .inl (fun _ => 0)))]) ⟨hx, hb, hml, hown, hts⟩ (k355_X11_isPlace l dC dI cB cI cJ cZ cO n x1 h0 h1) (cwV 1 hts gX11_seen_X11_isPlace rfl rfl rfl ⟨rfl, z599⟩ ⟨Nat.le_of_ble_eq_true rfl, Nat.le_of_ble_eq_true rfl⟩) hK hP hD hS hA [0, 1] [2] rfl rfl (by decide +kernel) (by decide +kernel) (by decide +kernel) rfl rfl rfl hl.1 (Nat.le_of_ble_eq_true rfl) rfl rfl dX11_seen_2 ⟨by decide +kernel, by decide +kernel⟩ (fun u0 H locs hP hD hS => ?_)
  refine lv_if_eq (tgt := 25) hx hb dX11_seen_5 z879 (fun c1 => absurd c1 (z525)) (fun _ => ?_)
  refine lv_aload_n hx hb dX11_seen_8 rfl (lv_at hl 0 rfl) ?_
  refine lv_iload_n hx hb dX11_seen_9 rfl (lv_at hl 2 rfl) ?_
  refine call_iV (ci := 11) (As := [.int x2]) (rest := []) (wr := [((n 7), .inl (cI, 2, .inl (upd (fun _ => 0) 0 3)))]) ⟨hx, hb, hml, hown, hts⟩ (k272_X11_isWordOf l dC dI cB cI cJ cZ cO n x2 h2) (cwV 1 hts gX11_seen_X11_isWordOf rfl rfl rfl ⟨rfl, z589⟩ ⟨Nat.le_of_ble_eq_true rfl, Nat.le_of_ble_eq_true rfl⟩) hK hP hD hS hA [1, 0] [2] rfl rfl (by decide +kernel) (by decide +kernel) (by decide +kernel) rfl rfl rfl hl.1 (Nat.le_of_ble_eq_true rfl) rfl rfl dX11_seen_10 ⟨by decide +kernel, by decide +kernel⟩ (fun u1 H locs hP hD hS => ?_)
  refine lv_if_eq (tgt := 25) hx hb dX11_seen_13 z823 (fun _ => ?_) (fun c1 => absurd (rfl) c1)
  refine lv_iconst (v := (-1)) hx hb dX11_seen_25 z128 ?_
  refine W.widen (k := 0) (n := 0) (by decide +kernel) (by decide +kernel) ?_
  exact ret_i hx hb hr hlocks hS (u := (fun _ => 0)) (hP.sub [] rfl) (hD.sub [] (by decide +kernel) rfl) dX11_seen_26

set_option maxHeartbeats 4000000 in
set_option maxRecDepth 100000 in
theorem k359_X10_seen (l : Launch) (dC : Nat → ClassId) (dI : Nat → Nat → Nat) (cB cI cJ cZ cO : ClassId) (r : Nat → Nat) (x1 : Int32) (x2 : Int32) (h0 : ¬ x1 < 0) (h1 : ¬ 3 ≤ x1) (h2 : ¬ x2 < 0) (h3 : 0 ≤ x2) : CI l yX10_seen wsX10_seen ({ frames := 1, cells := 0, slots := 0, locals := 21 }) (dC, dI) (tyL cB cI cJ cZ cO) [.ref (r 0), .int x1, .int x2, .int 0] [((r 0), .inr (10, fX r)), ((r 18), .inr (4, [.int 0, .ref (r 19), .ref (r 20), .int 0, .ref (r 21), .ref (r 22), .int 0, .ref (r 23), .ref (r 24), .int 0, .ref (r 25), .ref (r 26), .int 3, .int 0, .int 0, .ref (r 27)]))] (fun _ => []) (-1) := by
  intro sz
  refine ct_open (cc := cX10_seen) (maxL := 4) (ret := (some .int)) (by decide) rfl (Nat.le_of_ble_eq_true rfl) ?_
  intro p e s m below meth c ls A hx hb hr hml hts hown hlocks hin hP hK hD hA hS hl
  have hl : lv_has ls 4 [(0, .ref (r 0)), (1, .int x1), (2, .int x2), (3, .int 0)] := hl
  have hown : s.vm.findClass RX10 = some m.cls := hown
  have i10 : ∀ w ∈ u_ws RX10 TX10 18, w ∈ wsX10_seen := fun _ h => List.mem_cons_of_mem _ (List.mem_append_left _ (List.mem_append_left _ (List.mem_append_right _ h)))
  have w1 := hts (.fieldLink RX10 23 "GuildCharter" "told" "LGuildCharter$Port;") (List.mem_cons_of_mem _ (List.mem_append_left _ (List.mem_append_left _ (List.mem_append_left _ (List.mem_append_left _ (List.mem_of_getElem? (i := 0) rfl))))))
  refine lv_aload_n hx hb dX10_seen_0 rfl (lv_at hl 0 rfl) ?_
  refine va_get (D := (dC, dI)) (ci := 10) (v := .ref (r 18)) (C := RX10) (T := TX10) (N := 18) hx hb hts i10 hown hK hP 0 rfl rfl 3 (nlt rfl) w1 (fun _ h9 => h9) rfl dX10_seen_1 ?_
  refine lv_iload_n hx hb dX10_seen_4 rfl (lv_at hl 1 rfl) ?_
  refine call_iV (ci := 4) (As := [.int x1]) (rest := []) (wr := [((r 0), .inr (10, fX r))]) ⟨hx, hb, hml, hown, hts⟩ (k267_X4_hasPlace l dC dI cB cI cJ cZ cO r x1 h0 h1) (cwV 1 hts gX10_seen_X4_hasPlace rfl rfl rfl ⟨rfl, z595⟩ ⟨Nat.le_of_ble_eq_true rfl, Nat.le_of_ble_eq_true rfl⟩) hK hP hD hS hA [1] [0] rfl rfl (by decide +kernel) (by decide +kernel) (by decide +kernel) rfl rfl rfl hl.1 (Nat.le_of_ble_eq_true rfl) rfl rfl dX10_seen_5 ⟨by decide +kernel, by decide +kernel⟩ (fun u0 H locs hP hD hS => ?_)
  refine lv_if_eq (tgt := 22) hx hb dX10_seen_8 z611 (fun c1 => absurd c1 (z525)) (fun _ => ?_)
  refine lv_aload_n hx hb dX10_seen_11 rfl (lv_at hl 0 rfl) ?_
  refine va_get (D := (dC, dI)) (ci := 10) (v := .ref (r 18)) (C := RX10) (T := TX10) (N := 18) hx hb hts i10 hown hK hP 0 rfl rfl 3 (nlt rfl) w1 (fun _ h9 => h9) rfl dX10_seen_12 ?_
  refine lv_iload_n hx hb dX10_seen_15 rfl (lv_at hl 2 rfl) ?_
  refine call_iV (ci := 4) (As := [.int x2]) (rest := []) (wr := [((r 0), .inr (10, fX r))]) ⟨hx, hb, hml, hown, hts⟩ (k274_X4_hasWord l dC dI cB cI cJ cZ cO r x2 h2 h3) (cwV 1 hts gX10_seen_X4_hasWord rfl rfl rfl ⟨rfl, z584⟩ ⟨Nat.le_of_ble_eq_true rfl, Nat.le_of_ble_eq_true rfl⟩) hK hP hD hS hA [1] [0] rfl rfl (by decide +kernel) (by decide +kernel) (by decide +kernel) rfl rfl rfl hl.1 (Nat.le_of_ble_eq_true rfl) rfl rfl dX10_seen_16 ⟨by decide +kernel, by decide +kernel⟩ (fun u1 H locs hP hD hS => ?_)
  refine lv_if_ne (tgt := 24) hx hb dX10_seen_19 z535 (fun c1 => absurd (rfl) c1) (fun _ => ?_)
  refine lv_iconst (v := (-1)) hx hb dX10_seen_22 z128 ?_
  refine W.widen (k := 0) (n := 0) (by decide +kernel) (by decide +kernel) ?_
  exact ret_i hx hb hr hlocks hS (u := (fun _ => 0)) (hP.sub [] rfl) (hD.sub [] (by decide +kernel) rfl) dX10_seen_23

set_option maxHeartbeats 4000000 in
set_option maxRecDepth 100000 in
theorem k360_X11_seen (l : Launch) (dC : Nat → ClassId) (dI : Nat → Nat → Nat) (cB cI cJ cZ cO : ClassId) (n : Nat → Nat) (x1 : Int32) (x2 : Int32) (h0 : ¬ x1 < 0) (h1 : ¬ 2 < x1) (h2 : ¬ x2 < 0) (h3 : (-1) < x2) : CI l yX11_seen wsX11_seen ({ frames := 2, cells := 0, slots := 0, locals := 43 }) (dC, dI) (tyL cB cI cJ cZ cO) [.ref (n 0), .int x1, .int x2, .int 0] [((n 0), .inr (11, fM n)), ((n 7), .inl (cI, 2, .inl (upd (fun _ => 0) 0 3))), ((n 3), .inl (cI, 2, .inl (fun _ => 0)))] (fun _ => []) (-1) := by
  intro sz
  refine ct_open (cc := cX11_seen) (maxL := 4) (ret := (some .int)) (by decide) rfl (Nat.le_of_ble_eq_true rfl) ?_
  intro p e s m below meth c ls A hx hb hr hml hts hown hlocks hin hP hK hD hA hS hl
  have hl : lv_has ls 4 [(0, .ref (n 0)), (1, .int x1), (2, .int x2), (3, .int 0)] := hl
  have hown : s.vm.findClass RX11 = some m.cls := hown
  refine lv_aload_n hx hb dX11_seen_0 rfl (lv_at hl 0 rfl) ?_
  refine lv_iload_n hx hb dX11_seen_1 rfl (lv_at hl 1 rfl) ?_
  refine call_iV (ci := 11) (As := [.int x1]) (rest := []) (wr := [((n 3), .inl (cI, 2, .inl (fun _ => 0)))]) ⟨hx, hb, hml, hown, hts⟩ (k355_X11_isPlace l dC dI cB cI cJ cZ cO n x1 h0 h1) (cwV 1 hts gX11_seen_X11_isPlace rfl rfl rfl ⟨rfl, z599⟩ ⟨Nat.le_of_ble_eq_true rfl, Nat.le_of_ble_eq_true rfl⟩) hK hP hD hS hA [0, 1] [2] rfl rfl (by decide +kernel) (by decide +kernel) (by decide +kernel) rfl rfl rfl hl.1 (Nat.le_of_ble_eq_true rfl) rfl rfl dX11_seen_2 ⟨by decide +kernel, by decide +kernel⟩ (fun u0 H locs hP hD hS => ?_)
  refine lv_if_eq (tgt := 25) hx hb dX11_seen_5 z879 (fun c1 => absurd c1 (z525)) (fun _ => ?_)
  refine lv_aload_n hx hb dX11_seen_8 rfl (lv_at hl 0 rfl) ?_
  refine lv_iload_n hx hb dX11_seen_9 rfl (lv_at hl 2 rfl) ?_
  refine call_iV (ci := 11) (As := [.int x2]) (rest := []) (wr := [((n 7), .inl (cI, 2, .inl (upd (fun _ => 0) 0 3)))]) ⟨hx, hb, hml, hown, hts⟩ (k277_X11_isWordOf l dC dI cB cI cJ cZ cO n x2 h2 h3) (cwV 1 hts gX11_seen_X11_isWordOf rfl rfl rfl ⟨rfl, z589⟩ ⟨Nat.le_of_ble_eq_true rfl, Nat.le_of_ble_eq_true rfl⟩) hK hP hD hS hA [1, 0] [2] rfl rfl (by decide +kernel) (by decide +kernel) (by decide +kernel) rfl rfl rfl hl.1 (Nat.le_of_ble_eq_true rfl) rfl rfl dX11_seen_10 ⟨by decide +kernel, by decide +kernel⟩ (fun u1 H locs hP hD hS => ?_)
  refine lv_if_eq (tgt := 25) hx hb dX11_seen_13 z823 (fun _ => ?_) (fun c1 => absurd (rfl) c1)
  refine lv_iconst (v := (-1)) hx hb dX11_seen_25 z128 ?_
  refine W.widen (k := 0) (n := 0) (by decide +kernel) (by decide +kernel) ?_
  exact ret_i hx hb hr hlocks hS (u := (fun _ => 0)) (hP.sub [] rfl) (hD.sub [] (by decide +kernel) rfl) dX11_seen_26

set_option maxHeartbeats 4000000 in
set_option maxRecDepth 100000 in
theorem k361_X10_seen (l : Launch) (dC : Nat → ClassId) (dI : Nat → Nat → Nat) (cB cI cJ cZ cO : ClassId) (r : Nat → Nat) (x1 : Int32) (x2 : Int32) (h0 : ¬ x1 < 0) (h1 : ¬ 3 ≤ x1) (h2 : ¬ x2 < 0) (h3 : 0 ≤ x2) : CI l yX10_seen wsX10_seen ({ frames := 1, cells := 0, slots := 0, locals := 21 }) (dC, dI) (tyL cB cI cJ cZ cO) [.ref (r 0), .int x1, .int x2, .int 1] [((r 0), .inr (10, fX r)), ((r 18), .inr (4, [.int 0, .ref (r 19), .ref (r 20), .int 0, .ref (r 21), .ref (r 22), .int 0, .ref (r 23), .ref (r 24), .int 0, .ref (r 25), .ref (r 26), .int 3, .int 0, .int 0, .ref (r 27)]))] (fun _ => []) (-1) := by
  intro sz
  refine ct_open (cc := cX10_seen) (maxL := 4) (ret := (some .int)) (by decide) rfl (Nat.le_of_ble_eq_true rfl) ?_
  intro p e s m below meth c ls A hx hb hr hml hts hown hlocks hin hP hK hD hA hS hl
  have hl : lv_has ls 4 [(0, .ref (r 0)), (1, .int x1), (2, .int x2), (3, .int 1)] := hl
  have hown : s.vm.findClass RX10 = some m.cls := hown
  have i10 : ∀ w ∈ u_ws RX10 TX10 18, w ∈ wsX10_seen := fun _ h => List.mem_cons_of_mem _ (List.mem_append_left _ (List.mem_append_left _ (List.mem_append_right _ h)))
  have w1 := hts (.fieldLink RX10 23 "GuildCharter" "told" "LGuildCharter$Port;") (List.mem_cons_of_mem _ (List.mem_append_left _ (List.mem_append_left _ (List.mem_append_left _ (List.mem_append_left _ (List.mem_of_getElem? (i := 0) rfl))))))
  refine lv_aload_n hx hb dX10_seen_0 rfl (lv_at hl 0 rfl) ?_
  refine va_get (D := (dC, dI)) (ci := 10) (v := .ref (r 18)) (C := RX10) (T := TX10) (N := 18) hx hb hts i10 hown hK hP 0 rfl rfl 3 (nlt rfl) w1 (fun _ h9 => h9) rfl dX10_seen_1 ?_
  refine lv_iload_n hx hb dX10_seen_4 rfl (lv_at hl 1 rfl) ?_
  refine call_iV (ci := 4) (As := [.int x1]) (rest := []) (wr := [((r 0), .inr (10, fX r))]) ⟨hx, hb, hml, hown, hts⟩ (k267_X4_hasPlace l dC dI cB cI cJ cZ cO r x1 h0 h1) (cwV 1 hts gX10_seen_X4_hasPlace rfl rfl rfl ⟨rfl, z595⟩ ⟨Nat.le_of_ble_eq_true rfl, Nat.le_of_ble_eq_true rfl⟩) hK hP hD hS hA [1] [0] rfl rfl (by decide +kernel) (by decide +kernel) (by decide +kernel) rfl rfl rfl hl.1 (Nat.le_of_ble_eq_true rfl) rfl rfl dX10_seen_5 ⟨by decide +kernel, by decide +kernel⟩ (fun u0 H locs hP hD hS => ?_)
  refine lv_if_eq (tgt := 22) hx hb dX10_seen_8 z611 (fun c1 => absurd c1 (z525)) (fun _ => ?_)
  refine lv_aload_n hx hb dX10_seen_11 rfl (lv_at hl 0 rfl) ?_
  refine va_get (D := (dC, dI)) (ci := 10) (v := .ref (r 18)) (C := RX10) (T := TX10) (N := 18) hx hb hts i10 hown hK hP 0 rfl rfl 3 (nlt rfl) w1 (fun _ h9 => h9) rfl dX10_seen_12 ?_
  refine lv_iload_n hx hb dX10_seen_15 rfl (lv_at hl 2 rfl) ?_
  refine call_iV (ci := 4) (As := [.int x2]) (rest := []) (wr := [((r 0), .inr (10, fX r))]) ⟨hx, hb, hml, hown, hts⟩ (k274_X4_hasWord l dC dI cB cI cJ cZ cO r x2 h2 h3) (cwV 1 hts gX10_seen_X4_hasWord rfl rfl rfl ⟨rfl, z584⟩ ⟨Nat.le_of_ble_eq_true rfl, Nat.le_of_ble_eq_true rfl⟩) hK hP hD hS hA [1] [0] rfl rfl (by decide +kernel) (by decide +kernel) (by decide +kernel) rfl rfl rfl hl.1 (Nat.le_of_ble_eq_true rfl) rfl rfl dX10_seen_16 ⟨by decide +kernel, by decide +kernel⟩ (fun u1 H locs hP hD hS => ?_)
  refine lv_if_ne (tgt := 24) hx hb dX10_seen_19 z535 (fun c1 => absurd (rfl) c1) (fun _ => ?_)
  refine lv_iconst (v := (-1)) hx hb dX10_seen_22 z128 ?_
  refine W.widen (k := 0) (n := 0) (by decide +kernel) (by decide +kernel) ?_
  exact ret_i hx hb hr hlocks hS (u := (fun _ => 0)) (hP.sub [] rfl) (hD.sub [] (by decide +kernel) rfl) dX10_seen_23

set_option maxHeartbeats 4000000 in
set_option maxRecDepth 100000 in
theorem k362_X11_seen (l : Launch) (dC : Nat → ClassId) (dI : Nat → Nat → Nat) (cB cI cJ cZ cO : ClassId) (n : Nat → Nat) (x1 : Int32) (x2 : Int32) (h0 : ¬ x1 < 0) (h1 : ¬ 2 < x1) (h2 : ¬ x2 < 0) (h3 : (-1) < x2) : CI l yX11_seen wsX11_seen ({ frames := 2, cells := 0, slots := 0, locals := 43 }) (dC, dI) (tyL cB cI cJ cZ cO) [.ref (n 0), .int x1, .int x2, .int 1] [((n 0), .inr (11, fM n)), ((n 7), .inl (cI, 2, .inl (upd (fun _ => 0) 0 3))), ((n 3), .inl (cI, 2, .inl (fun _ => 0)))] (fun _ => []) (-1) := by
  intro sz
  refine ct_open (cc := cX11_seen) (maxL := 4) (ret := (some .int)) (by decide) rfl (Nat.le_of_ble_eq_true rfl) ?_
  intro p e s m below meth c ls A hx hb hr hml hts hown hlocks hin hP hK hD hA hS hl
  have hl : lv_has ls 4 [(0, .ref (n 0)), (1, .int x1), (2, .int x2), (3, .int 1)] := hl
  have hown : s.vm.findClass RX11 = some m.cls := hown
  refine lv_aload_n hx hb dX11_seen_0 rfl (lv_at hl 0 rfl) ?_
  refine lv_iload_n hx hb dX11_seen_1 rfl (lv_at hl 1 rfl) ?_
  refine call_iV (ci := 11) (As := [.int x1]) (rest := []) (wr := [((n 3), .inl (cI, 2, .inl (fun _ => 0)))]) ⟨hx, hb, hml, hown, hts⟩ (k355_X11_isPlace l dC dI cB cI cJ cZ cO n x1 h0 h1) (cwV 1 hts gX11_seen_X11_isPlace rfl rfl rfl ⟨rfl, z599⟩ ⟨Nat.le_of_ble_eq_true rfl, Nat.le_of_ble_eq_true rfl⟩) hK hP hD hS hA [0, 1] [2] rfl rfl (by decide +kernel) (by decide +kernel) (by decide +kernel) rfl rfl rfl hl.1 (Nat.le_of_ble_eq_true rfl) rfl rfl dX11_seen_2 ⟨by decide +kernel, by decide +kernel⟩ (fun u0 H locs hP hD hS => ?_)
  refine lv_if_eq (tgt := 25) hx hb dX11_seen_5 z879 (fun c1 => absurd c1 (z525)) (fun _ => ?_)
  refine lv_aload_n hx hb dX11_seen_8 rfl (lv_at hl 0 rfl) ?_
  refine lv_iload_n hx hb dX11_seen_9 rfl (lv_at hl 2 rfl) ?_
  refine call_iV (ci := 11) (As := [.int x2]) (rest := []) (wr := [((n 7), .inl (cI, 2, .inl (upd (fun _ => 0) 0 3)))]) ⟨hx, hb, hml, hown, hts⟩ (k277_X11_isWordOf l dC dI cB cI cJ cZ cO n x2 h2 h3) (cwV 1 hts gX11_seen_X11_isWordOf rfl rfl rfl ⟨rfl, z589⟩ ⟨Nat.le_of_ble_eq_true rfl, Nat.le_of_ble_eq_true rfl⟩) hK hP hD hS hA [1, 0] [2] rfl rfl (by decide +kernel) (by decide +kernel) (by decide +kernel) rfl rfl rfl hl.1 (Nat.le_of_ble_eq_true rfl) rfl rfl dX11_seen_10 ⟨by decide +kernel, by decide +kernel⟩ (fun u1 H locs hP hD hS => ?_)
  refine lv_if_eq (tgt := 25) hx hb dX11_seen_13 z823 (fun _ => ?_) (fun c1 => absurd (rfl) c1)
  refine lv_iconst (v := (-1)) hx hb dX11_seen_25 z128 ?_
  refine W.widen (k := 0) (n := 0) (by decide +kernel) (by decide +kernel) ?_
  exact ret_i hx hb hr hlocks hS (u := (fun _ => 0)) (hP.sub [] rfl) (hD.sub [] (by decide +kernel) rfl) dX11_seen_26

set_option maxHeartbeats 4000000 in
set_option maxRecDepth 100000 in
theorem k363_X6_takeBack (l : Launch) (dC : Nat → ClassId) (dI : Nat → Nat → Nat) (cB cI cJ cZ cO : ClassId) (r : Nat → Nat) (x1 : Int32) (h0 : x1 < 0) : CI l yX6_takeBack wsX6_takeBack ({ frames := 0, cells := 0, slots := 0, locals := 0 }) (dC, dI) (tyL cB cI cJ cZ cO) [.ref (r 80), .int x1] [((r 80), .inr (6, [.int 0, .int 0, .ref (r 81), .ref (r 82), .ref (r 83), .ref (r 84), .ref (r 85)]))] (fun u => [((r 80), .inr (6, [.int 0, .int 0, .ref (r 81), .ref (r 82), .ref (r 83), .ref (r 84), .ref (r 85)]))]) 0 := by
  intro sz
  refine ct_open (cc := cX6_takeBack) (maxL := 2) (ret := (some .boolean)) (by decide) rfl (Nat.le_of_ble_eq_true rfl) ?_
  intro p e s m below meth c ls A hx hb hr hml hts hown hlocks hin hP hK hD hA hS hl
  have hl : lv_has ls 2 [(0, .ref (r 80)), (1, .int x1)] := hl
  have hown : s.vm.findClass RX6 = some m.cls := hown
  refine lv_iload_n hx hb dX6_takeBack_0 rfl (lv_at hl 1 rfl) ?_
  refine lv_if_lt (tgt := 22) hx hb dX6_takeBack_1 z880 (fun _ => ?_) (fun c1 => absurd (h0) c1)
  refine lv_iconst (v := 0) hx hb dX6_takeBack_22 z8 ?_
  refine W.widen (k := 0) (n := 0) (by decide +kernel) (by decide +kernel) ?_
  exact ret_z hx hb hr rfl hlocks hS (u := (fun _ => 0)) (hP.sub [0] rfl) (hD.sub [0] (by decide +kernel) rfl) dX6_takeBack_23

set_option maxHeartbeats 4000000 in
set_option maxRecDepth 100000 in
theorem k364_X10_untell (l : Launch) (dC : Nat → ClassId) (dI : Nat → Nat → Nat) (cB cI cJ cZ cO : ClassId) (r : Nat → Nat) (x1 : Int32) (h0 : x1 < 0) : CI l yX10_untell wsX10_untell ({ frames := 1, cells := 0, slots := 0, locals := 21 }) (dC, dI) (tyL cB cI cJ cZ cO) [.ref (r 0), .int x1] [((r 0), .inr (10, fX r)), ((r 80), .inr (6, [.int 0, .int 0, .ref (r 81), .ref (r 82), .ref (r 83), .ref (r 84), .ref (r 85)]))] (fun _ => []) 0 := by
  intro sz
  refine ct_open (cc := cX10_untell) (maxL := 2) (ret := (some .boolean)) (by decide) rfl (Nat.le_of_ble_eq_true rfl) ?_
  intro p e s m below meth c ls A hx hb hr hml hts hown hlocks hin hP hK hD hA hS hl
  have hl : lv_has ls 2 [(0, .ref (r 0)), (1, .int x1)] := hl
  have hown : s.vm.findClass RX10 = some m.cls := hown
  have i10 : ∀ w ∈ u_ws RX10 TX10 18, w ∈ wsX10_untell := fun _ h => List.mem_cons_of_mem _ (List.mem_append_left _ (List.mem_append_right _ h))
  have w1 := hts (.fieldLink RX10 81 "GuildCharter" "sightings" "LGuildCharter$Sightings;") (List.mem_cons_of_mem _ (List.mem_append_left _ (List.mem_append_left _ (List.mem_of_getElem? (i := 0) rfl))))
  refine lv_aload_n hx hb dX10_untell_0 rfl (lv_at hl 0 rfl) ?_
  refine va_get (D := (dC, dI)) (ci := 10) (v := .ref (r 80)) (C := RX10) (T := TX10) (N := 18) hx hb hts i10 hown hK hP 0 rfl rfl 14 (nlt rfl) w1 (fun _ h9 => h9) rfl dX10_untell_1 ?_
  refine lv_iload_n hx hb dX10_untell_4 rfl (lv_at hl 1 rfl) ?_
  refine call_iV (ci := 6) (As := [.int x1]) (rest := []) (wr := [((r 0), .inr (10, fX r))]) ⟨hx, hb, hml, hown, hts⟩ (k363_X6_takeBack l dC dI cB cI cJ cZ cO r x1 h0) (cwV 1 hts gX10_untell_X6_takeBack rfl rfl rfl ⟨rfl, z881⟩ ⟨Nat.le_of_ble_eq_true rfl, Nat.le_of_ble_eq_true rfl⟩) hK hP hD hS hA [1] [0] rfl rfl (by decide +kernel) (by decide +kernel) (by decide +kernel) rfl rfl rfl hl.1 (Nat.le_of_ble_eq_true rfl) rfl rfl dX10_untell_5 ⟨by decide +kernel, by decide +kernel⟩ (fun u0 H locs hP hD hS => ?_)
  refine W.widen (k := 0) (n := 0) (by decide +kernel) (by decide +kernel) ?_
  exact ret_z hx hb hr rfl hlocks hS (u := (fun _ => 0)) (hP.sub [] rfl) (hD.sub [] (by decide +kernel) rfl) dX10_untell_8

set_option maxHeartbeats 4000000 in
set_option maxRecDepth 100000 in
theorem k365_X11_untell (l : Launch) (dC : Nat → ClassId) (dI : Nat → Nat → Nat) (cB cI cJ cZ cO : ClassId) (n : Nat → Nat) (x1 : Int32) (h0 : x1 < 0) : CI l yX11_untell wsX11_untell ({ frames := 1, cells := 0, slots := 0, locals := 22 }) (dC, dI) (tyL cB cI cJ cZ cO) [.ref (n 0), .int x1] [((n 0), .inr (11, fM n))] (fun _ => []) 0 := by
  intro sz
  refine ct_open (cc := cX11_untell) (maxL := 2) (ret := (some .boolean)) (by decide) rfl (Nat.le_of_ble_eq_true rfl) ?_
  intro p e s m below meth c ls A hx hb hr hml hts hown hlocks hin hP hK hD hA hS hl
  have hl : lv_has ls 2 [(0, .ref (n 0)), (1, .int x1)] := hl
  have hown : s.vm.findClass RX11 = some m.cls := hown
  have i11 : ∀ w ∈ u_ws RX11 TX11 71, w ∈ wsX11_untell := fun _ h => List.mem_cons_of_mem _ (List.mem_append_right _ h)
  have w1 := hts (.fieldLink RX11 245 "GuildCharterModel" "seenMany" "I") (List.mem_cons_of_mem _ (List.mem_append_left _ (List.mem_of_getElem? (i := 0) rfl)))
  refine lv_iload_n hx hb dX11_untell_0 rfl (lv_at hl 1 rfl) ?_
  refine lv_iconst (v := 0) hx hb dX11_untell_1 z8 ?_
  refine lv_aload_n hx hb dX11_untell_2 rfl (lv_at hl 0 rfl) ?_
  refine va_get (D := (dC, dI)) (ci := 11) (v := .int 0) (C := RX11) (T := TX11) (N := 71) hx hb hts i11 hown hK hP 0 rfl rfl 66 (nlt rfl) w1 (fun _ h9 => h9) rfl dX11_untell_3 ?_
  refine lv_iconst (v := 1) hx hb dX11_untell_6 z39 ?_
  refine lv_isub hx hb dX11_untell_7 ?_
  refine tpi z585 ?_
  refine call_iS (As := [.int x1, .int 0, .int (-1)]) (rest := []) (wr := [((n 0), .inr (11, fM n))]) ⟨hx, hb, hml, hown, hts⟩ (k76_X11_isIn l dC dI cB cI cJ cZ cO x1 h0) (va_cwS 3 hts gX11_untell_X11_isIn rfl rfl rfl z587 ⟨Nat.le_of_ble_eq_true rfl, Nat.le_of_ble_eq_true rfl⟩) hK hP hD hS hA [] [0] rfl rfl (by decide +kernel) (by decide +kernel) (by decide +kernel) hl.1 (Nat.le_of_ble_eq_true rfl) rfl rfl dX11_untell_8 ⟨by decide +kernel, by decide +kernel⟩ (fun u0 H locs hP hD hS => ?_)
  refine lv_if_eq (tgt := 23) hx hb dX11_untell_11 z642 (fun _ => ?_) (fun c1 => absurd (rfl) c1)
  refine lv_iconst (v := 0) hx hb dX11_untell_23 z8 ?_
  refine W.widen (k := 0) (n := 0) (by decide +kernel) (by decide +kernel) ?_
  exact ret_z hx hb hr rfl hlocks hS (u := (fun _ => 0)) (hP.sub [] rfl) (hD.sub [] (by decide +kernel) rfl) dX11_untell_24

set_option maxHeartbeats 4000000 in
set_option maxRecDepth 100000 in
theorem k366_X6_takeBack (l : Launch) (dC : Nat → ClassId) (dI : Nat → Nat → Nat) (cB cI cJ cZ cO : ClassId) (r : Nat → Nat) (x1 : Int32) (h0 : ¬ x1 < 0) (h1 : 0 ≤ x1) : CI l yX6_takeBack wsX6_takeBack ({ frames := 0, cells := 0, slots := 0, locals := 0 }) (dC, dI) (tyL cB cI cJ cZ cO) [.ref (r 80), .int x1] [((r 80), .inr (6, [.int 0, .int 0, .ref (r 81), .ref (r 82), .ref (r 83), .ref (r 84), .ref (r 85)]))] (fun u => [((r 80), .inr (6, [.int 0, .int 0, .ref (r 81), .ref (r 82), .ref (r 83), .ref (r 84), .ref (r 85)]))]) 0 := by
  intro sz
  refine ct_open (cc := cX6_takeBack) (maxL := 2) (ret := (some .boolean)) (by decide) rfl (Nat.le_of_ble_eq_true rfl) ?_
  intro p e s m below meth c ls A hx hb hr hml hts hown hlocks hin hP hK hD hA hS hl
  have hl : lv_has ls 2 [(0, .ref (r 80)), (1, .int x1)] := hl
  have hown : s.vm.findClass RX6 = some m.cls := hown
  have i6 : ∀ w ∈ u_ws RX6 TX6 7, w ∈ wsX6_takeBack := fun _ h => List.mem_cons_of_mem _ (List.mem_append_right _ h)
  have w1 := hts (.fieldLink RX6 28 "GuildCharter$Sightings" "count" "I") (List.mem_cons_of_mem _ (List.mem_append_left _ (List.mem_of_getElem? (i := 0) rfl)))
  refine lv_iload_n hx hb dX6_takeBack_0 rfl (lv_at hl 1 rfl) ?_
  refine lv_if_lt (tgt := 22) hx hb dX6_takeBack_1 z880 (fun c1 => absurd c1 (h0)) (fun _ => ?_)
  refine lv_iload_n hx hb dX6_takeBack_4 rfl (lv_at hl 1 rfl) ?_
  refine lv_aload_n hx hb dX6_takeBack_5 rfl (lv_at hl 0 rfl) ?_
  refine va_get (D := (dC, dI)) (ci := 6) (v := .int 0) (C := RX6) (T := TX6) (N := 7) hx hb hts i6 hown hK hP 0 rfl rfl 0 (nlt rfl) w1 (fun _ h9 => h9) rfl dX6_takeBack_6 ?_
  refine lv_icmp_ge (tgt := 22) hx hb dX6_takeBack_9 z882 (fun _ => ?_) (fun c1 => absurd (h1) c1)
  refine lv_iconst (v := 0) hx hb dX6_takeBack_22 z8 ?_
  refine W.widen (k := 0) (n := 0) (by decide +kernel) (by decide +kernel) ?_
  exact ret_z hx hb hr rfl hlocks hS (u := (fun _ => 0)) (hP.sub [0] rfl) (hD.sub [0] (by decide +kernel) rfl) dX6_takeBack_23

set_option maxHeartbeats 4000000 in
set_option maxRecDepth 100000 in
theorem k367_X10_untell (l : Launch) (dC : Nat → ClassId) (dI : Nat → Nat → Nat) (cB cI cJ cZ cO : ClassId) (r : Nat → Nat) (x1 : Int32) (h0 : ¬ x1 < 0) (h1 : 0 ≤ x1) : CI l yX10_untell wsX10_untell ({ frames := 1, cells := 0, slots := 0, locals := 21 }) (dC, dI) (tyL cB cI cJ cZ cO) [.ref (r 0), .int x1] [((r 0), .inr (10, fX r)), ((r 80), .inr (6, [.int 0, .int 0, .ref (r 81), .ref (r 82), .ref (r 83), .ref (r 84), .ref (r 85)]))] (fun _ => []) 0 := by
  intro sz
  refine ct_open (cc := cX10_untell) (maxL := 2) (ret := (some .boolean)) (by decide) rfl (Nat.le_of_ble_eq_true rfl) ?_
  intro p e s m below meth c ls A hx hb hr hml hts hown hlocks hin hP hK hD hA hS hl
  have hl : lv_has ls 2 [(0, .ref (r 0)), (1, .int x1)] := hl
  have hown : s.vm.findClass RX10 = some m.cls := hown
  have i10 : ∀ w ∈ u_ws RX10 TX10 18, w ∈ wsX10_untell := fun _ h => List.mem_cons_of_mem _ (List.mem_append_left _ (List.mem_append_right _ h))
  have w1 := hts (.fieldLink RX10 81 "GuildCharter" "sightings" "LGuildCharter$Sightings;") (List.mem_cons_of_mem _ (List.mem_append_left _ (List.mem_append_left _ (List.mem_of_getElem? (i := 0) rfl))))
  refine lv_aload_n hx hb dX10_untell_0 rfl (lv_at hl 0 rfl) ?_
  refine va_get (D := (dC, dI)) (ci := 10) (v := .ref (r 80)) (C := RX10) (T := TX10) (N := 18) hx hb hts i10 hown hK hP 0 rfl rfl 14 (nlt rfl) w1 (fun _ h9 => h9) rfl dX10_untell_1 ?_
  refine lv_iload_n hx hb dX10_untell_4 rfl (lv_at hl 1 rfl) ?_
  refine call_iV (ci := 6) (As := [.int x1]) (rest := []) (wr := [((r 0), .inr (10, fX r))]) ⟨hx, hb, hml, hown, hts⟩ (k366_X6_takeBack l dC dI cB cI cJ cZ cO r x1 h0 h1) (cwV 1 hts gX10_untell_X6_takeBack rfl rfl rfl ⟨rfl, z881⟩ ⟨Nat.le_of_ble_eq_true rfl, Nat.le_of_ble_eq_true rfl⟩) hK hP hD hS hA [1] [0] rfl rfl (by decide +kernel) (by decide +kernel) (by decide +kernel) rfl rfl rfl hl.1 (Nat.le_of_ble_eq_true rfl) rfl rfl dX10_untell_5 ⟨by decide +kernel, by decide +kernel⟩ (fun u0 H locs hP hD hS => ?_)
  refine W.widen (k := 0) (n := 0) (by decide +kernel) (by decide +kernel) ?_
  exact ret_z hx hb hr rfl hlocks hS (u := (fun _ => 0)) (hP.sub [] rfl) (hD.sub [] (by decide +kernel) rfl) dX10_untell_8

set_option maxHeartbeats 4000000 in
set_option maxRecDepth 100000 in
theorem k368_X11_untell (l : Launch) (dC : Nat → ClassId) (dI : Nat → Nat → Nat) (cB cI cJ cZ cO : ClassId) (n : Nat → Nat) (x1 : Int32) (h0 : ¬ x1 < 0) (h1 : (-1) < x1) : CI l yX11_untell wsX11_untell ({ frames := 1, cells := 0, slots := 0, locals := 22 }) (dC, dI) (tyL cB cI cJ cZ cO) [.ref (n 0), .int x1] [((n 0), .inr (11, fM n))] (fun _ => []) 0 := by
  intro sz
  refine ct_open (cc := cX11_untell) (maxL := 2) (ret := (some .boolean)) (by decide) rfl (Nat.le_of_ble_eq_true rfl) ?_
  intro p e s m below meth c ls A hx hb hr hml hts hown hlocks hin hP hK hD hA hS hl
  have hl : lv_has ls 2 [(0, .ref (n 0)), (1, .int x1)] := hl
  have hown : s.vm.findClass RX11 = some m.cls := hown
  have i11 : ∀ w ∈ u_ws RX11 TX11 71, w ∈ wsX11_untell := fun _ h => List.mem_cons_of_mem _ (List.mem_append_right _ h)
  have w1 := hts (.fieldLink RX11 245 "GuildCharterModel" "seenMany" "I") (List.mem_cons_of_mem _ (List.mem_append_left _ (List.mem_of_getElem? (i := 0) rfl)))
  refine lv_iload_n hx hb dX11_untell_0 rfl (lv_at hl 1 rfl) ?_
  refine lv_iconst (v := 0) hx hb dX11_untell_1 z8 ?_
  refine lv_aload_n hx hb dX11_untell_2 rfl (lv_at hl 0 rfl) ?_
  refine va_get (D := (dC, dI)) (ci := 11) (v := .int 0) (C := RX11) (T := TX11) (N := 71) hx hb hts i11 hown hK hP 0 rfl rfl 66 (nlt rfl) w1 (fun _ h9 => h9) rfl dX11_untell_3 ?_
  refine lv_iconst (v := 1) hx hb dX11_untell_6 z39 ?_
  refine lv_isub hx hb dX11_untell_7 ?_
  refine tpi z585 ?_
  refine call_iS (As := [.int x1, .int 0, .int (-1)]) (rest := []) (wr := [((n 0), .inr (11, fM n))]) ⟨hx, hb, hml, hown, hts⟩ (k81_X11_isIn l dC dI cB cI cJ cZ cO x1 h0 h1) (va_cwS 3 hts gX11_untell_X11_isIn rfl rfl rfl z587 ⟨Nat.le_of_ble_eq_true rfl, Nat.le_of_ble_eq_true rfl⟩) hK hP hD hS hA [] [0] rfl rfl (by decide +kernel) (by decide +kernel) (by decide +kernel) hl.1 (Nat.le_of_ble_eq_true rfl) rfl rfl dX11_untell_8 ⟨by decide +kernel, by decide +kernel⟩ (fun u0 H locs hP hD hS => ?_)
  refine lv_if_eq (tgt := 23) hx hb dX11_untell_11 z642 (fun _ => ?_) (fun c1 => absurd (rfl) c1)
  refine lv_iconst (v := 0) hx hb dX11_untell_23 z8 ?_
  refine W.widen (k := 0) (n := 0) (by decide +kernel) (by decide +kernel) ?_
  exact ret_z hx hb hr rfl hlocks hS (u := (fun _ => 0)) (hP.sub [] rfl) (hD.sub [] (by decide +kernel) rfl) dX11_untell_24

set_option maxHeartbeats 4000000 in
set_option maxRecDepth 100000 in
theorem k369_X10_later (l : Launch) (dC : Nat → ClassId) (dI : Nat → Nat → Nat) (cB cI cJ cZ cO : ClassId) (r : Nat → Nat) (x1 : Int32) (h0 : x1 < 0) : CI l yX10_later wsX10_later ({ frames := 0, cells := 0, slots := 0, locals := 0 }) (dC, dI) (tyL cB cI cJ cZ cO) [.ref (r 0), .int x1] [((r 0), .inr (10, fX r))] (fun _ => []) (-1) := by
  intro sz
  refine ct_open (cc := cX10_later) (maxL := 2) (ret := (some .int)) (by decide) rfl (Nat.le_of_ble_eq_true rfl) ?_
  intro p e s m below meth c ls A hx hb hr hml hts hown hlocks hin hP hK hD hA hS hl
  have hl : lv_has ls 2 [(0, .ref (r 0)), (1, .int x1)] := hl
  have hown : s.vm.findClass RX10 = some m.cls := hown
  refine lv_iload_n hx hb dX10_later_0 rfl (lv_at hl 1 rfl) ?_
  refine lv_if_lt (tgt := 26) hx hb dX10_later_1 z883 (fun _ => ?_) (fun c1 => absurd (h0) c1)
  refine lv_iconst (v := (-1)) hx hb dX10_later_26 z128 ?_
  refine W.widen (k := 0) (n := 0) (by decide +kernel) (by decide +kernel) ?_
  exact ret_i hx hb hr hlocks hS (u := (fun _ => 0)) (hP.sub [] rfl) (hD.sub [] (by decide +kernel) rfl) dX10_later_27

set_option maxHeartbeats 4000000 in
set_option maxRecDepth 100000 in
theorem k370_X11_isIn (l : Launch) (dC : Nat → ClassId) (dI : Nat → Nat → Nat) (cB cI cJ cZ cO : ClassId) (x1 : Int32) (h0 : x1 < 0) : CI l yX11_isIn wsX11_isIn ({ frames := 0, cells := 0, slots := 0, locals := 0 }) (dC, dI) (tyL cB cI cJ cZ cO) [.int x1, .int 0, .int 1000] [] (fun _ => []) 0 := by
  intro sz
  refine ct_open (cc := cX11_isIn) (maxL := 3) (ret := (some .boolean)) (by decide) rfl (Nat.le_of_ble_eq_true rfl) ?_
  intro p e s m below meth c ls A hx hb hr hml hts hown hlocks hin hP hK hD hA hS hl
  have hl : lv_has ls 3 [(0, .int x1), (1, .int 0), (2, .int 1000)] := hl
  have hown : s.vm.findClass RX11 = some m.cls := hown
  refine lv_iload_n hx hb dX11_isIn_0 rfl (lv_at hl 0 rfl) ?_
  refine lv_iload_n hx hb dX11_isIn_1 rfl (lv_at hl 1 rfl) ?_
  refine lv_icmp_lt (tgt := 14) hx hb dX11_isIn_2 z586 (fun _ => ?_) (fun c1 => absurd (h0) c1)
  refine lv_iconst (v := 0) hx hb dX11_isIn_14 z8 ?_
  refine W.widen (k := 0) (n := 0) (by decide +kernel) (by decide +kernel) ?_
  exact ret_z hx hb hr rfl hlocks hS (u := (fun _ => 0)) (hP.sub [] rfl) (hD.sub [] (by decide +kernel) rfl) dX11_isIn_15

set_option maxHeartbeats 4000000 in
set_option maxRecDepth 100000 in
theorem k371_X11_later (l : Launch) (dC : Nat → ClassId) (dI : Nat → Nat → Nat) (cB cI cJ cZ cO : ClassId) (n : Nat → Nat) (x1 : Int32) (h0 : x1 < 0) : CI l yX11_later wsX11_later ({ frames := 1, cells := 0, slots := 0, locals := 22 }) (dC, dI) (tyL cB cI cJ cZ cO) [.ref (n 0), .int x1] [((n 0), .inr (11, fM n))] (fun _ => []) (-1) := by
  intro sz
  refine ct_open (cc := cX11_later) (maxL := 2) (ret := (some .int)) (by decide) rfl (Nat.le_of_ble_eq_true rfl) ?_
  intro p e s m below meth c ls A hx hb hr hml hts hown hlocks hin hP hK hD hA hS hl
  have hl : lv_has ls 2 [(0, .ref (n 0)), (1, .int x1)] := hl
  have hown : s.vm.findClass RX11 = some m.cls := hown
  refine lv_iload_n hx hb dX11_later_0 rfl (lv_at hl 1 rfl) ?_
  refine lv_iconst (v := 0) hx hb dX11_later_1 z8 ?_
  refine lv_sipush (v := 1000) hx hb dX11_later_2 z884 ?_
  refine call_iS (As := [.int x1, .int 0, .int 1000]) (rest := []) (wr := [((n 0), .inr (11, fM n))]) ⟨hx, hb, hml, hown, hts⟩ (k370_X11_isIn l dC dI cB cI cJ cZ cO x1 h0) (va_cwS 3 hts gX11_later_X11_isIn rfl rfl rfl z587 ⟨Nat.le_of_ble_eq_true rfl, Nat.le_of_ble_eq_true rfl⟩) hK hP hD hS hA [] [0] rfl rfl (by decide +kernel) (by decide +kernel) (by decide +kernel) hl.1 (Nat.le_of_ble_eq_true rfl) rfl rfl dX11_later_5 ⟨by decide +kernel, by decide +kernel⟩ (fun u0 H locs hP hD hS => ?_)
  refine lv_if_eq (tgt := 23) hx hb dX11_later_8 z885 (fun _ => ?_) (fun c1 => absurd (rfl) c1)
  refine lv_iconst (v := (-1)) hx hb dX11_later_23 z128 ?_
  refine W.widen (k := 0) (n := 0) (by decide +kernel) (by decide +kernel) ?_
  exact ret_i hx hb hr hlocks hS (u := (fun _ => 0)) (hP.sub [] rfl) (hD.sub [] (by decide +kernel) rfl) dX11_later_24

set_option maxHeartbeats 4000000 in
set_option maxRecDepth 100000 in
theorem k372_X10_later (l : Launch) (dC : Nat → ClassId) (dI : Nat → Nat → Nat) (cB cI cJ cZ cO : ClassId) (r : Nat → Nat) (x1 : Int32) (h0 : ¬ x1 < 0) (h1 : ¬ 1000 < x1) (h2 : (0 + x1) ≤ 100000) : CI l yX10_later wsX10_later ({ frames := 0, cells := 0, slots := 0, locals := 0 }) (dC, dI) (tyL cB cI cJ cZ cO) [.ref (r 0), .int x1] [((r 0), .inr (10, fX r)), ((r 80), .inr (6, [.int 0, .int 0, .ref (r 81), .ref (r 82), .ref (r 83), .ref (r 84), .ref (r 85)]))] (fun _ => []) (0 + x1) := by
  intro sz
  refine ct_open (cc := cX10_later) (maxL := 2) (ret := (some .int)) (by decide) rfl (Nat.le_of_ble_eq_true rfl) ?_
  intro p e s m below meth c ls A hx hb hr hml hts hown hlocks hin hP hK hD hA hS hl
  have hl : lv_has ls 2 [(0, .ref (r 0)), (1, .int x1)] := hl
  have hown : s.vm.findClass RX10 = some m.cls := hown
  have i10 : ∀ w ∈ u_ws RX10 TX10 18, w ∈ wsX10_later := fun _ h => List.mem_cons_of_mem _ (List.mem_append_left _ (List.mem_append_right _ h))
  have w1 := hts (.fieldLink RX10 81 "GuildCharter" "sightings" "LGuildCharter$Sightings;") (List.mem_cons_of_mem _ (List.mem_append_left _ (List.mem_append_left _ (List.mem_of_getElem? (i := 0) rfl))))
  have i6 : ∀ w ∈ u_ws RX6 TX6 7, w ∈ wsX10_later := fun _ h => List.mem_cons_of_mem _ (List.mem_append_right _ h)
  have w3 := hts (.fieldLink RX10 310 "GuildCharter$Sightings" "time" "I") (List.mem_cons_of_mem _ (List.mem_append_left _ (List.mem_append_left _ (List.mem_of_getElem? (i := 1) rfl))))
  have w4 := hts (.constant RX10 313 100000) (by decide +kernel)
  refine lv_iload_n hx hb dX10_later_0 rfl (lv_at hl 1 rfl) ?_
  refine lv_if_lt (tgt := 26) hx hb dX10_later_1 z883 (fun c1 => absurd c1 (h0)) (fun _ => ?_)
  refine lv_iload_n hx hb dX10_later_4 rfl (lv_at hl 1 rfl) ?_
  refine lv_sipush (v := 1000) hx hb dX10_later_5 z884 ?_
  refine lv_icmp_gt (tgt := 26) hx hb dX10_later_8 z613 (fun c1 => absurd c1 (h1)) (fun _ => ?_)
  refine lv_aload_n hx hb dX10_later_11 rfl (lv_at hl 0 rfl) ?_
  refine va_get (D := (dC, dI)) (ci := 10) (v := .ref (r 80)) (C := RX10) (T := TX10) (N := 18) hx hb hts i10 hown hK hP 0 rfl rfl 14 (nlt rfl) w1 (fun _ h9 => h9) rfl dX10_later_12 ?_
  refine va_get (D := (dC, dI)) (ci := 6) (v := .int 0) (C := RX6) (T := TX6) (N := 7) hx hb hts i6 hown hK hP 1 rfl rfl 1 (nlt rfl) w3 (fun _ h9 => h9) rfl dX10_later_15 ?_
  refine lv_iload_n hx hb dX10_later_18 rfl (lv_at hl 1 rfl) ?_
  refine lv_iadd hx hb dX10_later_19 ?_
  refine lv_ldcw hx hb hown w4 dX10_later_20 ?_
  refine lv_icmp_le (tgt := 28) hx hb dX10_later_23 z886 (fun _ => ?_) (fun c1 => absurd (h2) c1)
  refine lv_aload_n hx hb dX10_later_28 rfl (lv_at hl 0 rfl) ?_
  refine va_get (D := (dC, dI)) (ci := 10) (v := .ref (r 80)) (C := RX10) (T := TX10) (N := 18) hx hb hts i10 hown hK hP 0 rfl rfl 14 (nlt rfl) w1 (fun _ h9 => h9) rfl dX10_later_29 ?_
  refine lv_dup hx hb dX10_later_32 rfl ?_
  refine va_get (D := (dC, dI)) (ci := 6) (v := .int 0) (C := RX6) (T := TX6) (N := 7) hx hb hts i6 hown hK hP 1 rfl rfl 1 (nlt rfl) w3 (fun _ h9 => h9) rfl dX10_later_33 ?_
  refine lv_iload_n hx hb dX10_later_36 rfl (lv_at hl 1 rfl) ?_
  refine lv_iadd hx hb dX10_later_37 ?_
  refine va_put (D := (dC, dI)) (ci := 6) (v := .int (0 + x1)) (ty := tyX6 1) (C := RX6) (T := TX6) (N := 7) hx hb hts i6 tyX6 tyX6_ok nmX6 hown hK hP hD hS 1 rfl rfl 1 (nlt rfl) w3 (fun _ h9 => h9) rfl (tyX6_ok 1 (nlt rfl)) rfl rfl (nlt rfl) dX10_later_38 (fun H locs hP hD hS => ?_)
  refine lv_aload_n hx hb dX10_later_41 rfl (lv_at hl 0 rfl) ?_
  refine va_get (D := (dC, dI)) (ci := 10) (v := .ref (r 80)) (C := RX10) (T := TX10) (N := 18) hx hb hts i10 hown hK hP 0 rfl rfl 14 (nlt rfl) w1 (fun _ h9 => h9) rfl dX10_later_42 ?_
  refine va_get (D := (dC, dI)) (ci := 6) (v := .int (0 + x1)) (C := RX6) (T := TX6) (N := 7) hx hb hts i6 hown hK hP 1 rfl rfl 1 (nlt rfl) w3 (fun _ h9 => h9) rfl dX10_later_45 ?_
  refine W.widen (k := 0) (n := 0) (by decide +kernel) (by decide +kernel) ?_
  exact ret_i hx hb hr hlocks hS (u := (fun _ => 0)) (hP.sub [] rfl) (hD.sub [] (by decide +kernel) rfl) dX10_later_48

set_option maxHeartbeats 4000000 in
set_option maxRecDepth 100000 in
theorem k373_X11_isIn (l : Launch) (dC : Nat → ClassId) (dI : Nat → Nat → Nat) (cB cI cJ cZ cO : ClassId) (x1 : Int32) (h0 : ¬ x1 < 0) (h1 : ¬ 1000 < x1) : CI l yX11_isIn wsX11_isIn ({ frames := 0, cells := 0, slots := 0, locals := 0 }) (dC, dI) (tyL cB cI cJ cZ cO) [.int x1, .int 0, .int 1000] [] (fun _ => []) 1 := by
  intro sz
  refine ct_open (cc := cX11_isIn) (maxL := 3) (ret := (some .boolean)) (by decide) rfl (Nat.le_of_ble_eq_true rfl) ?_
  intro p e s m below meth c ls A hx hb hr hml hts hown hlocks hin hP hK hD hA hS hl
  have hl : lv_has ls 3 [(0, .int x1), (1, .int 0), (2, .int 1000)] := hl
  have hown : s.vm.findClass RX11 = some m.cls := hown
  refine lv_iload_n hx hb dX11_isIn_0 rfl (lv_at hl 0 rfl) ?_
  refine lv_iload_n hx hb dX11_isIn_1 rfl (lv_at hl 1 rfl) ?_
  refine lv_icmp_lt (tgt := 14) hx hb dX11_isIn_2 z586 (fun c1 => absurd c1 (h0)) (fun _ => ?_)
  refine lv_iload_n hx hb dX11_isIn_5 rfl (lv_at hl 0 rfl) ?_
  refine lv_iload_n hx hb dX11_isIn_6 rfl (lv_at hl 2 rfl) ?_
  refine lv_icmp_gt (tgt := 14) hx hb dX11_isIn_7 z591 (fun c1 => absurd c1 (h1)) (fun _ => ?_)
  refine lv_iconst (v := 1) hx hb dX11_isIn_10 z39 ?_
  refine lv_goto (tgt := 15) hx hb dX11_isIn_11 z606 ?_
  refine W.widen (k := 0) (n := 0) (by decide +kernel) (by decide +kernel) ?_
  exact ret_z hx hb hr rfl hlocks hS (u := (fun _ => 0)) (hP.sub [] rfl) (hD.sub [] (by decide +kernel) rfl) dX11_isIn_15

set_option maxHeartbeats 4000000 in
set_option maxRecDepth 100000 in
theorem k374_X11_later (l : Launch) (dC : Nat → ClassId) (dI : Nat → Nat → Nat) (cB cI cJ cZ cO : ClassId) (n : Nat → Nat) (x1 : Int32) (h0 : ¬ x1 < 0) (h1 : ¬ 1000 < x1) (h2 : (0 + x1) ≤ 100000) : CI l yX11_later wsX11_later ({ frames := 1, cells := 0, slots := 0, locals := 22 }) (dC, dI) (tyL cB cI cJ cZ cO) [.ref (n 0), .int x1] [((n 0), .inr (11, fM n))] (fun _ => []) (0 + x1) := by
  intro sz
  refine ct_open (cc := cX11_later) (maxL := 2) (ret := (some .int)) (by decide) rfl (Nat.le_of_ble_eq_true rfl) ?_
  intro p e s m below meth c ls A hx hb hr hml hts hown hlocks hin hP hK hD hA hS hl
  have hl : lv_has ls 2 [(0, .ref (n 0)), (1, .int x1)] := hl
  have hown : s.vm.findClass RX11 = some m.cls := hown
  have i11 : ∀ w ∈ u_ws RX11 TX11 71, w ∈ wsX11_later := fun _ h => List.mem_cons_of_mem _ (List.mem_append_right _ h)
  have w1 := hts (.fieldLink RX11 473 "GuildCharterModel" "time" "I") (List.mem_cons_of_mem _ (List.mem_append_left _ (List.mem_of_getElem? (i := 0) rfl)))
  have w2 := hts (.constant RX11 476 100000) (by decide +kernel)
  refine lv_iload_n hx hb dX11_later_0 rfl (lv_at hl 1 rfl) ?_
  refine lv_iconst (v := 0) hx hb dX11_later_1 z8 ?_
  refine lv_sipush (v := 1000) hx hb dX11_later_2 z884 ?_
  refine call_iS (As := [.int x1, .int 0, .int 1000]) (rest := []) (wr := [((n 0), .inr (11, fM n))]) ⟨hx, hb, hml, hown, hts⟩ (k373_X11_isIn l dC dI cB cI cJ cZ cO x1 h0 h1) (va_cwS 3 hts gX11_later_X11_isIn rfl rfl rfl z587 ⟨Nat.le_of_ble_eq_true rfl, Nat.le_of_ble_eq_true rfl⟩) hK hP hD hS hA [] [0] rfl rfl (by decide +kernel) (by decide +kernel) (by decide +kernel) hl.1 (Nat.le_of_ble_eq_true rfl) rfl rfl dX11_later_5 ⟨by decide +kernel, by decide +kernel⟩ (fun u0 H locs hP hD hS => ?_)
  refine lv_if_eq (tgt := 23) hx hb dX11_later_8 z885 (fun c1 => absurd c1 (z525)) (fun _ => ?_)
  refine lv_aload_n hx hb dX11_later_11 rfl (lv_at hl 0 rfl) ?_
  refine va_get (D := (dC, dI)) (ci := 11) (v := .int 0) (C := RX11) (T := TX11) (N := 71) hx hb hts i11 hown hK hP 0 rfl rfl 67 (nlt rfl) w1 (fun _ h9 => h9) rfl dX11_later_12 ?_
  refine lv_iload_n hx hb dX11_later_15 rfl (lv_at hl 1 rfl) ?_
  refine lv_iadd hx hb dX11_later_16 ?_
  refine lv_ldcw hx hb hown w2 dX11_later_17 ?_
  refine lv_icmp_le (tgt := 25) hx hb dX11_later_20 z887 (fun _ => ?_) (fun c1 => absurd (h2) c1)
  refine lv_aload_n hx hb dX11_later_25 rfl (lv_at hl 0 rfl) ?_
  refine lv_dup hx hb dX11_later_26 rfl ?_
  refine va_get (D := (dC, dI)) (ci := 11) (v := .int 0) (C := RX11) (T := TX11) (N := 71) hx hb hts i11 hown hK hP 0 rfl rfl 67 (nlt rfl) w1 (fun _ h9 => h9) rfl dX11_later_27 ?_
  refine lv_iload_n hx hb dX11_later_30 rfl (lv_at hl 1 rfl) ?_
  refine lv_iadd hx hb dX11_later_31 ?_
  refine va_put (D := (dC, dI)) (ci := 11) (v := .int (0 + x1)) (ty := tyX11 67) (C := RX11) (T := TX11) (N := 71) hx hb hts i11 tyX11 tyX11_ok nmX11 hown hK hP hD hS 0 rfl rfl 67 (nlt rfl) w1 (fun _ h9 => h9) rfl (tyX11_ok 67 (nlt rfl)) rfl rfl (nlt rfl) dX11_later_32 (fun H locs hP hD hS => ?_)
  refine lv_aload_n hx hb dX11_later_35 rfl (lv_at hl 0 rfl) ?_
  refine va_get (D := (dC, dI)) (ci := 11) (v := .int (0 + x1)) (C := RX11) (T := TX11) (N := 71) hx hb hts i11 hown hK hP 0 rfl rfl 67 (nlt rfl) w1 (fun _ h9 => h9) rfl dX11_later_36 ?_
  refine W.widen (k := 0) (n := 0) (by decide +kernel) (by decide +kernel) ?_
  exact ret_i hx hb hr hlocks hS (u := (fun _ => 0)) (hP.sub [] rfl) (hD.sub [] (by decide +kernel) rfl) dX11_later_39

set_option maxHeartbeats 4000000 in
set_option maxRecDepth 100000 in
theorem k375_X10_later (l : Launch) (dC : Nat → ClassId) (dI : Nat → Nat → Nat) (cB cI cJ cZ cO : ClassId) (r : Nat → Nat) (x1 : Int32) (h0 : ¬ x1 < 0) (h1 : 1000 < x1) : CI l yX10_later wsX10_later ({ frames := 0, cells := 0, slots := 0, locals := 0 }) (dC, dI) (tyL cB cI cJ cZ cO) [.ref (r 0), .int x1] [((r 0), .inr (10, fX r))] (fun _ => []) (-1) := by
  intro sz
  refine ct_open (cc := cX10_later) (maxL := 2) (ret := (some .int)) (by decide) rfl (Nat.le_of_ble_eq_true rfl) ?_
  intro p e s m below meth c ls A hx hb hr hml hts hown hlocks hin hP hK hD hA hS hl
  have hl : lv_has ls 2 [(0, .ref (r 0)), (1, .int x1)] := hl
  have hown : s.vm.findClass RX10 = some m.cls := hown
  refine lv_iload_n hx hb dX10_later_0 rfl (lv_at hl 1 rfl) ?_
  refine lv_if_lt (tgt := 26) hx hb dX10_later_1 z883 (fun c1 => absurd c1 (h0)) (fun _ => ?_)
  refine lv_iload_n hx hb dX10_later_4 rfl (lv_at hl 1 rfl) ?_
  refine lv_sipush (v := 1000) hx hb dX10_later_5 z884 ?_
  refine lv_icmp_gt (tgt := 26) hx hb dX10_later_8 z613 (fun _ => ?_) (fun c1 => absurd (h1) c1)
  refine lv_iconst (v := (-1)) hx hb dX10_later_26 z128 ?_
  refine W.widen (k := 0) (n := 0) (by decide +kernel) (by decide +kernel) ?_
  exact ret_i hx hb hr hlocks hS (u := (fun _ => 0)) (hP.sub [] rfl) (hD.sub [] (by decide +kernel) rfl) dX10_later_27

set_option maxHeartbeats 4000000 in
set_option maxRecDepth 100000 in
theorem k376_X11_isIn (l : Launch) (dC : Nat → ClassId) (dI : Nat → Nat → Nat) (cB cI cJ cZ cO : ClassId) (x1 : Int32) (h0 : ¬ x1 < 0) (h1 : 1000 < x1) : CI l yX11_isIn wsX11_isIn ({ frames := 0, cells := 0, slots := 0, locals := 0 }) (dC, dI) (tyL cB cI cJ cZ cO) [.int x1, .int 0, .int 1000] [] (fun _ => []) 0 := by
  intro sz
  refine ct_open (cc := cX11_isIn) (maxL := 3) (ret := (some .boolean)) (by decide) rfl (Nat.le_of_ble_eq_true rfl) ?_
  intro p e s m below meth c ls A hx hb hr hml hts hown hlocks hin hP hK hD hA hS hl
  have hl : lv_has ls 3 [(0, .int x1), (1, .int 0), (2, .int 1000)] := hl
  have hown : s.vm.findClass RX11 = some m.cls := hown
  refine lv_iload_n hx hb dX11_isIn_0 rfl (lv_at hl 0 rfl) ?_
  refine lv_iload_n hx hb dX11_isIn_1 rfl (lv_at hl 1 rfl) ?_
  refine lv_icmp_lt (tgt := 14) hx hb dX11_isIn_2 z586 (fun c1 => absurd c1 (h0)) (fun _ => ?_)
  refine lv_iload_n hx hb dX11_isIn_5 rfl (lv_at hl 0 rfl) ?_
  refine lv_iload_n hx hb dX11_isIn_6 rfl (lv_at hl 2 rfl) ?_
  refine lv_icmp_gt (tgt := 14) hx hb dX11_isIn_7 z591 (fun _ => ?_) (fun c1 => absurd (h1) c1)
  refine lv_iconst (v := 0) hx hb dX11_isIn_14 z8 ?_
  refine W.widen (k := 0) (n := 0) (by decide +kernel) (by decide +kernel) ?_
  exact ret_z hx hb hr rfl hlocks hS (u := (fun _ => 0)) (hP.sub [] rfl) (hD.sub [] (by decide +kernel) rfl) dX11_isIn_15

set_option maxHeartbeats 4000000 in
set_option maxRecDepth 100000 in
theorem k377_X11_later (l : Launch) (dC : Nat → ClassId) (dI : Nat → Nat → Nat) (cB cI cJ cZ cO : ClassId) (n : Nat → Nat) (x1 : Int32) (h0 : ¬ x1 < 0) (h1 : 1000 < x1) : CI l yX11_later wsX11_later ({ frames := 1, cells := 0, slots := 0, locals := 22 }) (dC, dI) (tyL cB cI cJ cZ cO) [.ref (n 0), .int x1] [((n 0), .inr (11, fM n))] (fun _ => []) (-1) := by
  intro sz
  refine ct_open (cc := cX11_later) (maxL := 2) (ret := (some .int)) (by decide) rfl (Nat.le_of_ble_eq_true rfl) ?_
  intro p e s m below meth c ls A hx hb hr hml hts hown hlocks hin hP hK hD hA hS hl
  have hl : lv_has ls 2 [(0, .ref (n 0)), (1, .int x1)] := hl
  have hown : s.vm.findClass RX11 = some m.cls := hown
  refine lv_iload_n hx hb dX11_later_0 rfl (lv_at hl 1 rfl) ?_
  refine lv_iconst (v := 0) hx hb dX11_later_1 z8 ?_
  refine lv_sipush (v := 1000) hx hb dX11_later_2 z884 ?_
  refine call_iS (As := [.int x1, .int 0, .int 1000]) (rest := []) (wr := [((n 0), .inr (11, fM n))]) ⟨hx, hb, hml, hown, hts⟩ (k376_X11_isIn l dC dI cB cI cJ cZ cO x1 h0 h1) (va_cwS 3 hts gX11_later_X11_isIn rfl rfl rfl z587 ⟨Nat.le_of_ble_eq_true rfl, Nat.le_of_ble_eq_true rfl⟩) hK hP hD hS hA [] [0] rfl rfl (by decide +kernel) (by decide +kernel) (by decide +kernel) hl.1 (Nat.le_of_ble_eq_true rfl) rfl rfl dX11_later_5 ⟨by decide +kernel, by decide +kernel⟩ (fun u0 H locs hP hD hS => ?_)
  refine lv_if_eq (tgt := 23) hx hb dX11_later_8 z885 (fun _ => ?_) (fun c1 => absurd (rfl) c1)
  refine lv_iconst (v := (-1)) hx hb dX11_later_23 z128 ?_
  refine W.widen (k := 0) (n := 0) (by decide +kernel) (by decide +kernel) ?_
  exact ret_i hx hb hr hlocks hS (u := (fun _ => 0)) (hP.sub [] rfl) (hD.sub [] (by decide +kernel) rfl) dX11_later_24

set_option maxHeartbeats 4000000 in
set_option maxRecDepth 100000 in
theorem k378_X10_orders (l : Launch) (dC : Nat → ClassId) (dI : Nat → Nat → Nat) (cB cI cJ cZ cO : ClassId) (r : Nat → Nat) (x1 : Int32) : CI l yX10_orders wsX10_orders ({ frames := 4, cells := 0, slots := 0, locals := 98 }) (dC, dI) (tyL cB cI cJ cZ cO) [.ref (r 0), .int x1] [((r 0), .inr (10, fX r)), ((r 38), .inr (0, [.ref (r 39), .int 0, .ref (r 40), .ref (r 41), .ref (r 42), .ref (r 43), .ref (r 44), .int 0, .int 0])), ((r 65), .inr (9, [.int 0, .int 0, .ref (r 66), .ref (r 67), .ref (r 68), .ref (r 69), .int 0, .int 0, .int 0, .int 0, .int 0])), ((r 18), .inr (4, [.int 0, .ref (r 19), .ref (r 20), .int 0, .ref (r 21), .ref (r 22), .int 0, .ref (r 23), .ref (r 24), .int 0, .ref (r 25), .ref (r 26), .int 3, .int 0, .int 0, .ref (r 27)])), ((r 66), .inl (cI, 3000, .inl (fun _ => 0))), ((r 67), .inl (cI, 3000, .inl (fun _ => 0))), ((r 69), .inl (cI, 3000, .inl (fun _ => 0))), ((r 68), .inl (cI, 9000, .inl (fun _ => 0))), ((r 55), .inr (5, [.ref (r 56), .ref (r 57)]))] (fun _ => []) 0 := by
  intro sz
  refine ct_open (cc := cX10_orders) (maxL := 5) (ret := (some .int)) (by decide) rfl (Nat.le_of_ble_eq_true rfl) ?_
  intro p e s m below meth c ls A hx hb hr hml hts hown hlocks hin hP hK hD hA hS hl
  have hl : lv_has ls 5 [(0, .ref (r 0)), (1, .int x1)] := hl
  have hown : s.vm.findClass RX10 = some m.cls := hown
  have i9 : ∀ w ∈ u_ws RX9 TX9 11, w ∈ wsX10_orders := fun _ h => List.mem_cons_of_mem _ (List.mem_append_left _ (List.mem_append_left _ (List.mem_append_left _ (List.mem_append_left _ (List.mem_append_left _ (List.mem_append_left _ (List.mem_append_right _ h)))))))
  have w1 := hts (.fieldLink RX10 279 "GuildCharter$Tree" "spent" "Z") (List.mem_cons_of_mem _ (List.mem_append_left _ (List.mem_append_left _ (List.mem_append_left _ (List.mem_append_left _ (List.mem_append_left _ (List.mem_append_left _ (List.mem_append_left _ (List.mem_append_left _ (List.mem_of_getElem? (i := 0) rfl))))))))))
  refine lv_aload_n hx hb dX10_orders_0 rfl (lv_at hl 0 rfl) ?_
  refine call_rV (ci := 10) (As := []) (rest := []) (wr := []) ⟨hx, hb, hml, hown, hts⟩ (k288_X10_growWhole l dC dI cB cI cJ cZ cO r) (cwV 0 hts gX10_orders_X10_growWhole rfl rfl rfl ⟨rfl, z828⟩ ⟨Nat.le_of_ble_eq_true rfl, Nat.le_of_ble_eq_true rfl⟩) hK hP hD hS hA [0, 1, 2, 3, 4, 5, 6, 7, 8] [] rfl rfl (by decide +kernel) (by decide +kernel) (by decide +kernel) rfl rfl rfl hl.1 (Nat.le_of_ble_eq_true rfl) rfl rfl dX10_orders_1 ⟨by decide +kernel, by decide +kernel⟩ (fun u0 H locs hP hD hS => ?_)
  refine lv_astore_n (lv' := [(2, .ref (r 65)), (0, .ref (r 0)), (1, .int x1)]) hx hb dX10_orders_4 rfl hl (nlt rfl) rfl (fun ls hl => ?_)
  refine lv_aload_n hx hb dX10_orders_5 rfl (lv_at hl 0 rfl) ?_
  refine va_get (D := (dC, dI)) (ci := 9) (v := .int 0) (C := RX9) (T := TX9) (N := 11) hx hb hts i9 hown hK hP 2 rfl rfl 1 (nlt rfl) w1 (fun _ h9 => h9) rfl dX10_orders_6 ?_
  refine lv_if_eq (tgt := 15) hx hb dX10_orders_9 z829 (fun _ => ?_) (fun c1 => absurd (rfl) c1)
  refine lv_aload_n hx hb dX10_orders_15 rfl (lv_at hl 0 rfl) ?_
  refine call_iV (ci := 9) (As := []) (rest := []) (wr := [((r 0), .inr (10, fX r)), ((r 38), .inr (0, [.ref (r 39), .int 0, .ref (r 40), .ref (r 41), .ref (r 42), .ref (r 43), .ref (r 44), .int 0, .int 0])), ((r 18), .inr (4, [.int 0, .ref (r 19), .ref (r 20), .int 0, .ref (r 21), .ref (r 22), .int 0, .ref (r 23), .ref (r 24), .int 0, .ref (r 25), .ref (r 26), .int 3, .int 0, .int 0, .ref (r 27)])), ((r 66), .inl (cI, 3000, .inl (upd (fun _ => 0) 0 (-1)))), ((r 67), .inl (cI, 3000, .inl (fun _ => 0))), ((r 69), .inl (cI, 3000, .inl (fun _ => 0))), ((r 68), .inl (cI, 9000, .inl (fun _ => 0))), ((r 55), .inr (5, [.ref (r 56), .ref (r 57)]))]) ⟨hx, hb, hml, hown, hts⟩ (k225_X9_hasCharters l dC dI cB cI cJ cZ cO r) (cwV 0 hts gX10_orders_X9_hasCharters rfl rfl rfl ⟨rfl, z688⟩ ⟨Nat.le_of_ble_eq_true rfl, Nat.le_of_ble_eq_true rfl⟩) hK hP hD hS hA [2] [0, 1, 3, 4, 5, 6, 7, 8] rfl rfl (by decide +kernel) (by decide +kernel) (by decide +kernel) rfl rfl rfl hl.1 (Nat.le_of_ble_eq_true rfl) rfl rfl dX10_orders_16 ⟨by decide +kernel, by decide +kernel⟩ (fun u1 H locs hP hD hS => ?_)
  refine lv_if_ne (tgt := 24) hx hb dX10_orders_19 z535 (fun c1 => absurd (rfl) c1) (fun _ => ?_)
  refine lv_iconst (v := 0) hx hb dX10_orders_22 z8 ?_
  refine W.widen (k := 0) (n := 0) (by decide +kernel) (by decide +kernel) ?_
  exact ret_i hx hb hr hlocks hS (u := (fun _ => 0)) (hP.sub [] rfl) (hD.sub [] (by decide +kernel) rfl) dX10_orders_23

set_option maxHeartbeats 4000000 in
set_option maxRecDepth 100000 in
theorem k379_X11_orders (l : Launch) (dC : Nat → ClassId) (dI : Nat → Nat → Nat) (cB cI cJ cZ cO : ClassId) (n : Nat → Nat) (x1 : Int32) : CI l yX11_orders wsX11_orders ({ frames := 5, cells := 0, slots := 0, locals := 110 }) (dC, dI) (tyL cB cI cJ cZ cO) [.ref (n 0), .int x1] [((n 0), .inr (11, fM n)), ((n 7), .inl (cI, 2, .inl (upd (fun _ => 0) 0 3))), ((n 21), .inl (cI, 6, .inl (fun _ => 0))), ((n 5), .inl (cI, 2, .inl (fun _ => 0)))] (fun _ => []) 0 := by
  intro sz
  refine ct_open (cc := cX11_orders) (maxL := 4) (ret := (some .int)) (by decide) rfl (Nat.le_of_ble_eq_true rfl) ?_
  intro p e s m below meth c ls A hx hb hr hml hts hown hlocks hin hP hK hD hA hS hl
  have hl : lv_has ls 4 [(0, .ref (n 0)), (1, .int x1)] := hl
  have hown : s.vm.findClass RX11 = some m.cls := hown
  have i11 : ∀ w ∈ u_ws RX11 TX11 71, w ∈ wsX11_orders := fun _ h => List.mem_cons_of_mem _ (List.mem_append_right _ h)
  have w1 := hts (.fieldLink RX11 390 "GuildCharterModel" "listMany" "I") (List.mem_cons_of_mem _ (List.mem_append_left _ (List.mem_append_left _ (List.mem_of_getElem? (i := 0) rfl))))
  refine lv_aload_n hx hb dX11_orders_0 rfl (lv_at hl 0 rfl) ?_
  refine call_iV (ci := 11) (As := []) (rest := []) (wr := []) ⟨hx, hb, hml, hown, hts⟩ (k290_X11_layFromNone l dC dI cB cI cJ cZ cO n) (cwV 0 hts gX11_orders_X11_layFromNone rfl rfl rfl ⟨rfl, z831⟩ ⟨Nat.le_of_ble_eq_true rfl, Nat.le_of_ble_eq_true rfl⟩) hK hP hD hS hA [0, 1, 2, 3] [] rfl rfl (by decide +kernel) (by decide +kernel) (by decide +kernel) rfl rfl rfl hl.1 (Nat.le_of_ble_eq_true rfl) rfl rfl dX11_orders_1 ⟨by decide +kernel, by decide +kernel⟩ (fun u0 H locs hP hD hS => ?_)
  refine lv_if_ne (tgt := 10) hx hb dX11_orders_4 z888 (fun _ => ?_) (fun c1 => absurd c1 (z525))
  refine lv_iconst (v := 0) hx hb dX11_orders_10 z8 ?_
  refine lv_istore_n (lv' := [(2, .int 0), (0, .ref (n 0)), (1, .int x1)]) hx hb dX11_orders_11 rfl hl (nlt rfl) rfl (fun ls hl => ?_)
  refine lv_iconst (v := 0) hx hb dX11_orders_12 z8 ?_
  refine lv_istore_n (lv' := [(3, .int 0), (2, .int 0), (0, .ref (n 0)), (1, .int x1)]) hx hb dX11_orders_13 rfl hl (nlt rfl) rfl (fun ls hl => ?_)
  refine lv_iload_n hx hb dX11_orders_14 rfl (lv_at hl 0 rfl) ?_
  refine lv_bipush (v := 6) hx hb dX11_orders_15 z4 ?_
  refine lv_icmp_ge (tgt := 61) hx hb dX11_orders_17 z889 (fun c1 => absurd c1 (z78)) (fun _ => ?_)
  refine lv_aload_n hx hb dX11_orders_20 rfl (lv_at hl 2 rfl) ?_
  refine va_get (D := (dC, dI)) (ci := 11) (v := .int 0) (C := RX11) (T := TX11) (N := 71) hx hb hts i11 hown hK hP 0 rfl rfl 48 (nlt rfl) w1 (fun _ h9 => h9) rfl dX11_orders_21 ?_
  refine lv_if_le (tgt := 61) hx hb dX11_orders_24 z890 (fun _ => ?_) (fun c1 => absurd (z510) c1)
  refine lv_iload_n hx hb dX11_orders_61 rfl (lv_at hl 1 rfl) ?_
  refine W.widen (k := 0) (n := 0) (by decide +kernel) (by decide +kernel) ?_
  exact ret_i hx hb hr hlocks hS (u := (fun _ => 0)) (hP.sub [] rfl) (hD.sub [] (by decide +kernel) rfl) dX11_orders_62

set_option maxHeartbeats 4000000 in
set_option maxRecDepth 100000 in
theorem k380_X10_image (l : Launch) (dC : Nat → ClassId) (dI : Nat → Nat → Nat) (cB cI cJ cZ cO : ClassId) (r : Nat → Nat) (x1 : Int32) (h0 : x1 < 0) : CI l yX10_image wsX10_image ({ frames := 0, cells := 0, slots := 0, locals := 0 }) (dC, dI) (tyL cB cI cJ cZ cO) [.ref (r 0), .int x1] [((r 0), .inr (10, fX r))] (fun _ => []) (-1) := by
  intro sz
  refine ct_open (cc := cX10_image) (maxL := 2) (ret := (some .int)) (by decide) rfl (Nat.le_of_ble_eq_true rfl) ?_
  intro p e s m below meth c ls A hx hb hr hml hts hown hlocks hin hP hK hD hA hS hl
  have hl : lv_has ls 2 [(0, .ref (r 0)), (1, .int x1)] := hl
  have hown : s.vm.findClass RX10 = some m.cls := hown
  refine lv_iload_n hx hb dX10_image_0 rfl (lv_at hl 1 rfl) ?_
  refine lv_if_lt (tgt := 9) hx hb dX10_image_1 z891 (fun _ => ?_) (fun c1 => absurd (h0) c1)
  refine lv_iconst (v := (-1)) hx hb dX10_image_9 z128 ?_
  refine W.widen (k := 0) (n := 0) (by decide +kernel) (by decide +kernel) ?_
  exact ret_i hx hb hr hlocks hS (u := (fun _ => 0)) (hP.sub [] rfl) (hD.sub [] (by decide +kernel) rfl) dX10_image_10

set_option maxHeartbeats 4000000 in
set_option maxRecDepth 100000 in
theorem k381_X11_image (l : Launch) (dC : Nat → ClassId) (dI : Nat → Nat → Nat) (cB cI cJ cZ cO : ClassId) (n : Nat → Nat) (x1 : Int32) (h0 : x1 < 0) : CI l yX11_image wsX11_image ({ frames := 1, cells := 0, slots := 0, locals := 22 }) (dC, dI) (tyL cB cI cJ cZ cO) [.ref (n 0), .int x1] [((n 0), .inr (11, fM n))] (fun _ => []) (-1) := by
  intro sz
  refine ct_open (cc := cX11_image) (maxL := 3) (ret := (some .int)) (by decide) rfl (Nat.le_of_ble_eq_true rfl) ?_
  intro p e s m below meth c ls A hx hb hr hml hts hown hlocks hin hP hK hD hA hS hl
  have hl : lv_has ls 3 [(0, .ref (n 0)), (1, .int x1)] := hl
  have hown : s.vm.findClass RX11 = some m.cls := hown
  refine lv_iload_n hx hb dX11_image_0 rfl (lv_at hl 1 rfl) ?_
  refine lv_iconst (v := 0) hx hb dX11_image_1 z8 ?_
  refine lv_iconst (v := 2) hx hb dX11_image_2 z54 ?_
  refine call_iS (As := [.int x1, .int 0, .int 2]) (rest := []) (wr := [((n 0), .inr (11, fM n))]) ⟨hx, hb, hml, hown, hts⟩ (k91_X11_isIn l dC dI cB cI cJ cZ cO x1 h0) (va_cwS 3 hts gX11_image_X11_isIn rfl rfl rfl z587 ⟨Nat.le_of_ble_eq_true rfl, Nat.le_of_ble_eq_true rfl⟩) hK hP hD hS hA [] [0] rfl rfl (by decide +kernel) (by decide +kernel) (by decide +kernel) hl.1 (Nat.le_of_ble_eq_true rfl) rfl rfl dX11_image_3 ⟨by decide +kernel, by decide +kernel⟩ (fun u0 H locs hP hD hS => ?_)
  refine lv_if_ne (tgt := 11) hx hb dX11_image_6 z892 (fun c1 => absurd (rfl) c1) (fun _ => ?_)
  refine lv_iconst (v := (-1)) hx hb dX11_image_9 z128 ?_
  refine W.widen (k := 0) (n := 0) (by decide +kernel) (by decide +kernel) ?_
  exact ret_i hx hb hr hlocks hS (u := (fun _ => 0)) (hP.sub [] rfl) (hD.sub [] (by decide +kernel) rfl) dX11_image_10

set_option maxHeartbeats 4000000 in
set_option maxRecDepth 100000 in
theorem k382_X1_keep (l : Launch) (dC : Nat → ClassId) (dI : Nat → Nat → Nat) (cB cI cJ cZ cO : ClassId) (r : Nat → Nat) : CV l yX1_keep wsX1_keep ({ frames := 1, cells := 0, slots := 0, locals := 60 }) (dC, dI) (tyL cB cI cJ cZ cO) [.ref (r 46), .ref (r 38)] [((r 46), .inr (1, [.int 0, .ref (r 47), .int 0, .ref (r 48)])), ((r 38), .inr (0, [.ref (r 39), .int 0, .ref (r 40), .ref (r 41), .ref (r 42), .ref (r 43), .ref (r 44), .int 0, .int 0])), ((r 39), .inl (cI, 6, .inl (fun _ => 0))), ((r 47), .inl (cI, 6, .inl (fun _ => 0))), ((r 40), .inl (cI, 6, .inl (upd (upd (upd (upd (upd (upd (fun _ => 0) 0 (-1)) 1 (-1)) 2 (-1)) 3 (-1)) 4 (-1)) 5 (-1)))), ((r 48), .inl (cI, 6, .inl (fun _ => 0)))] (fun u => [((r 46), .inr (1, [.int 1, .ref (r 47), .int 0, .ref (r 48)])), ((r 38), .inr (0, [.ref (r 39), .int 0, .ref (r 40), .ref (r 41), .ref (r 42), .ref (r 43), .ref (r 44), .int 0, .int 0])), ((r 39), .inl (cI, 6, .inl (fun _ => 0))), ((r 47), .inl (cI, 6, .inl (va_cpy (fun _ => 0) (fun _ => 0) 0 0 6))), ((r 40), .inl (cI, 6, .inl (upd (upd (upd (upd (upd (upd (fun _ => 0) 0 (-1)) 1 (-1)) 2 (-1)) 3 (-1)) 4 (-1)) 5 (-1)))), ((r 48), .inl (cI, 6, .inl (va_cpy (upd (upd (upd (upd (upd (upd (fun _ => 0) 0 (-1)) 1 (-1)) 2 (-1)) 3 (-1)) 4 (-1)) 5 (-1)) (fun _ => 0) 0 0 6)))]) := by
  intro sz
  refine ct_open (cc := cX1_keep) (maxL := 2) (ret := none) (by decide) rfl (Nat.le_of_ble_eq_true rfl) ?_
  intro p e s m below meth c ls A hx hb hr hml hts hown hlocks hin hP hK hD hA hS hl
  have hl : lv_has ls 2 [(0, .ref (r 46)), (1, .ref (r 38))] := hl
  have hown : s.vm.findClass RX1 = some m.cls := hown
  have i1 : ∀ w ∈ u_ws RX1 TX1 4, w ∈ wsX1_keep := fun _ h => List.mem_cons_of_mem _ (List.mem_append_left _ (List.mem_append_right _ h))
  have w1 := hts (.fieldLink RX1 18 "GuildCharter$Image" "full" "Z") (List.mem_cons_of_mem _ (List.mem_append_left _ (List.mem_append_left _ (List.mem_of_getElem? (i := 0) rfl))))
  have i0 : ∀ w ∈ u_ws RX0 TX0 9, w ∈ wsX1_keep := fun _ h => List.mem_cons_of_mem _ (List.mem_append_right _ h)
  have w3 := hts (.fieldLink RX1 22 "GuildCharter$Earnest" "size" "I") (List.mem_cons_of_mem _ (List.mem_append_left _ (List.mem_append_left _ (List.mem_of_getElem? (i := 1) rfl))))
  have w4 := hts (.fieldLink RX1 28 "GuildCharter$Image" "size" "I") (List.mem_cons_of_mem _ (List.mem_append_left _ (List.mem_append_left _ (List.mem_of_getElem? (i := 2) rfl))))
  have w5 := hts (.fieldLink RX1 29 "GuildCharter$Earnest" "row" "[I") (List.mem_cons_of_mem _ (List.mem_append_left _ (List.mem_append_left _ (List.mem_of_getElem? (i := 3) rfl))))
  have w6 := hts (.fieldLink RX1 9 "GuildCharter$Image" "row" "[I") (List.mem_cons_of_mem _ (List.mem_append_left _ (List.mem_append_left _ (List.mem_of_getElem? (i := 4) rfl))))
  have w7 := hts (.methodLink RX1 30 arraycopyName) (List.mem_cons_of_mem _ (List.mem_append_left _ (List.mem_append_left _ (List.mem_of_getElem? (i := 5) rfl))))
  have w8 := hts (.native arraycopyName) (List.mem_cons_of_mem _ (List.mem_append_left _ (List.mem_append_left _ (List.mem_of_getElem? (i := 6) rfl))))
  have w9 := hts (.static arraycopyName) (List.mem_cons_of_mem _ (List.mem_append_left _ (List.mem_append_left _ (List.mem_of_getElem? (i := 7) rfl))))
  have w10 := hts (.initialized "java/lang/System") (List.mem_cons_of_mem _ (List.mem_append_left _ (List.mem_append_left _ (List.mem_of_getElem? (i := 8) rfl))))
  have w11 := hts (.fieldLink RX1 36 "GuildCharter$Earnest" "sold" "[I") (List.mem_cons_of_mem _ (List.mem_append_left _ (List.mem_append_left _ (List.mem_of_getElem? (i := 9) rfl))))
  have w12 := hts (.fieldLink RX1 15 "GuildCharter$Image" "sold" "[I") (List.mem_cons_of_mem _ (List.mem_append_left _ (List.mem_append_left _ (List.mem_of_getElem? (i := 10) rfl))))
  refine lv_aload_n hx hb dX1_keep_0 rfl (lv_at hl 0 rfl) ?_
  refine lv_iconst (v := 1) hx hb dX1_keep_1 z39 ?_
  refine va_put (D := (dC, dI)) (ci := 1) (v := .int 1) (ty := tyX1 0) (C := RX1) (T := TX1) (N := 4) hx hb hts i1 tyX1 tyX1_ok nmX1 hown hK hP hD hS 0 rfl rfl 0 (nlt rfl) w1 (fun _ h9 => h9) rfl (tyX1_ok 0 (nlt rfl)) rfl rfl (nlt rfl) dX1_keep_2 (fun H locs hP hD hS => ?_)
  refine lv_aload_n hx hb dX1_keep_5 rfl (lv_at hl 0 rfl) ?_
  refine lv_aload_n hx hb dX1_keep_6 rfl (lv_at hl 1 rfl) ?_
  refine va_get (D := (dC, dI)) (ci := 0) (v := .int 0) (C := RX0) (T := TX0) (N := 9) hx hb hts i0 hown hK hP 1 rfl rfl 1 (nlt rfl) w3 (fun _ h9 => h9) rfl dX1_keep_7 ?_
  refine va_put (D := (dC, dI)) (ci := 1) (v := .int 0) (ty := tyX1 2) (C := RX1) (T := TX1) (N := 4) hx hb hts i1 tyX1 tyX1_ok nmX1 hown hK hP hD hS 0 rfl rfl 2 (nlt rfl) w4 (fun _ h9 => h9) rfl (tyX1_ok 2 (nlt rfl)) rfl rfl (nlt rfl) dX1_keep_10 (fun H locs hP hD hS => ?_)
  refine lv_aload_n hx hb dX1_keep_13 rfl (lv_at hl 1 rfl) ?_
  refine va_get (D := (dC, dI)) (ci := 0) (v := .ref (r 39)) (C := RX0) (T := TX0) (N := 9) hx hb hts i0 hown hK hP 1 rfl rfl 0 (nlt rfl) w5 (fun _ h9 => h9) rfl dX1_keep_14 ?_
  refine lv_iconst (v := 0) hx hb dX1_keep_17 z8 ?_
  refine lv_aload_n hx hb dX1_keep_18 rfl (lv_at hl 0 rfl) ?_
  refine va_get (D := (dC, dI)) (ci := 1) (v := .ref (r 47)) (C := RX1) (T := TX1) (N := 4) hx hb hts i1 hown hK hP 0 rfl rfl 1 (nlt rfl) w6 (fun _ h9 => h9) rfl dX1_keep_19 ?_
  refine lv_iconst (v := 0) hx hb dX1_keep_22 z8 ?_
  refine lv_bipush (v := 6) hx hb dX1_keep_23 z4 ?_
  refine va_copyi hx hb (by rw [hml]; exact hl.1.symm) hown w7 w8 w9 w10 hK hP hD hS 2 3 1 1 rfl rfl rfl rfl rfl (by decide +kernel) (by decide +kernel) (by decide +kernel) (by decide +kernel) (by decide +kernel) (fun _ _ => rfl) (by decide +kernel) (Nat.le_of_ble_eq_true rfl) dX1_keep_25 (fun H locs hP hD hS => ?_)
  have hP : va_P (dC, dI) vwCl [((r 46), .inr (1, [.int 1, .ref (r 47), .int 0, .ref (r 48)])), ((r 38), .inr (0, [.ref (r 39), .int 0, .ref (r 40), .ref (r 41), .ref (r 42), .ref (r 43), .ref (r 44), .int 0, .int 0])), ((r 39), .inl (cI, 6, .inl (fun _ => 0))), ((r 47), .inl (cI, 6, .inl (va_cpy (fun _ => 0) (fun _ => 0) 0 0 6))), ((r 40), .inl (cI, 6, .inl (upd (upd (upd (upd (upd (upd (fun _ => 0) 0 (-1)) 1 (-1)) 2 (-1)) 3 (-1)) 4 (-1)) 5 (-1)))), ((r 48), .inl (cI, 6, .inl (fun _ => 0)))] H := hP
  have hD : va_D A [((r 46), .inr (1, [.int 1, .ref (r 47), .int 0, .ref (r 48)])), ((r 38), .inr (0, [.ref (r 39), .int 0, .ref (r 40), .ref (r 41), .ref (r 42), .ref (r 43), .ref (r 44), .int 0, .int 0])), ((r 39), .inl (cI, 6, .inl (fun _ => 0))), ((r 47), .inl (cI, 6, .inl (va_cpy (fun _ => 0) (fun _ => 0) 0 0 6))), ((r 40), .inl (cI, 6, .inl (upd (upd (upd (upd (upd (upd (fun _ => 0) 0 (-1)) 1 (-1)) 2 (-1)) 3 (-1)) 4 (-1)) 5 (-1)))), ((r 48), .inl (cI, 6, .inl (fun _ => 0)))] := hD
  refine lv_aload_n hx hb dX1_keep_28 rfl (lv_at hl 1 rfl) ?_
  refine va_get (D := (dC, dI)) (ci := 0) (v := .ref (r 40)) (C := RX0) (T := TX0) (N := 9) hx hb hts i0 hown hK hP 1 rfl rfl 2 (nlt rfl) w11 (fun _ h9 => h9) rfl dX1_keep_29 ?_
  refine lv_iconst (v := 0) hx hb dX1_keep_32 z8 ?_
  refine lv_aload_n hx hb dX1_keep_33 rfl (lv_at hl 0 rfl) ?_
  refine va_get (D := (dC, dI)) (ci := 1) (v := .ref (r 48)) (C := RX1) (T := TX1) (N := 4) hx hb hts i1 hown hK hP 0 rfl rfl 3 (nlt rfl) w12 (fun _ h9 => h9) rfl dX1_keep_34 ?_
  refine lv_iconst (v := 0) hx hb dX1_keep_37 z8 ?_
  refine lv_bipush (v := 6) hx hb dX1_keep_38 z4 ?_
  refine va_copyi hx hb (by rw [hml]; exact hl.1.symm) hown w7 w8 w9 w10 hK hP hD hS 4 5 1 1 rfl rfl rfl rfl rfl (by decide +kernel) (by decide +kernel) (by decide +kernel) (by decide +kernel) (by decide +kernel) (fun _ _ => rfl) (by decide +kernel) (Nat.le_of_ble_eq_true rfl) dX1_keep_40 (fun H locs hP hD hS => ?_)
  refine W.widen (k := 0) (n := 0) (by decide +kernel) (by decide +kernel) ?_
  exact ret_v hx hb hr hlocks hS (u := (fun _ => 0)) (hP.sub [0, 1, 2, 3, 4, 5] rfl) (hD.sub [0, 1, 2, 3, 4, 5] (by decide +kernel) rfl) dX1_keep_43
