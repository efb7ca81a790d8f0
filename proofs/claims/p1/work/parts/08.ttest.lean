set_option maxHeartbeats 400000 in
set_option maxRecDepth 100000 in
theorem k12_X1_init_c0 (l : Launch) (dC : Nat → ClassId) (dI : Nat → Nat → Nat) (cB cI cJ cZ cO : ClassId) (a0 : Nat) : CV l yX1_init wsX1_init ({ frames := 1, cells := 2, slots := 12, locals := 20 }) (dC, dI) (tyL cB cI cJ cZ cO) [.ref a0] [(a0, .inr (1, [.int 0, .null, .int 0, .null]))] (fun u => [(a0, .inr (1, [.int 0, .ref (u 0), .int 0, .ref (u 1)])), ((u 0), .inl (cI, 6, .inl (fun _ => 0))), ((u 1), .inl (cI, 6, .inl (fun _ => 0)))]) := by
  intro sz
  refine ct_open (cc := cX1_init) (maxL := 1) (ret := none) (by decide) rfl (Nat.le_of_ble_eq_true rfl) ?_
  intro p e s m below meth c ls A hx hb hr hml hts hown hlocks hin hP hK hD hA hS hl
  have hl : lv_has ls 1 [(0, .ref a0)] := hl
  have hown : s.vm.findClass RX1 = some m.cls := hown
  have hin : meth.name = "<init>" := hin
  have w0 := hts (.methodLink RX1 3 objectInit) (List.mem_cons_of_mem _ (List.mem_append_left _ (List.mem_of_getElem? (i := 0) rfl)))
  have w1 := hts (.instanceMethod objectInit) (List.mem_cons_of_mem _ (List.mem_append_left _ (List.mem_of_getElem? (i := 1) rfl)))
  have w2 := hts (.code objectInit ⟨#[0xb1]⟩ 1 none) (List.mem_cons_of_mem _ (List.mem_append_left _ (List.mem_of_getElem? (i := 2) rfl)))
  have w3 := hts (.arrayClass .int) (List.mem_cons_of_mem _ (List.mem_append_left _ (List.mem_of_getElem? (i := 3) rfl)))
  have i1 : ∀ w ∈ u_ws RX1 TX1 4, w ∈ wsX1_init := fun _ h => List.mem_cons_of_mem _ (List.mem_append_right _ h)
  have w5 := hts (.fieldLink RX1 9 "GuildCharter$Image" "row" "[I") (List.mem_cons_of_mem _ (List.mem_append_left _ (List.mem_of_getElem? (i := 4) rfl)))
  have w6 := hts (.fieldLink RX1 15 "GuildCharter$Image" "sold" "[I") (List.mem_cons_of_mem _ (List.mem_append_left _ (List.mem_of_getElem? (i := 5) rfl)))
  refine lv_aload_n hx hb dX1_init_0 rfl (lv_at hl 0 rfl) ?_
  refine W.objInit hx hb hown w0 w1 w2 rfl (by rw [hml]; exact hl.1) rfl dX1_init_1 (Nat.le_of_ble_eq_true rfl) (Nat.le_of_ble_eq_true rfl) ?_
  refine W.eq (g2 := F0 m 4 ls []) rfl ?_
  refine lv_aload_n hx hb dX1_init_4 rfl (lv_at hl 0 rfl) ?_
  refine lv_bipush (v := 6) hx hb dX1_init_5 z3 ?_
  refine my_newa hx hb w3 (ty := .int) rfl hK hP hD hS hA 1 rfl (fun _ h => by cases h) (N' := 6) (a0 := (6, .inl (fun _ => 0))) (fun _ => rfl) z4 z5 (Nat.le_of_ble_eq_true rfl) (Nat.le_of_ble_eq_true rfl) (Nat.le_of_ble_eq_true rfl) dX1_init_7 (fun q0 H hP hD hS => ?_)
  sorry
set_option maxHeartbeats 400000 in
set_option maxRecDepth 100000 in
theorem k12_X1_init_c1 (l : Launch) (dC : Nat → ClassId) (dI : Nat → Nat → Nat) (cB cI cJ cZ cO : ClassId) (a0 : Nat) : CV l yX1_init wsX1_init ({ frames := 1, cells := 2, slots := 12, locals := 20 }) (dC, dI) (tyL cB cI cJ cZ cO) [.ref a0] [(a0, .inr (1, [.int 0, .null, .int 0, .null]))] (fun u => [(a0, .inr (1, [.int 0, .ref (u 0), .int 0, .ref (u 1)])), ((u 0), .inl (cI, 6, .inl (fun _ => 0))), ((u 1), .inl (cI, 6, .inl (fun _ => 0)))]) := by
  intro sz
  refine ct_open (cc := cX1_init) (maxL := 1) (ret := none) (by decide) rfl (Nat.le_of_ble_eq_true rfl) ?_
  intro p e s m below meth c ls A hx hb hr hml hts hown hlocks hin hP hK hD hA hS hl
  have hl : lv_has ls 1 [(0, .ref a0)] := hl
  have hown : s.vm.findClass RX1 = some m.cls := hown
  have hin : meth.name = "<init>" := hin
  have w0 := hts (.methodLink RX1 3 objectInit) (List.mem_cons_of_mem _ (List.mem_append_left _ (List.mem_of_getElem? (i := 0) rfl)))
  have w1 := hts (.instanceMethod objectInit) (List.mem_cons_of_mem _ (List.mem_append_left _ (List.mem_of_getElem? (i := 1) rfl)))
  have w2 := hts (.code objectInit ⟨#[0xb1]⟩ 1 none) (List.mem_cons_of_mem _ (List.mem_append_left _ (List.mem_of_getElem? (i := 2) rfl)))
  have w3 := hts (.arrayClass .int) (List.mem_cons_of_mem _ (List.mem_append_left _ (List.mem_of_getElem? (i := 3) rfl)))
  have i1 : ∀ w ∈ u_ws RX1 TX1 4, w ∈ wsX1_init := fun _ h => List.mem_cons_of_mem _ (List.mem_append_right _ h)
  have w5 := hts (.fieldLink RX1 9 "GuildCharter$Image" "row" "[I") (List.mem_cons_of_mem _ (List.mem_append_left _ (List.mem_of_getElem? (i := 4) rfl)))
  have w6 := hts (.fieldLink RX1 15 "GuildCharter$Image" "sold" "[I") (List.mem_cons_of_mem _ (List.mem_append_left _ (List.mem_of_getElem? (i := 5) rfl)))
  refine lv_aload_n hx hb dX1_init_0 rfl (lv_at hl 0 rfl) ?_
  refine W.objInit hx hb hown w0 w1 w2 rfl (by rw [hml]; exact hl.1) rfl dX1_init_1 (Nat.le_of_ble_eq_true rfl) (Nat.le_of_ble_eq_true rfl) ?_
  refine W.eq (g2 := F0 m 4 ls []) rfl ?_
  refine lv_aload_n hx hb dX1_init_4 rfl (lv_at hl 0 rfl) ?_
  refine lv_bipush (v := 6) hx hb dX1_init_5 z3 ?_
  refine my_newa hx hb w3 (ty := .int) rfl hK hP hD hS hA 1 rfl (fun _ h => by cases h) (N' := 6) (a0 := (6, .inl (fun _ => 0))) (fun _ => rfl) z4 z5 (Nat.le_of_ble_eq_true rfl) (Nat.le_of_ble_eq_true rfl) (Nat.le_of_ble_eq_true rfl) dX1_init_7 (fun q0 H hP hD hS => ?_)
  refine va_putF (D := (dC, dI)) (ci := 1) (v := .ref q0) (ty := tyX1 1) (C := RX1) (T := TX1) (N := 4) hx hb hts i1 tyX1 tyX1_ok nmX1 hown hK hP hD hS 0 rfl rfl 1 (nlt rfl) w5 (fun _ h9 => h9) rfl hin rfl (tyX1_ok 1 (nlt rfl)) rfl rfl (nlt rfl) dX1_init_9 (fun H locs hP hD hS => ?_)
  sorry
set_option maxHeartbeats 400000 in
set_option maxRecDepth 100000 in
theorem k12_X1_init_c2 (l : Launch) (dC : Nat → ClassId) (dI : Nat → Nat → Nat) (cB cI cJ cZ cO : ClassId) (a0 : Nat) : CV l yX1_init wsX1_init ({ frames := 1, cells := 2, slots := 12, locals := 20 }) (dC, dI) (tyL cB cI cJ cZ cO) [.ref a0] [(a0, .inr (1, [.int 0, .null, .int 0, .null]))] (fun u => [(a0, .inr (1, [.int 0, .ref (u 0), .int 0, .ref (u 1)])), ((u 0), .inl (cI, 6, .inl (fun _ => 0))), ((u 1), .inl (cI, 6, .inl (fun _ => 0)))]) := by
  intro sz
  refine ct_open (cc := cX1_init) (maxL := 1) (ret := none) (by decide) rfl (Nat.le_of_ble_eq_true rfl) ?_
  intro p e s m below meth c ls A hx hb hr hml hts hown hlocks hin hP hK hD hA hS hl
  have hl : lv_has ls 1 [(0, .ref a0)] := hl
  have hown : s.vm.findClass RX1 = some m.cls := hown
  have hin : meth.name = "<init>" := hin
  have w0 := hts (.methodLink RX1 3 objectInit) (List.mem_cons_of_mem _ (List.mem_append_left _ (List.mem_of_getElem? (i := 0) rfl)))
  have w1 := hts (.instanceMethod objectInit) (List.mem_cons_of_mem _ (List.mem_append_left _ (List.mem_of_getElem? (i := 1) rfl)))
  have w2 := hts (.code objectInit ⟨#[0xb1]⟩ 1 none) (List.mem_cons_of_mem _ (List.mem_append_left _ (List.mem_of_getElem? (i := 2) rfl)))
  have w3 := hts (.arrayClass .int) (List.mem_cons_of_mem _ (List.mem_append_left _ (List.mem_of_getElem? (i := 3) rfl)))
  have i1 : ∀ w ∈ u_ws RX1 TX1 4, w ∈ wsX1_init := fun _ h => List.mem_cons_of_mem _ (List.mem_append_right _ h)
  have w5 := hts (.fieldLink RX1 9 "GuildCharter$Image" "row" "[I") (List.mem_cons_of_mem _ (List.mem_append_left _ (List.mem_of_getElem? (i := 4) rfl)))
  have w6 := hts (.fieldLink RX1 15 "GuildCharter$Image" "sold" "[I") (List.mem_cons_of_mem _ (List.mem_append_left _ (List.mem_of_getElem? (i := 5) rfl)))
  refine lv_aload_n hx hb dX1_init_0 rfl (lv_at hl 0 rfl) ?_
  refine W.objInit hx hb hown w0 w1 w2 rfl (by rw [hml]; exact hl.1) rfl dX1_init_1 (Nat.le_of_ble_eq_true rfl) (Nat.le_of_ble_eq_true rfl) ?_
  refine W.eq (g2 := F0 m 4 ls []) rfl ?_
  refine lv_aload_n hx hb dX1_init_4 rfl (lv_at hl 0 rfl) ?_
  refine lv_bipush (v := 6) hx hb dX1_init_5 z3 ?_
  refine my_newa hx hb w3 (ty := .int) rfl hK hP hD hS hA 1 rfl (fun _ h => by cases h) (N' := 6) (a0 := (6, .inl (fun _ => 0))) (fun _ => rfl) z4 z5 (Nat.le_of_ble_eq_true rfl) (Nat.le_of_ble_eq_true rfl) (Nat.le_of_ble_eq_true rfl) dX1_init_7 (fun q0 H hP hD hS => ?_)
  refine va_putF (D := (dC, dI)) (ci := 1) (v := .ref q0) (ty := tyX1 1) (C := RX1) (T := TX1) (N := 4) hx hb hts i1 tyX1 tyX1_ok nmX1 hown hK hP hD hS 0 rfl rfl 1 (nlt rfl) w5 (fun _ h9 => h9) rfl hin rfl (tyX1_ok 1 (nlt rfl)) rfl rfl (nlt rfl) dX1_init_9 (fun H locs hP hD hS => ?_)
  refine lv_aload_n hx hb dX1_init_12 rfl (lv_at hl 0 rfl) ?_
  refine lv_bipush (v := 6) hx hb dX1_init_13 z3 ?_
  refine my_newa hx hb w3 (ty := .int) rfl hK hP hD hS hA 1 rfl (fun _ h => by cases h) (N' := 6) (a0 := (6, .inl (fun _ => 0))) (fun _ => rfl) z4 z5 (Nat.le_of_ble_eq_true rfl) (Nat.le_of_ble_eq_true rfl) (Nat.le_of_ble_eq_true rfl) dX1_init_15 (fun q1 H hP hD hS => ?_)
  sorry
set_option maxHeartbeats 400000 in
set_option maxRecDepth 100000 in
theorem k12_X1_init_c3 (l : Launch) (dC : Nat → ClassId) (dI : Nat → Nat → Nat) (cB cI cJ cZ cO : ClassId) (a0 : Nat) : CV l yX1_init wsX1_init ({ frames := 1, cells := 2, slots := 12, locals := 20 }) (dC, dI) (tyL cB cI cJ cZ cO) [.ref a0] [(a0, .inr (1, [.int 0, .null, .int 0, .null]))] (fun u => [(a0, .inr (1, [.int 0, .ref (u 0), .int 0, .ref (u 1)])), ((u 0), .inl (cI, 6, .inl (fun _ => 0))), ((u 1), .inl (cI, 6, .inl (fun _ => 0)))]) := by
  intro sz
  refine ct_open (cc := cX1_init) (maxL := 1) (ret := none) (by decide) rfl (Nat.le_of_ble_eq_true rfl) ?_
  intro p e s m below meth c ls A hx hb hr hml hts hown hlocks hin hP hK hD hA hS hl
  have hl : lv_has ls 1 [(0, .ref a0)] := hl
  have hown : s.vm.findClass RX1 = some m.cls := hown
  have hin : meth.name = "<init>" := hin
  have w0 := hts (.methodLink RX1 3 objectInit) (List.mem_cons_of_mem _ (List.mem_append_left _ (List.mem_of_getElem? (i := 0) rfl)))
  have w1 := hts (.instanceMethod objectInit) (List.mem_cons_of_mem _ (List.mem_append_left _ (List.mem_of_getElem? (i := 1) rfl)))
  have w2 := hts (.code objectInit ⟨#[0xb1]⟩ 1 none) (List.mem_cons_of_mem _ (List.mem_append_left _ (List.mem_of_getElem? (i := 2) rfl)))
  have w3 := hts (.arrayClass .int) (List.mem_cons_of_mem _ (List.mem_append_left _ (List.mem_of_getElem? (i := 3) rfl)))
  have i1 : ∀ w ∈ u_ws RX1 TX1 4, w ∈ wsX1_init := fun _ h => List.mem_cons_of_mem _ (List.mem_append_right _ h)
  have w5 := hts (.fieldLink RX1 9 "GuildCharter$Image" "row" "[I") (List.mem_cons_of_mem _ (List.mem_append_left _ (List.mem_of_getElem? (i := 4) rfl)))
  have w6 := hts (.fieldLink RX1 15 "GuildCharter$Image" "sold" "[I") (List.mem_cons_of_mem _ (List.mem_append_left _ (List.mem_of_getElem? (i := 5) rfl)))
  refine lv_aload_n hx hb dX1_init_0 rfl (lv_at hl 0 rfl) ?_
  refine W.objInit hx hb hown w0 w1 w2 rfl (by rw [hml]; exact hl.1) rfl dX1_init_1 (Nat.le_of_ble_eq_true rfl) (Nat.le_of_ble_eq_true rfl) ?_
  refine W.eq (g2 := F0 m 4 ls []) rfl ?_
  refine lv_aload_n hx hb dX1_init_4 rfl (lv_at hl 0 rfl) ?_
  refine lv_bipush (v := 6) hx hb dX1_init_5 z3 ?_
  refine my_newa hx hb w3 (ty := .int) rfl hK hP hD hS hA 1 rfl (fun _ h => by cases h) (N' := 6) (a0 := (6, .inl (fun _ => 0))) (fun _ => rfl) z4 z5 (Nat.le_of_ble_eq_true rfl) (Nat.le_of_ble_eq_true rfl) (Nat.le_of_ble_eq_true rfl) dX1_init_7 (fun q0 H hP hD hS => ?_)
  refine va_putF (D := (dC, dI)) (ci := 1) (v := .ref q0) (ty := tyX1 1) (C := RX1) (T := TX1) (N := 4) hx hb hts i1 tyX1 tyX1_ok nmX1 hown hK hP hD hS 0 rfl rfl 1 (nlt rfl) w5 (fun _ h9 => h9) rfl hin rfl (tyX1_ok 1 (nlt rfl)) rfl rfl (nlt rfl) dX1_init_9 (fun H locs hP hD hS => ?_)
  refine lv_aload_n hx hb dX1_init_12 rfl (lv_at hl 0 rfl) ?_
  refine lv_bipush (v := 6) hx hb dX1_init_13 z3 ?_
  refine my_newa hx hb w3 (ty := .int) rfl hK hP hD hS hA 1 rfl (fun _ h => by cases h) (N' := 6) (a0 := (6, .inl (fun _ => 0))) (fun _ => rfl) z4 z5 (Nat.le_of_ble_eq_true rfl) (Nat.le_of_ble_eq_true rfl) (Nat.le_of_ble_eq_true rfl) dX1_init_15 (fun q1 H hP hD hS => ?_)
  refine va_putF (D := (dC, dI)) (ci := 1) (v := .ref q1) (ty := tyX1 3) (C := RX1) (T := TX1) (N := 4) hx hb hts i1 tyX1 tyX1_ok nmX1 hown hK hP hD hS 0 rfl rfl 3 (nlt rfl) w6 (fun _ h9 => h9) rfl hin rfl (tyX1_ok 3 (nlt rfl)) rfl rfl (nlt rfl) dX1_init_17 (fun H locs hP hD hS => ?_)
  sorry
set_option maxHeartbeats 400000 in
set_option maxRecDepth 100000 in
theorem k12_X1_init_c4 (l : Launch) (dC : Nat → ClassId) (dI : Nat → Nat → Nat) (cB cI cJ cZ cO : ClassId) (a0 : Nat) : CV l yX1_init wsX1_init ({ frames := 1, cells := 2, slots := 12, locals := 20 }) (dC, dI) (tyL cB cI cJ cZ cO) [.ref a0] [(a0, .inr (1, [.int 0, .null, .int 0, .null]))] (fun u => [(a0, .inr (1, [.int 0, .ref (u 0), .int 0, .ref (u 1)])), ((u 0), .inl (cI, 6, .inl (fun _ => 0))), ((u 1), .inl (cI, 6, .inl (fun _ => 0)))]) := by
  intro sz
  refine ct_open (cc := cX1_init) (maxL := 1) (ret := none) (by decide) rfl (Nat.le_of_ble_eq_true rfl) ?_
  intro p e s m below meth c ls A hx hb hr hml hts hown hlocks hin hP hK hD hA hS hl
  have hl : lv_has ls 1 [(0, .ref a0)] := hl
  have hown : s.vm.findClass RX1 = some m.cls := hown
  have hin : meth.name = "<init>" := hin
  have w0 := hts (.methodLink RX1 3 objectInit) (List.mem_cons_of_mem _ (List.mem_append_left _ (List.mem_of_getElem? (i := 0) rfl)))
  have w1 := hts (.instanceMethod objectInit) (List.mem_cons_of_mem _ (List.mem_append_left _ (List.mem_of_getElem? (i := 1) rfl)))
  have w2 := hts (.code objectInit ⟨#[0xb1]⟩ 1 none) (List.mem_cons_of_mem _ (List.mem_append_left _ (List.mem_of_getElem? (i := 2) rfl)))
  have w3 := hts (.arrayClass .int) (List.mem_cons_of_mem _ (List.mem_append_left _ (List.mem_of_getElem? (i := 3) rfl)))
  have i1 : ∀ w ∈ u_ws RX1 TX1 4, w ∈ wsX1_init := fun _ h => List.mem_cons_of_mem _ (List.mem_append_right _ h)
  have w5 := hts (.fieldLink RX1 9 "GuildCharter$Image" "row" "[I") (List.mem_cons_of_mem _ (List.mem_append_left _ (List.mem_of_getElem? (i := 4) rfl)))
  have w6 := hts (.fieldLink RX1 15 "GuildCharter$Image" "sold" "[I") (List.mem_cons_of_mem _ (List.mem_append_left _ (List.mem_of_getElem? (i := 5) rfl)))
  refine lv_aload_n hx hb dX1_init_0 rfl (lv_at hl 0 rfl) ?_
  refine W.objInit hx hb hown w0 w1 w2 rfl (by rw [hml]; exact hl.1) rfl dX1_init_1 (Nat.le_of_ble_eq_true rfl) (Nat.le_of_ble_eq_true rfl) ?_
  refine W.eq (g2 := F0 m 4 ls []) rfl ?_
  refine lv_aload_n hx hb dX1_init_4 rfl (lv_at hl 0 rfl) ?_
  refine lv_bipush (v := 6) hx hb dX1_init_5 z3 ?_
  refine my_newa hx hb w3 (ty := .int) rfl hK hP hD hS hA 1 rfl (fun _ h => by cases h) (N' := 6) (a0 := (6, .inl (fun _ => 0))) (fun _ => rfl) z4 z5 (Nat.le_of_ble_eq_true rfl) (Nat.le_of_ble_eq_true rfl) (Nat.le_of_ble_eq_true rfl) dX1_init_7 (fun q0 H hP hD hS => ?_)
  refine va_putF (D := (dC, dI)) (ci := 1) (v := .ref q0) (ty := tyX1 1) (C := RX1) (T := TX1) (N := 4) hx hb hts i1 tyX1 tyX1_ok nmX1 hown hK hP hD hS 0 rfl rfl 1 (nlt rfl) w5 (fun _ h9 => h9) rfl hin rfl (tyX1_ok 1 (nlt rfl)) rfl rfl (nlt rfl) dX1_init_9 (fun H locs hP hD hS => ?_)
  refine lv_aload_n hx hb dX1_init_12 rfl (lv_at hl 0 rfl) ?_
  refine lv_bipush (v := 6) hx hb dX1_init_13 z3 ?_
  refine my_newa hx hb w3 (ty := .int) rfl hK hP hD hS hA 1 rfl (fun _ h => by cases h) (N' := 6) (a0 := (6, .inl (fun _ => 0))) (fun _ => rfl) z4 z5 (Nat.le_of_ble_eq_true rfl) (Nat.le_of_ble_eq_true rfl) (Nat.le_of_ble_eq_true rfl) dX1_init_15 (fun q1 H hP hD hS => ?_)
  refine va_putF (D := (dC, dI)) (ci := 1) (v := .ref q1) (ty := tyX1 3) (C := RX1) (T := TX1) (N := 4) hx hb hts i1 tyX1 tyX1_ok nmX1 hown hK hP hD hS 0 rfl rfl 3 (nlt rfl) w6 (fun _ h9 => h9) rfl hin rfl (tyX1_ok 3 (nlt rfl)) rfl rfl (nlt rfl) dX1_init_17 (fun H locs hP hD hS => ?_)
  refine W.widen (k := 2) (n := 12) (Nat.le_of_ble_eq_true rfl) (Nat.le_of_ble_eq_true rfl) ?_
  sorry
set_option maxHeartbeats 400000 in
set_option maxRecDepth 100000 in
theorem k12_X1_init_full (l : Launch) (dC : Nat → ClassId) (dI : Nat → Nat → Nat) (cB cI cJ cZ cO : ClassId) (a0 : Nat) : CV l yX1_init wsX1_init ({ frames := 1, cells := 2, slots := 12, locals := 20 }) (dC, dI) (tyL cB cI cJ cZ cO) [.ref a0] [(a0, .inr (1, [.int 0, .null, .int 0, .null]))] (fun u => [(a0, .inr (1, [.int 0, .ref (u 0), .int 0, .ref (u 1)])), ((u 0), .inl (cI, 6, .inl (fun _ => 0))), ((u 1), .inl (cI, 6, .inl (fun _ => 0)))]) := by
  intro sz
  refine ct_open (cc := cX1_init) (maxL := 1) (ret := none) (by decide) rfl (Nat.le_of_ble_eq_true rfl) ?_
  intro p e s m below meth c ls A hx hb hr hml hts hown hlocks hin hP hK hD hA hS hl
  have hl : lv_has ls 1 [(0, .ref a0)] := hl
  have hown : s.vm.findClass RX1 = some m.cls := hown
  have hin : meth.name = "<init>" := hin
  have w0 := hts (.methodLink RX1 3 objectInit) (List.mem_cons_of_mem _ (List.mem_append_left _ (List.mem_of_getElem? (i := 0) rfl)))
  have w1 := hts (.instanceMethod objectInit) (List.mem_cons_of_mem _ (List.mem_append_left _ (List.mem_of_getElem? (i := 1) rfl)))
  have w2 := hts (.code objectInit ⟨#[0xb1]⟩ 1 none) (List.mem_cons_of_mem _ (List.mem_append_left _ (List.mem_of_getElem? (i := 2) rfl)))
  have w3 := hts (.arrayClass .int) (List.mem_cons_of_mem _ (List.mem_append_left _ (List.mem_of_getElem? (i := 3) rfl)))
  have i1 : ∀ w ∈ u_ws RX1 TX1 4, w ∈ wsX1_init := fun _ h => List.mem_cons_of_mem _ (List.mem_append_right _ h)
  have w5 := hts (.fieldLink RX1 9 "GuildCharter$Image" "row" "[I") (List.mem_cons_of_mem _ (List.mem_append_left _ (List.mem_of_getElem? (i := 4) rfl)))
  have w6 := hts (.fieldLink RX1 15 "GuildCharter$Image" "sold" "[I") (List.mem_cons_of_mem _ (List.mem_append_left _ (List.mem_of_getElem? (i := 5) rfl)))
  refine lv_aload_n hx hb dX1_init_0 rfl (lv_at hl 0 rfl) ?_
  refine W.objInit hx hb hown w0 w1 w2 rfl (by rw [hml]; exact hl.1) rfl dX1_init_1 (Nat.le_of_ble_eq_true rfl) (Nat.le_of_ble_eq_true rfl) ?_
  refine W.eq (g2 := F0 m 4 ls []) rfl ?_
  refine lv_aload_n hx hb dX1_init_4 rfl (lv_at hl 0 rfl) ?_
  refine lv_bipush (v := 6) hx hb dX1_init_5 z3 ?_
  refine my_newa hx hb w3 (ty := .int) rfl hK hP hD hS hA 1 rfl (fun _ h => by cases h) (N' := 6) (a0 := (6, .inl (fun _ => 0))) (fun _ => rfl) z4 z5 (Nat.le_of_ble_eq_true rfl) (Nat.le_of_ble_eq_true rfl) (Nat.le_of_ble_eq_true rfl) dX1_init_7 (fun q0 H hP hD hS => ?_)
  refine va_putF (D := (dC, dI)) (ci := 1) (v := .ref q0) (ty := tyX1 1) (C := RX1) (T := TX1) (N := 4) hx hb hts i1 tyX1 tyX1_ok nmX1 hown hK hP hD hS 0 rfl rfl 1 (nlt rfl) w5 (fun _ h9 => h9) rfl hin rfl (tyX1_ok 1 (nlt rfl)) rfl rfl (nlt rfl) dX1_init_9 (fun H locs hP hD hS => ?_)
  refine lv_aload_n hx hb dX1_init_12 rfl (lv_at hl 0 rfl) ?_
  refine lv_bipush (v := 6) hx hb dX1_init_13 z3 ?_
  refine my_newa hx hb w3 (ty := .int) rfl hK hP hD hS hA 1 rfl (fun _ h => by cases h) (N' := 6) (a0 := (6, .inl (fun _ => 0))) (fun _ => rfl) z4 z5 (Nat.le_of_ble_eq_true rfl) (Nat.le_of_ble_eq_true rfl) (Nat.le_of_ble_eq_true rfl) dX1_init_15 (fun q1 H hP hD hS => ?_)
  refine va_putF (D := (dC, dI)) (ci := 1) (v := .ref q1) (ty := tyX1 3) (C := RX1) (T := TX1) (N := 4) hx hb hts i1 tyX1 tyX1_ok nmX1 hown hK hP hD hS 0 rfl rfl 3 (nlt rfl) w6 (fun _ h9 => h9) rfl hin rfl (tyX1_ok 3 (nlt rfl)) rfl rfl (nlt rfl) dX1_init_17 (fun H locs hP hD hS => ?_)
  refine W.widen (k := 2) (n := 12) (Nat.le_of_ble_eq_true rfl) (Nat.le_of_ble_eq_true rfl) ?_
  exact ret_v hx hb hr hlocks hS (u := (fun k => ([q0, q1] : List Nat).getD k 0)) (hP.sub [0, 1, 2] rfl) (hD.sub [0, 1, 2] (by decide +kernel) rfl) dX1_init_20
