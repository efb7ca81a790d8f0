set_option maxHeartbeats 4000000 in
set_option maxRecDepth 100000 in
theorem k8_X4_init (l : Launch) (dC : Nat → ClassId) (dI : Nat → Nat → Nat) (cB cI cJ cZ cO : ClassId) (a0 : Nat) : CV l yX4_init wsX4_init ({ frames := 1, cells := 9, slots := 431, locals := 20 }) (dC, dI) (tyL cB cI cJ cZ cO) [.ref a0] [(a0, .inr (4, [.int 0, .null, .null, .int 0, .null, .null, .int 0, .null, .null, .int 0, .null, .null, .int 0, .int 0, .int 0, .null]))] (fun u => [(a0, .inr (4, [.int 0, .ref (u 0), .ref (u 1), .int 0, .ref (u 2), .ref (u 3), .int 0, .ref (u 4), .ref (u 5), .int 0, .ref (u 6), .ref (u 7), .int 3, .int 0, .int 0, .ref (u 8)])), ((u 0), .inl (cJ, 8, .inr (.inl (fun _ => 0)))), ((u 1), .inl (cI, 24, .inl (fun _ => 0))), ((u 2), .inl (cZ, 64, .inl (fun _ => 0))), ((u 3), .inl (cI, 192, .inl (fun _ => 0))), ((u 4), .inl (cJ, 8, .inr (.inl (fun _ => 0)))), ((u 5), .inl (cI, 9, .inl (fun _ => 0))), ((u 6), .inl (cI, 24, .inl (fun _ => 0))), ((u 7), .inl (cI, 96, .inl (fun _ => 0))), ((u 8), .inl (cI, 6, .inl (fun _ => 0)))]) := by
  intro sz
  refine ct_open (cc := cX4_init) (maxL := 1) (ret := none) (by decide) rfl (Nat.le_of_ble_eq_true rfl) ?_
  intro p e s m below meth c ls A hx hb hr hml hts hown hlocks hin hP hK hD hA hS hl
  have hl : lv_has ls 1 [(0, .ref a0)] := hl
  have hown : s.vm.findClass RX4 = some m.cls := hown
  have hin : meth.name = "<init>" := hin
  have w0 := hts (.methodLink RX4 3 objectInit) (List.mem_cons_of_mem _ (List.mem_append_left _ (List.mem_of_getElem? (i := 0) rfl)))
  have w1 := hts (.instanceMethod objectInit) (List.mem_cons_of_mem _ (List.mem_append_left _ (List.mem_of_getElem? (i := 1) rfl)))
  have w2 := hts (.code objectInit ⟨#[0xb1]⟩ 1 none) (List.mem_cons_of_mem _ (List.mem_append_left _ (List.mem_of_getElem? (i := 2) rfl)))
  have w3 := hts (.arrayClass .long) (List.mem_cons_of_mem _ (List.mem_append_left _ (List.mem_of_getElem? (i := 3) rfl)))
  have i4 : ∀ w ∈ u_ws RX4 TX4 16, w ∈ wsX4_init := fun _ h => List.mem_cons_of_mem _ (List.mem_append_right _ h)
  have w5 := hts (.fieldLink RX4 9 "GuildCharter$Port" "wordNames" "[J") (List.mem_cons_of_mem _ (List.mem_append_left _ (List.mem_of_getElem? (i := 4) rfl)))
  have w6 := hts (.arrayClass .int) (List.mem_cons_of_mem _ (List.mem_append_left _ (List.mem_of_getElem? (i := 5) rfl)))
  have w7 := hts (.fieldLink RX4 15 "GuildCharter$Port" "worths" "[I") (List.mem_cons_of_mem _ (List.mem_append_left _ (List.mem_of_getElem? (i := 6) rfl)))
  have w8 := hts (.arrayClass .boolean) (List.mem_cons_of_mem _ (List.mem_append_left _ (List.mem_of_getElem? (i := 7) rfl)))
  have w9 := hts (.fieldLink RX4 19 "GuildCharter$Port" "paired" "[Z") (List.mem_cons_of_mem _ (List.mem_append_left _ (List.mem_of_getElem? (i := 8) rfl)))
  have w10 := hts (.fieldLink RX4 23 "GuildCharter$Port" "pairWorths" "[I") (List.mem_cons_of_mem _ (List.mem_append_left _ (List.mem_of_getElem? (i := 9) rfl)))
  have w11 := hts (.fieldLink RX4 26 "GuildCharter$Port" "ruleNames" "[J") (List.mem_cons_of_mem _ (List.mem_append_left _ (List.mem_of_getElem? (i := 10) rfl)))
  have w12 := hts (.fieldLink RX4 29 "GuildCharter$Port" "firstAlts" "[I") (List.mem_cons_of_mem _ (List.mem_append_left _ (List.mem_of_getElem? (i := 11) rfl)))
  have w13 := hts (.fieldLink RX4 32 "GuildCharter$Port" "altSizes" "[I") (List.mem_cons_of_mem _ (List.mem_append_left _ (List.mem_of_getElem? (i := 12) rfl)))
  have w14 := hts (.fieldLink RX4 35 "GuildCharter$Port" "altParts" "[I") (List.mem_cons_of_mem _ (List.mem_append_left _ (List.mem_of_getElem? (i := 13) rfl)))
  have w15 := hts (.fieldLink RX4 38 "GuildCharter$Port" "turns" "[I") (List.mem_cons_of_mem _ (List.mem_append_left _ (List.mem_of_getElem? (i := 14) rfl)))
  have w16 := hts (.fieldLink RX4 41 "GuildCharter$Port" "length" "I") (List.mem_cons_of_mem _ (List.mem_append_left _ (List.mem_of_getElem? (i := 15) rfl)))
  refine lv_aload_n hx hb dX4_init_0 rfl (lv_at hl 0 rfl) ?_
  refine W.objInit hx hb hown w0 w1 w2 rfl (by rw [hml]; exact hl.1) rfl dX4_init_1 (Nat.le_of_ble_eq_true rfl) (Nat.le_of_ble_eq_true rfl) ?_
  refine W.eq (g2 := F0 m 4 ls []) rfl ?_
  refine lv_aload_n hx hb dX4_init_4 rfl (lv_at hl 0 rfl) ?_
  refine lv_bipush (v := 8) hx hb dX4_init_5 z130 ?_
  refine my_newa (atype := .long) hx hb w3 (ty := .long) rfl hK hP hD hS hA 2 rfl (fun _ h => by cases h) (N' := 8) (a0 := (8, .inr (.inl (fun _ => 0)))) (fun _ => rfl) z131 z132 z133 (by decide +kernel) (by decide +kernel) dX4_init_7 (fun q0 H hP hD hS => ?_)
  refine va_putF (D := (dC, dI)) (ci := 4) (v := .ref q0) (ty := tyX4 1) (C := RX4) (T := TX4) (N := 16) hx hb hts i4 tyX4 tyX4_ok nmX4 hown hK hP hD hS 0 rfl rfl 1 (nlt rfl) w5 (fun _ h9 => h9) rfl hin rfl (tyX4_ok 1 (nlt rfl)) rfl rfl (nlt rfl) dX4_init_9 (fun H locs hP hD hS => ?_)
  refine lv_aload_n hx hb dX4_init_12 rfl (lv_at hl 0 rfl) ?_
  refine lv_bipush (v := 24) hx hb dX4_init_13 z134 ?_
  refine my_newa (atype := .int) hx hb w6 (ty := .int) rfl hK hP hD hS hA 1 rfl (fun _ h => by cases h) (N' := 24) (a0 := (24, .inl (fun _ => 0))) (fun _ => rfl) z135 z136 z137 (by decide +kernel) (by decide +kernel) dX4_init_15 (fun q1 H hP hD hS => ?_)
  have hP : va_P (dC, dI) vwCl [(a0, .inr (4, [.int 0, .ref q0, .null, .int 0, .null, .null, .int 0, .null, .null, .int 0, .null, .null, .int 0, .int 0, .int 0, .null])), (q0, .inl (cJ, 8, .inr (.inl (fun _ => 0)))), (q1, .inl (cI, 24, .inl (fun _ => 0)))] H := hP
  have hD : va_D A [(a0, .inr (4, [.int 0, .ref q0, .null, .int 0, .null, .null, .int 0, .null, .null, .int 0, .null, .null, .int 0, .int 0, .int 0, .null])), (q0, .inl (cJ, 8, .inr (.inl (fun _ => 0)))), (q1, .inl (cI, 24, .inl (fun _ => 0)))] := hD
  refine va_putF (D := (dC, dI)) (ci := 4) (v := .ref q1) (ty := tyX4 2) (C := RX4) (T := TX4) (N := 16) hx hb hts i4 tyX4 tyX4_ok nmX4 hown hK hP hD hS 0 rfl rfl 2 (nlt rfl) w7 (fun _ h9 => h9) rfl hin rfl (tyX4_ok 2 (nlt rfl)) rfl rfl (nlt rfl) dX4_init_17 (fun H locs hP hD hS => ?_)
  refine lv_aload_n hx hb dX4_init_20 rfl (lv_at hl 0 rfl) ?_
  refine lv_bipush (v := 64) hx hb dX4_init_21 z138 ?_
  refine my_newa (atype := .boolean) hx hb w8 (ty := .boolean) rfl hK hP hD hS hA 3 rfl (fun _ h => by cases h) (N' := 64) (a0 := (64, .inl (fun _ => 0))) (fun _ => rfl) z139 z140 z141 (by decide +kernel) (by decide +kernel) dX4_init_23 (fun q2 H hP hD hS => ?_)
  refine va_putF (D := (dC, dI)) (ci := 4) (v := .ref q2) (ty := tyX4 4) (C := RX4) (T := TX4) (N := 16) hx hb hts i4 tyX4 tyX4_ok nmX4 hown hK hP hD hS 0 rfl rfl 4 (nlt rfl) w9 (fun _ h9 => h9) rfl hin rfl (tyX4_ok 4 (nlt rfl)) rfl rfl (nlt rfl) dX4_init_25 (fun H locs hP hD hS => ?_)
  have hP : va_P (dC, dI) vwCl [(a0, .inr (4, [.int 0, .ref q0, .ref q1, .int 0, .ref q2, .null, .int 0, .null, .null, .int 0, .null, .null, .int 0, .int 0, .int 0, .null])), (q0, .inl (cJ, 8, .inr (.inl (fun _ => 0)))), (q1, .inl (cI, 24, .inl (fun _ => 0))), (q2, .inl (cZ, 64, .inl (fun _ => 0)))] H := hP
  have hD : va_D A [(a0, .inr (4, [.int 0, .ref q0, .ref q1, .int 0, .ref q2, .null, .int 0, .null, .null, .int 0, .null, .null, .int 0, .int 0, .int 0, .null])), (q0, .inl (cJ, 8, .inr (.inl (fun _ => 0)))), (q1, .inl (cI, 24, .inl (fun _ => 0))), (q2, .inl (cZ, 64, .inl (fun _ => 0)))] := hD
  refine lv_aload_n hx hb dX4_init_28 rfl (lv_at hl 0 rfl) ?_
  refine lv_sipush (v := 192) hx hb dX4_init_29 z142 ?_
  refine my_newa (atype := .int) hx hb w6 (ty := .int) rfl hK hP hD hS hA 1 rfl (fun _ h => by cases h) (N' := 192) (a0 := (192, .inl (fun _ => 0))) (fun _ => rfl) z143 z144 z145 (by decide +kernel) (by decide +kernel) dX4_init_32 (fun q3 H hP hD hS => ?_)
  refine va_putF (D := (dC, dI)) (ci := 4) (v := .ref q3) (ty := tyX4 5) (C := RX4) (T := TX4) (N := 16) hx hb hts i4 tyX4 tyX4_ok nmX4 hown hK hP hD hS 0 rfl rfl 5 (nlt rfl) w10 (fun _ h9 => h9) rfl hin rfl (tyX4_ok 5 (nlt rfl)) rfl rfl (nlt rfl) dX4_init_34 (fun H locs hP hD hS => ?_)
  refine lv_aload_n hx hb dX4_init_37 rfl (lv_at hl 0 rfl) ?_
  refine lv_bipush (v := 8) hx hb dX4_init_38 z130 ?_
  refine my_newa (atype := .long) hx hb w3 (ty := .long) rfl hK hP hD hS hA 2 rfl (fun _ h => by cases h) (N' := 8) (a0 := (8, .inr (.inl (fun _ => 0)))) (fun _ => rfl) z131 z132 z133 (by decide +kernel) (by decide +kernel) dX4_init_40 (fun q4 H hP hD hS => ?_)
  have hP : va_P (dC, dI) vwCl [(a0, .inr (4, [.int 0, .ref q0, .ref q1, .int 0, .ref q2, .ref q3, .int 0, .null, .null, .int 0, .null, .null, .int 0, .int 0, .int 0, .null])), (q0, .inl (cJ, 8, .inr (.inl (fun _ => 0)))), (q1, .inl (cI, 24, .inl (fun _ => 0))), (q2, .inl (cZ, 64, .inl (fun _ => 0))), (q3, .inl (cI, 192, .inl (fun _ => 0))), (q4, .inl (cJ, 8, .inr (.inl (fun _ => 0))))] H := hP
  have hD : va_D A [(a0, .inr (4, [.int 0, .ref q0, .ref q1, .int 0, .ref q2, .ref q3, .int 0, .null, .null, .int 0, .null, .null, .int 0, .int 0, .int 0, .null])), (q0, .inl (cJ, 8, .inr (.inl (fun _ => 0)))), (q1, .inl (cI, 24, .inl (fun _ => 0))), (q2, .inl (cZ, 64, .inl (fun _ => 0))), (q3, .inl (cI, 192, .inl (fun _ => 0))), (q4, .inl (cJ, 8, .inr (.inl (fun _ => 0))))] := hD
  refine va_putF (D := (dC, dI)) (ci := 4) (v := .ref q4) (ty := tyX4 7) (C := RX4) (T := TX4) (N := 16) hx hb hts i4 tyX4 tyX4_ok nmX4 hown hK hP hD hS 0 rfl rfl 7 (nlt rfl) w11 (fun _ h9 => h9) rfl hin rfl (tyX4_ok 7 (nlt rfl)) rfl rfl (nlt rfl) dX4_init_42 (fun H locs hP hD hS => ?_)
  refine lv_aload_n hx hb dX4_init_45 rfl (lv_at hl 0 rfl) ?_
  refine lv_bipush (v := 9) hx hb dX4_init_46 z146 ?_
  refine my_newa (atype := .int) hx hb w6 (ty := .int) rfl hK hP hD hS hA 1 rfl (fun _ h => by cases h) (N' := 9) (a0 := (9, .inl (fun _ => 0))) (fun _ => rfl) z147 z148 z149 (by decide +kernel) (by decide +kernel) dX4_init_48 (fun q5 H hP hD hS => ?_)
  refine va_putF (D := (dC, dI)) (ci := 4) (v := .ref q5) (ty := tyX4 8) (C := RX4) (T := TX4) (N := 16) hx hb hts i4 tyX4 tyX4_ok nmX4 hown hK hP hD hS 0 rfl rfl 8 (nlt rfl) w12 (fun _ h9 => h9) rfl hin rfl (tyX4_ok 8 (nlt rfl)) rfl rfl (nlt rfl) dX4_init_50 (fun H locs hP hD hS => ?_)
  have hP : va_P (dC, dI) vwCl [(a0, .inr (4, [.int 0, .ref q0, .ref q1, .int 0, .ref q2, .ref q3, .int 0, .ref q4, .ref q5, .int 0, .null, .null, .int 0, .int 0, .int 0, .null])), (q0, .inl (cJ, 8, .inr (.inl (fun _ => 0)))), (q1, .inl (cI, 24, .inl (fun _ => 0))), (q2, .inl (cZ, 64, .inl (fun _ => 0))), (q3, .inl (cI, 192, .inl (fun _ => 0))), (q4, .inl (cJ, 8, .inr (.inl (fun _ => 0)))), (q5, .inl (cI, 9, .inl (fun _ => 0)))] H := hP
  have hD : va_D A [(a0, .inr (4, [.int 0, .ref q0, .ref q1, .int 0, .ref q2, .ref q3, .int 0, .ref q4, .ref q5, .int 0, .null, .null, .int 0, .int 0, .int 0, .null])), (q0, .inl (cJ, 8, .inr (.inl (fun _ => 0)))), (q1, .inl (cI, 24, .inl (fun _ => 0))), (q2, .inl (cZ, 64, .inl (fun _ => 0))), (q3, .inl (cI, 192, .inl (fun _ => 0))), (q4, .inl (cJ, 8, .inr (.inl (fun _ => 0)))), (q5, .inl (cI, 9, .inl (fun _ => 0)))] := hD
  refine lv_aload_n hx hb dX4_init_53 rfl (lv_at hl 0 rfl) ?_
  refine lv_bipush (v := 24) hx hb dX4_init_54 z134 ?_
  refine my_newa (atype := .int) hx hb w6 (ty := .int) rfl hK hP hD hS hA 1 rfl (fun _ h => by cases h) (N' := 24) (a0 := (24, .inl (fun _ => 0))) (fun _ => rfl) z135 z136 z137 (by decide +kernel) (by decide +kernel) dX4_init_56 (fun q6 H hP hD hS => ?_)
  refine va_putF (D := (dC, dI)) (ci := 4) (v := .ref q6) (ty := tyX4 10) (C := RX4) (T := TX4) (N := 16) hx hb hts i4 tyX4 tyX4_ok nmX4 hown hK hP hD hS 0 rfl rfl 10 (nlt rfl) w13 (fun _ h9 => h9) rfl hin rfl (tyX4_ok 10 (nlt rfl)) rfl rfl (nlt rfl) dX4_init_58 (fun H locs hP hD hS => ?_)
  refine lv_aload_n hx hb dX4_init_61 rfl (lv_at hl 0 rfl) ?_
  refine lv_bipush (v := 96) hx hb dX4_init_62 z13 ?_
  refine my_newa (atype := .int) hx hb w6 (ty := .int) rfl hK hP hD hS hA 1 rfl (fun _ h => by cases h) (N' := 96) (a0 := (96, .inl (fun _ => 0))) (fun _ => rfl) z150 z151 z152 (by decide +kernel) (by decide +kernel) dX4_init_64 (fun q7 H hP hD hS => ?_)
  have hP : va_P (dC, dI) vwCl [(a0, .inr (4, [.int 0, .ref q0, .ref q1, .int 0, .ref q2, .ref q3, .int 0, .ref q4, .ref q5, .int 0, .ref q6, .null, .int 0, .int 0, .int 0, .null])), (q0, .inl (cJ, 8, .inr (.inl (fun _ => 0)))), (q1, .inl (cI, 24, .inl (fun _ => 0))), (q2, .inl (cZ, 64, .inl (fun _ => 0))), (q3, .inl (cI, 192, .inl (fun _ => 0))), (q4, .inl (cJ, 8, .inr (.inl (fun _ => 0)))), (q5, .inl (cI, 9, .inl (fun _ => 0))), (q6, .inl (cI, 24, .inl (fun _ => 0))), (q7, .inl (cI, 96, .inl (fun _ => 0)))] H := hP
  have hD : va_D A [(a0, .inr (4, [.int 0, .ref q0, .ref q1, .int 0, .ref q2, .ref q3, .int 0, .ref q4, .ref q5, .int 0, .ref q6, .null, .int 0, .int 0, .int 0, .null])), (q0, .inl (cJ, 8, .inr (.inl (fun _ => 0)))), (q1, .inl (cI, 24, .inl (fun _ => 0))), (q2, .inl (cZ, 64, .inl (fun _ => 0))), (q3, .inl (cI, 192, .inl (fun _ => 0))), (q4, .inl (cJ, 8, .inr (.inl (fun _ => 0)))), (q5, .inl (cI, 9, .inl (fun _ => 0))), (q6, .inl (cI, 24, .inl (fun _ => 0))), (q7, .inl (cI, 96, .inl (fun _ => 0)))] := hD
  refine va_putF (D := (dC, dI)) (ci := 4) (v := .ref q7) (ty := tyX4 11) (C := RX4) (T := TX4) (N := 16) hx hb hts i4 tyX4 tyX4_ok nmX4 hown hK hP hD hS 0 rfl rfl 11 (nlt rfl) w14 (fun _ h9 => h9) rfl hin rfl (tyX4_ok 11 (nlt rfl)) rfl rfl (nlt rfl) dX4_init_66 (fun H locs hP hD hS => ?_)
  refine lv_aload_n hx hb dX4_init_69 rfl (lv_at hl 0 rfl) ?_
  refine lv_bipush (v := 6) hx hb dX4_init_70 z4 ?_
  refine my_newa (atype := .int) hx hb w6 (ty := .int) rfl hK hP hD hS hA 1 rfl (fun _ h => by cases h) (N' := 6) (a0 := (6, .inl (fun _ => 0))) (fun _ => rfl) z5 z6 z153 (by decide +kernel) (by decide +kernel) dX4_init_72 (fun q8 H hP hD hS => ?_)
  refine va_putF (D := (dC, dI)) (ci := 4) (v := .ref q8) (ty := tyX4 15) (C := RX4) (T := TX4) (N := 16) hx hb hts i4 tyX4 tyX4_ok nmX4 hown hK hP hD hS 0 rfl rfl 15 (nlt rfl) w15 (fun _ h9 => h9) rfl hin rfl (tyX4_ok 15 (nlt rfl)) rfl rfl (nlt rfl) dX4_init_74 (fun H locs hP hD hS => ?_)
  have hP : va_P (dC, dI) vwCl [(a0, .inr (4, [.int 0, .ref q0, .ref q1, .int 0, .ref q2, .ref q3, .int 0, .ref q4, .ref q5, .int 0, .ref q6, .ref q7, .int 0, .int 0, .int 0, .ref q8])), (q0, .inl (cJ, 8, .inr (.inl (fun _ => 0)))), (q1, .inl (cI, 24, .inl (fun _ => 0))), (q2, .inl (cZ, 64, .inl (fun _ => 0))), (q3, .inl (cI, 192, .inl (fun _ => 0))), (q4, .inl (cJ, 8, .inr (.inl (fun _ => 0)))), (q5, .inl (cI, 9, .inl (fun _ => 0))), (q6, .inl (cI, 24, .inl (fun _ => 0))), (q7, .inl (cI, 96, .inl (fun _ => 0))), (q8, .inl (cI, 6, .inl (fun _ => 0)))] H := hP
  have hD : va_D A [(a0, .inr (4, [.int 0, .ref q0, .ref q1, .int 0, .ref q2, .ref q3, .int 0, .ref q4, .ref q5, .int 0, .ref q6, .ref q7, .int 0, .int 0, .int 0, .ref q8])), (q0, .inl (cJ, 8, .inr (.inl (fun _ => 0)))), (q1, .inl (cI, 24, .inl (fun _ => 0))), (q2, .inl (cZ, 64, .inl (fun _ => 0))), (q3, .inl (cI, 192, .inl (fun _ => 0))), (q4, .inl (cJ, 8, .inr (.inl (fun _ => 0)))), (q5, .inl (cI, 9, .inl (fun _ => 0))), (q6, .inl (cI, 24, .inl (fun _ => 0))), (q7, .inl (cI, 96, .inl (fun _ => 0))), (q8, .inl (cI, 6, .inl (fun _ => 0)))] := hD
  refine lv_aload_n hx hb dX4_init_77 rfl (lv_at hl 0 rfl) ?_
  refine lv_iconst (v := 3) hx hb dX4_init_78 z69 ?_
  refine va_put (D := (dC, dI)) (ci := 4) (v := .int 3) (ty := tyX4 12) (C := RX4) (T := TX4) (N := 16) hx hb hts i4 tyX4 tyX4_ok nmX4 hown hK hP hD hS 0 rfl rfl 12 (nlt rfl) w16 (fun _ h9 => h9) rfl (tyX4_ok 12 (nlt rfl)) rfl rfl (nlt rfl) dX4_init_79 (fun H locs hP hD hS => ?_)
  refine W.widen (k := 9) (n := 431) (by decide +kernel) (by decide +kernel) ?_
  exact ret_v hx hb hr hlocks hS (u := (fun k => ([q0, q1, q2, q3, q4, q5, q6, q7, q8] : List Nat).getD k 0)) (hP.sub [0, 1, 2, 3, 4, 5, 6, 7, 8, 9] rfl) (hD.sub [0, 1, 2, 3, 4, 5, 6, 7, 8, 9] (by decide +kernel) rfl) dX4_init_82

set_option maxHeartbeats 4000000 in
set_option maxRecDepth 100000 in
theorem k9_X2_init (l : Launch) (dC : Nat → ClassId) (dI : Nat → Nat → Nat) (cB cI cJ cZ cO : ClassId) (ad av : Nat → Nat) (a0 : Nat) : CVX l yX2_init wsX2_init ({ frames := 6, cells := 15, slots := 655, locals := 128 }) (dC, dI) (tyL cB cI cJ cZ cO) [.ref a0] [(a0, .inr (2, [.null, .null, .null, .null]))] (fun u => [(a0, .inr (2, [.ref (u 0), .ref (u 3), .ref (u 13), .ref (u 14)])), ((u 0), .inr (8, [.ref (u 1), .ref (u 2), .int 0, .int 0, .int 0, .int 0, .long 0, .int 0, .int 0, .int (-1)])), ((u 1), .inl (cJ, 6, .inr (.inl (vp_updL (vp_updL (vp_updL (vp_updL (vp_updL (vp_updL (fun _ => 0) 0 769604) 1 525618) 2 611717) 3 498) 4 408362632) 5 21678547)))), ((u 2), .inl (cB, 0, .inl (fun _ => 0))), ((u 3), .inr (4, [.int 0, .ref (u 4), .ref (u 5), .int 0, .ref (u 6), .ref (u 7), .int 0, .ref (u 8), .ref (u 9), .int 0, .ref (u 10), .ref (u 11), .int 3, .int 0, .int 0, .ref (u 12)])), ((u 4), .inl (cJ, 8, .inr (.inl (fun _ => 0)))), ((u 5), .inl (cI, 24, .inl (fun _ => 0))), ((u 6), .inl (cZ, 64, .inl (fun _ => 0))), ((u 7), .inl (cI, 192, .inl (fun _ => 0))), ((u 8), .inl (cJ, 8, .inr (.inl (fun _ => 0)))), ((u 9), .inl (cI, 9, .inl (fun _ => 0))), ((u 10), .inl (cI, 24, .inl (fun _ => 0))), ((u 11), .inl (cI, 96, .inl (fun _ => 0))), ((u 12), .inl (cI, 6, .inl (fun _ => 0))), ((u 13), .inl (cJ, 96, .inr (.inl (fun _ => 0)))), ((u 14), .inl (cI, 96, .inl (fun _ => 0)))]) ad av := by
  intro sz
  refine ctx_open (cc := cX2_init) (maxL := 1) (ret := none) (by decide) rfl (Nat.le_of_ble_eq_true rfl) ?_
  intro p e s m below meth c ls A hx hb hr hml hts hown hlocks hin hP hK hD hA hS hl hE
  have hl : lv_has ls 1 [(0, .ref a0)] := hl
  have hown : s.vm.findClass RX2 = some m.cls := hown
  have hin : meth.name = "<init>" := hin
  have w0 := hts (.methodLink RX2 3 objectInit) (List.mem_cons_of_mem _ (List.mem_append_left _ (List.mem_append_left _ (List.mem_append_left _ (List.mem_append_left _ (List.mem_of_getElem? (i := 0) rfl))))))
  have w1 := hts (.instanceMethod objectInit) (List.mem_cons_of_mem _ (List.mem_append_left _ (List.mem_append_left _ (List.mem_append_left _ (List.mem_append_left _ (List.mem_of_getElem? (i := 1) rfl))))))
  have w2 := hts (.code objectInit ⟨#[0xb1]⟩ 1 none) (List.mem_cons_of_mem _ (List.mem_append_left _ (List.mem_append_left _ (List.mem_append_left _ (List.mem_append_left _ (List.mem_of_getElem? (i := 2) rfl))))))
  have i8 : ∀ w ∈ u_ws RX8 TX8 10, w ∈ wsX2_init := fun _ h => List.mem_cons_of_mem _ (List.mem_append_left _ (List.mem_append_left _ (List.mem_append_right _ h)))
  have w4 := hts (.classLink RX2 9 RX8) (List.mem_cons_of_mem _ (List.mem_append_left _ (List.mem_append_left _ (List.mem_append_left _ (List.mem_append_left _ (List.mem_of_getElem? (i := 3) rfl))))))
  have w5 := hts (.instantiable RX8 10) (List.mem_cons_of_mem _ (List.mem_append_left _ (List.mem_append_left _ (List.mem_append_left _ (List.mem_append_left _ (List.mem_of_getElem? (i := 4) rfl))))))
  have w6 := hts (.initialized RX8) (List.mem_cons_of_mem _ (List.mem_append_left _ (List.mem_append_left _ (List.mem_append_left _ (List.mem_append_left _ (List.mem_of_getElem? (i := 5) rfl))))))
  have w7 := hts (.instanceMethod yX8_init) (List.mem_cons_of_mem _ (List.mem_append_left _ (List.mem_append_left _ (List.mem_append_left _ (List.mem_append_left _ (List.mem_of_getElem? (i := 15) rfl))))))
  have i2 : ∀ w ∈ u_ws RX2 TX2 4, w ∈ wsX2_init := fun _ h => List.mem_cons_of_mem _ (List.mem_append_left _ (List.mem_append_right _ h))
  have w9 := hts (.fieldLink RX2 12 "GuildCharter$Parser" "tokens" "LGuildCharter$Tokens;") (List.mem_cons_of_mem _ (List.mem_append_left _ (List.mem_append_left _ (List.mem_append_left _ (List.mem_append_left _ (List.mem_of_getElem? (i := 6) rfl))))))
  have i4 : ∀ w ∈ u_ws RX4 TX4 16, w ∈ wsX2_init := fun _ h => List.mem_cons_of_mem _ (List.mem_append_right _ h)
  have w11 := hts (.classLink RX2 18 RX4) (List.mem_cons_of_mem _ (List.mem_append_left _ (List.mem_append_left _ (List.mem_append_left _ (List.mem_append_left _ (List.mem_of_getElem? (i := 7) rfl))))))
  have w12 := hts (.instantiable RX4 16) (List.mem_cons_of_mem _ (List.mem_append_left _ (List.mem_append_left _ (List.mem_append_left _ (List.mem_append_left _ (List.mem_of_getElem? (i := 8) rfl))))))
  have w13 := hts (.initialized RX4) (List.mem_cons_of_mem _ (List.mem_append_left _ (List.mem_append_left _ (List.mem_append_left _ (List.mem_append_left _ (List.mem_of_getElem? (i := 9) rfl))))))
  have w14 := hts (.methodLink RX2 20 yX4_init) (List.mem_cons_of_mem _ (List.mem_append_left _ (List.mem_append_left _ (List.mem_append_left _ (List.mem_append_right _ (List.mem_append_right _ (List.mem_append_right _ (List.mem_of_getElem? (i := 2) rfl))))))))
  have w15 := hts (.instanceMethod yX4_init) (List.mem_cons_of_mem _ (List.mem_append_left _ (List.mem_append_left _ (List.mem_append_left _ (List.mem_append_right _ (List.mem_append_right _ (List.mem_append_right _ (List.mem_of_getElem? (i := 3) rfl))))))))
  have w16 := hts (.fieldLink RX2 21 "GuildCharter$Parser" "port" "LGuildCharter$Port;") (List.mem_cons_of_mem _ (List.mem_append_left _ (List.mem_append_left _ (List.mem_append_left _ (List.mem_append_left _ (List.mem_of_getElem? (i := 10) rfl))))))
  have w17 := hts (.arrayClass .long) (List.mem_cons_of_mem _ (List.mem_append_left _ (List.mem_append_left _ (List.mem_append_left _ (List.mem_append_left _ (List.mem_of_getElem? (i := 11) rfl))))))
  have w18 := hts (.fieldLink RX2 25 "GuildCharter$Parser" "partNames" "[J") (List.mem_cons_of_mem _ (List.mem_append_left _ (List.mem_append_left _ (List.mem_append_left _ (List.mem_append_left _ (List.mem_of_getElem? (i := 12) rfl))))))
  have w19 := hts (.arrayClass .int) (List.mem_cons_of_mem _ (List.mem_append_left _ (List.mem_append_left _ (List.mem_append_left _ (List.mem_append_left _ (List.mem_of_getElem? (i := 13) rfl))))))
  have w20 := hts (.fieldLink RX2 29 "GuildCharter$Parser" "partPlaces" "[I") (List.mem_cons_of_mem _ (List.mem_append_left _ (List.mem_append_left _ (List.mem_append_left _ (List.mem_append_left _ (List.mem_of_getElem? (i := 14) rfl))))))
  refine lv_aload_n hx hb dX2_init_0 rfl (lv_at hl 0 rfl) ?_
  refine W.objInit hx hb hown w0 w1 w2 rfl (by rw [hml]; exact hl.1) rfl dX2_init_1 (Nat.le_of_ble_eq_true rfl) (Nat.le_of_ble_eq_true rfl) ?_
  refine W.eq (g2 := F0 m 4 ls []) rfl ?_
  refine lv_aload_n hx hb dX2_init_4 rfl (lv_at hl 0 rfl) ?_
  refine va_new (ci := 8) (fs := [.null, .null, .int 0, .int 0, .int 0, .int 0, .long 0, .int 0, .int 0, .int 0]) (C := RX8) (T := TX8) (N := 10) hx hb hts i8 tyX8 tyX8_ok hown w4 w5 w6 hK hP hD hS hA rfl (dfX8) (by decide +kernel) (by decide +kernel) dX2_init_5 (fun q0 H hP hD hS => ?_)
  refine lv_dup hx hb dX2_init_8 rfl ?_
  refine call_vINX (As := []) (rest := [.ref q0, .ref a0]) (wr := [(a0, .inr (2, [.null, .null, .null, .null]))]) ⟨hx, hb, hml, hown, hts⟩ (k7_X8_init l dC dI cB cI cJ cZ cO ad av q0) ⟨va_cnB 0 hts gX2_init_X8_init_n11 rfl rfl rfl (hE.2.2.2 7 (by decide)) w6 z155 ⟨Nat.le_of_ble_eq_true rfl, Nat.le_of_ble_eq_true rfl⟩, rfl, w7⟩ hE hK hP hD hS hA [1] [0] rfl rfl (by decide +kernel) (by decide +kernel) (by decide +kernel) hl.1 (Nat.le_of_ble_eq_true rfl) rfl rfl dX2_init_9 ⟨by decide +kernel, by decide +kernel⟩ (fun u0 H locs hP hD hS => ?_)
  refine va_putF (D := (dC, dI)) (ci := 2) (v := .ref q0) (ty := tyX2 0) (C := RX2) (T := TX2) (N := 4) hx hb hts i2 tyX2 tyX2_ok nmX2 hown hK hP hD hS 0 rfl rfl 0 (nlt rfl) w9 (fun _ h9 => h9) rfl hin rfl (tyX2_ok 0 (nlt rfl)) rfl rfl (nlt rfl) dX2_init_12 (fun H locs hP hD hS => ?_)
  refine lv_aload_n hx hb dX2_init_15 rfl (lv_at hl 0 rfl) ?_
  refine va_new (ci := 4) (fs := [.int 0, .null, .null, .int 0, .null, .null, .int 0, .null, .null, .int 0, .null, .null, .int 0, .int 0, .int 0, .null]) (C := RX4) (T := TX4) (N := 16) hx hb hts i4 tyX4 tyX4_ok hown w11 w12 w13 hK hP hD hS hA rfl (dfX4) (by decide +kernel) (by decide +kernel) dX2_init_16 (fun q1 H hP hD hS => ?_)
  refine lv_dup hx hb dX2_init_19 rfl ?_
  refine call_vI (As := []) (rest := [.ref q1, .ref a0]) (wr := [(a0, .inr (2, [.ref q0, .null, .null, .null])), (q0, .inr (8, [.ref (u0 0), .ref (u0 1), .int 0, .int 0, .int 0, .int 0, .long 0, .int 0, .int 0, .int (-1)])), ((u0 0), .inl (cJ, 6, .inr (.inl (vp_updL (vp_updL (vp_updL (vp_updL (vp_updL (vp_updL (fun _ => 0) 0 769604) 1 525618) 2 611717) 3 498) 4 408362632) 5 21678547)))), ((u0 1), .inl (cB, 0, .inl (fun _ => 0)))]) ⟨hx, hb, hml, hown, hts⟩ (k8_X4_init l dC dI cB cI cJ cZ cO q1) (cwI 0 hts gX2_init_X4_init rfl rfl rfl w13 w14 w15 rfl z156 ⟨Nat.le_of_ble_eq_true rfl, Nat.le_of_ble_eq_true rfl⟩) hK hP hD hS hA [4] [0, 1, 2, 3] rfl rfl (by decide +kernel) (by decide +kernel) (by decide +kernel) hl.1 (Nat.le_of_ble_eq_true rfl) rfl rfl dX2_init_20 ⟨by decide +kernel, by decide +kernel⟩ (fun u1 H locs hP hD hS => ?_)
  refine va_put (D := (dC, dI)) (ci := 2) (v := .ref q1) (ty := tyX2 1) (C := RX2) (T := TX2) (N := 4) hx hb hts i2 tyX2 tyX2_ok nmX2 hown hK hP hD hS 0 rfl rfl 1 (nlt rfl) w16 (fun _ h9 => h9) rfl (tyX2_ok 1 (nlt rfl)) rfl rfl (nlt rfl) dX2_init_23 (fun H locs hP hD hS => ?_)
  refine lv_aload_n hx hb dX2_init_26 rfl (lv_at hl 0 rfl) ?_
  refine lv_bipush (v := 96) hx hb dX2_init_27 z13 ?_
  refine my_newa (atype := .long) hx hb w17 (ty := .long) rfl hK hP hD hS hA 2 rfl (fun _ h => by cases h) (N' := 96) (a0 := (96, .inr (.inl (fun _ => 0)))) (fun _ => rfl) z150 z151 z154 (by decide +kernel) (by decide +kernel) dX2_init_29 (fun q2 H hP hD hS => ?_)
  refine va_putF (D := (dC, dI)) (ci := 2) (v := .ref q2) (ty := tyX2 2) (C := RX2) (T := TX2) (N := 4) hx hb hts i2 tyX2 tyX2_ok nmX2 hown hK hP hD hS 0 rfl rfl 2 (nlt rfl) w18 (fun _ h9 => h9) rfl hin rfl (tyX2_ok 2 (nlt rfl)) rfl rfl (nlt rfl) dX2_init_31 (fun H locs hP hD hS => ?_)
  have hP : va_P (dC, dI) vwCl [(a0, .inr (2, [.ref q0, .ref q1, .ref q2, .null])), (q0, .inr (8, [.ref (u0 0), .ref (u0 1), .int 0, .int 0, .int 0, .int 0, .long 0, .int 0, .int 0, .int (-1)])), ((u0 0), .inl (cJ, 6, .inr (.inl (vp_updL (vp_updL (vp_updL (vp_updL (vp_updL (vp_updL (fun _ => 0) 0 769604) 1 525618) 2 611717) 3 498) 4 408362632) 5 21678547)))), ((u0 1), .inl (cB, 0, .inl (fun _ => 0))), (q1, .inr (4, [.int 0, .ref (u1 0), .ref (u1 1), .int 0, .ref (u1 2), .ref (u1 3), .int 0, .ref (u1 4), .ref (u1 5), .int 0, .ref (u1 6), .ref (u1 7), .int 3, .int 0, .int 0, .ref (u1 8)])), ((u1 0), .inl (cJ, 8, .inr (.inl (fun _ => 0)))), ((u1 1), .inl (cI, 24, .inl (fun _ => 0))), ((u1 2), .inl (cZ, 64, .inl (fun _ => 0))), ((u1 3), .inl (cI, 192, .inl (fun _ => 0))), ((u1 4), .inl (cJ, 8, .inr (.inl (fun _ => 0)))), ((u1 5), .inl (cI, 9, .inl (fun _ => 0))), ((u1 6), .inl (cI, 24, .inl (fun _ => 0))), ((u1 7), .inl (cI, 96, .inl (fun _ => 0))), ((u1 8), .inl (cI, 6, .inl (fun _ => 0))), (q2, .inl (cJ, 96, .inr (.inl (fun _ => 0))))] H := hP
  have hD : va_D A [(a0, .inr (2, [.ref q0, .ref q1, .ref q2, .null])), (q0, .inr (8, [.ref (u0 0), .ref (u0 1), .int 0, .int 0, .int 0, .int 0, .long 0, .int 0, .int 0, .int (-1)])), ((u0 0), .inl (cJ, 6, .inr (.inl (vp_updL (vp_updL (vp_updL (vp_updL (vp_updL (vp_updL (fun _ => 0) 0 769604) 1 525618) 2 611717) 3 498) 4 408362632) 5 21678547)))), ((u0 1), .inl (cB, 0, .inl (fun _ => 0))), (q1, .inr (4, [.int 0, .ref (u1 0), .ref (u1 1), .int 0, .ref (u1 2), .ref (u1 3), .int 0, .ref (u1 4), .ref (u1 5), .int 0, .ref (u1 6), .ref (u1 7), .int 3, .int 0, .int 0, .ref (u1 8)])), ((u1 0), .inl (cJ, 8, .inr (.inl (fun _ => 0)))), ((u1 1), .inl (cI, 24, .inl (fun _ => 0))), ((u1 2), .inl (cZ, 64, .inl (fun _ => 0))), ((u1 3), .inl (cI, 192, .inl (fun _ => 0))), ((u1 4), .inl (cJ, 8, .inr (.inl (fun _ => 0)))), ((u1 5), .inl (cI, 9, .inl (fun _ => 0))), ((u1 6), .inl (cI, 24, .inl (fun _ => 0))), ((u1 7), .inl (cI, 96, .inl (fun _ => 0))), ((u1 8), .inl (cI, 6, .inl (fun _ => 0))), (q2, .inl (cJ, 96, .inr (.inl (fun _ => 0))))] := hD
  refine lv_aload_n hx hb dX2_init_34 rfl (lv_at hl 0 rfl) ?_
  refine lv_bipush (v := 96) hx hb dX2_init_35 z13 ?_
  refine my_newa (atype := .int) hx hb w19 (ty := .int) rfl hK hP hD hS hA 1 rfl (fun _ h => by cases h) (N' := 96) (a0 := (96, .inl (fun _ => 0))) (fun _ => rfl) z150 z151 z152 (by decide +kernel) (by decide +kernel) dX2_init_37 (fun q3 H hP hD hS => ?_)
  refine va_putF (D := (dC, dI)) (ci := 2) (v := .ref q3) (ty := tyX2 3) (C := RX2) (T := TX2) (N := 4) hx hb hts i2 tyX2 tyX2_ok nmX2 hown hK hP hD hS 0 rfl rfl 3 (nlt rfl) w20 (fun _ h9 => h9) rfl hin rfl (tyX2_ok 3 (nlt rfl)) rfl rfl (nlt rfl) dX2_init_39 (fun H locs hP hD hS => ?_)
  refine W.widen (k := 15) (n := 655) (by decide +kernel) (by decide +kernel) ?_
  exact ret_v hx hb hr hlocks hS (u := (fun k => ([q0, (u0 0), (u0 1), q1, (u1 0), (u1 1), (u1 2), (u1 3), (u1 4), (u1 5), (u1 6), (u1 7), (u1 8), q2, q3] : List Nat).getD k 0)) (hP.sub [0, 1, 2, 3, 4, 5, 6, 7, 8, 9, 10, 11, 12, 13, 14, 15] rfl) (hD.sub [0, 1, 2, 3, 4, 5, 6, 7, 8, 9, 10, 11, 12, 13, 14, 15] (by decide +kernel) rfl) dX2_init_42

set_option maxHeartbeats 4000000 in
set_option maxRecDepth 100000 in
theorem k10_J7_fill_53178 (l : Launch) (dC : Nat → ClassId) (dI : Nat → Nat → Nat) (cB cI cJ cZ cO : ClassId) (a0 : Nat) : CV l yJ7_fill_53178 wsJ7_fill_53178 ({ frames := 0, cells := 0, slots := 0, locals := 0 }) (dC, dI) (tyL cB cI cJ cZ cO) [.ref a0, .int (-1)] [(a0, .inl (cI, 6, .inl (fun _ => 0)))] (fun u => [(a0, .inl (cI, 6, .inl (upd (upd (upd (upd (upd (upd (fun _ => 0) 0 (-1)) 1 (-1)) 2 (-1)) 3 (-1)) 4 (-1)) 5 (-1))))]) := by
  intro sz
  refine ct_open (cc := cJ7_fill_53178) (maxL := 4) (ret := none) (by decide) rfl (Nat.le_of_ble_eq_true rfl) ?_
  intro p e s m below meth c ls A hx hb hr hml hts hown hlocks hin hP hK hD hA hS hl
  have hl : lv_has ls 4 [(0, .ref a0), (1, .int (-1))] := hl
  have hown : s.vm.findClass RJ7 = some m.cls := hown
  refine lv_iconst (v := 0) hx hb dJ7_fill_53178_0 z8 ?_
  refine lv_istore_n (lv' := [(2, .int 0), (0, .ref a0), (1, .int (-1))]) hx hb dJ7_fill_53178_1 rfl hl (nlt rfl) rfl (fun ls hl => ?_)
  refine lv_aload_n hx hb dJ7_fill_53178_2 rfl (lv_at hl 1 rfl) ?_
  refine va_alen hx hb hK hP 0 1 rfl rfl (v := 6) rfl dJ7_fill_53178_3 ?_
  refine lv_istore_n (lv' := [(3, .int 6), (2, .int 0), (0, .ref a0), (1, .int (-1))]) hx hb dJ7_fill_53178_4 rfl hl (nlt rfl) rfl (fun ls hl => ?_)
  refine lv_iload_n hx hb dJ7_fill_53178_5 rfl (lv_at hl 1 rfl) ?_
  refine lv_iload_n hx hb dJ7_fill_53178_6 rfl (lv_at hl 0 rfl) ?_
  refine lv_icmp_ge (tgt := 20) hx hb dJ7_fill_53178_7 z162 (fun c1 => absurd c1 (z78)) (fun _ => ?_)
  refine lv_aload_n hx hb dJ7_fill_53178_10 rfl (lv_at hl 2 rfl) ?_
  refine lv_iload_n hx hb dJ7_fill_53178_11 rfl (lv_at hl 1 rfl) ?_
  refine lv_iload_n hx hb dJ7_fill_53178_12 rfl (lv_at hl 3 rfl) ?_
  refine my_iast hx hb hK hP hD hS 0 1 rfl rfl z38 dJ7_fill_53178_13 (fun H locs hP hD hS => ?_)
  refine lv_iinc (v := 1) (lv' := [(2, .int 1), (3, .int 6), (0, .ref a0), (1, .int (-1))]) hx hb dJ7_fill_53178_14 hl (k := 1) rfl z17 (nlt rfl) rfl (fun ls hl => ?_)
  refine lv_goto (tgt := 5) hx hb dJ7_fill_53178_17 z163 ?_
  refine lv_iload_n hx hb dJ7_fill_53178_5 rfl (lv_at hl 0 rfl) ?_
  refine lv_iload_n hx hb dJ7_fill_53178_6 rfl (lv_at hl 1 rfl) ?_
  refine lv_icmp_ge (tgt := 20) hx hb dJ7_fill_53178_7 z162 (fun c1 => absurd c1 (z80)) (fun _ => ?_)
  refine lv_aload_n hx hb dJ7_fill_53178_10 rfl (lv_at hl 2 rfl) ?_
  refine lv_iload_n hx hb dJ7_fill_53178_11 rfl (lv_at hl 0 rfl) ?_
  refine lv_iload_n hx hb dJ7_fill_53178_12 rfl (lv_at hl 3 rfl) ?_
  refine my_iast hx hb hK hP hD hS 0 1 rfl rfl z53 dJ7_fill_53178_13 (fun H locs hP hD hS => ?_)
  refine lv_iinc (v := 2) (lv' := [(2, .int 2), (3, .int 6), (0, .ref a0), (1, .int (-1))]) hx hb dJ7_fill_53178_14 hl (k := 0) rfl z24 (nlt rfl) rfl (fun ls hl => ?_)
  refine lv_goto (tgt := 5) hx hb dJ7_fill_53178_17 z163 ?_
  refine lv_iload_n hx hb dJ7_fill_53178_5 rfl (lv_at hl 0 rfl) ?_
  refine lv_iload_n hx hb dJ7_fill_53178_6 rfl (lv_at hl 1 rfl) ?_
  refine lv_icmp_ge (tgt := 20) hx hb dJ7_fill_53178_7 z162 (fun c1 => absurd c1 (z83)) (fun _ => ?_)
  refine lv_aload_n hx hb dJ7_fill_53178_10 rfl (lv_at hl 2 rfl) ?_
  refine lv_iload_n hx hb dJ7_fill_53178_11 rfl (lv_at hl 0 rfl) ?_
  refine lv_iload_n hx hb dJ7_fill_53178_12 rfl (lv_at hl 3 rfl) ?_
  refine my_iast hx hb hK hP hD hS 0 1 rfl rfl z68 dJ7_fill_53178_13 (fun H locs hP hD hS => ?_)
  have hP : va_P (dC, dI) vwCl [(a0, .inl (cI, 6, .inl (upd (upd (upd (fun _ => 0) 0 (-1)) 1 (-1)) 2 (-1))))] H := hP
  have hD : va_D A [(a0, .inl (cI, 6, .inl (upd (upd (upd (fun _ => 0) 0 (-1)) 1 (-1)) 2 (-1))))] := hD
  refine lv_iinc (v := 3) (lv' := [(2, .int 3), (3, .int 6), (0, .ref a0), (1, .int (-1))]) hx hb dJ7_fill_53178_14 hl (k := 0) rfl z30 (nlt rfl) rfl (fun ls hl => ?_)
  refine lv_goto (tgt := 5) hx hb dJ7_fill_53178_17 z163 ?_
  refine lv_iload_n hx hb dJ7_fill_53178_5 rfl (lv_at hl 0 rfl) ?_
  refine lv_iload_n hx hb dJ7_fill_53178_6 rfl (lv_at hl 1 rfl) ?_
  refine lv_icmp_ge (tgt := 20) hx hb dJ7_fill_53178_7 z162 (fun c1 => absurd c1 (z88)) (fun _ => ?_)
  refine lv_aload_n hx hb dJ7_fill_53178_10 rfl (lv_at hl 2 rfl) ?_
  refine lv_iload_n hx hb dJ7_fill_53178_11 rfl (lv_at hl 0 rfl) ?_
  refine lv_iload_n hx hb dJ7_fill_53178_12 rfl (lv_at hl 3 rfl) ?_
  refine my_iast hx hb hK hP hD hS 0 1 rfl rfl z76 dJ7_fill_53178_13 (fun H locs hP hD hS => ?_)
  refine lv_iinc (v := 4) (lv' := [(2, .int 4), (3, .int 6), (0, .ref a0), (1, .int (-1))]) hx hb dJ7_fill_53178_14 hl (k := 0) rfl z36 (nlt rfl) rfl (fun ls hl => ?_)
  refine lv_goto (tgt := 5) hx hb dJ7_fill_53178_17 z163 ?_
  refine lv_iload_n hx hb dJ7_fill_53178_5 rfl (lv_at hl 0 rfl) ?_
  refine lv_iload_n hx hb dJ7_fill_53178_6 rfl (lv_at hl 1 rfl) ?_
  refine lv_icmp_ge (tgt := 20) hx hb dJ7_fill_53178_7 z162 (fun c1 => absurd c1 (z93)) (fun _ => ?_)
  refine lv_aload_n hx hb dJ7_fill_53178_10 rfl (lv_at hl 2 rfl) ?_
  refine lv_iload_n hx hb dJ7_fill_53178_11 rfl (lv_at hl 0 rfl) ?_
  refine lv_iload_n hx hb dJ7_fill_53178_12 rfl (lv_at hl 3 rfl) ?_
  refine my_iast hx hb hK hP hD hS 0 1 rfl rfl z106 dJ7_fill_53178_13 (fun H locs hP hD hS => ?_)
  refine lv_iinc (v := 5) (lv' := [(2, .int 5), (3, .int 6), (0, .ref a0), (1, .int (-1))]) hx hb dJ7_fill_53178_14 hl (k := 0) rfl z98 (nlt rfl) rfl (fun ls hl => ?_)
  refine lv_goto (tgt := 5) hx hb dJ7_fill_53178_17 z163 ?_
  refine lv_iload_n hx hb dJ7_fill_53178_5 rfl (lv_at hl 0 rfl) ?_
  refine lv_iload_n hx hb dJ7_fill_53178_6 rfl (lv_at hl 1 rfl) ?_
  refine lv_icmp_ge (tgt := 20) hx hb dJ7_fill_53178_7 z162 (fun c1 => absurd c1 (z99)) (fun _ => ?_)
  refine lv_aload_n hx hb dJ7_fill_53178_10 rfl (lv_at hl 2 rfl) ?_
  refine lv_iload_n hx hb dJ7_fill_53178_11 rfl (lv_at hl 0 rfl) ?_
  refine lv_iload_n hx hb dJ7_fill_53178_12 rfl (lv_at hl 3 rfl) ?_
  refine my_iast hx hb hK hP hD hS 0 1 rfl rfl z124 dJ7_fill_53178_13 (fun H locs hP hD hS => ?_)
  have hP : va_P (dC, dI) vwCl [(a0, .inl (cI, 6, .inl (upd (upd (upd (upd (upd (upd (fun _ => 0) 0 (-1)) 1 (-1)) 2 (-1)) 3 (-1)) 4 (-1)) 5 (-1))))] H := hP
  have hD : va_D A [(a0, .inl (cI, 6, .inl (upd (upd (upd (upd (upd (upd (fun _ => 0) 0 (-1)) 1 (-1)) 2 (-1)) 3 (-1)) 4 (-1)) 5 (-1))))] := hD
  refine lv_iinc (v := 6) (lv' := [(2, .int 6), (3, .int 6), (0, .ref a0), (1, .int (-1))]) hx hb dJ7_fill_53178_14 hl (k := 0) rfl z104 (nlt rfl) rfl (fun ls hl => ?_)
  refine lv_goto (tgt := 5) hx hb dJ7_fill_53178_17 z163 ?_
  refine lv_iload_n hx hb dJ7_fill_53178_5 rfl (lv_at hl 0 rfl) ?_
  refine lv_iload_n hx hb dJ7_fill_53178_6 rfl (lv_at hl 1 rfl) ?_
  refine lv_icmp_ge (tgt := 20) hx hb dJ7_fill_53178_7 z162 (fun _ => ?_) (fun c1 => absurd (z105) c1)
  refine W.widen (k := 0) (n := 0) (by decide +kernel) (by decide +kernel) ?_
  exact ret_v hx hb hr hlocks hS (u := (fun _ => 0)) (hP.sub [0] rfl) (hD.sub [0] (by decide +kernel) rfl) dJ7_fill_53178_20

set_option maxHeartbeats 4000000 in
set_option maxRecDepth 100000 in
theorem k11_X0_init (l : Launch) (dC : Nat → ClassId) (dI : Nat → Nat → Nat) (cB cI cJ cZ cO : ClassId) (a0 : Nat) : CV l yX0_init wsX0_init ({ frames := 1, cells := 6, slots := 172, locals := 23 }) (dC, dI) (tyL cB cI cJ cZ cO) [.ref a0] [(a0, .inr (0, [.null, .int 0, .null, .null, .null, .null, .null, .int 0, .int 0]))] (fun u => [(a0, .inr (0, [.ref (u 0), .int 0, .ref (u 1), .ref (u 2), .ref (u 3), .ref (u 4), .ref (u 5), .int 0, .int 0])), ((u 0), .inl (cI, 6, .inl (fun _ => 0))), ((u 1), .inl (cI, 6, .inl (upd (upd (upd (upd (upd (upd (fun _ => 0) 0 (-1)) 1 (-1)) 2 (-1)) 3 (-1)) 4 (-1)) 5 (-1)))), ((u 2), .inl (cZ, 40, .inl (fun _ => 0))), ((u 3), .inl (cI, 40, .inl (fun _ => 0))), ((u 4), .inl (cI, 40, .inl (fun _ => 0))), ((u 5), .inl (cI, 40, .inl (fun _ => 0)))]) := by
  intro sz
  refine ct_open (cc := cX0_init) (maxL := 1) (ret := none) (by decide) rfl (Nat.le_of_ble_eq_true rfl) ?_
  intro p e s m below meth c ls A hx hb hr hml hts hown hlocks hin hP hK hD hA hS hl
  have hl : lv_has ls 1 [(0, .ref a0)] := hl
  have hown : s.vm.findClass RX0 = some m.cls := hown
  have hin : meth.name = "<init>" := hin
  have w0 := hts (.methodLink RX0 3 objectInit) (List.mem_cons_of_mem _ (List.mem_append_left _ (List.mem_of_getElem? (i := 0) rfl)))
  have w1 := hts (.instanceMethod objectInit) (List.mem_cons_of_mem _ (List.mem_append_left _ (List.mem_of_getElem? (i := 1) rfl)))
  have w2 := hts (.code objectInit ⟨#[0xb1]⟩ 1 none) (List.mem_cons_of_mem _ (List.mem_append_left _ (List.mem_of_getElem? (i := 2) rfl)))
  have w3 := hts (.arrayClass .int) (List.mem_cons_of_mem _ (List.mem_append_left _ (List.mem_of_getElem? (i := 3) rfl)))
  have i0 : ∀ w ∈ u_ws RX0 TX0 9, w ∈ wsX0_init := fun _ h => List.mem_cons_of_mem _ (List.mem_append_right _ h)
  have w5 := hts (.fieldLink RX0 9 "GuildCharter$Earnest" "row" "[I") (List.mem_cons_of_mem _ (List.mem_append_left _ (List.mem_of_getElem? (i := 4) rfl)))
  have w6 := hts (.fieldLink RX0 15 "GuildCharter$Earnest" "sold" "[I") (List.mem_cons_of_mem _ (List.mem_append_left _ (List.mem_of_getElem? (i := 5) rfl)))
  have w7 := hts (.arrayClass .boolean) (List.mem_cons_of_mem _ (List.mem_append_left _ (List.mem_of_getElem? (i := 6) rfl)))
  have w8 := hts (.fieldLink RX0 18 "GuildCharter$Earnest" "sales" "[Z") (List.mem_cons_of_mem _ (List.mem_append_left _ (List.mem_of_getElem? (i := 7) rfl)))
  have w9 := hts (.fieldLink RX0 22 "GuildCharter$Earnest" "places" "[I") (List.mem_cons_of_mem _ (List.mem_append_left _ (List.mem_of_getElem? (i := 8) rfl)))
  have w10 := hts (.fieldLink RX0 25 "GuildCharter$Earnest" "befores" "[I") (List.mem_cons_of_mem _ (List.mem_append_left _ (List.mem_of_getElem? (i := 9) rfl)))
  have w11 := hts (.fieldLink RX0 28 "GuildCharter$Earnest" "afters" "[I") (List.mem_cons_of_mem _ (List.mem_append_left _ (List.mem_of_getElem? (i := 10) rfl)))
  refine lv_aload_n hx hb dX0_init_0 rfl (lv_at hl 0 rfl) ?_
  refine W.objInit hx hb hown w0 w1 w2 rfl (by rw [hml]; exact hl.1) rfl dX0_init_1 (Nat.le_of_ble_eq_true rfl) (Nat.le_of_ble_eq_true rfl) ?_
  refine W.eq (g2 := F0 m 4 ls []) rfl ?_
  refine lv_aload_n hx hb dX0_init_4 rfl (lv_at hl 0 rfl) ?_
  refine lv_bipush (v := 6) hx hb dX0_init_5 z4 ?_
  refine my_newa (atype := .int) hx hb w3 (ty := .int) rfl hK hP hD hS hA 1 rfl (fun _ h => by cases h) (N' := 6) (a0 := (6, .inl (fun _ => 0))) (fun _ => rfl) z5 z6 z153 (by decide +kernel) (by decide +kernel) dX0_init_7 (fun q0 H hP hD hS => ?_)
  refine va_putF (D := (dC, dI)) (ci := 0) (v := .ref q0) (ty := tyX0 0) (C := RX0) (T := TX0) (N := 9) hx hb hts i0 tyX0 tyX0_ok nmX0 hown hK hP hD hS 0 rfl rfl 0 (nlt rfl) w5 (fun _ h9 => h9) rfl hin rfl (tyX0_ok 0 (nlt rfl)) rfl rfl (nlt rfl) dX0_init_9 (fun H locs hP hD hS => ?_)
  refine lv_aload_n hx hb dX0_init_12 rfl (lv_at hl 0 rfl) ?_
  refine lv_bipush (v := 6) hx hb dX0_init_13 z4 ?_
  refine my_newa (atype := .int) hx hb w3 (ty := .int) rfl hK hP hD hS hA 1 rfl (fun _ h => by cases h) (N' := 6) (a0 := (6, .inl (fun _ => 0))) (fun _ => rfl) z5 z6 z153 (by decide +kernel) (by decide +kernel) dX0_init_15 (fun q1 H hP hD hS => ?_)
  have hP : va_P (dC, dI) vwCl [(a0, .inr (0, [.ref q0, .int 0, .null, .null, .null, .null, .null, .int 0, .int 0])), (q0, .inl (cI, 6, .inl (fun _ => 0))), (q1, .inl (cI, 6, .inl (fun _ => 0)))] H := hP
  have hD : va_D A [(a0, .inr (0, [.ref q0, .int 0, .null, .null, .null, .null, .null, .int 0, .int 0])), (q0, .inl (cI, 6, .inl (fun _ => 0))), (q1, .inl (cI, 6, .inl (fun _ => 0)))] := hD
  refine va_putF (D := (dC, dI)) (ci := 0) (v := .ref q1) (ty := tyX0 2) (C := RX0) (T := TX0) (N := 9) hx hb hts i0 tyX0 tyX0_ok nmX0 hown hK hP hD hS 0 rfl rfl 2 (nlt rfl) w6 (fun _ h9 => h9) rfl hin rfl (tyX0_ok 2 (nlt rfl)) rfl rfl (nlt rfl) dX0_init_17 (fun H locs hP hD hS => ?_)
  refine lv_aload_n hx hb dX0_init_20 rfl (lv_at hl 0 rfl) ?_
  refine lv_bipush (v := 40) hx hb dX0_init_21 z157 ?_
  refine my_newa (atype := .boolean) hx hb w7 (ty := .boolean) rfl hK hP hD hS hA 3 rfl (fun _ h => by cases h) (N' := 40) (a0 := (40, .inl (fun _ => 0))) (fun _ => rfl) z158 z159 z160 (by decide +kernel) (by decide +kernel) dX0_init_23 (fun q2 H hP hD hS => ?_)
  refine va_putF (D := (dC, dI)) (ci := 0) (v := .ref q2) (ty := tyX0 3) (C := RX0) (T := TX0) (N := 9) hx hb hts i0 tyX0 tyX0_ok nmX0 hown hK hP hD hS 0 rfl rfl 3 (nlt rfl) w8 (fun _ h9 => h9) rfl hin rfl (tyX0_ok 3 (nlt rfl)) rfl rfl (nlt rfl) dX0_init_25 (fun H locs hP hD hS => ?_)
  have hP : va_P (dC, dI) vwCl [(a0, .inr (0, [.ref q0, .int 0, .ref q1, .ref q2, .null, .null, .null, .int 0, .int 0])), (q0, .inl (cI, 6, .inl (fun _ => 0))), (q1, .inl (cI, 6, .inl (fun _ => 0))), (q2, .inl (cZ, 40, .inl (fun _ => 0)))] H := hP
  have hD : va_D A [(a0, .inr (0, [.ref q0, .int 0, .ref q1, .ref q2, .null, .null, .null, .int 0, .int 0])), (q0, .inl (cI, 6, .inl (fun _ => 0))), (q1, .inl (cI, 6, .inl (fun _ => 0))), (q2, .inl (cZ, 40, .inl (fun _ => 0)))] := hD
  refine lv_aload_n hx hb dX0_init_28 rfl (lv_at hl 0 rfl) ?_
  refine lv_bipush (v := 40) hx hb dX0_init_29 z157 ?_
  refine my_newa (atype := .int) hx hb w3 (ty := .int) rfl hK hP hD hS hA 1 rfl (fun _ h => by cases h) (N' := 40) (a0 := (40, .inl (fun _ => 0))) (fun _ => rfl) z158 z159 z161 (by decide +kernel) (by decide +kernel) dX0_init_31 (fun q3 H hP hD hS => ?_)
  refine va_putF (D := (dC, dI)) (ci := 0) (v := .ref q3) (ty := tyX0 4) (C := RX0) (T := TX0) (N := 9) hx hb hts i0 tyX0 tyX0_ok nmX0 hown hK hP hD hS 0 rfl rfl 4 (nlt rfl) w9 (fun _ h9 => h9) rfl hin rfl (tyX0_ok 4 (nlt rfl)) rfl rfl (nlt rfl) dX0_init_33 (fun H locs hP hD hS => ?_)
  refine lv_aload_n hx hb dX0_init_36 rfl (lv_at hl 0 rfl) ?_
  refine lv_bipush (v := 40) hx hb dX0_init_37 z157 ?_
  refine my_newa (atype := .int) hx hb w3 (ty := .int) rfl hK hP hD hS hA 1 rfl (fun _ h => by cases h) (N' := 40) (a0 := (40, .inl (fun _ => 0))) (fun _ => rfl) z158 z159 z161 (by decide +kernel) (by decide +kernel) dX0_init_39 (fun q4 H hP hD hS => ?_)
  have hP : va_P (dC, dI) vwCl [(a0, .inr (0, [.ref q0, .int 0, .ref q1, .ref q2, .ref q3, .null, .null, .int 0, .int 0])), (q0, .inl (cI, 6, .inl (fun _ => 0))), (q1, .inl (cI, 6, .inl (fun _ => 0))), (q2, .inl (cZ, 40, .inl (fun _ => 0))), (q3, .inl (cI, 40, .inl (fun _ => 0))), (q4, .inl (cI, 40, .inl (fun _ => 0)))] H := hP
  have hD : va_D A [(a0, .inr (0, [.ref q0, .int 0, .ref q1, .ref q2, .ref q3, .null, .null, .int 0, .int 0])), (q0, .inl (cI, 6, .inl (fun _ => 0))), (q1, .inl (cI, 6, .inl (fun _ => 0))), (q2, .inl (cZ, 40, .inl (fun _ => 0))), (q3, .inl (cI, 40, .inl (fun _ => 0))), (q4, .inl (cI, 40, .inl (fun _ => 0)))] := hD
  refine va_putF (D := (dC, dI)) (ci := 0) (v := .ref q4) (ty := tyX0 5) (C := RX0) (T := TX0) (N := 9) hx hb hts i0 tyX0 tyX0_ok nmX0 hown hK hP hD hS 0 rfl rfl 5 (nlt rfl) w10 (fun _ h9 => h9) rfl hin rfl (tyX0_ok 5 (nlt rfl)) rfl rfl (nlt rfl) dX0_init_41 (fun H locs hP hD hS => ?_)
  refine lv_aload_n hx hb dX0_init_44 rfl (lv_at hl 0 rfl) ?_
  refine lv_bipush (v := 40) hx hb dX0_init_45 z157 ?_
  refine my_newa (atype := .int) hx hb w3 (ty := .int) rfl hK hP hD hS hA 1 rfl (fun _ h => by cases h) (N' := 40) (a0 := (40, .inl (fun _ => 0))) (fun _ => rfl) z158 z159 z161 (by decide +kernel) (by decide +kernel) dX0_init_47 (fun q5 H hP hD hS => ?_)
  refine va_putF (D := (dC, dI)) (ci := 0) (v := .ref q5) (ty := tyX0 6) (C := RX0) (T := TX0) (N := 9) hx hb hts i0 tyX0 tyX0_ok nmX0 hown hK hP hD hS 0 rfl rfl 6 (nlt rfl) w11 (fun _ h9 => h9) rfl hin rfl (tyX0_ok 6 (nlt rfl)) rfl rfl (nlt rfl) dX0_init_49 (fun H locs hP hD hS => ?_)
  have hP : va_P (dC, dI) vwCl [(a0, .inr (0, [.ref q0, .int 0, .ref q1, .ref q2, .ref q3, .ref q4, .ref q5, .int 0, .int 0])), (q0, .inl (cI, 6, .inl (fun _ => 0))), (q1, .inl (cI, 6, .inl (fun _ => 0))), (q2, .inl (cZ, 40, .inl (fun _ => 0))), (q3, .inl (cI, 40, .inl (fun _ => 0))), (q4, .inl (cI, 40, .inl (fun _ => 0))), (q5, .inl (cI, 40, .inl (fun _ => 0)))] H := hP
  have hD : va_D A [(a0, .inr (0, [.ref q0, .int 0, .ref q1, .ref q2, .ref q3, .ref q4, .ref q5, .int 0, .int 0])), (q0, .inl (cI, 6, .inl (fun _ => 0))), (q1, .inl (cI, 6, .inl (fun _ => 0))), (q2, .inl (cZ, 40, .inl (fun _ => 0))), (q3, .inl (cI, 40, .inl (fun _ => 0))), (q4, .inl (cI, 40, .inl (fun _ => 0))), (q5, .inl (cI, 40, .inl (fun _ => 0)))] := hD
  refine lv_aload_n hx hb dX0_init_52 rfl (lv_at hl 0 rfl) ?_
  refine va_get (D := (dC, dI)) (ci := 0) (v := .ref q1) (C := RX0) (T := TX0) (N := 9) hx hb hts i0 hown hK hP 0 rfl rfl 2 (nlt rfl) w6 (fun _ h9 => h9) rfl dX0_init_53 ?_
  refine lv_iconst (v := (-1)) hx hb dX0_init_56 z128 ?_
  refine call_vS (As := [.ref q1, .int (-1)]) (rest := []) (wr := [(a0, .inr (0, [.ref q0, .int 0, .ref q1, .ref q2, .ref q3, .ref q4, .ref q5, .int 0, .int 0])), (q0, .inl (cI, 6, .inl (fun _ => 0))), (q2, .inl (cZ, 40, .inl (fun _ => 0))), (q3, .inl (cI, 40, .inl (fun _ => 0))), (q4, .inl (cI, 40, .inl (fun _ => 0))), (q5, .inl (cI, 40, .inl (fun _ => 0)))]) ⟨hx, hb, hml, hown, hts⟩ (k10_J7_fill_53178 l dC dI cB cI cJ cZ cO q1) (va_cwS 2 hts gX0_init_J7_fill_53178 rfl rfl rfl z164 ⟨Nat.le_of_ble_eq_true rfl, Nat.le_of_ble_eq_true rfl⟩) hK hP hD hS hA [2] [0, 1, 3, 4, 5, 6] rfl rfl (by decide +kernel) (by decide +kernel) (by decide +kernel) hl.1 (Nat.le_of_ble_eq_true rfl) rfl rfl dX0_init_57 ⟨by decide +kernel, by decide +kernel⟩ (fun u0 H locs hP hD hS => ?_)
  refine W.widen (k := 6) (n := 172) (by decide +kernel) (by decide +kernel) ?_
  exact ret_v hx hb hr hlocks hS (u := (fun k => ([q0, q1, q2, q3, q4, q5] : List Nat).getD k 0)) (hP.sub [0, 1, 6, 2, 3, 4, 5] rfl) (hD.sub [0, 1, 6, 2, 3, 4, 5] (by decide +kernel) rfl) dX0_init_60

set_option maxHeartbeats 4000000 in
set_option maxRecDepth 100000 in
theorem k12_X1_init (l : Launch) (dC : Nat → ClassId) (dI : Nat → Nat → Nat) (cB cI cJ cZ cO : ClassId) (a0 : Nat) : CV l yX1_init wsX1_init ({ frames := 1, cells := 2, slots := 12, locals := 20 }) (dC, dI) (tyL cB cI cJ cZ cO) [.ref a0] [(a0, .inr (1, [.int 0, .null, .int 0, .null]))] (fun u => [(a0, .inr (1, [.int 0, .ref (u 0), .int 0, .ref (u 1)])), ((u 0), .inl (cI, 6, .inl (fun _ => 0))), ((u 1), .inl (cI, 6, .inl (fun _ => 0)))]) := by
  intro sz
  refine ct_open (cc := cX1_init) (maxL := 1) (ret := none) (by decide) rfl (Nat.le_of_ble_eq_true rfl) ?_
  intro p e s m below meth c ls A hx hb hr hml hts hown hlocks hin hP hK hD hA hS hl
  have hl : lv_has ls 1 [(0, .ref a0)] := hl
  have hown : s.vm.findClass RX1 = some m.cls := hown
  have hin : meth.name = "<init>" := hin
  have w0 := hts (.methodLink RX1 3 objectInit) (List.mem_cons_of_mem _ (List.mem_append_left _ (List.mem_of_getElem? (i := 0) rfl)))
  have w1 := hts (.instanceMethod objectInit) (List.mem_cons_of_mem _ (List.mem_append_left _ (List.mem_of_getElem? (i := 1) rfl)))
  have w2 := hts (.code objectInit ⟨#[0xb1]⟩ 1 none) (List.mem_cons_of_mem _ (List.mem_append_left _ (List.mem_of_getElem? (i := 2) rfl)))
  have w3 := hts (.arrayClass .int) (List.mem_cons_of_mem _ (List.mem_append_left _ (List.mem_of_getElem? (i := 3) rfl)))
  have i1 : ∀ w ∈ u_ws RX1 TX1 4, w ∈ wsX1_init := fun _ h => List.mem_cons_of_mem _ (List.mem_append_right _ h)
  have w5 := hts (.fieldLink RX1 9 "GuildCharter$Image" "row" "[I") (List.mem_cons_of_mem _ (List.mem_append_left _ (List.mem_of_getElem? (i := 4) rfl)))
  have w6 := hts (.fieldLink RX1 15 "GuildCharter$Image" "sold" "[I") (List.mem_cons_of_mem _ (List.mem_append_left _ (List.mem_of_getElem? (i := 5) rfl)))
  refine lv_aload_n hx hb dX1_init_0 rfl (lv_at hl 0 rfl) ?_
  refine W.objInit hx hb hown w0 w1 w2 rfl (by rw [hml]; exact hl.1) rfl dX1_init_1 (Nat.le_of_ble_eq_true rfl) (Nat.le_of_ble_eq_true rfl) ?_
  refine W.eq (g2 := F0 m 4 ls []) rfl ?_
  refine lv_aload_n hx hb dX1_init_4 rfl (lv_at hl 0 rfl) ?_
  refine lv_bipush (v := 6) hx hb dX1_init_5 z4 ?_
  refine my_newa (atype := .int) hx hb w3 (ty := .int) rfl hK hP hD hS hA 1 rfl (fun _ h => by cases h) (N' := 6) (a0 := (6, .inl (fun _ => 0))) (fun _ => rfl) z5 z6 z153 (by decide +kernel) (by decide +kernel) dX1_init_7 (fun q0 H hP hD hS => ?_)
  refine va_putF (D := (dC, dI)) (ci := 1) (v := .ref q0) (ty := tyX1 1) (C := RX1) (T := TX1) (N := 4) hx hb hts i1 tyX1 tyX1_ok nmX1 hown hK hP hD hS 0 rfl rfl 1 (nlt rfl) w5 (fun _ h9 => h9) rfl hin rfl (tyX1_ok 1 (nlt rfl)) rfl rfl (nlt rfl) dX1_init_9 (fun H locs hP hD hS => ?_)
  refine lv_aload_n hx hb dX1_init_12 rfl (lv_at hl 0 rfl) ?_
  refine lv_bipush (v := 6) hx hb dX1_init_13 z4 ?_
  refine my_newa (atype := .int) hx hb w3 (ty := .int) rfl hK hP hD hS hA 1 rfl (fun _ h => by cases h) (N' := 6) (a0 := (6, .inl (fun _ => 0))) (fun _ => rfl) z5 z6 z153 (by decide +kernel) (by decide +kernel) dX1_init_15 (fun q1 H hP hD hS => ?_)
  have hP : va_P (dC, dI) vwCl [(a0, .inr (1, [.int 0, .ref q0, .int 0, .null])), (q0, .inl (cI, 6, .inl (fun _ => 0))), (q1, .inl (cI, 6, .inl (fun _ => 0)))] H := hP
  have hD : va_D A [(a0, .inr (1, [.int 0, .ref q0, .int 0, .null])), (q0, .inl (cI, 6, .inl (fun _ => 0))), (q1, .inl (cI, 6, .inl (fun _ => 0)))] := hD
  refine va_putF (D := (dC, dI)) (ci := 1) (v := .ref q1) (ty := tyX1 3) (C := RX1) (T := TX1) (N := 4) hx hb hts i1 tyX1 tyX1_ok nmX1 hown hK hP hD hS 0 rfl rfl 3 (nlt rfl) w6 (fun _ h9 => h9) rfl hin rfl (tyX1_ok 3 (nlt rfl)) rfl rfl (nlt rfl) dX1_init_17 (fun H locs hP hD hS => ?_)
  refine W.widen (k := 2) (n := 12) (by decide +kernel) (by decide +kernel) ?_
  exact ret_v hx hb hr hlocks hS (u := (fun k => ([q0, q1] : List Nat).getD k 0)) (hP.sub [0, 1, 2] rfl) (hD.sub [0, 1, 2] (by decide +kernel) rfl) dX1_init_20

set_option maxHeartbeats 4000000 in
set_option maxRecDepth 100000 in
theorem k13_X5_init (l : Launch) (dC : Nat → ClassId) (dI : Nat → Nat → Nat) (cB cI cJ cZ cO : ClassId) (a0 : Nat) : CV l yX5_init wsX5_init ({ frames := 1, cells := 2, slots := 224, locals := 20 }) (dC, dI) (tyL cB cI cJ cZ cO) [.ref a0] [(a0, .inr (5, [.null, .null]))] (fun u => [(a0, .inr (5, [.ref (u 0), .ref (u 1)])), ((u 0), .inl (cJ, 112, .inr (.inl (fun _ => 0)))), ((u 1), .inl (cJ, 112, .inr (.inl (fun _ => 0))))]) := by
  intro sz
  refine ct_open (cc := cX5_init) (maxL := 1) (ret := none) (by decide) rfl (Nat.le_of_ble_eq_true rfl) ?_
  intro p e s m below meth c ls A hx hb hr hml hts hown hlocks hin hP hK hD hA hS hl
  have hl : lv_has ls 1 [(0, .ref a0)] := hl
  have hown : s.vm.findClass RX5 = some m.cls := hown
  have hin : meth.name = "<init>" := hin
  have w0 := hts (.methodLink RX5 3 objectInit) (List.mem_cons_of_mem _ (List.mem_append_left _ (List.mem_of_getElem? (i := 0) rfl)))
  have w1 := hts (.instanceMethod objectInit) (List.mem_cons_of_mem _ (List.mem_append_left _ (List.mem_of_getElem? (i := 1) rfl)))
  have w2 := hts (.code objectInit ⟨#[0xb1]⟩ 1 none) (List.mem_cons_of_mem _ (List.mem_append_left _ (List.mem_of_getElem? (i := 2) rfl)))
  have w3 := hts (.arrayClass .long) (List.mem_cons_of_mem _ (List.mem_append_left _ (List.mem_of_getElem? (i := 3) rfl)))
  have i5 : ∀ w ∈ u_ws RX5 TX5 2, w ∈ wsX5_init := fun _ h => List.mem_cons_of_mem _ (List.mem_append_right _ h)
  have w5 := hts (.fieldLink RX5 9 "GuildCharter$Reader" "columns" "[J") (List.mem_cons_of_mem _ (List.mem_append_left _ (List.mem_of_getElem? (i := 4) rfl)))
  have w6 := hts (.fieldLink RX5 15 "GuildCharter$Reader" "choices" "[J") (List.mem_cons_of_mem _ (List.mem_append_left _ (List.mem_of_getElem? (i := 5) rfl)))
  refine lv_aload_n hx hb dX5_init_0 rfl (lv_at hl 0 rfl) ?_
  refine W.objInit hx hb hown w0 w1 w2 rfl (by rw [hml]; exact hl.1) rfl dX5_init_1 (Nat.le_of_ble_eq_true rfl) (Nat.le_of_ble_eq_true rfl) ?_
  refine W.eq (g2 := F0 m 4 ls []) rfl ?_
  refine lv_aload_n hx hb dX5_init_4 rfl (lv_at hl 0 rfl) ?_
  refine lv_bipush (v := 112) hx hb dX5_init_5 z168 ?_
  refine my_newa (atype := .long) hx hb w3 (ty := .long) rfl hK hP hD hS hA 2 rfl (fun _ h => by cases h) (N' := 112) (a0 := (112, .inr (.inl (fun _ => 0)))) (fun _ => rfl) z169 z170 z171 (by decide +kernel) (by decide +kernel) dX5_init_7 (fun q0 H hP hD hS => ?_)
  refine va_putF (D := (dC, dI)) (ci := 5) (v := .ref q0) (ty := tyX5 0) (C := RX5) (T := TX5) (N := 2) hx hb hts i5 tyX5 tyX5_ok nmX5 hown hK hP hD hS 0 rfl rfl 0 (nlt rfl) w5 (fun _ h9 => h9) rfl hin rfl (tyX5_ok 0 (nlt rfl)) rfl rfl (nlt rfl) dX5_init_9 (fun H locs hP hD hS => ?_)
  refine lv_aload_n hx hb dX5_init_12 rfl (lv_at hl 0 rfl) ?_
  refine lv_bipush (v := 112) hx hb dX5_init_13 z168 ?_
  refine my_newa (atype := .long) hx hb w3 (ty := .long) rfl hK hP hD hS hA 2 rfl (fun _ h => by cases h) (N' := 112) (a0 := (112, .inr (.inl (fun _ => 0)))) (fun _ => rfl) z169 z170 z171 (by decide +kernel) (by decide +kernel) dX5_init_15 (fun q1 H hP hD hS => ?_)
  have hP : va_P (dC, dI) vwCl [(a0, .inr (5, [.ref q0, .null])), (q0, .inl (cJ, 112, .inr (.inl (fun _ => 0)))), (q1, .inl (cJ, 112, .inr (.inl (fun _ => 0))))] H := hP
  have hD : va_D A [(a0, .inr (5, [.ref q0, .null])), (q0, .inl (cJ, 112, .inr (.inl (fun _ => 0)))), (q1, .inl (cJ, 112, .inr (.inl (fun _ => 0))))] := hD
  refine va_putF (D := (dC, dI)) (ci := 5) (v := .ref q1) (ty := tyX5 1) (C := RX5) (T := TX5) (N := 2) hx hb hts i5 tyX5 tyX5_ok nmX5 hown hK hP hD hS 0 rfl rfl 1 (nlt rfl) w6 (fun _ h9 => h9) rfl hin rfl (tyX5_ok 1 (nlt rfl)) rfl rfl (nlt rfl) dX5_init_17 (fun H locs hP hD hS => ?_)
  refine W.widen (k := 2) (n := 224) (by decide +kernel) (by decide +kernel) ?_
  exact ret_v hx hb hr hlocks hS (u := (fun k => ([q0, q1] : List Nat).getD k 0)) (hP.sub [0, 1, 2] rfl) (hD.sub [0, 1, 2] (by decide +kernel) rfl) dX5_init_20

set_option maxHeartbeats 4000000 in
set_option maxRecDepth 100000 in
theorem k14_X7_init (l : Launch) (dC : Nat → ClassId) (dI : Nat → Nat → Nat) (cB cI cJ cZ cO : ClassId) (a0 : Nat) : CV l yX7_init wsX7_init ({ frames := 1, cells := 2, slots := 790, locals := 20 }) (dC, dI) (tyL cB cI cJ cZ cO) [.ref a0] [(a0, .inr (7, [.null, .int 0, .null]))] (fun u => [(a0, .inr (7, [.ref (u 0), .int 0, .ref (u 1)])), ((u 0), .inl (cI, 6, .inl (fun _ => 0))), ((u 1), .inl (cI, 784, .inl (fun _ => 0)))]) := by
  intro sz
  refine ct_open (cc := cX7_init) (maxL := 1) (ret := none) (by decide) rfl (Nat.le_of_ble_eq_true rfl) ?_
  intro p e s m below meth c ls A hx hb hr hml hts hown hlocks hin hP hK hD hA hS hl
  have hl : lv_has ls 1 [(0, .ref a0)] := hl
  have hown : s.vm.findClass RX7 = some m.cls := hown
  have hin : meth.name = "<init>" := hin
  have w0 := hts (.methodLink RX7 3 objectInit) (List.mem_cons_of_mem _ (List.mem_append_left _ (List.mem_of_getElem? (i := 0) rfl)))
  have w1 := hts (.instanceMethod objectInit) (List.mem_cons_of_mem _ (List.mem_append_left _ (List.mem_of_getElem? (i := 1) rfl)))
  have w2 := hts (.code objectInit ⟨#[0xb1]⟩ 1 none) (List.mem_cons_of_mem _ (List.mem_append_left _ (List.mem_of_getElem? (i := 2) rfl)))
  have w3 := hts (.arrayClass .int) (List.mem_cons_of_mem _ (List.mem_append_left _ (List.mem_of_getElem? (i := 3) rfl)))
  have i7 : ∀ w ∈ u_ws RX7 TX7 3, w ∈ wsX7_init := fun _ h => List.mem_cons_of_mem _ (List.mem_append_right _ h)
  have w5 := hts (.fieldLink RX7 9 "GuildCharter$Tally" "row" "[I") (List.mem_cons_of_mem _ (List.mem_append_left _ (List.mem_of_getElem? (i := 4) rfl)))
  have w6 := hts (.fieldLink RX7 15 "GuildCharter$Tally" "ways" "[I") (List.mem_cons_of_mem _ (List.mem_append_left _ (List.mem_of_getElem? (i := 5) rfl)))
  refine lv_aload_n hx hb dX7_init_0 rfl (lv_at hl 0 rfl) ?_
  refine W.objInit hx hb hown w0 w1 w2 rfl (by rw [hml]; exact hl.1) rfl dX7_init_1 (Nat.le_of_ble_eq_true rfl) (Nat.le_of_ble_eq_true rfl) ?_
  refine W.eq (g2 := F0 m 4 ls []) rfl ?_
  refine lv_aload_n hx hb dX7_init_4 rfl (lv_at hl 0 rfl) ?_
  refine lv_bipush (v := 6) hx hb dX7_init_5 z4 ?_
  refine my_newa (atype := .int) hx hb w3 (ty := .int) rfl hK hP hD hS hA 1 rfl (fun _ h => by cases h) (N' := 6) (a0 := (6, .inl (fun _ => 0))) (fun _ => rfl) z5 z6 z153 (by decide +kernel) (by decide +kernel) dX7_init_7 (fun q0 H hP hD hS => ?_)
  refine va_putF (D := (dC, dI)) (ci := 7) (v := .ref q0) (ty := tyX7 0) (C := RX7) (T := TX7) (N := 3) hx hb hts i7 tyX7 tyX7_ok nmX7 hown hK hP hD hS 0 rfl rfl 0 (nlt rfl) w5 (fun _ h9 => h9) rfl hin rfl (tyX7_ok 0 (nlt rfl)) rfl rfl (nlt rfl) dX7_init_9 (fun H locs hP hD hS => ?_)
  refine lv_aload_n hx hb dX7_init_12 rfl (lv_at hl 0 rfl) ?_
  refine lv_sipush (v := 784) hx hb dX7_init_13 z172 ?_
  refine my_newa (atype := .int) hx hb w3 (ty := .int) rfl hK hP hD hS hA 1 rfl (fun _ h => by cases h) (N' := 784) (a0 := (784, .inl (fun _ => 0))) (fun _ => rfl) z173 z174 z175 (by decide +kernel) (by decide +kernel) dX7_init_16 (fun q1 H hP hD hS => ?_)
  have hP : va_P (dC, dI) vwCl [(a0, .inr (7, [.ref q0, .int 0, .null])), (q0, .inl (cI, 6, .inl (fun _ => 0))), (q1, .inl (cI, 784, .inl (fun _ => 0)))] H := hP
  have hD : va_D A [(a0, .inr (7, [.ref q0, .int 0, .null])), (q0, .inl (cI, 6, .inl (fun _ => 0))), (q1, .inl (cI, 784, .inl (fun _ => 0)))] := hD
  refine va_putF (D := (dC, dI)) (ci := 7) (v := .ref q1) (ty := tyX7 2) (C := RX7) (T := TX7) (N := 3) hx hb hts i7 tyX7 tyX7_ok nmX7 hown hK hP hD hS 0 rfl rfl 2 (nlt rfl) w6 (fun _ h9 => h9) rfl hin rfl (tyX7_ok 2 (nlt rfl)) rfl rfl (nlt rfl) dX7_init_18 (fun H locs hP hD hS => ?_)
  refine W.widen (k := 2) (n := 790) (by decide +kernel) (by decide +kernel) ?_
  exact ret_v hx hb hr hlocks hS (u := (fun k => ([q0, q1] : List Nat).getD k 0)) (hP.sub [0, 1, 2] rfl) (hD.sub [0, 1, 2] (by decide +kernel) rfl) dX7_init_21

set_option maxHeartbeats 4000000 in
set_option maxRecDepth 100000 in
theorem k15_X3_init (l : Launch) (dC : Nat → ClassId) (dI : Nat → Nat → Nat) (cB cI cJ cZ cO : ClassId) (a0 : Nat) : CV l yX3_init wsX3_init ({ frames := 1, cells := 3, slots := 3012, locals := 20 }) (dC, dI) (tyL cB cI cJ cZ cO) [.ref a0] [(a0, .inr (3, [.null, .null, .null, .int 0, .int 0, .int 0, .int 0, .int 0, .int 0]))] (fun u => [(a0, .inr (3, [.ref (u 0), .ref (u 1), .ref (u 2), .int 0, .int (-1), .int 0, .int 0, .int 0, .int 0])), ((u 0), .inl (cI, 6, .inl (fun _ => 0))), ((u 1), .inl (cI, 3000, .inl (fun _ => 0))), ((u 2), .inl (cI, 6, .inl (fun _ => 0)))]) := by
  intro sz
  refine ct_open (cc := cX3_init) (maxL := 1) (ret := none) (by decide) rfl (Nat.le_of_ble_eq_true rfl) ?_
  intro p e s m below meth c ls A hx hb hr hml hts hown hlocks hin hP hK hD hA hS hl
  have hl : lv_has ls 1 [(0, .ref a0)] := hl
  have hown : s.vm.findClass RX3 = some m.cls := hown
  have hin : meth.name = "<init>" := hin
  have w0 := hts (.methodLink RX3 3 objectInit) (List.mem_cons_of_mem _ (List.mem_append_left _ (List.mem_of_getElem? (i := 0) rfl)))
  have w1 := hts (.instanceMethod objectInit) (List.mem_cons_of_mem _ (List.mem_append_left _ (List.mem_of_getElem? (i := 1) rfl)))
  have w2 := hts (.code objectInit ⟨#[0xb1]⟩ 1 none) (List.mem_cons_of_mem _ (List.mem_append_left _ (List.mem_of_getElem? (i := 2) rfl)))
  have w3 := hts (.arrayClass .int) (List.mem_cons_of_mem _ (List.mem_append_left _ (List.mem_of_getElem? (i := 3) rfl)))
  have i3 : ∀ w ∈ u_ws RX3 TX3 9, w ∈ wsX3_init := fun _ h => List.mem_cons_of_mem _ (List.mem_append_right _ h)
  have w5 := hts (.fieldLink RX3 9 "GuildCharter$Play" "owners" "[I") (List.mem_cons_of_mem _ (List.mem_append_left _ (List.mem_of_getElem? (i := 4) rfl)))
  have w6 := hts (.fieldLink RX3 15 "GuildCharter$Play" "results" "[I") (List.mem_cons_of_mem _ (List.mem_append_left _ (List.mem_of_getElem? (i := 5) rfl)))
  have w7 := hts (.fieldLink RX3 18 "GuildCharter$Play" "lotEnds" "[I") (List.mem_cons_of_mem _ (List.mem_append_left _ (List.mem_of_getElem? (i := 6) rfl)))
  have w8 := hts (.fieldLink RX3 21 "GuildCharter$Play" "bribed" "I") (List.mem_cons_of_mem _ (List.mem_append_left _ (List.mem_of_getElem? (i := 7) rfl)))
  refine lv_aload_n hx hb dX3_init_0 rfl (lv_at hl 0 rfl) ?_
  refine W.objInit hx hb hown w0 w1 w2 rfl (by rw [hml]; exact hl.1) rfl dX3_init_1 (Nat.le_of_ble_eq_true rfl) (Nat.le_of_ble_eq_true rfl) ?_
  refine W.eq (g2 := F0 m 4 ls []) rfl ?_
  refine lv_aload_n hx hb dX3_init_4 rfl (lv_at hl 0 rfl) ?_
  refine lv_bipush (v := 6) hx hb dX3_init_5 z4 ?_
  refine my_newa (atype := .int) hx hb w3 (ty := .int) rfl hK hP hD hS hA 1 rfl (fun _ h => by cases h) (N' := 6) (a0 := (6, .inl (fun _ => 0))) (fun _ => rfl) z5 z6 z153 (by decide +kernel) (by decide +kernel) dX3_init_7 (fun q0 H hP hD hS => ?_)
  refine va_putF (D := (dC, dI)) (ci := 3) (v := .ref q0) (ty := tyX3 0) (C := RX3) (T := TX3) (N := 9) hx hb hts i3 tyX3 tyX3_ok nmX3 hown hK hP hD hS 0 rfl rfl 0 (nlt rfl) w5 (fun _ h9 => h9) rfl hin rfl (tyX3_ok 0 (nlt rfl)) rfl rfl (nlt rfl) dX3_init_9 (fun H locs hP hD hS => ?_)
  refine lv_aload_n hx hb dX3_init_12 rfl (lv_at hl 0 rfl) ?_
  refine lv_sipush (v := 3000) hx hb dX3_init_13 z176 ?_
  refine my_newa (atype := .int) hx hb w3 (ty := .int) rfl hK hP hD hS hA 1 rfl (fun _ h => by cases h) (N' := 3000) (a0 := (3000, .inl (fun _ => 0))) (fun _ => rfl) z177 z178 z179 (by decide +kernel) (by decide +kernel) dX3_init_16 (fun q1 H hP hD hS => ?_)
  have hP : va_P (dC, dI) vwCl [(a0, .inr (3, [.ref q0, .null, .null, .int 0, .int 0, .int 0, .int 0, .int 0, .int 0])), (q0, .inl (cI, 6, .inl (fun _ => 0))), (q1, .inl (cI, 3000, .inl (fun _ => 0)))] H := hP
  have hD : va_D A [(a0, .inr (3, [.ref q0, .null, .null, .int 0, .int 0, .int 0, .int 0, .int 0, .int 0])), (q0, .inl (cI, 6, .inl (fun _ => 0))), (q1, .inl (cI, 3000, .inl (fun _ => 0)))] := hD
  refine va_putF (D := (dC, dI)) (ci := 3) (v := .ref q1) (ty := tyX3 1) (C := RX3) (T := TX3) (N := 9) hx hb hts i3 tyX3 tyX3_ok nmX3 hown hK hP hD hS 0 rfl rfl 1 (nlt rfl) w6 (fun _ h9 => h9) rfl hin rfl (tyX3_ok 1 (nlt rfl)) rfl rfl (nlt rfl) dX3_init_18 (fun H locs hP hD hS => ?_)
  refine lv_aload_n hx hb dX3_init_21 rfl (lv_at hl 0 rfl) ?_
  refine lv_bipush (v := 6) hx hb dX3_init_22 z4 ?_
  refine my_newa (atype := .int) hx hb w3 (ty := .int) rfl hK hP hD hS hA 1 rfl (fun _ h => by cases h) (N' := 6) (a0 := (6, .inl (fun _ => 0))) (fun _ => rfl) z5 z6 z153 (by decide +kernel) (by decide +kernel) dX3_init_24 (fun q2 H hP hD hS => ?_)
  refine va_putF (D := (dC, dI)) (ci := 3) (v := .ref q2) (ty := tyX3 2) (C := RX3) (T := TX3) (N := 9) hx hb hts i3 tyX3 tyX3_ok nmX3 hown hK hP hD hS 0 rfl rfl 2 (nlt rfl) w7 (fun _ h9 => h9) rfl hin rfl (tyX3_ok 2 (nlt rfl)) rfl rfl (nlt rfl) dX3_init_26 (fun H locs hP hD hS => ?_)
  have hP : va_P (dC, dI) vwCl [(a0, .inr (3, [.ref q0, .ref q1, .ref q2, .int 0, .int 0, .int 0, .int 0, .int 0, .int 0])), (q0, .inl (cI, 6, .inl (fun _ => 0))), (q1, .inl (cI, 3000, .inl (fun _ => 0))), (q2, .inl (cI, 6, .inl (fun _ => 0)))] H := hP
  have hD : va_D A [(a0, .inr (3, [.ref q0, .ref q1, .ref q2, .int 0, .int 0, .int 0, .int 0, .int 0, .int 0])), (q0, .inl (cI, 6, .inl (fun _ => 0))), (q1, .inl (cI, 3000, .inl (fun _ => 0))), (q2, .inl (cI, 6, .inl (fun _ => 0)))] := hD
  refine lv_aload_n hx hb dX3_init_29 rfl (lv_at hl 0 rfl) ?_
  refine lv_iconst (v := (-1)) hx hb dX3_init_30 z128 ?_
  refine va_put (D := (dC, dI)) (ci := 3) (v := .int (-1)) (ty := tyX3 4) (C := RX3) (T := TX3) (N := 9) hx hb hts i3 tyX3 tyX3_ok nmX3 hown hK hP hD hS 0 rfl rfl 4 (nlt rfl) w8 (fun _ h9 => h9) rfl (tyX3_ok 4 (nlt rfl)) rfl rfl (nlt rfl) dX3_init_31 (fun H locs hP hD hS => ?_)
  refine W.widen (k := 3) (n := 3012) (by decide +kernel) (by decide +kernel) ?_
  exact ret_v hx hb hr hlocks hS (u := (fun k => ([q0, q1, q2] : List Nat).getD k 0)) (hP.sub [0, 1, 2, 3] rfl) (hD.sub [0, 1, 2, 3] (by decide +kernel) rfl) dX3_init_34

set_option maxHeartbeats 4000000 in
set_option maxRecDepth 100000 in
theorem k16_X9_init (l : Launch) (dC : Nat → ClassId) (dI : Nat → Nat → Nat) (cB cI cJ cZ cO : ClassId) (a0 : Nat) : CV l yX9_init wsX9_init ({ frames := 1, cells := 4, slots := 18000, locals := 20 }) (dC, dI) (tyL cB cI cJ cZ cO) [.ref a0] [(a0, .inr (9, [.int 0, .int 0, .null, .null, .null, .null, .int 0, .int 0, .int 0, .int 0, .int 0]))] (fun u => [(a0, .inr (9, [.int 0, .int 0, .ref (u 0), .ref (u 1), .ref (u 2), .ref (u 3), .int 0, .int 0, .int 0, .int 0, .int 0])), ((u 0), .inl (cI, 3000, .inl (fun _ => 0))), ((u 1), .inl (cI, 3000, .inl (fun _ => 0))), ((u 2), .inl (cI, 9000, .inl (fun _ => 0))), ((u 3), .inl (cI, 3000, .inl (fun _ => 0)))]) := by
  intro sz
  refine ct_open (cc := cX9_init) (maxL := 1) (ret := none) (by decide) rfl (Nat.le_of_ble_eq_true rfl) ?_
  intro p e s m below meth c ls A hx hb hr hml hts hown hlocks hin hP hK hD hA hS hl
  have hl : lv_has ls 1 [(0, .ref a0)] := hl
  have hown : s.vm.findClass RX9 = some m.cls := hown
  have hin : meth.name = "<init>" := hin
  have w0 := hts (.methodLink RX9 3 objectInit) (List.mem_cons_of_mem _ (List.mem_append_left _ (List.mem_of_getElem? (i := 0) rfl)))
  have w1 := hts (.instanceMethod objectInit) (List.mem_cons_of_mem _ (List.mem_append_left _ (List.mem_of_getElem? (i := 1) rfl)))
  have w2 := hts (.code objectInit ⟨#[0xb1]⟩ 1 none) (List.mem_cons_of_mem _ (List.mem_append_left _ (List.mem_of_getElem? (i := 2) rfl)))
  have w3 := hts (.arrayClass .int) (List.mem_cons_of_mem _ (List.mem_append_left _ (List.mem_of_getElem? (i := 3) rfl)))
  have i9 : ∀ w ∈ u_ws RX9 TX9 11, w ∈ wsX9_init := fun _ h => List.mem_cons_of_mem _ (List.mem_append_right _ h)
  have w5 := hts (.fieldLink RX9 9 "GuildCharter$Tree" "parents" "[I") (List.mem_cons_of_mem _ (List.mem_append_left _ (List.mem_of_getElem? (i := 4) rfl)))
  have w6 := hts (.fieldLink RX9 15 "GuildCharter$Tree" "depths" "[I") (List.mem_cons_of_mem _ (List.mem_append_left _ (List.mem_of_getElem? (i := 5) rfl)))
  have w7 := hts (.fieldLink RX9 18 "GuildCharter$Tree" "meanings" "[I") (List.mem_cons_of_mem _ (List.mem_append_left _ (List.mem_of_getElem? (i := 6) rfl)))
  have w8 := hts (.fieldLink RX9 21 "GuildCharter$Tree" "rows" "[I") (List.mem_cons_of_mem _ (List.mem_append_left _ (List.mem_of_getElem? (i := 7) rfl)))
  refine lv_aload_n hx hb dX9_init_0 rfl (lv_at hl 0 rfl) ?_
  refine W.objInit hx hb hown w0 w1 w2 rfl (by rw [hml]; exact hl.1) rfl dX9_init_1 (Nat.le_of_ble_eq_true rfl) (Nat.le_of_ble_eq_true rfl) ?_
  refine W.eq (g2 := F0 m 4 ls []) rfl ?_
  refine lv_aload_n hx hb dX9_init_4 rfl (lv_at hl 0 rfl) ?_
  refine lv_sipush (v := 3000) hx hb dX9_init_5 z176 ?_
  refine my_newa (atype := .int) hx hb w3 (ty := .int) rfl hK hP hD hS hA 1 rfl (fun _ h => by cases h) (N' := 3000) (a0 := (3000, .inl (fun _ => 0))) (fun _ => rfl) z177 z178 z179 (by decide +kernel) (by decide +kernel) dX9_init_8 (fun q0 H hP hD hS => ?_)
  refine va_putF (D := (dC, dI)) (ci := 9) (v := .ref q0) (ty := tyX9 2) (C := RX9) (T := TX9) (N := 11) hx hb hts i9 tyX9 tyX9_ok nmX9 hown hK hP hD hS 0 rfl rfl 2 (nlt rfl) w5 (fun _ h9 => h9) rfl hin rfl (tyX9_ok 2 (nlt rfl)) rfl rfl (nlt rfl) dX9_init_10 (fun H locs hP hD hS => ?_)
  refine lv_aload_n hx hb dX9_init_13 rfl (lv_at hl 0 rfl) ?_
  refine lv_sipush (v := 3000) hx hb dX9_init_14 z176 ?_
  refine my_newa (atype := .int) hx hb w3 (ty := .int) rfl hK hP hD hS hA 1 rfl (fun _ h => by cases h) (N' := 3000) (a0 := (3000, .inl (fun _ => 0))) (fun _ => rfl) z177 z178 z179 (by decide +kernel) (by decide +kernel) dX9_init_17 (fun q1 H hP hD hS => ?_)
  have hP : va_P (dC, dI) vwCl [(a0, .inr (9, [.int 0, .int 0, .ref q0, .null, .null, .null, .int 0, .int 0, .int 0, .int 0, .int 0])), (q0, .inl (cI, 3000, .inl (fun _ => 0))), (q1, .inl (cI, 3000, .inl (fun _ => 0)))] H := hP
  have hD : va_D A [(a0, .inr (9, [.int 0, .int 0, .ref q0, .null, .null, .null, .int 0, .int 0, .int 0, .int 0, .int 0])), (q0, .inl (cI, 3000, .inl (fun _ => 0))), (q1, .inl (cI, 3000, .inl (fun _ => 0)))] := hD
  refine va_putF (D := (dC, dI)) (ci := 9) (v := .ref q1) (ty := tyX9 3) (C := RX9) (T := TX9) (N := 11) hx hb hts i9 tyX9 tyX9_ok nmX9 hown hK hP hD hS 0 rfl rfl 3 (nlt rfl) w6 (fun _ h9 => h9) rfl hin rfl (tyX9_ok 3 (nlt rfl)) rfl rfl (nlt rfl) dX9_init_19 (fun H locs hP hD hS => ?_)
  refine lv_aload_n hx hb dX9_init_22 rfl (lv_at hl 0 rfl) ?_
  refine lv_sipush (v := 9000) hx hb dX9_init_23 z180 ?_
  refine my_newa (atype := .int) hx hb w3 (ty := .int) rfl hK hP hD hS hA 1 rfl (fun _ h => by cases h) (N' := 9000) (a0 := (9000, .inl (fun _ => 0))) (fun _ => rfl) z181 z182 z183 (by decide +kernel) (by decide +kernel) dX9_init_26 (fun q2 H hP hD hS => ?_)
  refine va_putF (D := (dC, dI)) (ci := 9) (v := .ref q2) (ty := tyX9 4) (C := RX9) (T := TX9) (N := 11) hx hb hts i9 tyX9 tyX9_ok nmX9 hown hK hP hD hS 0 rfl rfl 4 (nlt rfl) w7 (fun _ h9 => h9) rfl hin rfl (tyX9_ok 4 (nlt rfl)) rfl rfl (nlt rfl) dX9_init_28 (fun H locs hP hD hS => ?_)
  have hP : va_P (dC, dI) vwCl [(a0, .inr (9, [.int 0, .int 0, .ref q0, .ref q1, .ref q2, .null, .int 0, .int 0, .int 0, .int 0, .int 0])), (q0, .inl (cI, 3000, .inl (fun _ => 0))), (q1, .inl (cI, 3000, .inl (fun _ => 0))), (q2, .inl (cI, 9000, .inl (fun _ => 0)))] H := hP
  have hD : va_D A [(a0, .inr (9, [.int 0, .int 0, .ref q0, .ref q1, .ref q2, .null, .int 0, .int 0, .int 0, .int 0, .int 0])), (q0, .inl (cI, 3000, .inl (fun _ => 0))), (q1, .inl (cI, 3000, .inl (fun _ => 0))), (q2, .inl (cI, 9000, .inl (fun _ => 0)))] := hD
  refine lv_aload_n hx hb dX9_init_31 rfl (lv_at hl 0 rfl) ?_
  refine lv_sipush (v := 3000) hx hb dX9_init_32 z176 ?_
  refine my_newa (atype := .int) hx hb w3 (ty := .int) rfl hK hP hD hS hA 1 rfl (fun _ h => by cases h) (N' := 3000) (a0 := (3000, .inl (fun _ => 0))) (fun _ => rfl) z177 z178 z179 (by decide +kernel) (by decide +kernel) dX9_init_35 (fun q3 H hP hD hS => ?_)
  refine va_putF (D := (dC, dI)) (ci := 9) (v := .ref q3) (ty := tyX9 5) (C := RX9) (T := TX9) (N := 11) hx hb hts i9 tyX9 tyX9_ok nmX9 hown hK hP hD hS 0 rfl rfl 5 (nlt rfl) w8 (fun _ h9 => h9) rfl hin rfl (tyX9_ok 5 (nlt rfl)) rfl rfl (nlt rfl) dX9_init_37 (fun H locs hP hD hS => ?_)
  refine W.widen (k := 4) (n := 18000) (by decide +kernel) (by decide +kernel) ?_
  exact ret_v hx hb hr hlocks hS (u := (fun k => ([q0, q1, q2, q3] : List Nat).getD k 0)) (hP.sub [0, 1, 2, 3, 4] rfl) (hD.sub [0, 1, 2, 3, 4] (by decide +kernel) rfl) dX9_init_40

set_option maxHeartbeats 4000000 in
set_option maxRecDepth 100000 in
theorem k17_X6_init (l : Launch) (dC : Nat → ClassId) (dI : Nat → Nat → Nat) (cB cI cJ cZ cO : ClassId) (a0 : Nat) : CV l yX6_init wsX6_init ({ frames := 1, cells := 5, slots := 150, locals := 20 }) (dC, dI) (tyL cB cI cJ cZ cO) [.ref a0] [(a0, .inr (6, [.int 0, .int 0, .null, .null, .null, .null, .null]))] (fun u => [(a0, .inr (6, [.int 0, .int 0, .ref (u 0), .ref (u 1), .ref (u 2), .ref (u 3), .ref (u 4)])), ((u 0), .inl (cI, 30, .inl (fun _ => 0))), ((u 1), .inl (cI, 30, .inl (fun _ => 0))), ((u 2), .inl (cZ, 30, .inl (fun _ => 0))), ((u 3), .inl (cI, 30, .inl (fun _ => 0))), ((u 4), .inl (cI, 30, .inl (fun _ => 0)))]) := by
  intro sz
  refine ct_open (cc := cX6_init) (maxL := 1) (ret := none) (by decide) rfl (Nat.le_of_ble_eq_true rfl) ?_
  intro p e s m below meth c ls A hx hb hr hml hts hown hlocks hin hP hK hD hA hS hl
  have hl : lv_has ls 1 [(0, .ref a0)] := hl
  have hown : s.vm.findClass RX6 = some m.cls := hown
  have hin : meth.name = "<init>" := hin
  have w0 := hts (.methodLink RX6 3 objectInit) (List.mem_cons_of_mem _ (List.mem_append_left _ (List.mem_of_getElem? (i := 0) rfl)))
  have w1 := hts (.instanceMethod objectInit) (List.mem_cons_of_mem _ (List.mem_append_left _ (List.mem_of_getElem? (i := 1) rfl)))
  have w2 := hts (.code objectInit ⟨#[0xb1]⟩ 1 none) (List.mem_cons_of_mem _ (List.mem_append_left _ (List.mem_of_getElem? (i := 2) rfl)))
  have w3 := hts (.arrayClass .int) (List.mem_cons_of_mem _ (List.mem_append_left _ (List.mem_of_getElem? (i := 3) rfl)))
  have i6 : ∀ w ∈ u_ws RX6 TX6 7, w ∈ wsX6_init := fun _ h => List.mem_cons_of_mem _ (List.mem_append_right _ h)
  have w5 := hts (.fieldLink RX6 9 "GuildCharter$Sightings" "places" "[I") (List.mem_cons_of_mem _ (List.mem_append_left _ (List.mem_of_getElem? (i := 4) rfl)))
  have w6 := hts (.fieldLink RX6 15 "GuildCharter$Sightings" "words" "[I") (List.mem_cons_of_mem _ (List.mem_append_left _ (List.mem_of_getElem? (i := 5) rfl)))
  have w7 := hts (.arrayClass .boolean) (List.mem_cons_of_mem _ (List.mem_append_left _ (List.mem_of_getElem? (i := 6) rfl)))
  have w8 := hts (.fieldLink RX6 18 "GuildCharter$Sightings" "stoods" "[Z") (List.mem_cons_of_mem _ (List.mem_append_left _ (List.mem_of_getElem? (i := 7) rfl)))
  have w9 := hts (.fieldLink RX6 22 "GuildCharter$Sightings" "toldAt" "[I") (List.mem_cons_of_mem _ (List.mem_append_left _ (List.mem_of_getElem? (i := 8) rfl)))
  have w10 := hts (.fieldLink RX6 25 "GuildCharter$Sightings" "untoldAt" "[I") (List.mem_cons_of_mem _ (List.mem_append_left _ (List.mem_of_getElem? (i := 9) rfl)))
  refine lv_aload_n hx hb dX6_init_0 rfl (lv_at hl 0 rfl) ?_
  refine W.objInit hx hb hown w0 w1 w2 rfl (by rw [hml]; exact hl.1) rfl dX6_init_1 (Nat.le_of_ble_eq_true rfl) (Nat.le_of_ble_eq_true rfl) ?_
  refine W.eq (g2 := F0 m 4 ls []) rfl ?_
  refine lv_aload_n hx hb dX6_init_4 rfl (lv_at hl 0 rfl) ?_
  refine lv_bipush (v := 30) hx hb dX6_init_5 z184 ?_
  refine my_newa (atype := .int) hx hb w3 (ty := .int) rfl hK hP hD hS hA 1 rfl (fun _ h => by cases h) (N' := 30) (a0 := (30, .inl (fun _ => 0))) (fun _ => rfl) z185 z186 z187 (by decide +kernel) (by decide +kernel) dX6_init_7 (fun q0 H hP hD hS => ?_)
  refine va_putF (D := (dC, dI)) (ci := 6) (v := .ref q0) (ty := tyX6 2) (C := RX6) (T := TX6) (N := 7) hx hb hts i6 tyX6 tyX6_ok nmX6 hown hK hP hD hS 0 rfl rfl 2 (nlt rfl) w5 (fun _ h9 => h9) rfl hin rfl (tyX6_ok 2 (nlt rfl)) rfl rfl (nlt rfl) dX6_init_9 (fun H locs hP hD hS => ?_)
  refine lv_aload_n hx hb dX6_init_12 rfl (lv_at hl 0 rfl) ?_
  refine lv_bipush (v := 30) hx hb dX6_init_13 z184 ?_
  refine my_newa (atype := .int) hx hb w3 (ty := .int) rfl hK hP hD hS hA 1 rfl (fun _ h => by cases h) (N' := 30) (a0 := (30, .inl (fun _ => 0))) (fun _ => rfl) z185 z186 z187 (by decide +kernel) (by decide +kernel) dX6_init_15 (fun q1 H hP hD hS => ?_)
  have hP : va_P (dC, dI) vwCl [(a0, .inr (6, [.int 0, .int 0, .ref q0, .null, .null, .null, .null])), (q0, .inl (cI, 30, .inl (fun _ => 0))), (q1, .inl (cI, 30, .inl (fun _ => 0)))] H := hP
  have hD : va_D A [(a0, .inr (6, [.int 0, .int 0, .ref q0, .null, .null, .null, .null])), (q0, .inl (cI, 30, .inl (fun _ => 0))), (q1, .inl (cI, 30, .inl (fun _ => 0)))] := hD
  refine va_putF (D := (dC, dI)) (ci := 6) (v := .ref q1) (ty := tyX6 3) (C := RX6) (T := TX6) (N := 7) hx hb hts i6 tyX6 tyX6_ok nmX6 hown hK hP hD hS 0 rfl rfl 3 (nlt rfl) w6 (fun _ h9 => h9) rfl hin rfl (tyX6_ok 3 (nlt rfl)) rfl rfl (nlt rfl) dX6_init_17 (fun H locs hP hD hS => ?_)
  refine lv_aload_n hx hb dX6_init_20 rfl (lv_at hl 0 rfl) ?_
  refine lv_bipush (v := 30) hx hb dX6_init_21 z184 ?_
  refine my_newa (atype := .boolean) hx hb w7 (ty := .boolean) rfl hK hP hD hS hA 3 rfl (fun _ h => by cases h) (N' := 30) (a0 := (30, .inl (fun _ => 0))) (fun _ => rfl) z185 z186 z188 (by decide +kernel) (by decide +kernel) dX6_init_23 (fun q2 H hP hD hS => ?_)
  refine va_putF (D := (dC, dI)) (ci := 6) (v := .ref q2) (ty := tyX6 4) (C := RX6) (T := TX6) (N := 7) hx hb hts i6 tyX6 tyX6_ok nmX6 hown hK hP hD hS 0 rfl rfl 4 (nlt rfl) w8 (fun _ h9 => h9) rfl hin rfl (tyX6_ok 4 (nlt rfl)) rfl rfl (nlt rfl) dX6_init_25 (fun H locs hP hD hS => ?_)
  have hP : va_P (dC, dI) vwCl [(a0, .inr (6, [.int 0, .int 0, .ref q0, .ref q1, .ref q2, .null, .null])), (q0, .inl (cI, 30, .inl (fun _ => 0))), (q1, .inl (cI, 30, .inl (fun _ => 0))), (q2, .inl (cZ, 30, .inl (fun _ => 0)))] H := hP
  have hD : va_D A [(a0, .inr (6, [.int 0, .int 0, .ref q0, .ref q1, .ref q2, .null, .null])), (q0, .inl (cI, 30, .inl (fun _ => 0))), (q1, .inl (cI, 30, .inl (fun _ => 0))), (q2, .inl (cZ, 30, .inl (fun _ => 0)))] := hD
  refine lv_aload_n hx hb dX6_init_28 rfl (lv_at hl 0 rfl) ?_
  refine lv_bipush (v := 30) hx hb dX6_init_29 z184 ?_
  refine my_newa (atype := .int) hx hb w3 (ty := .int) rfl hK hP hD hS hA 1 rfl (fun _ h => by cases h) (N' := 30) (a0 := (30, .inl (fun _ => 0))) (fun _ => rfl) z185 z186 z187 (by decide +kernel) (by decide +kernel) dX6_init_31 (fun q3 H hP hD hS => ?_)
  refine va_putF (D := (dC, dI)) (ci := 6) (v := .ref q3) (ty := tyX6 5) (C := RX6) (T := TX6) (N := 7) hx hb hts i6 tyX6 tyX6_ok nmX6 hown hK hP hD hS 0 rfl rfl 5 (nlt rfl) w9 (fun _ h9 => h9) rfl hin rfl (tyX6_ok 5 (nlt rfl)) rfl rfl (nlt rfl) dX6_init_33 (fun H locs hP hD hS => ?_)
  refine lv_aload_n hx hb dX6_init_36 rfl (lv_at hl 0 rfl) ?_
  refine lv_bipush (v := 30) hx hb dX6_init_37 z184 ?_
  refine my_newa (atype := .int) hx hb w3 (ty := .int) rfl hK hP hD hS hA 1 rfl (fun _ h => by cases h) (N' := 30) (a0 := (30, .inl (fun _ => 0))) (fun _ => rfl) z185 z186 z187 (by decide +kernel) (by decide +kernel) dX6_init_39 (fun q4 H hP hD hS => ?_)
  have hP : va_P (dC, dI) vwCl [(a0, .inr (6, [.int 0, .int 0, .ref q0, .ref q1, .ref q2, .ref q3, .null])), (q0, .inl (cI, 30, .inl (fun _ => 0))), (q1, .inl (cI, 30, .inl (fun _ => 0))), (q2, .inl (cZ, 30, .inl (fun _ => 0))), (q3, .inl (cI, 30, .inl (fun _ => 0))), (q4, .inl (cI, 30, .inl (fun _ => 0)))] H := hP
  have hD : va_D A [(a0, .inr (6, [.int 0, .int 0, .ref q0, .ref q1, .ref q2, .ref q3, .null])), (q0, .inl (cI, 30, .inl (fun _ => 0))), (q1, .inl (cI, 30, .inl (fun _ => 0))), (q2, .inl (cZ, 30, .inl (fun _ => 0))), (q3, .inl (cI, 30, .inl (fun _ => 0))), (q4, .inl (cI, 30, .inl (fun _ => 0)))] := hD
  refine va_putF (D := (dC, dI)) (ci := 6) (v := .ref q4) (ty := tyX6 6) (C := RX6) (T := TX6) (N := 7) hx hb hts i6 tyX6 tyX6_ok nmX6 hown hK hP hD hS 0 rfl rfl 6 (nlt rfl) w10 (fun _ h9 => h9) rfl hin rfl (tyX6_ok 6 (nlt rfl)) rfl rfl (nlt rfl) dX6_init_41 (fun H locs hP hD hS => ?_)
  refine W.widen (k := 5) (n := 150) (by decide +kernel) (by decide +kernel) ?_
  exact ret_v hx hb hr hlocks hS (u := (fun k => ([q0, q1, q2, q3, q4] : List Nat).getD k 0)) (hP.sub [0, 1, 2, 3, 4, 5] rfl) (hD.sub [0, 1, 2, 3, 4, 5] (by decide +kernel) rfl) dX6_init_44

set_option maxHeartbeats 4000000 in
set_option maxRecDepth 100000 in
theorem k18_X11_clearBank (l : Launch) (dC : Nat → ClassId) (dI : Nat → Nat → Nat) (cB cI cJ cZ cO : ClassId) (a0 : Nat) (a1 : Nat) (a10 : Nat) (a11 : Nat) (a12 : Nat) (a13 : Nat) (a14 : Nat) (a15 : Nat) (a16 : Nat) (a17 : Nat) (a18 : Nat) (a19 : Nat) (a2 : Nat) (a20 : Nat) (a21 : Nat) (a22 : Nat) (a23 : Nat) (a24 : Nat) (a25 : Nat) (a26 : Nat) (a27 : Nat) (a28 : Nat) (a29 : Nat) (a3 : Nat) (a30 : Nat) (a31 : Nat) (a32 : Nat) (a33 : Nat) (a34 : Nat) (a35 : Nat) (a36 : Nat) (a37 : Nat) (a38 : Nat) (a39 : Nat) (a4 : Nat) (a40 : Nat) (a41 : Nat) (a42 : Nat) (a43 : Nat) (a44 : Nat) (a45 : Nat) (a46 : Nat) (a5 : Nat) (a6 : Nat) (a7 : Nat) (a8 : Nat) (a9 : Nat) : CV l yX11_clearBank wsX11_clearBank ({ frames := 0, cells := 0, slots := 0, locals := 0 }) (dC, dI) (tyL cB cI cJ cZ cO) [.ref a0] [(a0, .inr (11, [.ref a1, .ref a2, .int 0, .int 0, .int 0, .int (-1), .int 0, .int 0, .int 0, .int 0, .long 0, .ref a3, .ref a4, .ref a5, .ref a6, .ref a7, .ref a8, .ref a9, .ref a10, .ref a11, .ref a12, .ref a13, .ref a14, .ref a15, .ref a16, .ref a17, .ref a18, .ref a19, .ref a20, .int 0, .int 0, .ref a21, .ref a22, .ref a23, .ref a24, .ref a25, .ref a26, .ref a27, .ref a28, .int 0, .ref a29, .ref a30, .int 0, .int 0, .ref a31, .ref a32, .ref a33, .ref a34, .int 0, .int 0, .int 0, .long 0, .ref a35, .ref a36, .int (-1), .int 0, .int 0, .int 0, .ref a37, .int 0, .ref a38, .ref a39, .ref a40, .ref a41, .ref a42, .ref a43, .int 0, .int 0, .ref a44, .ref a45, .ref a46])), (a3, .inl (cI, 2, .inl (fun _ => 0))), (a4, .inl (cI, 2, .inl (fun _ => 0))), (a5, .inl (cI, 2, .inl (fun _ => 0))), (a6, .inl (cI, 2, .inl (fun _ => 0))), (a7, .inl (cI, 2, .inl (fun _ => 0))), (a8, .inl (cI, 2, .inl (fun _ => 0))), (a17, .inl (cZ, 2, .inl (fun _ => 0))), (a16, .inl (cZ, 128, .inl (fun _ => 0)))] (fun u => [(a0, .inr (11, [.ref a1, .ref a2, .int 0, .int 0, .int 0, .int (-1), .int 0, .int 0, .int 0, .int 0, .long 0, .ref a3, .ref a4, .ref a5, .ref a6, .ref a7, .ref a8, .ref a9, .ref a10, .ref a11, .ref a12, .ref a13, .ref a14, .ref a15, .ref a16, .ref a17, .ref a18, .ref a19, .ref a20, .int 0, .int 0, .ref a21, .ref a22, .ref a23, .ref a24, .ref a25, .ref a26, .ref a27, .ref a28, .int 0, .ref a29, .ref a30, .int 0, .int 0, .ref a31, .ref a32, .ref a33, .ref a34, .int 0, .int 0, .int 0, .long 0, .ref a35, .ref a36, .int (-1), .int 0, .int 0, .int 0, .ref a37, .int 0, .ref a38, .ref a39, .ref a40, .ref a41, .ref a42, .ref a43, .int 0, .int 0, .ref a44, .ref a45, .ref a46])), (a3, .inl (cI, 2, .inl (fun _ => 0))), (a4, .inl (cI, 2, .inl (fun _ => 0))), (a5, .inl (cI, 2, .inl (fun _ => 0))), (a6, .inl (cI, 2, .inl (fun _ => 0))), (a7, .inl (cI, 2, .inl (upd (fun _ => 0) 0 3))), (a8, .inl (cI, 2, .inl (fun _ => 0))), (a17, .inl (cZ, 2, .inl (fun _ => 0))), (a16, .inl (cZ, 128, .inl (fun _ => 0)))]) := by
  intro sz
  refine ct_open (cc := cX11_clearBank) (maxL := 2) (ret := none) (by decide) rfl (Nat.le_of_ble_eq_true rfl) ?_
  intro p e s m below meth c ls A hx hb hr hml hts hown hlocks hin hP hK hD hA hS hl
  have hl : lv_has ls 2 [(0, .ref a0)] := hl
  have hown : s.vm.findClass RX11 = some m.cls := hown
  have i11 : ∀ w ∈ u_ws RX11 TX11 71, w ∈ wsX11_clearBank := fun _ h => List.mem_cons_of_mem _ (List.mem_append_right _ h)
  have w1 := hts (.fieldLink RX11 20 "GuildCharterModel" "words" "[I") (List.mem_cons_of_mem _ (List.mem_append_left _ (List.mem_of_getElem? (i := 0) rfl)))
  have w2 := hts (.fieldLink RX11 227 "GuildCharterModel" "rb" "I") (List.mem_cons_of_mem _ (List.mem_append_left _ (List.mem_of_getElem? (i := 1) rfl)))
  have w3 := hts (.fieldLink RX11 24 "GuildCharterModel" "pairs" "[I") (List.mem_cons_of_mem _ (List.mem_append_left _ (List.mem_of_getElem? (i := 2) rfl)))
  have w4 := hts (.fieldLink RX11 27 "GuildCharterModel" "rules" "[I") (List.mem_cons_of_mem _ (List.mem_append_left _ (List.mem_of_getElem? (i := 3) rfl)))
  have w5 := hts (.fieldLink RX11 30 "GuildCharterModel" "alts" "[I") (List.mem_cons_of_mem _ (List.mem_append_left _ (List.mem_of_getElem? (i := 4) rfl)))
  have w6 := hts (.fieldLink RX11 33 "GuildCharterModel" "length" "[I") (List.mem_cons_of_mem _ (List.mem_append_left _ (List.mem_of_getElem? (i := 5) rfl)))
  have w7 := hts (.fieldLink RX11 36 "GuildCharterModel" "turnMany" "[I") (List.mem_cons_of_mem _ (List.mem_append_left _ (List.mem_of_getElem? (i := 6) rfl)))
  have w8 := hts (.fieldLink RX11 64 "GuildCharterModel" "isLength" "[Z") (List.mem_cons_of_mem _ (List.mem_append_left _ (List.mem_of_getElem? (i := 7) rfl)))
  have w9 := hts (.fieldLink RX11 60 "GuildCharterModel" "isPair" "[Z") (List.mem_cons_of_mem _ (List.mem_append_left _ (List.mem_of_getElem? (i := 8) rfl)))
  refine lv_aload_n hx hb dX11_clearBank_0 rfl (lv_at hl 0 rfl) ?_
  refine va_get (D := (dC, dI)) (ci := 11) (v := .ref a3) (C := RX11) (T := TX11) (N := 71) hx hb hts i11 hown hK hP 0 rfl rfl 11 (nlt rfl) w1 (fun _ h9 => h9) rfl dX11_clearBank_1 ?_
  refine lv_aload_n hx hb dX11_clearBank_4 rfl (lv_at hl 0 rfl) ?_
  refine va_get (D := (dC, dI)) (ci := 11) (v := .int 0) (C := RX11) (T := TX11) (N := 71) hx hb hts i11 hown hK hP 0 rfl rfl 30 (nlt rfl) w2 (fun _ h9 => h9) rfl dX11_clearBank_5 ?_
  refine lv_iconst (v := 0) hx hb dX11_clearBank_8 z8 ?_
  refine my_iastS hx hb hK hP hD hS 1 1 rfl rfl z248 rfl dX11_clearBank_9 (fun H locs hP hD hS => ?_)
  refine lv_aload_n hx hb dX11_clearBank_10 rfl (lv_at hl 0 rfl) ?_
  refine va_get (D := (dC, dI)) (ci := 11) (v := .ref a4) (C := RX11) (T := TX11) (N := 71) hx hb hts i11 hown hK hP 0 rfl rfl 12 (nlt rfl) w3 (fun _ h9 => h9) rfl dX11_clearBank_11 ?_
  refine lv_aload_n hx hb dX11_clearBank_14 rfl (lv_at hl 0 rfl) ?_
  refine va_get (D := (dC, dI)) (ci := 11) (v := .int 0) (C := RX11) (T := TX11) (N := 71) hx hb hts i11 hown hK hP 0 rfl rfl 30 (nlt rfl) w2 (fun _ h9 => h9) rfl dX11_clearBank_15 ?_
  refine lv_iconst (v := 0) hx hb dX11_clearBank_18 z8 ?_
  refine my_iastS hx hb hK hP hD hS 2 1 rfl rfl z248 rfl dX11_clearBank_19 (fun H locs hP hD hS => ?_)
  refine lv_aload_n hx hb dX11_clearBank_20 rfl (lv_at hl 0 rfl) ?_
  refine va_get (D := (dC, dI)) (ci := 11) (v := .ref a5) (C := RX11) (T := TX11) (N := 71) hx hb hts i11 hown hK hP 0 rfl rfl 13 (nlt rfl) w4 (fun _ h9 => h9) rfl dX11_clearBank_21 ?_
  refine lv_aload_n hx hb dX11_clearBank_24 rfl (lv_at hl 0 rfl) ?_
  refine va_get (D := (dC, dI)) (ci := 11) (v := .int 0) (C := RX11) (T := TX11) (N := 71) hx hb hts i11 hown hK hP 0 rfl rfl 30 (nlt rfl) w2 (fun _ h9 => h9) rfl dX11_clearBank_25 ?_
  refine lv_iconst (v := 0) hx hb dX11_clearBank_28 z8 ?_
  refine my_iastS hx hb hK hP hD hS 3 1 rfl rfl z248 rfl dX11_clearBank_29 (fun H locs hP hD hS => ?_)
  refine lv_aload_n hx hb dX11_clearBank_30 rfl (lv_at hl 0 rfl) ?_
  refine va_get (D := (dC, dI)) (ci := 11) (v := .ref a6) (C := RX11) (T := TX11) (N := 71) hx hb hts i11 hown hK hP 0 rfl rfl 14 (nlt rfl) w5 (fun _ h9 => h9) rfl dX11_clearBank_31 ?_
  refine lv_aload_n hx hb dX11_clearBank_34 rfl (lv_at hl 0 rfl) ?_
  refine va_get (D := (dC, dI)) (ci := 11) (v := .int 0) (C := RX11) (T := TX11) (N := 71) hx hb hts i11 hown hK hP 0 rfl rfl 30 (nlt rfl) w2 (fun _ h9 => h9) rfl dX11_clearBank_35 ?_
  refine lv_iconst (v := 0) hx hb dX11_clearBank_38 z8 ?_
  refine my_iastS hx hb hK hP hD hS 4 1 rfl rfl z248 rfl dX11_clearBank_39 (fun H locs hP hD hS => ?_)
  refine lv_aload_n hx hb dX11_clearBank_40 rfl (lv_at hl 0 rfl) ?_
  refine va_get (D := (dC, dI)) (ci := 11) (v := .ref a7) (C := RX11) (T := TX11) (N := 71) hx hb hts i11 hown hK hP 0 rfl rfl 15 (nlt rfl) w6 (fun _ h9 => h9) rfl dX11_clearBank_41 ?_
  refine lv_aload_n hx hb dX11_clearBank_44 rfl (lv_at hl 0 rfl) ?_
  refine va_get (D := (dC, dI)) (ci := 11) (v := .int 0) (C := RX11) (T := TX11) (N := 71) hx hb hts i11 hown hK hP 0 rfl rfl 30 (nlt rfl) w2 (fun _ h9 => h9) rfl dX11_clearBank_45 ?_
  refine lv_iconst (v := 3) hx hb dX11_clearBank_48 z69 ?_
  refine my_iast hx hb hK hP hD hS 5 1 rfl rfl z248 dX11_clearBank_49 (fun H locs hP hD hS => ?_)
  refine lv_aload_n hx hb dX11_clearBank_50 rfl (lv_at hl 0 rfl) ?_
  refine va_get (D := (dC, dI)) (ci := 11) (v := .ref a8) (C := RX11) (T := TX11) (N := 71) hx hb hts i11 hown hK hP 0 rfl rfl 16 (nlt rfl) w7 (fun _ h9 => h9) rfl dX11_clearBank_51 ?_
  refine lv_aload_n hx hb dX11_clearBank_54 rfl (lv_at hl 0 rfl) ?_
  refine va_get (D := (dC, dI)) (ci := 11) (v := .int 0) (C := RX11) (T := TX11) (N := 71) hx hb hts i11 hown hK hP 0 rfl rfl 30 (nlt rfl) w2 (fun _ h9 => h9) rfl dX11_clearBank_55 ?_
  refine lv_iconst (v := 0) hx hb dX11_clearBank_58 z8 ?_
  refine my_iastS hx hb hK hP hD hS 6 1 rfl rfl z248 rfl dX11_clearBank_59 (fun H locs hP hD hS => ?_)
  refine lv_aload_n hx hb dX11_clearBank_60 rfl (lv_at hl 0 rfl) ?_
  refine va_get (D := (dC, dI)) (ci := 11) (v := .ref a17) (C := RX11) (T := TX11) (N := 71) hx hb hts i11 hown hK hP 0 rfl rfl 25 (nlt rfl) w8 (fun _ h9 => h9) rfl dX11_clearBank_61 ?_
  refine lv_aload_n hx hb dX11_clearBank_64 rfl (lv_at hl 0 rfl) ?_
  refine va_get (D := (dC, dI)) (ci := 11) (v := .int 0) (C := RX11) (T := TX11) (N := 71) hx hb hts i11 hown hK hP 0 rfl rfl 30 (nlt rfl) w2 (fun _ h9 => h9) rfl dX11_clearBank_65 ?_
  refine lv_iconst (v := 0) hx hb dX11_clearBank_68 z8 ?_
  refine my_zastS hx hb hK hP hD hS 7 3 rfl rfl z248 z249 rfl dX11_clearBank_69 (fun H locs hP hD hS => ?_)
  refine lv_bipush (v := 64) hx hb dX11_clearBank_70 z138 ?_
  refine lv_aload_n hx hb dX11_clearBank_72 rfl (lv_at hl 0 rfl) ?_
  refine va_get (D := (dC, dI)) (ci := 11) (v := .int 0) (C := RX11) (T := TX11) (N := 71) hx hb hts i11 hown hK hP 0 rfl rfl 30 (nlt rfl) w2 (fun _ h9 => h9) rfl dX11_clearBank_73 ?_
  refine lv_imul hx hb dX11_clearBank_76 ?_
  refine tpi z250 ?_
  refine lv_istore_n (lv' := [(1, .int 0), (0, .ref a0)]) hx hb dX11_clearBank_77 rfl hl (nlt rfl) rfl (fun ls hl => ?_)
  have loop : ∀ (Q : State → Prop), (∀ (H : Heap) (locs : List Loc) (ls : Array Slot), va_P (dC, dI) vwCl [(a0, .inr (11, [.ref a1, .ref a2, .int 0, .int 0, .int 0, .int (-1), .int 0, .int 0, .int 0, .int 0, .long 0, .ref a3, .ref a4, .ref a5, .ref a6, .ref a7, .ref a8, .ref a9, .ref a10, .ref a11, .ref a12, .ref a13, .ref a14, .ref a15, .ref a16, .ref a17, .ref a18, .ref a19, .ref a20, .int 0, .int 0, .ref a21, .ref a22, .ref a23, .ref a24, .ref a25, .ref a26, .ref a27, .ref a28, .int 0, .ref a29, .ref a30, .int 0, .int 0, .ref a31, .ref a32, .ref a33, .ref a34, .int 0, .int 0, .int 0, .long 0, .ref a35, .ref a36, .int (-1), .int 0, .int 0, .int 0, .ref a37, .int 0, .ref a38, .ref a39, .ref a40, .ref a41, .ref a42, .ref a43, .int 0, .int 0, .ref a44, .ref a45, .ref a46])), (a3, .inl (cI, 2, .inl (fun _ => 0))), (a4, .inl (cI, 2, .inl (fun _ => 0))), (a5, .inl (cI, 2, .inl (fun _ => 0))), (a6, .inl (cI, 2, .inl (fun _ => 0))), (a7, .inl (cI, 2, .inl (upd (fun _ => 0) 0 3))), (a8, .inl (cI, 2, .inl (fun _ => 0))), (a17, .inl (cZ, 2, .inl (fun _ => 0))), (a16, .inl (cZ, 128, .inl (fun _ => 0)))] H → va_D A [(a0, .inr (11, [.ref a1, .ref a2, .int 0, .int 0, .int 0, .int (-1), .int 0, .int 0, .int 0, .int 0, .long 0, .ref a3, .ref a4, .ref a5, .ref a6, .ref a7, .ref a8, .ref a9, .ref a10, .ref a11, .ref a12, .ref a13, .ref a14, .ref a15, .ref a16, .ref a17, .ref a18, .ref a19, .ref a20, .int 0, .int 0, .ref a21, .ref a22, .ref a23, .ref a24, .ref a25, .ref a26, .ref a27, .ref a28, .int 0, .ref a29, .ref a30, .int 0, .int 0, .ref a31, .ref a32, .ref a33, .ref a34, .int 0, .int 0, .int 0, .long 0, .ref a35, .ref a36, .int (-1), .int 0, .int 0, .int 0, .ref a37, .int 0, .ref a38, .ref a39, .ref a40, .ref a41, .ref a42, .ref a43, .int 0, .int 0, .ref a44, .ref a45, .ref a46])), (a3, .inl (cI, 2, .inl (fun _ => 0))), (a4, .inl (cI, 2, .inl (fun _ => 0))), (a5, .inl (cI, 2, .inl (fun _ => 0))), (a6, .inl (cI, 2, .inl (fun _ => 0))), (a7, .inl (cI, 2, .inl (upd (fun _ => 0) 0 3))), (a8, .inl (cI, 2, .inl (fun _ => 0))), (a17, .inl (cZ, 2, .inl (fun _ => 0))), (a16, .inl (cZ, 128, .inl (fun _ => 0)))] → va_S A s.heap H locs → lv_has ls 2 [(1, .int 64), (0, .ref a0)] → W p l e ({ frames := 0, cells := 0, slots := 0, locals := 0 } : Room) s m ([.ref a0] : List Value).toArray below meth c H locs 0 0 Q (F0 m 78 ls [])) → ∀ (k i : Nat), i + k = 64 → ∀ (H : Heap) (locs : List Loc) (ls : Array Slot), va_P (dC, dI) vwCl [(a0, .inr (11, [.ref a1, .ref a2, .int 0, .int 0, .int 0, .int (-1), .int 0, .int 0, .int 0, .int 0, .long 0, .ref a3, .ref a4, .ref a5, .ref a6, .ref a7, .ref a8, .ref a9, .ref a10, .ref a11, .ref a12, .ref a13, .ref a14, .ref a15, .ref a16, .ref a17, .ref a18, .ref a19, .ref a20, .int 0, .int 0, .ref a21, .ref a22, .ref a23, .ref a24, .ref a25, .ref a26, .ref a27, .ref a28, .int 0, .ref a29, .ref a30, .int 0, .int 0, .ref a31, .ref a32, .ref a33, .ref a34, .int 0, .int 0, .int 0, .long 0, .ref a35, .ref a36, .int (-1), .int 0, .int 0, .int 0, .ref a37, .int 0, .ref a38, .ref a39, .ref a40, .ref a41, .ref a42, .ref a43, .int 0, .int 0, .ref a44, .ref a45, .ref a46])), (a3, .inl (cI, 2, .inl (fun _ => 0))), (a4, .inl (cI, 2, .inl (fun _ => 0))), (a5, .inl (cI, 2, .inl (fun _ => 0))), (a6, .inl (cI, 2, .inl (fun _ => 0))), (a7, .inl (cI, 2, .inl (upd (fun _ => 0) 0 3))), (a8, .inl (cI, 2, .inl (fun _ => 0))), (a17, .inl (cZ, 2, .inl (fun _ => 0))), (a16, .inl (cZ, 128, .inl (fun _ => 0)))] H → va_D A [(a0, .inr (11, [.ref a1, .ref a2, .int 0, .int 0, .int 0, .int (-1), .int 0, .int 0, .int 0, .int 0, .long 0, .ref a3, .ref a4, .ref a5, .ref a6, .ref a7, .ref a8, .ref a9, .ref a10, .ref a11, .ref a12, .ref a13, .ref a14, .ref a15, .ref a16, .ref a17, .ref a18, .ref a19, .ref a20, .int 0, .int 0, .ref a21, .ref a22, .ref a23, .ref a24, .ref a25, .ref a26, .ref a27, .ref a28, .int 0, .ref a29, .ref a30, .int 0, .int 0, .ref a31, .ref a32, .ref a33, .ref a34, .int 0, .int 0, .int 0, .long 0, .ref a35, .ref a36, .int (-1), .int 0, .int 0, .int 0, .ref a37, .int 0, .ref a38, .ref a39, .ref a40, .ref a41, .ref a42, .ref a43, .int 0, .int 0, .ref a44, .ref a45, .ref a46])), (a3, .inl (cI, 2, .inl (fun _ => 0))), (a4, .inl (cI, 2, .inl (fun _ => 0))), (a5, .inl (cI, 2, .inl (fun _ => 0))), (a6, .inl (cI, 2, .inl (fun _ => 0))), (a7, .inl (cI, 2, .inl (upd (fun _ => 0) 0 3))), (a8, .inl (cI, 2, .inl (fun _ => 0))), (a17, .inl (cZ, 2, .inl (fun _ => 0))), (a16, .inl (cZ, 128, .inl (fun _ => 0)))] → va_S A s.heap H locs → lv_has ls 2 [(1, .int (nI i)), (0, .ref a0)] → W p l e ({ frames := 0, cells := 0, slots := 0, locals := 0 } : Room) s m ([.ref a0] : List Value).toArray below meth c H locs 0 0 Q (F0 m 78 ls []) := by
    intro Q hQ k
    induction k with
    | zero =>
      intro i hi H locs ls hP hD hS hl
      obtain rfl : i = 64 := by omega
      exact hQ H locs ls hP hD hS hl
    | succ k ih =>
      intro i hi H locs ls hP hD hS hl
      have hlt : i < 64 := by omega
      refine lv_iload_n hx hb dX11_clearBank_78 rfl (lv_at hl 0 rfl) ?_
      refine lv_bipush (v := 64) hx hb dX11_clearBank_79 z138 ?_
      refine lv_aload_n hx hb dX11_clearBank_81 rfl (lv_at hl 1 rfl) ?_
      refine va_get (D := (dC, dI)) (ci := 11) (v := .int 0) (C := RX11) (T := TX11) (N := 71) hx hb hts i11 hown hK hP 0 rfl rfl 30 (nlt rfl) w2 (fun _ h9 => h9) rfl dX11_clearBank_82 ?_
      refine lv_imul hx hb dX11_clearBank_85 ?_
      refine tpi z250 ?_
      refine lv_bipush (v := 64) hx hb dX11_clearBank_86 z138 ?_
      refine lv_iadd hx hb dX11_clearBank_88 ?_
      refine tpi z251 ?_
      refine lv_icmp_ge (tgt := 105) hx hb dX11_clearBank_89 z252 (fun c1 => absurd c1 (nI_ge hlt (by decide))) (fun _ => ?_)
      refine lv_aload_n hx hb dX11_clearBank_92 rfl (lv_at hl 1 rfl) ?_
      refine va_get (D := (dC, dI)) (ci := 11) (v := .ref a16) (C := RX11) (T := TX11) (N := 71) hx hb hts i11 hown hK hP 0 rfl rfl 24 (nlt rfl) w9 (fun _ h9 => h9) rfl dX11_clearBank_93 ?_
      refine lv_iload_n hx hb dX11_clearBank_96 rfl (lv_at hl 0 rfl) ?_
      refine lv_iconst (v := 0) hx hb dX11_clearBank_97 z8 ?_
      refine my_zastS hx hb hK hP hD hS 8 3 rfl rfl (ix_nI (n := 128) (by omega) (by decide)) z249 rfl dX11_clearBank_98 (fun H locs hP hD hS => ?_)
      refine lv_iinc (v := nI (i + 1)) (lv' := [(1, .int (nI (i + 1))), (0, .ref a0)]) hx hb dX11_clearBank_99 hl (k := 0) rfl (nI_1 i) (nlt rfl) rfl (fun ls hl => ?_)
      refine lv_goto (tgt := 78) hx hb dX11_clearBank_102 z253 ?_
      exact ih (i + 1) (by omega) H locs ls hP hD hS (lv_sub hl [0, 1] rfl)
  refine loop _ (fun H locs ls hP hD hS hl => ?_) 64 0 rfl H locs ls hP hD hS hl
  refine lv_iload_n hx hb dX11_clearBank_78 rfl (lv_at hl 0 rfl) ?_
  refine lv_bipush (v := 64) hx hb dX11_clearBank_79 z138 ?_
  refine lv_aload_n hx hb dX11_clearBank_81 rfl (lv_at hl 1 rfl) ?_
  refine va_get (D := (dC, dI)) (ci := 11) (v := .int 0) (C := RX11) (T := TX11) (N := 71) hx hb hts i11 hown hK hP 0 rfl rfl 30 (nlt rfl) w2 (fun _ h9 => h9) rfl dX11_clearBank_82 ?_
  refine lv_imul hx hb dX11_clearBank_85 ?_
  refine tpi z250 ?_
  refine lv_bipush (v := 64) hx hb dX11_clearBank_86 z138 ?_
  refine lv_iadd hx hb dX11_clearBank_88 ?_
  refine tpi z251 ?_
  refine lv_icmp_ge (tgt := 105) hx hb dX11_clearBank_89 z252 (fun _ => ?_) (fun c1 => absurd (z254) c1)
  refine W.widen (k := 0) (n := 0) (by decide +kernel) (by decide +kernel) ?_
  exact ret_v hx hb hr hlocks hS (u := (fun _ => 0)) (hP.sub [0, 1, 2, 3, 4, 5, 6, 7, 8] rfl) (hD.sub [0, 1, 2, 3, 4, 5, 6, 7, 8] (by decide +kernel) rfl) dX11_clearBank_105

set_option maxHeartbeats 4000000 in
set_option maxRecDepth 100000 in
theorem k19_X11_toldTurn (l : Launch) (dC : Nat → ClassId) (dI : Nat → Nat → Nat) (cB cI cJ cZ cO : ClassId) (a0 : Nat) (a1 : Nat) (a10 : Nat) (a11 : Nat) (a12 : Nat) (a13 : Nat) (a14 : Nat) (a15 : Nat) (a16 : Nat) (a17 : Nat) (a18 : Nat) (a19 : Nat) (a2 : Nat) (a20 : Nat) (a21 : Nat) (a22 : Nat) (a23 : Nat) (a24 : Nat) (a25 : Nat) (a26 : Nat) (a27 : Nat) (a28 : Nat) (a29 : Nat) (a3 : Nat) (a30 : Nat) (a31 : Nat) (a32 : Nat) (a33 : Nat) (a34 : Nat) (a35 : Nat) (a36 : Nat) (a37 : Nat) (a38 : Nat) (a39 : Nat) (a4 : Nat) (a40 : Nat) (a41 : Nat) (a42 : Nat) (a43 : Nat) (a44 : Nat) (a45 : Nat) (a46 : Nat) (a5 : Nat) (a6 : Nat) (a7 : Nat) (a8 : Nat) (a9 : Nat) : CI l yX11_toldTurn wsX11_toldTurn ({ frames := 0, cells := 0, slots := 0, locals := 0 }) (dC, dI) (tyL cB cI cJ cZ cO) [.ref a0, .int 0] [(a0, .inr (11, [.ref a1, .ref a2, .int 0, .int 0, .int 0, .int (-1), .int 0, .int 0, .int 0, .int 0, .long 0, .ref a3, .ref a4, .ref a5, .ref a6, .ref a7, .ref a8, .ref a9, .ref a10, .ref a11, .ref a12, .ref a13, .ref a14, .ref a15, .ref a16, .ref a17, .ref a18, .ref a19, .ref a20, .int 0, .int 0, .ref a21, .ref a22, .ref a23, .ref a24, .ref a25, .ref a26, .ref a27, .ref a28, .int 0, .ref a29, .ref a30, .int 0, .int 0, .ref a31, .ref a32, .ref a33, .ref a34, .int 0, .int 0, .int 0, .long 0, .ref a35, .ref a36, .int (-1), .int 0, .int 0, .int 0, .ref a37, .int 0, .ref a38, .ref a39, .ref a40, .ref a41, .ref a42, .ref a43, .int 0, .int 0, .ref a44, .ref a45, .ref a46])), (a8, .inl (cI, 2, .inl (fun _ => 0)))] (fun u => [(a0, .inr (11, [.ref a1, .ref a2, .int 0, .int 0, .int 0, .int (-1), .int 0, .int 0, .int 0, .int 0, .long 0, .ref a3, .ref a4, .ref a5, .ref a6, .ref a7, .ref a8, .ref a9, .ref a10, .ref a11, .ref a12, .ref a13, .ref a14, .ref a15, .ref a16, .ref a17, .ref a18, .ref a19, .ref a20, .int 0, .int 0, .ref a21, .ref a22, .ref a23, .ref a24, .ref a25, .ref a26, .ref a27, .ref a28, .int 0, .ref a29, .ref a30, .int 0, .int 0, .ref a31, .ref a32, .ref a33, .ref a34, .int 0, .int 0, .int 0, .long 0, .ref a35, .ref a36, .int (-1), .int 0, .int 0, .int 0, .ref a37, .int 0, .ref a38, .ref a39, .ref a40, .ref a41, .ref a42, .ref a43, .int 0, .int 0, .ref a44, .ref a45, .ref a46])), (a8, .inl (cI, 2, .inl (fun _ => 0)))]) 0 := by
  intro sz
  refine ct_open (cc := cX11_toldTurn) (maxL := 2) (ret := (some .int)) (by decide) rfl (Nat.le_of_ble_eq_true rfl) ?_
  intro p e s m below meth c ls A hx hb hr hml hts hown hlocks hin hP hK hD hA hS hl
  have hl : lv_has ls 2 [(0, .ref a0), (1, .int 0)] := hl
  have hown : s.vm.findClass RX11 = some m.cls := hown
  have i11 : ∀ w ∈ u_ws RX11 TX11 71, w ∈ wsX11_toldTurn := fun _ h => List.mem_cons_of_mem _ (List.mem_append_right _ h)
  have w1 := hts (.fieldLink RX11 36 "GuildCharterModel" "turnMany" "[I") (List.mem_cons_of_mem _ (List.mem_append_left _ (List.mem_of_getElem? (i := 0) rfl)))
  have w2 := hts (.fieldLink RX11 233 "GuildCharterModel" "bank" "I") (List.mem_cons_of_mem _ (List.mem_append_left _ (List.mem_of_getElem? (i := 1) rfl)))
  refine lv_aload_n hx hb dX11_toldTurn_0 rfl (lv_at hl 0 rfl) ?_
  refine va_get (D := (dC, dI)) (ci := 11) (v := .ref a8) (C := RX11) (T := TX11) (N := 71) hx hb hts i11 hown hK hP 0 rfl rfl 16 (nlt rfl) w1 (fun _ h9 => h9) rfl dX11_toldTurn_1 ?_
  refine lv_aload_n hx hb dX11_toldTurn_4 rfl (lv_at hl 0 rfl) ?_
  refine va_get (D := (dC, dI)) (ci := 11) (v := .int 0) (C := RX11) (T := TX11) (N := 71) hx hb hts i11 hown hK hP 0 rfl rfl 29 (nlt rfl) w2 (fun _ h9 => h9) rfl dX11_toldTurn_5 ?_
  refine my_iald (v := 0) hx hb hK hP 1 1 rfl rfl z248 rfl dX11_toldTurn_8 ?_
  refine lv_if_ne (tgt := 18) hx hb dX11_toldTurn_9 z256 (fun c1 => absurd (rfl) c1) (fun _ => ?_)
  refine lv_iload_n hx hb dX11_toldTurn_12 rfl (lv_at hl 1 rfl) ?_
  refine lv_iconst (v := 3) hx hb dX11_toldTurn_13 z69 ?_
  refine lv_irem hx hb dX11_toldTurn_14 z257 ?_
  refine tpi z258 ?_
  refine lv_goto (tgt := 42) hx hb dX11_toldTurn_15 z259 ?_
  refine W.widen (k := 0) (n := 0) (by decide +kernel) (by decide +kernel) ?_
  exact ret_i hx hb hr hlocks hS (u := (fun _ => 0)) (hP.sub [0, 1] rfl) (hD.sub [0, 1] (by decide +kernel) rfl) dX11_toldTurn_42

set_option maxHeartbeats 4000000 in
set_option maxRecDepth 100000 in
theorem k20_X11_toldTurn (l : Launch) (dC : Nat → ClassId) (dI : Nat → Nat → Nat) (cB cI cJ cZ cO : ClassId) (a0 : Nat) (a1 : Nat) (a10 : Nat) (a11 : Nat) (a12 : Nat) (a13 : Nat) (a14 : Nat) (a15 : Nat) (a16 : Nat) (a17 : Nat) (a18 : Nat) (a19 : Nat) (a2 : Nat) (a20 : Nat) (a21 : Nat) (a22 : Nat) (a23 : Nat) (a24 : Nat) (a25 : Nat) (a26 : Nat) (a27 : Nat) (a28 : Nat) (a29 : Nat) (a3 : Nat) (a30 : Nat) (a31 : Nat) (a32 : Nat) (a33 : Nat) (a34 : Nat) (a35 : Nat) (a36 : Nat) (a37 : Nat) (a38 : Nat) (a39 : Nat) (a4 : Nat) (a40 : Nat) (a41 : Nat) (a42 : Nat) (a43 : Nat) (a44 : Nat) (a45 : Nat) (a46 : Nat) (a5 : Nat) (a6 : Nat) (a7 : Nat) (a8 : Nat) (a9 : Nat) : CI l yX11_toldTurn wsX11_toldTurn ({ frames := 0, cells := 0, slots := 0, locals := 0 }) (dC, dI) (tyL cB cI cJ cZ cO) [.ref a0, .int 1] [(a0, .inr (11, [.ref a1, .ref a2, .int 0, .int 0, .int 0, .int (-1), .int 0, .int 0, .int 0, .int 0, .long 0, .ref a3, .ref a4, .ref a5, .ref a6, .ref a7, .ref a8, .ref a9, .ref a10, .ref a11, .ref a12, .ref a13, .ref a14, .ref a15, .ref a16, .ref a17, .ref a18, .ref a19, .ref a20, .int 0, .int 0, .ref a21, .ref a22, .ref a23, .ref a24, .ref a25, .ref a26, .ref a27, .ref a28, .int 0, .ref a29, .ref a30, .int 0, .int 0, .ref a31, .ref a32, .ref a33, .ref a34, .int 0, .int 0, .int 0, .long 0, .ref a35, .ref a36, .int (-1), .int 0, .int 0, .int 0, .ref a37, .int 0, .ref a38, .ref a39, .ref a40, .ref a41, .ref a42, .ref a43, .int 0, .int 0, .ref a44, .ref a45, .ref a46])), (a8, .inl (cI, 2, .inl (fun _ => 0)))] (fun u => [(a0, .inr (11, [.ref a1, .ref a2, .int 0, .int 0, .int 0, .int (-1), .int 0, .int 0, .int 0, .int 0, .long 0, .ref a3, .ref a4, .ref a5, .ref a6, .ref a7, .ref a8, .ref a9, .ref a10, .ref a11, .ref a12, .ref a13, .ref a14, .ref a15, .ref a16, .ref a17, .ref a18, .ref a19, .ref a20, .int 0, .int 0, .ref a21, .ref a22, .ref a23, .ref a24, .ref a25, .ref a26, .ref a27, .ref a28, .int 0, .ref a29, .ref a30, .int 0, .int 0, .ref a31, .ref a32, .ref a33, .ref a34, .int 0, .int 0, .int 0, .long 0, .ref a35, .ref a36, .int (-1), .int 0, .int 0, .int 0, .ref a37, .int 0, .ref a38, .ref a39, .ref a40, .ref a41, .ref a42, .ref a43, .int 0, .int 0, .ref a44, .ref a45, .ref a46])), (a8, .inl (cI, 2, .inl (fun _ => 0)))]) 1 := by
  intro sz
  refine ct_open (cc := cX11_toldTurn) (maxL := 2) (ret := (some .int)) (by decide) rfl (Nat.le_of_ble_eq_true rfl) ?_
  intro p e s m below meth c ls A hx hb hr hml hts hown hlocks hin hP hK hD hA hS hl
  have hl : lv_has ls 2 [(0, .ref a0), (1, .int 1)] := hl
  have hown : s.vm.findClass RX11 = some m.cls := hown
  have i11 : ∀ w ∈ u_ws RX11 TX11 71, w ∈ wsX11_toldTurn := fun _ h => List.mem_cons_of_mem _ (List.mem_append_right _ h)
  have w1 := hts (.fieldLink RX11 36 "GuildCharterModel" "turnMany" "[I") (List.mem_cons_of_mem _ (List.mem_append_left _ (List.mem_of_getElem? (i := 0) rfl)))
  have w2 := hts (.fieldLink RX11 233 "GuildCharterModel" "bank" "I") (List.mem_cons_of_mem _ (List.mem_append_left _ (List.mem_of_getElem? (i := 1) rfl)))
  refine lv_aload_n hx hb dX11_toldTurn_0 rfl (lv_at hl 0 rfl) ?_
  refine va_get (D := (dC, dI)) (ci := 11) (v := .ref a8) (C := RX11) (T := TX11) (N := 71) hx hb hts i11 hown hK hP 0 rfl rfl 16 (nlt rfl) w1 (fun _ h9 => h9) rfl dX11_toldTurn_1 ?_
  refine lv_aload_n hx hb dX11_toldTurn_4 rfl (lv_at hl 0 rfl) ?_
  refine va_get (D := (dC, dI)) (ci := 11) (v := .int 0) (C := RX11) (T := TX11) (N := 71) hx hb hts i11 hown hK hP 0 rfl rfl 29 (nlt rfl) w2 (fun _ h9 => h9) rfl dX11_toldTurn_5 ?_
  refine my_iald (v := 0) hx hb hK hP 1 1 rfl rfl z248 rfl dX11_toldTurn_8 ?_
  refine lv_if_ne (tgt := 18) hx hb dX11_toldTurn_9 z256 (fun c1 => absurd (rfl) c1) (fun _ => ?_)
  refine lv_iload_n hx hb dX11_toldTurn_12 rfl (lv_at hl 1 rfl) ?_
  refine lv_iconst (v := 3) hx hb dX11_toldTurn_13 z69 ?_
  refine lv_irem hx hb dX11_toldTurn_14 z257 ?_
  refine tpi z261 ?_
  refine lv_goto (tgt := 42) hx hb dX11_toldTurn_15 z259 ?_
  refine W.widen (k := 0) (n := 0) (by decide +kernel) (by decide +kernel) ?_
  exact ret_i hx hb hr hlocks hS (u := (fun _ => 0)) (hP.sub [0, 1] rfl) (hD.sub [0, 1] (by decide +kernel) rfl) dX11_toldTurn_42

set_option maxHeartbeats 4000000 in
set_option maxRecDepth 100000 in
theorem k21_X11_toldTurn (l : Launch) (dC : Nat → ClassId) (dI : Nat → Nat → Nat) (cB cI cJ cZ cO : ClassId) (a0 : Nat) (a1 : Nat) (a10 : Nat) (a11 : Nat) (a12 : Nat) (a13 : Nat) (a14 : Nat) (a15 : Nat) (a16 : Nat) (a17 : Nat) (a18 : Nat) (a19 : Nat) (a2 : Nat) (a20 : Nat) (a21 : Nat) (a22 : Nat) (a23 : Nat) (a24 : Nat) (a25 : Nat) (a26 : Nat) (a27 : Nat) (a28 : Nat) (a29 : Nat) (a3 : Nat) (a30 : Nat) (a31 : Nat) (a32 : Nat) (a33 : Nat) (a34 : Nat) (a35 : Nat) (a36 : Nat) (a37 : Nat) (a38 : Nat) (a39 : Nat) (a4 : Nat) (a40 : Nat) (a41 : Nat) (a42 : Nat) (a43 : Nat) (a44 : Nat) (a45 : Nat) (a46 : Nat) (a5 : Nat) (a6 : Nat) (a7 : Nat) (a8 : Nat) (a9 : Nat) : CI l yX11_toldTurn wsX11_toldTurn ({ frames := 0, cells := 0, slots := 0, locals := 0 }) (dC, dI) (tyL cB cI cJ cZ cO) [.ref a0, .int 2] [(a0, .inr (11, [.ref a1, .ref a2, .int 0, .int 0, .int 0, .int (-1), .int 0, .int 0, .int 0, .int 0, .long 0, .ref a3, .ref a4, .ref a5, .ref a6, .ref a7, .ref a8, .ref a9, .ref a10, .ref a11, .ref a12, .ref a13, .ref a14, .ref a15, .ref a16, .ref a17, .ref a18, .ref a19, .ref a20, .int 0, .int 0, .ref a21, .ref a22, .ref a23, .ref a24, .ref a25, .ref a26, .ref a27, .ref a28, .int 0, .ref a29, .ref a30, .int 0, .int 0, .ref a31, .ref a32, .ref a33, .ref a34, .int 0, .int 0, .int 0, .long 0, .ref a35, .ref a36, .int (-1), .int 0, .int 0, .int 0, .ref a37, .int 0, .ref a38, .ref a39, .ref a40, .ref a41, .ref a42, .ref a43, .int 0, .int 0, .ref a44, .ref a45, .ref a46])), (a8, .inl (cI, 2, .inl (fun _ => 0)))] (fun u => [(a0, .inr (11, [.ref a1, .ref a2, .int 0, .int 0, .int 0, .int (-1), .int 0, .int 0, .int 0, .int 0, .long 0, .ref a3, .ref a4, .ref a5, .ref a6, .ref a7, .ref a8, .ref a9, .ref a10, .ref a11, .ref a12, .ref a13, .ref a14, .ref a15, .ref a16, .ref a17, .ref a18, .ref a19, .ref a20, .int 0, .int 0, .ref a21, .ref a22, .ref a23, .ref a24, .ref a25, .ref a26, .ref a27, .ref a28, .int 0, .ref a29, .ref a30, .int 0, .int 0, .ref a31, .ref a32, .ref a33, .ref a34, .int 0, .int 0, .int 0, .long 0, .ref a35, .ref a36, .int (-1), .int 0, .int 0, .int 0, .ref a37, .int 0, .ref a38, .ref a39, .ref a40, .ref a41, .ref a42, .ref a43, .int 0, .int 0, .ref a44, .ref a45, .ref a46])), (a8, .inl (cI, 2, .inl (fun _ => 0)))]) 2 := by
  intro sz
  refine ct_open (cc := cX11_toldTurn) (maxL := 2) (ret := (some .int)) (by decide) rfl (Nat.le_of_ble_eq_true rfl) ?_
  intro p e s m below meth c ls A hx hb hr hml hts hown hlocks hin hP hK hD hA hS hl
  have hl : lv_has ls 2 [(0, .ref a0), (1, .int 2)] := hl
  have hown : s.vm.findClass RX11 = some m.cls := hown
  have i11 : ∀ w ∈ u_ws RX11 TX11 71, w ∈ wsX11_toldTurn := fun _ h => List.mem_cons_of_mem _ (List.mem_append_right _ h)
  have w1 := hts (.fieldLink RX11 36 "GuildCharterModel" "turnMany" "[I") (List.mem_cons_of_mem _ (List.mem_append_left _ (List.mem_of_getElem? (i := 0) rfl)))
  have w2 := hts (.fieldLink RX11 233 "GuildCharterModel" "bank" "I") (List.mem_cons_of_mem _ (List.mem_append_left _ (List.mem_of_getElem? (i := 1) rfl)))
  refine lv_aload_n hx hb dX11_toldTurn_0 rfl (lv_at hl 0 rfl) ?_
  refine va_get (D := (dC, dI)) (ci := 11) (v := .ref a8) (C := RX11) (T := TX11) (N := 71) hx hb hts i11 hown hK hP 0 rfl rfl 16 (nlt rfl) w1 (fun _ h9 => h9) rfl dX11_toldTurn_1 ?_
  refine lv_aload_n hx hb dX11_toldTurn_4 rfl (lv_at hl 0 rfl) ?_
  refine va_get (D := (dC, dI)) (ci := 11) (v := .int 0) (C := RX11) (T := TX11) (N := 71) hx hb hts i11 hown hK hP 0 rfl rfl 29 (nlt rfl) w2 (fun _ h9 => h9) rfl dX11_toldTurn_5 ?_
  refine my_iald (v := 0) hx hb hK hP 1 1 rfl rfl z248 rfl dX11_toldTurn_8 ?_
  refine lv_if_ne (tgt := 18) hx hb dX11_toldTurn_9 z256 (fun c1 => absurd (rfl) c1) (fun _ => ?_)
  refine lv_iload_n hx hb dX11_toldTurn_12 rfl (lv_at hl 1 rfl) ?_
  refine lv_iconst (v := 3) hx hb dX11_toldTurn_13 z69 ?_
  refine lv_irem hx hb dX11_toldTurn_14 z257 ?_
  refine tpi z262 ?_
  refine lv_goto (tgt := 42) hx hb dX11_toldTurn_15 z259 ?_
  refine W.widen (k := 0) (n := 0) (by decide +kernel) (by decide +kernel) ?_
  exact ret_i hx hb hr hlocks hS (u := (fun _ => 0)) (hP.sub [0, 1] rfl) (hD.sub [0, 1] (by decide +kernel) rfl) dX11_toldTurn_42

set_option maxHeartbeats 4000000 in
set_option maxRecDepth 100000 in
theorem k22_X11_toldTurn (l : Launch) (dC : Nat → ClassId) (dI : Nat → Nat → Nat) (cB cI cJ cZ cO : ClassId) (a0 : Nat) (a1 : Nat) (a10 : Nat) (a11 : Nat) (a12 : Nat) (a13 : Nat) (a14 : Nat) (a15 : Nat) (a16 : Nat) (a17 : Nat) (a18 : Nat) (a19 : Nat) (a2 : Nat) (a20 : Nat) (a21 : Nat) (a22 : Nat) (a23 : Nat) (a24 : Nat) (a25 : Nat) (a26 : Nat) (a27 : Nat) (a28 : Nat) (a29 : Nat) (a3 : Nat) (a30 : Nat) (a31 : Nat) (a32 : Nat) (a33 : Nat) (a34 : Nat) (a35 : Nat) (a36 : Nat) (a37 : Nat) (a38 : Nat) (a39 : Nat) (a4 : Nat) (a40 : Nat) (a41 : Nat) (a42 : Nat) (a43 : Nat) (a44 : Nat) (a45 : Nat) (a46 : Nat) (a5 : Nat) (a6 : Nat) (a7 : Nat) (a8 : Nat) (a9 : Nat) : CI l yX11_toldTurn wsX11_toldTurn ({ frames := 0, cells := 0, slots := 0, locals := 0 }) (dC, dI) (tyL cB cI cJ cZ cO) [.ref a0, .int 3] [(a0, .inr (11, [.ref a1, .ref a2, .int 0, .int 0, .int 0, .int (-1), .int 0, .int 0, .int 0, .int 0, .long 0, .ref a3, .ref a4, .ref a5, .ref a6, .ref a7, .ref a8, .ref a9, .ref a10, .ref a11, .ref a12, .ref a13, .ref a14, .ref a15, .ref a16, .ref a17, .ref a18, .ref a19, .ref a20, .int 0, .int 0, .ref a21, .ref a22, .ref a23, .ref a24, .ref a25, .ref a26, .ref a27, .ref a28, .int 0, .ref a29, .ref a30, .int 0, .int 0, .ref a31, .ref a32, .ref a33, .ref a34, .int 0, .int 0, .int 0, .long 0, .ref a35, .ref a36, .int (-1), .int 0, .int 0, .int 0, .ref a37, .int 0, .ref a38, .ref a39, .ref a40, .ref a41, .ref a42, .ref a43, .int 0, .int 0, .ref a44, .ref a45, .ref a46])), (a8, .inl (cI, 2, .inl (fun _ => 0)))] (fun u => [(a0, .inr (11, [.ref a1, .ref a2, .int 0, .int 0, .int 0, .int (-1), .int 0, .int 0, .int 0, .int 0, .long 0, .ref a3, .ref a4, .ref a5, .ref a6, .ref a7, .ref a8, .ref a9, .ref a10, .ref a11, .ref a12, .ref a13, .ref a14, .ref a15, .ref a16, .ref a17, .ref a18, .ref a19, .ref a20, .int 0, .int 0, .ref a21, .ref a22, .ref a23, .ref a24, .ref a25, .ref a26, .ref a27, .ref a28, .int 0, .ref a29, .ref a30, .int 0, .int 0, .ref a31, .ref a32, .ref a33, .ref a34, .int 0, .int 0, .int 0, .long 0, .ref a35, .ref a36, .int (-1), .int 0, .int 0, .int 0, .ref a37, .int 0, .ref a38, .ref a39, .ref a40, .ref a41, .ref a42, .ref a43, .int 0, .int 0, .ref a44, .ref a45, .ref a46])), (a8, .inl (cI, 2, .inl (fun _ => 0)))]) 0 := by
  intro sz
  refine ct_open (cc := cX11_toldTurn) (maxL := 2) (ret := (some .int)) (by decide) rfl (Nat.le_of_ble_eq_true rfl) ?_
  intro p e s m below meth c ls A hx hb hr hml hts hown hlocks hin hP hK hD hA hS hl
  have hl : lv_has ls 2 [(0, .ref a0), (1, .int 3)] := hl
  have hown : s.vm.findClass RX11 = some m.cls := hown
  have i11 : ∀ w ∈ u_ws RX11 TX11 71, w ∈ wsX11_toldTurn := fun _ h => List.mem_cons_of_mem _ (List.mem_append_right _ h)
  have w1 := hts (.fieldLink RX11 36 "GuildCharterModel" "turnMany" "[I") (List.mem_cons_of_mem _ (List.mem_append_left _ (List.mem_of_getElem? (i := 0) rfl)))
  have w2 := hts (.fieldLink RX11 233 "GuildCharterModel" "bank" "I") (List.mem_cons_of_mem _ (List.mem_append_left _ (List.mem_of_getElem? (i := 1) rfl)))
  refine lv_aload_n hx hb dX11_toldTurn_0 rfl (lv_at hl 0 rfl) ?_
  refine va_get (D := (dC, dI)) (ci := 11) (v := .ref a8) (C := RX11) (T := TX11) (N := 71) hx hb hts i11 hown hK hP 0 rfl rfl 16 (nlt rfl) w1 (fun _ h9 => h9) rfl dX11_toldTurn_1 ?_
  refine lv_aload_n hx hb dX11_toldTurn_4 rfl (lv_at hl 0 rfl) ?_
  refine va_get (D := (dC, dI)) (ci := 11) (v := .int 0) (C := RX11) (T := TX11) (N := 71) hx hb hts i11 hown hK hP 0 rfl rfl 29 (nlt rfl) w2 (fun _ h9 => h9) rfl dX11_toldTurn_5 ?_
  refine my_iald (v := 0) hx hb hK hP 1 1 rfl rfl z248 rfl dX11_toldTurn_8 ?_
  refine lv_if_ne (tgt := 18) hx hb dX11_toldTurn_9 z256 (fun c1 => absurd (rfl) c1) (fun _ => ?_)
  refine lv_iload_n hx hb dX11_toldTurn_12 rfl (lv_at hl 1 rfl) ?_
  refine lv_iconst (v := 3) hx hb dX11_toldTurn_13 z69 ?_
  refine lv_irem hx hb dX11_toldTurn_14 z257 ?_
  refine tpi z263 ?_
  refine lv_goto (tgt := 42) hx hb dX11_toldTurn_15 z259 ?_
  refine W.widen (k := 0) (n := 0) (by decide +kernel) (by decide +kernel) ?_
  exact ret_i hx hb hr hlocks hS (u := (fun _ => 0)) (hP.sub [0, 1] rfl) (hD.sub [0, 1] (by decide +kernel) rfl) dX11_toldTurn_42
