set_option maxHeartbeats 4000000 in
set_option maxRecDepth 100000 in
theorem k55_X11_clearBank (l : Launch) (dC : Nat → ClassId) (dI : Nat → Nat → Nat) (cB cI cJ cZ cO : ClassId) (n : Nat → Nat) : CV l yX11_clearBank wsX11_clearBank ({ frames := 0, cells := 0, slots := 0, locals := 0 }) (dC, dI) (tyL cB cI cJ cZ cO) [.ref (n 0)] [((n 0), .inr (11, [.ref (n 1), .ref (n 2), .int 0, .int 0, .int 0, .int (-1), .int 0, .int 0, .int 0, .int 0, .long 0, .ref (n 3), .ref (n 4), .ref (n 5), .ref (n 6), .ref (n 7), .ref (n 8), .ref (n 9), .ref (n 10), .ref (n 11), .ref (n 12), .ref (n 13), .ref (n 14), .ref (n 15), .ref (n 16), .ref (n 17), .ref (n 18), .ref (n 19), .ref (n 20), .int 0, .int 1, .ref (n 21), .ref (n 22), .ref (n 23), .ref (n 24), .ref (n 25), .ref (n 26), .ref (n 27), .ref (n 28), .int 0, .ref (n 29), .ref (n 30), .int 0, .int 0, .ref (n 31), .ref (n 32), .ref (n 33), .ref (n 34), .int 0, .int 0, .int 0, .long 0, .ref (n 35), .ref (n 36), .int (-1), .int 0, .int 0, .int 0, .ref (n 37), .int 0, .ref (n 38), .ref (n 39), .ref (n 40), .ref (n 41), .ref (n 42), .ref (n 43), .int 0, .int 0, .ref (n 44), .ref (n 45), .ref (n 46)])), ((n 3), .inl (cI, 2, .inl (fun _ => 0))), ((n 4), .inl (cI, 2, .inl (fun _ => 0))), ((n 5), .inl (cI, 2, .inl (fun _ => 0))), ((n 6), .inl (cI, 2, .inl (fun _ => 0))), ((n 7), .inl (cI, 2, .inl (upd (fun _ => 0) 0 3))), ((n 8), .inl (cI, 2, .inl (fun _ => 0))), ((n 17), .inl (cZ, 2, .inl (fun _ => 0))), ((n 16), .inl (cZ, 128, .inl (fun _ => 0)))] (fun u => [((n 0), .inr (11, [.ref (n 1), .ref (n 2), .int 0, .int 0, .int 0, .int (-1), .int 0, .int 0, .int 0, .int 0, .long 0, .ref (n 3), .ref (n 4), .ref (n 5), .ref (n 6), .ref (n 7), .ref (n 8), .ref (n 9), .ref (n 10), .ref (n 11), .ref (n 12), .ref (n 13), .ref (n 14), .ref (n 15), .ref (n 16), .ref (n 17), .ref (n 18), .ref (n 19), .ref (n 20), .int 0, .int 1, .ref (n 21), .ref (n 22), .ref (n 23), .ref (n 24), .ref (n 25), .ref (n 26), .ref (n 27), .ref (n 28), .int 0, .ref (n 29), .ref (n 30), .int 0, .int 0, .ref (n 31), .ref (n 32), .ref (n 33), .ref (n 34), .int 0, .int 0, .int 0, .long 0, .ref (n 35), .ref (n 36), .int (-1), .int 0, .int 0, .int 0, .ref (n 37), .int 0, .ref (n 38), .ref (n 39), .ref (n 40), .ref (n 41), .ref (n 42), .ref (n 43), .int 0, .int 0, .ref (n 44), .ref (n 45), .ref (n 46)])), ((n 3), .inl (cI, 2, .inl (fun _ => 0))), ((n 4), .inl (cI, 2, .inl (fun _ => 0))), ((n 5), .inl (cI, 2, .inl (fun _ => 0))), ((n 6), .inl (cI, 2, .inl (fun _ => 0))), ((n 7), .inl (cI, 2, .inl (upd (upd (fun _ => 0) 0 3) 1 3))), ((n 8), .inl (cI, 2, .inl (fun _ => 0))), ((n 17), .inl (cZ, 2, .inl (fun _ => 0))), ((n 16), .inl (cZ, 128, .inl (fun _ => 0)))]) := by
  intro sz
  refine ct_open (cc := cX11_clearBank) (maxL := 2) (ret := none) (by decide) rfl (Nat.le_of_ble_eq_true rfl) ?_
  intro p e s m below meth c ls A hx hb hr hml hts hown hlocks hin hP hK hD hA hS hl
  have hl : lv_has ls 2 [(0, .ref (n 0))] := hl
  have hown : s.vm.findClass RX11 = some m.cls := hown
  have i11 : ∀ w ∈ u_ws RX11 TX11 71, w ∈ wsX11_clearBank := fun _ h => List.mem_cons_of_mem _ (List.mem_append_right _ h)
  have w1 := hts (.fieldLink RX11 20 "GuildCharterModel" "words" "[I") (List.mem_cons_of_mem _ (List.mem_append_left _ (List.mem_of_getElem? (i := 0) rfl)))
  have w2 := hts (.fieldLink RX11 227 "GuildCharterModel" "rb" "I") (List.mem_cons_of_mem _ (List.mem_append_left _ (List.mem_of_getElem? (i := 1) rfl)))
  have w3 := hts (.fieldLink RX11 24 "GuildCharterModel" "pairs" "[I") (List.mem_cons_of_mem _ (List.mem_append_left _ (List.mem_of_getElem? (i := 2) rfl)))
  have w4 := hts (.fieldLink RX11 27 "GuildCharterModel" "rules" "[I") (List.mem_cons_of_mem _ (List.mem_append_left _ (List.mem_of_getElem? (i := 3) rfl)))
  have w5 := hts (.fieldLink RX11 30 "GuildCharterModel" "alts" "[I") (List.mem_cons_of_mem _ (List.mem_append_left _ (List.mem_of_getElem? (i := 4) rfl)))
  have w6 := hts (.fieldLink RX11 33 "GuildCharterModel" "length" "[I") (List.mem_cons_of_mem _ (List.mem_append_left _ (List.mem_of_getElem? (i := 5) rfl)))
  have w7 := hts (.fieldLink RX11 36 "GuildCharterModel" "turnMany" "[I") (List.mem_cons_of_mem _ (List.mem_append_left _ (List.mem_of_getElem? (i := 6) rfl)))
  have w8 := hts (.fieldLink RX11 64 "GuildCharterModel" "isLength" "[Z") (List.mem_cons_of_mem _ (List.mem_append_left _ (List.mem_of_getElem? (i := 7) rfl)))
  have w9 := hts (.fieldLink RX11 60 "GuildCharterModel" "isPair" "[Z") (List.mem_cons_of_mem _ (List.mem_append_left _ (List.mem_of_getElem? (i := 8) rfl)))
  refine lv_aload_n hx hb dX11_clearBank_0 rfl (lv_at hl 0 rfl) ?_
  refine va_get (D := (dC, dI)) (ci := 11) (v := .ref (n 3)) (C := RX11) (T := TX11) (N := 71) hx hb hts i11 hown hK hP 0 rfl rfl 11 (nlt rfl) w1 (fun _ h9 => h9) rfl dX11_clearBank_1 ?_
  refine lv_aload_n hx hb dX11_clearBank_4 rfl (lv_at hl 0 rfl) ?_
  refine va_get (D := (dC, dI)) (ci := 11) (v := .int 1) (C := RX11) (T := TX11) (N := 71) hx hb hts i11 hown hK hP 0 rfl rfl 30 (nlt rfl) w2 (fun _ h9 => h9) rfl dX11_clearBank_5 ?_
  refine lv_iconst (v := 0) hx hb dX11_clearBank_8 z8 ?_
  refine my_iastS hx hb hK hP hD hS 1 1 rfl rfl z547 rfl dX11_clearBank_9 (fun H locs hP hD hS => ?_)
  refine lv_aload_n hx hb dX11_clearBank_10 rfl (lv_at hl 0 rfl) ?_
  refine va_get (D := (dC, dI)) (ci := 11) (v := .ref (n 4)) (C := RX11) (T := TX11) (N := 71) hx hb hts i11 hown hK hP 0 rfl rfl 12 (nlt rfl) w3 (fun _ h9 => h9) rfl dX11_clearBank_11 ?_
  refine lv_aload_n hx hb dX11_clearBank_14 rfl (lv_at hl 0 rfl) ?_
  refine va_get (D := (dC, dI)) (ci := 11) (v := .int 1) (C := RX11) (T := TX11) (N := 71) hx hb hts i11 hown hK hP 0 rfl rfl 30 (nlt rfl) w2 (fun _ h9 => h9) rfl dX11_clearBank_15 ?_
  refine lv_iconst (v := 0) hx hb dX11_clearBank_18 z8 ?_
  refine my_iastS hx hb hK hP hD hS 2 1 rfl rfl z547 rfl dX11_clearBank_19 (fun H locs hP hD hS => ?_)
  refine lv_aload_n hx hb dX11_clearBank_20 rfl (lv_at hl 0 rfl) ?_
  refine va_get (D := (dC, dI)) (ci := 11) (v := .ref (n 5)) (C := RX11) (T := TX11) (N := 71) hx hb hts i11 hown hK hP 0 rfl rfl 13 (nlt rfl) w4 (fun _ h9 => h9) rfl dX11_clearBank_21 ?_
  refine lv_aload_n hx hb dX11_clearBank_24 rfl (lv_at hl 0 rfl) ?_
  refine va_get (D := (dC, dI)) (ci := 11) (v := .int 1) (C := RX11) (T := TX11) (N := 71) hx hb hts i11 hown hK hP 0 rfl rfl 30 (nlt rfl) w2 (fun _ h9 => h9) rfl dX11_clearBank_25 ?_
  refine lv_iconst (v := 0) hx hb dX11_clearBank_28 z8 ?_
  refine my_iastS hx hb hK hP hD hS 3 1 rfl rfl z547 rfl dX11_clearBank_29 (fun H locs hP hD hS => ?_)
  refine lv_aload_n hx hb dX11_clearBank_30 rfl (lv_at hl 0 rfl) ?_
  refine va_get (D := (dC, dI)) (ci := 11) (v := .ref (n 6)) (C := RX11) (T := TX11) (N := 71) hx hb hts i11 hown hK hP 0 rfl rfl 14 (nlt rfl) w5 (fun _ h9 => h9) rfl dX11_clearBank_31 ?_
  refine lv_aload_n hx hb dX11_clearBank_34 rfl (lv_at hl 0 rfl) ?_
  refine va_get (D := (dC, dI)) (ci := 11) (v := .int 1) (C := RX11) (T := TX11) (N := 71) hx hb hts i11 hown hK hP 0 rfl rfl 30 (nlt rfl) w2 (fun _ h9 => h9) rfl dX11_clearBank_35 ?_
  refine lv_iconst (v := 0) hx hb dX11_clearBank_38 z8 ?_
  refine my_iastS hx hb hK hP hD hS 4 1 rfl rfl z547 rfl dX11_clearBank_39 (fun H locs hP hD hS => ?_)
  refine lv_aload_n hx hb dX11_clearBank_40 rfl (lv_at hl 0 rfl) ?_
  refine va_get (D := (dC, dI)) (ci := 11) (v := .ref (n 7)) (C := RX11) (T := TX11) (N := 71) hx hb hts i11 hown hK hP 0 rfl rfl 15 (nlt rfl) w6 (fun _ h9 => h9) rfl dX11_clearBank_41 ?_
  refine lv_aload_n hx hb dX11_clearBank_44 rfl (lv_at hl 0 rfl) ?_
  refine va_get (D := (dC, dI)) (ci := 11) (v := .int 1) (C := RX11) (T := TX11) (N := 71) hx hb hts i11 hown hK hP 0 rfl rfl 30 (nlt rfl) w2 (fun _ h9 => h9) rfl dX11_clearBank_45 ?_
  refine lv_iconst (v := 3) hx hb dX11_clearBank_48 z69 ?_
  refine my_iast hx hb hK hP hD hS 5 1 rfl rfl z547 dX11_clearBank_49 (fun H locs hP hD hS => ?_)
  refine lv_aload_n hx hb dX11_clearBank_50 rfl (lv_at hl 0 rfl) ?_
  refine va_get (D := (dC, dI)) (ci := 11) (v := .ref (n 8)) (C := RX11) (T := TX11) (N := 71) hx hb hts i11 hown hK hP 0 rfl rfl 16 (nlt rfl) w7 (fun _ h9 => h9) rfl dX11_clearBank_51 ?_
  refine lv_aload_n hx hb dX11_clearBank_54 rfl (lv_at hl 0 rfl) ?_
  refine va_get (D := (dC, dI)) (ci := 11) (v := .int 1) (C := RX11) (T := TX11) (N := 71) hx hb hts i11 hown hK hP 0 rfl rfl 30 (nlt rfl) w2 (fun _ h9 => h9) rfl dX11_clearBank_55 ?_
  refine lv_iconst (v := 0) hx hb dX11_clearBank_58 z8 ?_
  refine my_iastS hx hb hK hP hD hS 6 1 rfl rfl z547 rfl dX11_clearBank_59 (fun H locs hP hD hS => ?_)
  refine lv_aload_n hx hb dX11_clearBank_60 rfl (lv_at hl 0 rfl) ?_
  refine va_get (D := (dC, dI)) (ci := 11) (v := .ref (n 17)) (C := RX11) (T := TX11) (N := 71) hx hb hts i11 hown hK hP 0 rfl rfl 25 (nlt rfl) w8 (fun _ h9 => h9) rfl dX11_clearBank_61 ?_
  refine lv_aload_n hx hb dX11_clearBank_64 rfl (lv_at hl 0 rfl) ?_
  refine va_get (D := (dC, dI)) (ci := 11) (v := .int 1) (C := RX11) (T := TX11) (N := 71) hx hb hts i11 hown hK hP 0 rfl rfl 30 (nlt rfl) w2 (fun _ h9 => h9) rfl dX11_clearBank_65 ?_
  refine lv_iconst (v := 0) hx hb dX11_clearBank_68 z8 ?_
  refine my_zastS hx hb hK hP hD hS 7 3 rfl rfl z547 z249 rfl dX11_clearBank_69 (fun H locs hP hD hS => ?_)
  refine lv_bipush (v := 64) hx hb dX11_clearBank_70 z138 ?_
  refine lv_aload_n hx hb dX11_clearBank_72 rfl (lv_at hl 0 rfl) ?_
  refine va_get (D := (dC, dI)) (ci := 11) (v := .int 1) (C := RX11) (T := TX11) (N := 71) hx hb hts i11 hown hK hP 0 rfl rfl 30 (nlt rfl) w2 (fun _ h9 => h9) rfl dX11_clearBank_73 ?_
  refine lv_imul hx hb dX11_clearBank_76 ?_
  refine tpi z548 ?_
  refine lv_istore_n (lv' := [(1, .int 64), (0, .ref (n 0))]) hx hb dX11_clearBank_77 rfl hl (nlt rfl) rfl (fun ls hl => ?_)
  have loop : ∀ (Q : State → Prop), (∀ (H : Heap) (locs : List Loc) (ls : Array Slot), va_P (dC, dI) vwCl [((n 0), .inr (11, [.ref (n 1), .ref (n 2), .int 0, .int 0, .int 0, .int (-1), .int 0, .int 0, .int 0, .int 0, .long 0, .ref (n 3), .ref (n 4), .ref (n 5), .ref (n 6), .ref (n 7), .ref (n 8), .ref (n 9), .ref (n 10), .ref (n 11), .ref (n 12), .ref (n 13), .ref (n 14), .ref (n 15), .ref (n 16), .ref (n 17), .ref (n 18), .ref (n 19), .ref (n 20), .int 0, .int 1, .ref (n 21), .ref (n 22), .ref (n 23), .ref (n 24), .ref (n 25), .ref (n 26), .ref (n 27), .ref (n 28), .int 0, .ref (n 29), .ref (n 30), .int 0, .int 0, .ref (n 31), .ref (n 32), .ref (n 33), .ref (n 34), .int 0, .int 0, .int 0, .long 0, .ref (n 35), .ref (n 36), .int (-1), .int 0, .int 0, .int 0, .ref (n 37), .int 0, .ref (n 38), .ref (n 39), .ref (n 40), .ref (n 41), .ref (n 42), .ref (n 43), .int 0, .int 0, .ref (n 44), .ref (n 45), .ref (n 46)])), ((n 3), .inl (cI, 2, .inl (fun _ => 0))), ((n 4), .inl (cI, 2, .inl (fun _ => 0))), ((n 5), .inl (cI, 2, .inl (fun _ => 0))), ((n 6), .inl (cI, 2, .inl (fun _ => 0))), ((n 7), .inl (cI, 2, .inl (upd (upd (fun _ => 0) 0 3) 1 3))), ((n 8), .inl (cI, 2, .inl (fun _ => 0))), ((n 17), .inl (cZ, 2, .inl (fun _ => 0))), ((n 16), .inl (cZ, 128, .inl (fun _ => 0)))] H → va_D A [((n 0), .inr (11, [.ref (n 1), .ref (n 2), .int 0, .int 0, .int 0, .int (-1), .int 0, .int 0, .int 0, .int 0, .long 0, .ref (n 3), .ref (n 4), .ref (n 5), .ref (n 6), .ref (n 7), .ref (n 8), .ref (n 9), .ref (n 10), .ref (n 11), .ref (n 12), .ref (n 13), .ref (n 14), .ref (n 15), .ref (n 16), .ref (n 17), .ref (n 18), .ref (n 19), .ref (n 20), .int 0, .int 1, .ref (n 21), .ref (n 22), .ref (n 23), .ref (n 24), .ref (n 25), .ref (n 26), .ref (n 27), .ref (n 28), .int 0, .ref (n 29), .ref (n 30), .int 0, .int 0, .ref (n 31), .ref (n 32), .ref (n 33), .ref (n 34), .int 0, .int 0, .int 0, .long 0, .ref (n 35), .ref (n 36), .int (-1), .int 0, .int 0, .int 0, .ref (n 37), .int 0, .ref (n 38), .ref (n 39), .ref (n 40), .ref (n 41), .ref (n 42), .ref (n 43), .int 0, .int 0, .ref (n 44), .ref (n 45), .ref (n 46)])), ((n 3), .inl (cI, 2, .inl (fun _ => 0))), ((n 4), .inl (cI, 2, .inl (fun _ => 0))), ((n 5), .inl (cI, 2, .inl (fun _ => 0))), ((n 6), .inl (cI, 2, .inl (fun _ => 0))), ((n 7), .inl (cI, 2, .inl (upd (upd (fun _ => 0) 0 3) 1 3))), ((n 8), .inl (cI, 2, .inl (fun _ => 0))), ((n 17), .inl (cZ, 2, .inl (fun _ => 0))), ((n 16), .inl (cZ, 128, .inl (fun _ => 0)))] → va_S A s.heap H locs → lv_has ls 2 [(1, .int 128), (0, .ref (n 0))] → W p l e ({ frames := 0, cells := 0, slots := 0, locals := 0 } : Room) s m ([.ref (n 0)] : List Value).toArray below meth c H locs 0 0 Q (F0 m 78 ls [])) → ∀ (k i : Nat), i + k = 128 → ∀ (H : Heap) (locs : List Loc) (ls : Array Slot), va_P (dC, dI) vwCl [((n 0), .inr (11, [.ref (n 1), .ref (n 2), .int 0, .int 0, .int 0, .int (-1), .int 0, .int 0, .int 0, .int 0, .long 0, .ref (n 3), .ref (n 4), .ref (n 5), .ref (n 6), .ref (n 7), .ref (n 8), .ref (n 9), .ref (n 10), .ref (n 11), .ref (n 12), .ref (n 13), .ref (n 14), .ref (n 15), .ref (n 16), .ref (n 17), .ref (n 18), .ref (n 19), .ref (n 20), .int 0, .int 1, .ref (n 21), .ref (n 22), .ref (n 23), .ref (n 24), .ref (n 25), .ref (n 26), .ref (n 27), .ref (n 28), .int 0, .ref (n 29), .ref (n 30), .int 0, .int 0, .ref (n 31), .ref (n 32), .ref (n 33), .ref (n 34), .int 0, .int 0, .int 0, .long 0, .ref (n 35), .ref (n 36), .int (-1), .int 0, .int 0, .int 0, .ref (n 37), .int 0, .ref (n 38), .ref (n 39), .ref (n 40), .ref (n 41), .ref (n 42), .ref (n 43), .int 0, .int 0, .ref (n 44), .ref (n 45), .ref (n 46)])), ((n 3), .inl (cI, 2, .inl (fun _ => 0))), ((n 4), .inl (cI, 2, .inl (fun _ => 0))), ((n 5), .inl (cI, 2, .inl (fun _ => 0))), ((n 6), .inl (cI, 2, .inl (fun _ => 0))), ((n 7), .inl (cI, 2, .inl (upd (upd (fun _ => 0) 0 3) 1 3))), ((n 8), .inl (cI, 2, .inl (fun _ => 0))), ((n 17), .inl (cZ, 2, .inl (fun _ => 0))), ((n 16), .inl (cZ, 128, .inl (fun _ => 0)))] H → va_D A [((n 0), .inr (11, [.ref (n 1), .ref (n 2), .int 0, .int 0, .int 0, .int (-1), .int 0, .int 0, .int 0, .int 0, .long 0, .ref (n 3), .ref (n 4), .ref (n 5), .ref (n 6), .ref (n 7), .ref (n 8), .ref (n 9), .ref (n 10), .ref (n 11), .ref (n 12), .ref (n 13), .ref (n 14), .ref (n 15), .ref (n 16), .ref (n 17), .ref (n 18), .ref (n 19), .ref (n 20), .int 0, .int 1, .ref (n 21), .ref (n 22), .ref (n 23), .ref (n 24), .ref (n 25), .ref (n 26), .ref (n 27), .ref (n 28), .int 0, .ref (n 29), .ref (n 30), .int 0, .int 0, .ref (n 31), .ref (n 32), .ref (n 33), .ref (n 34), .int 0, .int 0, .int 0, .long 0, .ref (n 35), .ref (n 36), .int (-1), .int 0, .int 0, .int 0, .ref (n 37), .int 0, .ref (n 38), .ref (n 39), .ref (n 40), .ref (n 41), .ref (n 42), .ref (n 43), .int 0, .int 0, .ref (n 44), .ref (n 45), .ref (n 46)])), ((n 3), .inl (cI, 2, .inl (fun _ => 0))), ((n 4), .inl (cI, 2, .inl (fun _ => 0))), ((n 5), .inl (cI, 2, .inl (fun _ => 0))), ((n 6), .inl (cI, 2, .inl (fun _ => 0))), ((n 7), .inl (cI, 2, .inl (upd (upd (fun _ => 0) 0 3) 1 3))), ((n 8), .inl (cI, 2, .inl (fun _ => 0))), ((n 17), .inl (cZ, 2, .inl (fun _ => 0))), ((n 16), .inl (cZ, 128, .inl (fun _ => 0)))] → va_S A s.heap H locs → lv_has ls 2 [(1, .int (nI i)), (0, .ref (n 0))] → W p l e ({ frames := 0, cells := 0, slots := 0, locals := 0 } : Room) s m ([.ref (n 0)] : List Value).toArray below meth c H locs 0 0 Q (F0 m 78 ls []) := by
    intro Q hQ k
    induction k with
    | zero =>
      intro i hi H locs ls hP hD hS hl
      obtain rfl : i = 128 := by omega
      exact hQ H locs ls hP hD hS hl
    | succ k ih =>
      intro i hi H locs ls hP hD hS hl
      have hlt : i < 128 := by omega
      refine lv_iload_n hx hb dX11_clearBank_78 rfl (lv_at hl 0 rfl) ?_
      refine lv_bipush (v := 64) hx hb dX11_clearBank_79 z138 ?_
      refine lv_aload_n hx hb dX11_clearBank_81 rfl (lv_at hl 1 rfl) ?_
      refine va_get (D := (dC, dI)) (ci := 11) (v := .int 1) (C := RX11) (T := TX11) (N := 71) hx hb hts i11 hown hK hP 0 rfl rfl 30 (nlt rfl) w2 (fun _ h9 => h9) rfl dX11_clearBank_82 ?_
      refine lv_imul hx hb dX11_clearBank_85 ?_
      refine tpi z548 ?_
      refine lv_bipush (v := 64) hx hb dX11_clearBank_86 z138 ?_
      refine lv_iadd hx hb dX11_clearBank_88 ?_
      refine tpi z549 ?_
      refine lv_icmp_ge (tgt := 105) hx hb dX11_clearBank_89 z252 (fun c1 => absurd c1 (nI_ge hlt (by decide))) (fun _ => ?_)
      refine lv_aload_n hx hb dX11_clearBank_92 rfl (lv_at hl 1 rfl) ?_
      refine va_get (D := (dC, dI)) (ci := 11) (v := .ref (n 16)) (C := RX11) (T := TX11) (N := 71) hx hb hts i11 hown hK hP 0 rfl rfl 24 (nlt rfl) w9 (fun _ h9 => h9) rfl dX11_clearBank_93 ?_
      refine lv_iload_n hx hb dX11_clearBank_96 rfl (lv_at hl 0 rfl) ?_
      refine lv_iconst (v := 0) hx hb dX11_clearBank_97 z8 ?_
      refine my_zastS hx hb hK hP hD hS 8 3 rfl rfl (ix_nI (n := 128) (by omega) (by decide)) z249 rfl dX11_clearBank_98 (fun H locs hP hD hS => ?_)
      refine lv_iinc (v := nI (i + 1)) (lv' := [(1, .int (nI (i + 1))), (0, .ref (n 0))]) hx hb dX11_clearBank_99 hl (k := 0) rfl (nI_1 i) (nlt rfl) rfl (fun ls hl => ?_)
      refine lv_goto (tgt := 78) hx hb dX11_clearBank_102 z253 ?_
      exact ih (i + 1) (by omega) H locs ls hP hD hS (lv_sub hl [0, 1] rfl)
  refine loop _ (fun H locs ls hP hD hS hl => ?_) 64 64 rfl H locs ls hP hD hS hl
  refine lv_iload_n hx hb dX11_clearBank_78 rfl (lv_at hl 0 rfl) ?_
  refine lv_bipush (v := 64) hx hb dX11_clearBank_79 z138 ?_
  refine lv_aload_n hx hb dX11_clearBank_81 rfl (lv_at hl 1 rfl) ?_
  refine va_get (D := (dC, dI)) (ci := 11) (v := .int 1) (C := RX11) (T := TX11) (N := 71) hx hb hts i11 hown hK hP 0 rfl rfl 30 (nlt rfl) w2 (fun _ h9 => h9) rfl dX11_clearBank_82 ?_
  refine lv_imul hx hb dX11_clearBank_85 ?_
  refine tpi z548 ?_
  refine lv_bipush (v := 64) hx hb dX11_clearBank_86 z138 ?_
  refine lv_iadd hx hb dX11_clearBank_88 ?_
  refine tpi z549 ?_
  refine lv_icmp_ge (tgt := 105) hx hb dX11_clearBank_89 z252 (fun _ => ?_) (fun c1 => absurd (z550) c1)
  refine W.widen (k := 0) (n := 0) (by decide +kernel) (by decide +kernel) ?_
  exact ret_v hx hb hr hlocks hS (u := (fun _ => 0)) (hP.sub [0, 1, 2, 3, 4, 5, 6, 7, 8] rfl) (hD.sub [0, 1, 2, 3, 4, 5, 6, 7, 8] (by decide +kernel) rfl) dX11_clearBank_105

set_option maxHeartbeats 4000000 in
set_option maxRecDepth 100000 in
theorem k56_X11_sign (l : Launch) (dC : Nat → ClassId) (dI : Nat → Nat → Nat) (cB cI cJ cZ cO : ClassId) (n : Nat → Nat) : CI l yX11_sign wsX11_sign ({ frames := 0, cells := 0, slots := 0, locals := 0 }) (dC, dI) (tyL cB cI cJ cZ cO) [.ref (n 0), .int 0] [((n 0), .inr (11, [.ref (n 1), .ref (n 2), .int 0, .int 0, .int 0, .int (-1), .int 0, .int 0, .int 0, .int 0, .long 0, .ref (n 3), .ref (n 4), .ref (n 5), .ref (n 6), .ref (n 7), .ref (n 8), .ref (n 9), .ref (n 10), .ref (n 11), .ref (n 12), .ref (n 13), .ref (n 14), .ref (n 15), .ref (n 16), .ref (n 17), .ref (n 18), .ref (n 19), .ref (n 20), .int 0, .int 1, .ref (n 21), .ref (n 22), .ref (n 23), .ref (n 24), .ref (n 25), .ref (n 26), .ref (n 27), .ref (n 28), .int 0, .ref (n 29), .ref (n 30), .int 0, .int 0, .ref (n 31), .ref (n 32), .ref (n 33), .ref (n 34), .int 0, .int 0, .int 0, .long 0, .ref (n 35), .ref (n 36), .int (-1), .int 0, .int 0, .int 0, .ref (n 37), .int 0, .ref (n 38), .ref (n 39), .ref (n 40), .ref (n 41), .ref (n 42), .ref (n 43), .int 0, .int 0, .ref (n 44), .ref (n 45), .ref (n 46)]))] (fun u => [((n 0), .inr (11, [.ref (n 1), .ref (n 2), .int 0, .int 0, .int 0, .int (-1), .int 0, .int 0, .int 0, .int 0, .long 0, .ref (n 3), .ref (n 4), .ref (n 5), .ref (n 6), .ref (n 7), .ref (n 8), .ref (n 9), .ref (n 10), .ref (n 11), .ref (n 12), .ref (n 13), .ref (n 14), .ref (n 15), .ref (n 16), .ref (n 17), .ref (n 18), .ref (n 19), .ref (n 20), .int 0, .int 1, .ref (n 21), .ref (n 22), .ref (n 23), .ref (n 24), .ref (n 25), .ref (n 26), .ref (n 27), .ref (n 28), .int 0, .ref (n 29), .ref (n 30), .int 0, .int 0, .ref (n 31), .ref (n 32), .ref (n 33), .ref (n 34), .int 0, .int 0, .int 0, .long 0, .ref (n 35), .ref (n 36), .int (-1), .int 0, .int 0, .int 0, .ref (n 37), .int 0, .ref (n 38), .ref (n 39), .ref (n 40), .ref (n 41), .ref (n 42), .ref (n 43), .int 0, .int 0, .ref (n 44), .ref (n 45), .ref (n 46)]))]) 0 := by
  intro sz
  refine ct_open (cc := cX11_sign) (maxL := 2) (ret := (some .int)) (by decide) rfl (Nat.le_of_ble_eq_true rfl) ?_
  intro p e s m below meth c ls A hx hb hr hml hts hown hlocks hin hP hK hD hA hS hl
  have hl : lv_has ls 2 [(0, .ref (n 0)), (1, .int 0)] := hl
  have hown : s.vm.findClass RX11 = some m.cls := hown
  have i11 : ∀ w ∈ u_ws RX11 TX11 71, w ∈ wsX11_sign := fun _ h => List.mem_cons_of_mem _ (List.mem_append_right _ h)
  have w1 := hts (.fieldLink RX11 164 "GuildCharterModel" "size" "I") (List.mem_cons_of_mem _ (List.mem_append_left _ (List.mem_of_getElem? (i := 0) rfl)))
  refine lv_iload_n hx hb dX11_sign_0 rfl (lv_at hl 1 rfl) ?_
  refine lv_aload_n hx hb dX11_sign_1 rfl (lv_at hl 0 rfl) ?_
  refine va_get (D := (dC, dI)) (ci := 11) (v := .int 0) (C := RX11) (T := TX11) (N := 71) hx hb hts i11 hown hK hP 0 rfl rfl 3 (nlt rfl) w1 (fun _ h9 => h9) rfl dX11_sign_2 ?_
  refine lv_icmp_ge (tgt := 21) hx hb dX11_sign_5 z552 (fun _ => ?_) (fun c1 => absurd (z510) c1)
  refine lv_iconst (v := 0) hx hb dX11_sign_21 z8 ?_
  refine W.widen (k := 0) (n := 0) (by decide +kernel) (by decide +kernel) ?_
  exact ret_i hx hb hr hlocks hS (u := (fun _ => 0)) (hP.sub [0] rfl) (hD.sub [0] (by decide +kernel) rfl) dX11_sign_22

set_option maxHeartbeats 4000000 in
set_option maxRecDepth 100000 in
theorem k57_X11_goOn (l : Launch) (dC : Nat → ClassId) (dI : Nat → Nat → Nat) (cB cI cJ cZ cO : ClassId) (n : Nat → Nat) : CV l yX11_goOn wsX11_goOn ({ frames := 1, cells := 0, slots := 0, locals := 21 }) (dC, dI) (tyL cB cI cJ cZ cO) [.ref (n 0)] [((n 0), .inr (11, [.ref (n 1), .ref (n 2), .int 0, .int 0, .int 0, .int (-1), .int 0, .int 0, .int 0, .int 0, .long 0, .ref (n 3), .ref (n 4), .ref (n 5), .ref (n 6), .ref (n 7), .ref (n 8), .ref (n 9), .ref (n 10), .ref (n 11), .ref (n 12), .ref (n 13), .ref (n 14), .ref (n 15), .ref (n 16), .ref (n 17), .ref (n 18), .ref (n 19), .ref (n 20), .int 0, .int 1, .ref (n 21), .ref (n 22), .ref (n 23), .ref (n 24), .ref (n 25), .ref (n 26), .ref (n 27), .ref (n 28), .int 0, .ref (n 29), .ref (n 30), .int 0, .int 0, .ref (n 31), .ref (n 32), .ref (n 33), .ref (n 34), .int 0, .int 0, .int 0, .long 0, .ref (n 35), .ref (n 36), .int (-1), .int 0, .int 0, .int 0, .ref (n 37), .int 0, .ref (n 38), .ref (n 39), .ref (n 40), .ref (n 41), .ref (n 42), .ref (n 43), .int 0, .int 0, .ref (n 44), .ref (n 45), .ref (n 46)]))] (fun u => [((n 0), .inr (11, [.ref (n 1), .ref (n 2), .int 0, .int 0, .int 0, .int (-1), .int 0, .int 0, .int 0, .int 0, .long 0, .ref (n 3), .ref (n 4), .ref (n 5), .ref (n 6), .ref (n 7), .ref (n 8), .ref (n 9), .ref (n 10), .ref (n 11), .ref (n 12), .ref (n 13), .ref (n 14), .ref (n 15), .ref (n 16), .ref (n 17), .ref (n 18), .ref (n 19), .ref (n 20), .int 0, .int 1, .ref (n 21), .ref (n 22), .ref (n 23), .ref (n 24), .ref (n 25), .ref (n 26), .ref (n 27), .ref (n 28), .int 0, .ref (n 29), .ref (n 30), .int 0, .int 0, .ref (n 31), .ref (n 32), .ref (n 33), .ref (n 34), .int 0, .int 0, .int 0, .long 0, .ref (n 35), .ref (n 36), .int (-1), .int 0, .int 0, .int 0, .ref (n 37), .int 0, .ref (n 38), .ref (n 39), .ref (n 40), .ref (n 41), .ref (n 42), .ref (n 43), .int 0, .int 0, .ref (n 44), .ref (n 45), .ref (n 46)]))]) := by
  intro sz
  refine ct_open (cc := cX11_goOn) (maxL := 3) (ret := none) (by decide) rfl (Nat.le_of_ble_eq_true rfl) ?_
  intro p e s m below meth c ls A hx hb hr hml hts hown hlocks hin hP hK hD hA hS hl
  have hl : lv_has ls 3 [(0, .ref (n 0))] := hl
  have hown : s.vm.findClass RX11 = some m.cls := hown
  have i11 : ∀ w ∈ u_ws RX11 TX11 71, w ∈ wsX11_goOn := fun _ h => List.mem_cons_of_mem _ (List.mem_append_right _ h)
  have w1 := hts (.fieldLink RX11 182 "GuildCharterModel" "end" "I") (List.mem_cons_of_mem _ (List.mem_append_left _ (List.mem_append_left _ (List.mem_of_getElem? (i := 0) rfl))))
  have w2 := hts (.fieldLink RX11 185 "GuildCharterModel" "at" "I") (List.mem_cons_of_mem _ (List.mem_append_left _ (List.mem_append_left _ (List.mem_of_getElem? (i := 1) rfl))))
  have w3 := hts (.fieldLink RX11 164 "GuildCharterModel" "size" "I") (List.mem_cons_of_mem _ (List.mem_append_left _ (List.mem_append_left _ (List.mem_of_getElem? (i := 2) rfl))))
  have w4 := hts (.fieldLink RX11 192 "GuildCharterModel" "token" "I") (List.mem_cons_of_mem _ (List.mem_append_left _ (List.mem_append_left _ (List.mem_of_getElem? (i := 3) rfl))))
  refine lv_aload_n hx hb dX11_goOn_0 rfl (lv_at hl 0 rfl) ?_
  refine lv_aload_n hx hb dX11_goOn_1 rfl (lv_at hl 0 rfl) ?_
  refine va_get (D := (dC, dI)) (ci := 11) (v := .int 0) (C := RX11) (T := TX11) (N := 71) hx hb hts i11 hown hK hP 0 rfl rfl 7 (nlt rfl) w1 (fun _ h9 => h9) rfl dX11_goOn_2 ?_
  refine va_put (D := (dC, dI)) (ci := 11) (v := .int 0) (ty := tyX11 6) (C := RX11) (T := TX11) (N := 71) hx hb hts i11 tyX11 tyX11_ok nmX11 hown hK hP hD hS 0 rfl rfl 6 (nlt rfl) w2 (fun _ h9 => h9) rfl (tyX11_ok 6 (nlt rfl)) rfl rfl (nlt rfl) dX11_goOn_5 (fun H locs hP hD hS => ?_)
  refine lv_aload_n hx hb dX11_goOn_8 rfl (lv_at hl 0 rfl) ?_
  refine va_get (D := (dC, dI)) (ci := 11) (v := .int 0) (C := RX11) (T := TX11) (N := 71) hx hb hts i11 hown hK hP 0 rfl rfl 6 (nlt rfl) w2 (fun _ h9 => h9) rfl dX11_goOn_9 ?_
  refine lv_aload_n hx hb dX11_goOn_12 rfl (lv_at hl 0 rfl) ?_
  refine va_get (D := (dC, dI)) (ci := 11) (v := .int 0) (C := RX11) (T := TX11) (N := 71) hx hb hts i11 hown hK hP 0 rfl rfl 3 (nlt rfl) w3 (fun _ h9 => h9) rfl dX11_goOn_13 ?_
  refine lv_icmp_ge (tgt := 58) hx hb dX11_goOn_16 z551 (fun _ => ?_) (fun c1 => absurd (z510) c1)
  refine lv_aload_n hx hb dX11_goOn_58 rfl (lv_at hl 0 rfl) ?_
  refine lv_aload_n hx hb dX11_goOn_59 rfl (lv_at hl 0 rfl) ?_
  refine va_get (D := (dC, dI)) (ci := 11) (v := .int 0) (C := RX11) (T := TX11) (N := 71) hx hb hts i11 hown hK hP 0 rfl rfl 6 (nlt rfl) w2 (fun _ h9 => h9) rfl dX11_goOn_60 ?_
  refine call_iV (ci := 11) (As := [.int 0]) (rest := []) (wr := []) ⟨hx, hb, hml, hown, hts⟩ (k56_X11_sign l dC dI cB cI cJ cZ cO n) (cwV 1 hts gX11_goOn_X11_sign rfl rfl rfl ⟨rfl, z555⟩ ⟨Nat.le_of_ble_eq_true rfl, Nat.le_of_ble_eq_true rfl⟩) hK hP hD hS hA [0] [] rfl rfl (by decide +kernel) (by decide +kernel) (by decide +kernel) rfl rfl rfl hl.1 (Nat.le_of_ble_eq_true rfl) rfl rfl dX11_goOn_63 ⟨by decide +kernel, by decide +kernel⟩ (fun u0 H locs hP hD hS => ?_)
  refine lv_istore_n (lv' := [(1, .int 0), (0, .ref (n 0))]) hx hb dX11_goOn_66 rfl hl (nlt rfl) rfl (fun ls hl => ?_)
  refine lv_aload_n hx hb dX11_goOn_67 rfl (lv_at hl 1 rfl) ?_
  refine lv_aload_n hx hb dX11_goOn_68 rfl (lv_at hl 1 rfl) ?_
  refine va_get (D := (dC, dI)) (ci := 11) (v := .int 0) (C := RX11) (T := TX11) (N := 71) hx hb hts i11 hown hK hP 0 rfl rfl 6 (nlt rfl) w2 (fun _ h9 => h9) rfl dX11_goOn_69 ?_
  refine lv_iconst (v := 1) hx hb dX11_goOn_72 z39 ?_
  refine lv_iadd hx hb dX11_goOn_73 ?_
  refine tpi z281 ?_
  refine va_put (D := (dC, dI)) (ci := 11) (v := .int 1) (ty := tyX11 7) (C := RX11) (T := TX11) (N := 71) hx hb hts i11 tyX11 tyX11_ok nmX11 hown hK hP hD hS 0 rfl rfl 7 (nlt rfl) w1 (fun _ h9 => h9) rfl (tyX11_ok 7 (nlt rfl)) rfl rfl (nlt rfl) dX11_goOn_74 (fun H locs hP hD hS => ?_)
  refine lv_aload_n hx hb dX11_goOn_77 rfl (lv_at hl 1 rfl) ?_
  refine va_get (D := (dC, dI)) (ci := 11) (v := .int 0) (C := RX11) (T := TX11) (N := 71) hx hb hts i11 hown hK hP 0 rfl rfl 6 (nlt rfl) w2 (fun _ h9 => h9) rfl dX11_goOn_78 ?_
  refine lv_aload_n hx hb dX11_goOn_81 rfl (lv_at hl 1 rfl) ?_
  refine va_get (D := (dC, dI)) (ci := 11) (v := .int 0) (C := RX11) (T := TX11) (N := 71) hx hb hts i11 hown hK hP 0 rfl rfl 3 (nlt rfl) w3 (fun _ h9 => h9) rfl dX11_goOn_82 ?_
  refine lv_icmp_lt (tgt := 112) hx hb dX11_goOn_85 z553 (fun c1 => absurd c1 (z125)) (fun _ => ?_)
  refine lv_aload_n hx hb dX11_goOn_88 rfl (lv_at hl 1 rfl) ?_
  refine lv_iconst (v := 0) hx hb dX11_goOn_89 z8 ?_
  refine va_put (D := (dC, dI)) (ci := 11) (v := .int 0) (ty := tyX11 8) (C := RX11) (T := TX11) (N := 71) hx hb hts i11 tyX11 tyX11_ok nmX11 hown hK hP hD hS 0 rfl rfl 8 (nlt rfl) w4 (fun _ h9 => h9) rfl (tyX11_ok 8 (nlt rfl)) rfl rfl (nlt rfl) dX11_goOn_90 (fun H locs hP hD hS => ?_)
  refine lv_aload_n hx hb dX11_goOn_93 rfl (lv_at hl 1 rfl) ?_
  refine lv_aload_n hx hb dX11_goOn_94 rfl (lv_at hl 1 rfl) ?_
  refine va_get (D := (dC, dI)) (ci := 11) (v := .int 0) (C := RX11) (T := TX11) (N := 71) hx hb hts i11 hown hK hP 0 rfl rfl 3 (nlt rfl) w3 (fun _ h9 => h9) rfl dX11_goOn_95 ?_
  refine va_put (D := (dC, dI)) (ci := 11) (v := .int 0) (ty := tyX11 6) (C := RX11) (T := TX11) (N := 71) hx hb hts i11 tyX11 tyX11_ok nmX11 hown hK hP hD hS 0 rfl rfl 6 (nlt rfl) w2 (fun _ h9 => h9) rfl (tyX11_ok 6 (nlt rfl)) rfl rfl (nlt rfl) dX11_goOn_98 (fun H locs hP hD hS => ?_)
  have hP : va_P (dC, dI) vwCl [((n 0), .inr (11, [.ref (n 1), .ref (n 2), .int 0, .int 0, .int 0, .int (-1), .int 0, .int 1, .int 0, .int 0, .long 0, .ref (n 3), .ref (n 4), .ref (n 5), .ref (n 6), .ref (n 7), .ref (n 8), .ref (n 9), .ref (n 10), .ref (n 11), .ref (n 12), .ref (n 13), .ref (n 14), .ref (n 15), .ref (n 16), .ref (n 17), .ref (n 18), .ref (n 19), .ref (n 20), .int 0, .int 1, .ref (n 21), .ref (n 22), .ref (n 23), .ref (n 24), .ref (n 25), .ref (n 26), .ref (n 27), .ref (n 28), .int 0, .ref (n 29), .ref (n 30), .int 0, .int 0, .ref (n 31), .ref (n 32), .ref (n 33), .ref (n 34), .int 0, .int 0, .int 0, .long 0, .ref (n 35), .ref (n 36), .int (-1), .int 0, .int 0, .int 0, .ref (n 37), .int 0, .ref (n 38), .ref (n 39), .ref (n 40), .ref (n 41), .ref (n 42), .ref (n 43), .int 0, .int 0, .ref (n 44), .ref (n 45), .ref (n 46)]))] H := hP
  have hD : va_D A [((n 0), .inr (11, [.ref (n 1), .ref (n 2), .int 0, .int 0, .int 0, .int (-1), .int 0, .int 1, .int 0, .int 0, .long 0, .ref (n 3), .ref (n 4), .ref (n 5), .ref (n 6), .ref (n 7), .ref (n 8), .ref (n 9), .ref (n 10), .ref (n 11), .ref (n 12), .ref (n 13), .ref (n 14), .ref (n 15), .ref (n 16), .ref (n 17), .ref (n 18), .ref (n 19), .ref (n 20), .int 0, .int 1, .ref (n 21), .ref (n 22), .ref (n 23), .ref (n 24), .ref (n 25), .ref (n 26), .ref (n 27), .ref (n 28), .int 0, .ref (n 29), .ref (n 30), .int 0, .int 0, .ref (n 31), .ref (n 32), .ref (n 33), .ref (n 34), .int 0, .int 0, .int 0, .long 0, .ref (n 35), .ref (n 36), .int (-1), .int 0, .int 0, .int 0, .ref (n 37), .int 0, .ref (n 38), .ref (n 39), .ref (n 40), .ref (n 41), .ref (n 42), .ref (n 43), .int 0, .int 0, .ref (n 44), .ref (n 45), .ref (n 46)]))] := hD
  refine lv_aload_n hx hb dX11_goOn_101 rfl (lv_at hl 1 rfl) ?_
  refine lv_aload_n hx hb dX11_goOn_102 rfl (lv_at hl 1 rfl) ?_
  refine va_get (D := (dC, dI)) (ci := 11) (v := .int 0) (C := RX11) (T := TX11) (N := 71) hx hb hts i11 hown hK hP 0 rfl rfl 3 (nlt rfl) w3 (fun _ h9 => h9) rfl dX11_goOn_103 ?_
  refine va_put (D := (dC, dI)) (ci := 11) (v := .int 0) (ty := tyX11 7) (C := RX11) (T := TX11) (N := 71) hx hb hts i11 tyX11 tyX11_ok nmX11 hown hK hP hD hS 0 rfl rfl 7 (nlt rfl) w1 (fun _ h9 => h9) rfl (tyX11_ok 7 (nlt rfl)) rfl rfl (nlt rfl) dX11_goOn_106 (fun H locs hP hD hS => ?_)
  refine lv_goto (tgt := 382) hx hb dX11_goOn_109 z554 ?_
  refine W.widen (k := 0) (n := 0) (by decide +kernel) (by decide +kernel) ?_
  exact ret_v hx hb hr hlocks hS (u := (fun _ => 0)) (hP.sub [0] rfl) (hD.sub [0] (by decide +kernel) rfl) dX11_goOn_382

set_option maxHeartbeats 4000000 in
set_option maxRecDepth 100000 in
theorem k58_X11_isGood (l : Launch) (dC : Nat → ClassId) (dI : Nat → Nat → Nat) (cB cI cJ cZ cO : ClassId) (n : Nat → Nat) : CI l yX11_isGood wsX11_isGood ({ frames := 0, cells := 0, slots := 0, locals := 0 }) (dC, dI) (tyL cB cI cJ cZ cO) [.ref (n 0)] [((n 0), .inr (11, [.ref (n 1), .ref (n 2), .int 0, .int 0, .int 0, .int (-1), .int 0, .int 0, .int 0, .int 0, .long 0, .ref (n 3), .ref (n 4), .ref (n 5), .ref (n 6), .ref (n 7), .ref (n 8), .ref (n 9), .ref (n 10), .ref (n 11), .ref (n 12), .ref (n 13), .ref (n 14), .ref (n 15), .ref (n 16), .ref (n 17), .ref (n 18), .ref (n 19), .ref (n 20), .int 0, .int 1, .ref (n 21), .ref (n 22), .ref (n 23), .ref (n 24), .ref (n 25), .ref (n 26), .ref (n 27), .ref (n 28), .int 0, .ref (n 29), .ref (n 30), .int 0, .int 0, .ref (n 31), .ref (n 32), .ref (n 33), .ref (n 34), .int 0, .int 0, .int 0, .long 0, .ref (n 35), .ref (n 36), .int (-1), .int 0, .int 0, .int 0, .ref (n 37), .int 0, .ref (n 38), .ref (n 39), .ref (n 40), .ref (n 41), .ref (n 42), .ref (n 43), .int 0, .int 0, .ref (n 44), .ref (n 45), .ref (n 46)]))] (fun u => [((n 0), .inr (11, [.ref (n 1), .ref (n 2), .int 0, .int 0, .int 0, .int (-1), .int 0, .int 0, .int 0, .int 0, .long 0, .ref (n 3), .ref (n 4), .ref (n 5), .ref (n 6), .ref (n 7), .ref (n 8), .ref (n 9), .ref (n 10), .ref (n 11), .ref (n 12), .ref (n 13), .ref (n 14), .ref (n 15), .ref (n 16), .ref (n 17), .ref (n 18), .ref (n 19), .ref (n 20), .int 0, .int 1, .ref (n 21), .ref (n 22), .ref (n 23), .ref (n 24), .ref (n 25), .ref (n 26), .ref (n 27), .ref (n 28), .int 0, .ref (n 29), .ref (n 30), .int 0, .int 0, .ref (n 31), .ref (n 32), .ref (n 33), .ref (n 34), .int 0, .int 0, .int 0, .long 0, .ref (n 35), .ref (n 36), .int (-1), .int 0, .int 0, .int 0, .ref (n 37), .int 0, .ref (n 38), .ref (n 39), .ref (n 40), .ref (n 41), .ref (n 42), .ref (n 43), .int 0, .int 0, .ref (n 44), .ref (n 45), .ref (n 46)]))]) 1 := by
  intro sz
  refine ct_open (cc := cX11_isGood) (maxL := 1) (ret := (some .boolean)) (by decide) rfl (Nat.le_of_ble_eq_true rfl) ?_
  intro p e s m below meth c ls A hx hb hr hml hts hown hlocks hin hP hK hD hA hS hl
  have hl : lv_has ls 1 [(0, .ref (n 0))] := hl
  have hown : s.vm.findClass RX11 = some m.cls := hown
  have i11 : ∀ w ∈ u_ws RX11 TX11 71, w ∈ wsX11_isGood := fun _ h => List.mem_cons_of_mem _ (List.mem_append_right _ h)
  have w1 := hts (.fieldLink RX11 167 "GuildCharterModel" "faultKind" "I") (List.mem_cons_of_mem _ (List.mem_append_left _ (List.mem_of_getElem? (i := 0) rfl)))
  refine lv_aload_n hx hb dX11_isGood_0 rfl (lv_at hl 0 rfl) ?_
  refine va_get (D := (dC, dI)) (ci := 11) (v := .int 0) (C := RX11) (T := TX11) (N := 71) hx hb hts i11 hown hK hP 0 rfl rfl 4 (nlt rfl) w1 (fun _ h9 => h9) rfl dX11_isGood_1 ?_
  refine lv_if_ne (tgt := 11) hx hb dX11_isGood_4 z556 (fun c1 => absurd (rfl) c1) (fun _ => ?_)
  refine lv_iconst (v := 1) hx hb dX11_isGood_7 z39 ?_
  refine lv_goto (tgt := 12) hx hb dX11_isGood_8 z557 ?_
  refine W.widen (k := 0) (n := 0) (by decide +kernel) (by decide +kernel) ?_
  exact ret_z hx hb hr rfl hlocks hS (u := (fun _ => 0)) (hP.sub [0] rfl) (hD.sub [0] (by decide +kernel) rfl) dX11_isGood_12

set_option maxHeartbeats 4000000 in
set_option maxRecDepth 100000 in
theorem k59_X11_settle (l : Launch) (dC : Nat → ClassId) (dI : Nat → Nat → Nat) (cB cI cJ cZ cO : ClassId) (n : Nat → Nat) : CV l yX11_settle wsX11_settle ({ frames := 0, cells := 0, slots := 0, locals := 0 }) (dC, dI) (tyL cB cI cJ cZ cO) [.ref (n 0)] [((n 0), .inr (11, [.ref (n 1), .ref (n 2), .int 0, .int 0, .int 0, .int (-1), .int 0, .int 0, .int 0, .int 0, .long 0, .ref (n 3), .ref (n 4), .ref (n 5), .ref (n 6), .ref (n 7), .ref (n 8), .ref (n 9), .ref (n 10), .ref (n 11), .ref (n 12), .ref (n 13), .ref (n 14), .ref (n 15), .ref (n 16), .ref (n 17), .ref (n 18), .ref (n 19), .ref (n 20), .int 0, .int 1, .ref (n 21), .ref (n 22), .ref (n 23), .ref (n 24), .ref (n 25), .ref (n 26), .ref (n 27), .ref (n 28), .int 0, .ref (n 29), .ref (n 30), .int 0, .int 0, .ref (n 31), .ref (n 32), .ref (n 33), .ref (n 34), .int 0, .int 0, .int 0, .long 0, .ref (n 35), .ref (n 36), .int (-1), .int 0, .int 0, .int 0, .ref (n 37), .int 0, .ref (n 38), .ref (n 39), .ref (n 40), .ref (n 41), .ref (n 42), .ref (n 43), .int 0, .int 0, .ref (n 44), .ref (n 45), .ref (n 46)])), ((n 6), .inl (cI, 2, .inl (fun _ => 0)))] (fun u => [((n 0), .inr (11, [.ref (n 1), .ref (n 2), .int 0, .int 0, .int 0, .int (-1), .int 0, .int 0, .int 0, .int 0, .long 0, .ref (n 3), .ref (n 4), .ref (n 5), .ref (n 6), .ref (n 7), .ref (n 8), .ref (n 9), .ref (n 10), .ref (n 11), .ref (n 12), .ref (n 13), .ref (n 14), .ref (n 15), .ref (n 16), .ref (n 17), .ref (n 18), .ref (n 19), .ref (n 20), .int 0, .int 1, .ref (n 21), .ref (n 22), .ref (n 23), .ref (n 24), .ref (n 25), .ref (n 26), .ref (n 27), .ref (n 28), .int 0, .ref (n 29), .ref (n 30), .int 0, .int 0, .ref (n 31), .ref (n 32), .ref (n 33), .ref (n 34), .int 0, .int 0, .int 0, .long 0, .ref (n 35), .ref (n 36), .int (-1), .int 0, .int 0, .int 0, .ref (n 37), .int 0, .ref (n 38), .ref (n 39), .ref (n 40), .ref (n 41), .ref (n 42), .ref (n 43), .int 0, .int 0, .ref (n 44), .ref (n 45), .ref (n 46)])), ((n 6), .inl (cI, 2, .inl (fun _ => 0)))]) := by
  intro sz
  refine ct_open (cc := cX11_settle) (maxL := 5) (ret := none) (by decide) rfl (Nat.le_of_ble_eq_true rfl) ?_
  intro p e s m below meth c ls A hx hb hr hml hts hown hlocks hin hP hK hD hA hS hl
  have hl : lv_has ls 5 [(0, .ref (n 0))] := hl
  have hown : s.vm.findClass RX11 = some m.cls := hown
  have i11 : ∀ w ∈ u_ws RX11 TX11 71, w ∈ wsX11_settle := fun _ h => List.mem_cons_of_mem _ (List.mem_append_right _ h)
  have w1 := hts (.fieldLink RX11 227 "GuildCharterModel" "rb" "I") (List.mem_cons_of_mem _ (List.mem_append_left _ (List.mem_append_left _ (List.mem_of_getElem? (i := 0) rfl))))
  have w2 := hts (.fieldLink RX11 30 "GuildCharterModel" "alts" "[I") (List.mem_cons_of_mem _ (List.mem_append_left _ (List.mem_append_left _ (List.mem_of_getElem? (i := 1) rfl))))
  refine lv_bipush (v := 24) hx hb dX11_settle_0 z134 ?_
  refine lv_aload_n hx hb dX11_settle_2 rfl (lv_at hl 0 rfl) ?_
  refine va_get (D := (dC, dI)) (ci := 11) (v := .int 1) (C := RX11) (T := TX11) (N := 71) hx hb hts i11 hown hK hP 0 rfl rfl 30 (nlt rfl) w1 (fun _ h9 => h9) rfl dX11_settle_3 ?_
  refine lv_imul hx hb dX11_settle_6 ?_
  refine tpi z561 ?_
  refine lv_istore_n (lv' := [(1, .int 24), (0, .ref (n 0))]) hx hb dX11_settle_7 rfl hl (nlt rfl) rfl (fun ls hl => ?_)
  refine lv_iload_n hx hb dX11_settle_8 rfl (lv_at hl 0 rfl) ?_
  refine lv_bipush (v := 24) hx hb dX11_settle_9 z134 ?_
  refine lv_aload_n hx hb dX11_settle_11 rfl (lv_at hl 1 rfl) ?_
  refine va_get (D := (dC, dI)) (ci := 11) (v := .int 1) (C := RX11) (T := TX11) (N := 71) hx hb hts i11 hown hK hP 0 rfl rfl 30 (nlt rfl) w1 (fun _ h9 => h9) rfl dX11_settle_12 ?_
  refine lv_imul hx hb dX11_settle_15 ?_
  refine tpi z561 ?_
  refine lv_aload_n hx hb dX11_settle_16 rfl (lv_at hl 1 rfl) ?_
  refine va_get (D := (dC, dI)) (ci := 11) (v := .ref (n 6)) (C := RX11) (T := TX11) (N := 71) hx hb hts i11 hown hK hP 0 rfl rfl 14 (nlt rfl) w2 (fun _ h9 => h9) rfl dX11_settle_17 ?_
  refine lv_aload_n hx hb dX11_settle_20 rfl (lv_at hl 1 rfl) ?_
  refine va_get (D := (dC, dI)) (ci := 11) (v := .int 1) (C := RX11) (T := TX11) (N := 71) hx hb hts i11 hown hK hP 0 rfl rfl 30 (nlt rfl) w1 (fun _ h9 => h9) rfl dX11_settle_21 ?_
  refine my_iald (v := 0) hx hb hK hP 1 1 rfl rfl z547 rfl dX11_settle_24 ?_
  refine lv_iadd hx hb dX11_settle_25 ?_
  refine tpi z562 ?_
  refine lv_icmp_ge (tgt := 164) hx hb dX11_settle_26 z564 (fun _ => ?_) (fun c1 => absurd (z563) c1)
  refine W.widen (k := 0) (n := 0) (by decide +kernel) (by decide +kernel) ?_
  exact ret_v hx hb hr hlocks hS (u := (fun _ => 0)) (hP.sub [0, 1] rfl) (hD.sub [0, 1] (by decide +kernel) rfl) dX11_settle_164

set_option maxHeartbeats 4000000 in
set_option maxRecDepth 100000 in
theorem k60_X11_toldTurn (l : Launch) (dC : Nat → ClassId) (dI : Nat → Nat → Nat) (cB cI cJ cZ cO : ClassId) (n : Nat → Nat) : CI l yX11_toldTurn wsX11_toldTurn ({ frames := 0, cells := 0, slots := 0, locals := 0 }) (dC, dI) (tyL cB cI cJ cZ cO) [.ref (n 0), .int 0] [((n 0), .inr (11, [.ref (n 1), .ref (n 2), .int 0, .int 0, .int 0, .int (-1), .int 0, .int 0, .int 0, .int 0, .long 0, .ref (n 3), .ref (n 4), .ref (n 5), .ref (n 6), .ref (n 7), .ref (n 8), .ref (n 9), .ref (n 10), .ref (n 11), .ref (n 12), .ref (n 13), .ref (n 14), .ref (n 15), .ref (n 16), .ref (n 17), .ref (n 18), .ref (n 19), .ref (n 20), .int 1, .int 1, .ref (n 21), .ref (n 22), .ref (n 23), .ref (n 24), .ref (n 25), .ref (n 26), .ref (n 27), .ref (n 28), .int 0, .ref (n 29), .ref (n 30), .int 0, .int 0, .ref (n 31), .ref (n 32), .ref (n 33), .ref (n 34), .int 0, .int 0, .int 0, .long 0, .ref (n 35), .ref (n 36), .int (-1), .int 0, .int 0, .int 0, .ref (n 37), .int 0, .ref (n 38), .ref (n 39), .ref (n 40), .ref (n 41), .ref (n 42), .ref (n 43), .int 0, .int 0, .ref (n 44), .ref (n 45), .ref (n 46)])), ((n 8), .inl (cI, 2, .inl (fun _ => 0)))] (fun u => [((n 0), .inr (11, [.ref (n 1), .ref (n 2), .int 0, .int 0, .int 0, .int (-1), .int 0, .int 0, .int 0, .int 0, .long 0, .ref (n 3), .ref (n 4), .ref (n 5), .ref (n 6), .ref (n 7), .ref (n 8), .ref (n 9), .ref (n 10), .ref (n 11), .ref (n 12), .ref (n 13), .ref (n 14), .ref (n 15), .ref (n 16), .ref (n 17), .ref (n 18), .ref (n 19), .ref (n 20), .int 1, .int 1, .ref (n 21), .ref (n 22), .ref (n 23), .ref (n 24), .ref (n 25), .ref (n 26), .ref (n 27), .ref (n 28), .int 0, .ref (n 29), .ref (n 30), .int 0, .int 0, .ref (n 31), .ref (n 32), .ref (n 33), .ref (n 34), .int 0, .int 0, .int 0, .long 0, .ref (n 35), .ref (n 36), .int (-1), .int 0, .int 0, .int 0, .ref (n 37), .int 0, .ref (n 38), .ref (n 39), .ref (n 40), .ref (n 41), .ref (n 42), .ref (n 43), .int 0, .int 0, .ref (n 44), .ref (n 45), .ref (n 46)])), ((n 8), .inl (cI, 2, .inl (fun _ => 0)))]) 0 := by
  intro sz
  refine ct_open (cc := cX11_toldTurn) (maxL := 2) (ret := (some .int)) (by decide) rfl (Nat.le_of_ble_eq_true rfl) ?_
  intro p e s m below meth c ls A hx hb hr hml hts hown hlocks hin hP hK hD hA hS hl
  have hl : lv_has ls 2 [(0, .ref (n 0)), (1, .int 0)] := hl
  have hown : s.vm.findClass RX11 = some m.cls := hown
  have i11 : ∀ w ∈ u_ws RX11 TX11 71, w ∈ wsX11_toldTurn := fun _ h => List.mem_cons_of_mem _ (List.mem_append_right _ h)
  have w1 := hts (.fieldLink RX11 36 "GuildCharterModel" "turnMany" "[I") (List.mem_cons_of_mem _ (List.mem_append_left _ (List.mem_of_getElem? (i := 0) rfl)))
  have w2 := hts (.fieldLink RX11 233 "GuildCharterModel" "bank" "I") (List.mem_cons_of_mem _ (List.mem_append_left _ (List.mem_of_getElem? (i := 1) rfl)))
  refine lv_aload_n hx hb dX11_toldTurn_0 rfl (lv_at hl 0 rfl) ?_
  refine va_get (D := (dC, dI)) (ci := 11) (v := .ref (n 8)) (C := RX11) (T := TX11) (N := 71) hx hb hts i11 hown hK hP 0 rfl rfl 16 (nlt rfl) w1 (fun _ h9 => h9) rfl dX11_toldTurn_1 ?_
  refine lv_aload_n hx hb dX11_toldTurn_4 rfl (lv_at hl 0 rfl) ?_
  refine va_get (D := (dC, dI)) (ci := 11) (v := .int 1) (C := RX11) (T := TX11) (N := 71) hx hb hts i11 hown hK hP 0 rfl rfl 29 (nlt rfl) w2 (fun _ h9 => h9) rfl dX11_toldTurn_5 ?_
  refine my_iald (v := 0) hx hb hK hP 1 1 rfl rfl z547 rfl dX11_toldTurn_8 ?_
  refine lv_if_ne (tgt := 18) hx hb dX11_toldTurn_9 z256 (fun c1 => absurd (rfl) c1) (fun _ => ?_)
  refine lv_iload_n hx hb dX11_toldTurn_12 rfl (lv_at hl 1 rfl) ?_
  refine lv_iconst (v := 3) hx hb dX11_toldTurn_13 z69 ?_
  refine lv_irem hx hb dX11_toldTurn_14 z257 ?_
  refine tpi z258 ?_
  refine lv_goto (tgt := 42) hx hb dX11_toldTurn_15 z259 ?_
  refine W.widen (k := 0) (n := 0) (by decide +kernel) (by decide +kernel) ?_
  exact ret_i hx hb hr hlocks hS (u := (fun _ => 0)) (hP.sub [0, 1] rfl) (hD.sub [0, 1] (by decide +kernel) rfl) dX11_toldTurn_42

set_option maxHeartbeats 4000000 in
set_option maxRecDepth 100000 in
theorem k61_X11_toldTurn (l : Launch) (dC : Nat → ClassId) (dI : Nat → Nat → Nat) (cB cI cJ cZ cO : ClassId) (n : Nat → Nat) : CI l yX11_toldTurn wsX11_toldTurn ({ frames := 0, cells := 0, slots := 0, locals := 0 }) (dC, dI) (tyL cB cI cJ cZ cO) [.ref (n 0), .int 1] [((n 0), .inr (11, [.ref (n 1), .ref (n 2), .int 0, .int 0, .int 0, .int (-1), .int 0, .int 0, .int 0, .int 0, .long 0, .ref (n 3), .ref (n 4), .ref (n 5), .ref (n 6), .ref (n 7), .ref (n 8), .ref (n 9), .ref (n 10), .ref (n 11), .ref (n 12), .ref (n 13), .ref (n 14), .ref (n 15), .ref (n 16), .ref (n 17), .ref (n 18), .ref (n 19), .ref (n 20), .int 1, .int 1, .ref (n 21), .ref (n 22), .ref (n 23), .ref (n 24), .ref (n 25), .ref (n 26), .ref (n 27), .ref (n 28), .int 0, .ref (n 29), .ref (n 30), .int 0, .int 0, .ref (n 31), .ref (n 32), .ref (n 33), .ref (n 34), .int 0, .int 0, .int 0, .long 0, .ref (n 35), .ref (n 36), .int (-1), .int 0, .int 0, .int 0, .ref (n 37), .int 0, .ref (n 38), .ref (n 39), .ref (n 40), .ref (n 41), .ref (n 42), .ref (n 43), .int 0, .int 0, .ref (n 44), .ref (n 45), .ref (n 46)])), ((n 8), .inl (cI, 2, .inl (fun _ => 0)))] (fun u => [((n 0), .inr (11, [.ref (n 1), .ref (n 2), .int 0, .int 0, .int 0, .int (-1), .int 0, .int 0, .int 0, .int 0, .long 0, .ref (n 3), .ref (n 4), .ref (n 5), .ref (n 6), .ref (n 7), .ref (n 8), .ref (n 9), .ref (n 10), .ref (n 11), .ref (n 12), .ref (n 13), .ref (n 14), .ref (n 15), .ref (n 16), .ref (n 17), .ref (n 18), .ref (n 19), .ref (n 20), .int 1, .int 1, .ref (n 21), .ref (n 22), .ref (n 23), .ref (n 24), .ref (n 25), .ref (n 26), .ref (n 27), .ref (n 28), .int 0, .ref (n 29), .ref (n 30), .int 0, .int 0, .ref (n 31), .ref (n 32), .ref (n 33), .ref (n 34), .int 0, .int 0, .int 0, .long 0, .ref (n 35), .ref (n 36), .int (-1), .int 0, .int 0, .int 0, .ref (n 37), .int 0, .ref (n 38), .ref (n 39), .ref (n 40), .ref (n 41), .ref (n 42), .ref (n 43), .int 0, .int 0, .ref (n 44), .ref (n 45), .ref (n 46)])), ((n 8), .inl (cI, 2, .inl (fun _ => 0)))]) 1 := by
  intro sz
  refine ct_open (cc := cX11_toldTurn) (maxL := 2) (ret := (some .int)) (by decide) rfl (Nat.le_of_ble_eq_true rfl) ?_
  intro p e s m below meth c ls A hx hb hr hml hts hown hlocks hin hP hK hD hA hS hl
  have hl : lv_has ls 2 [(0, .ref (n 0)), (1, .int 1)] := hl
  have hown : s.vm.findClass RX11 = some m.cls := hown
  have i11 : ∀ w ∈ u_ws RX11 TX11 71, w ∈ wsX11_toldTurn := fun _ h => List.mem_cons_of_mem _ (List.mem_append_right _ h)
  have w1 := hts (.fieldLink RX11 36 "GuildCharterModel" "turnMany" "[I") (List.mem_cons_of_mem _ (List.mem_append_left _ (List.mem_of_getElem? (i := 0) rfl)))
  have w2 := hts (.fieldLink RX11 233 "GuildCharterModel" "bank" "I") (List.mem_cons_of_mem _ (List.mem_append_left _ (List.mem_of_getElem? (i := 1) rfl)))
  refine lv_aload_n hx hb dX11_toldTurn_0 rfl (lv_at hl 0 rfl) ?_
  refine va_get (D := (dC, dI)) (ci := 11) (v := .ref (n 8)) (C := RX11) (T := TX11) (N := 71) hx hb hts i11 hown hK hP 0 rfl rfl 16 (nlt rfl) w1 (fun _ h9 => h9) rfl dX11_toldTurn_1 ?_
  refine lv_aload_n hx hb dX11_toldTurn_4 rfl (lv_at hl 0 rfl) ?_
  refine va_get (D := (dC, dI)) (ci := 11) (v := .int 1) (C := RX11) (T := TX11) (N := 71) hx hb hts i11 hown hK hP 0 rfl rfl 29 (nlt rfl) w2 (fun _ h9 => h9) rfl dX11_toldTurn_5 ?_
  refine my_iald (v := 0) hx hb hK hP 1 1 rfl rfl z547 rfl dX11_toldTurn_8 ?_
  refine lv_if_ne (tgt := 18) hx hb dX11_toldTurn_9 z256 (fun c1 => absurd (rfl) c1) (fun _ => ?_)
  refine lv_iload_n hx hb dX11_toldTurn_12 rfl (lv_at hl 1 rfl) ?_
  refine lv_iconst (v := 3) hx hb dX11_toldTurn_13 z69 ?_
  refine lv_irem hx hb dX11_toldTurn_14 z257 ?_
  refine tpi z261 ?_
  refine lv_goto (tgt := 42) hx hb dX11_toldTurn_15 z259 ?_
  refine W.widen (k := 0) (n := 0) (by decide +kernel) (by decide +kernel) ?_
  exact ret_i hx hb hr hlocks hS (u := (fun _ => 0)) (hP.sub [0, 1] rfl) (hD.sub [0, 1] (by decide +kernel) rfl) dX11_toldTurn_42

set_option maxHeartbeats 4000000 in
set_option maxRecDepth 100000 in
theorem k62_X11_toldTurn (l : Launch) (dC : Nat → ClassId) (dI : Nat → Nat → Nat) (cB cI cJ cZ cO : ClassId) (n : Nat → Nat) : CI l yX11_toldTurn wsX11_toldTurn ({ frames := 0, cells := 0, slots := 0, locals := 0 }) (dC, dI) (tyL cB cI cJ cZ cO) [.ref (n 0), .int 2] [((n 0), .inr (11, [.ref (n 1), .ref (n 2), .int 0, .int 0, .int 0, .int (-1), .int 0, .int 0, .int 0, .int 0, .long 0, .ref (n 3), .ref (n 4), .ref (n 5), .ref (n 6), .ref (n 7), .ref (n 8), .ref (n 9), .ref (n 10), .ref (n 11), .ref (n 12), .ref (n 13), .ref (n 14), .ref (n 15), .ref (n 16), .ref (n 17), .ref (n 18), .ref (n 19), .ref (n 20), .int 1, .int 1, .ref (n 21), .ref (n 22), .ref (n 23), .ref (n 24), .ref (n 25), .ref (n 26), .ref (n 27), .ref (n 28), .int 0, .ref (n 29), .ref (n 30), .int 0, .int 0, .ref (n 31), .ref (n 32), .ref (n 33), .ref (n 34), .int 0, .int 0, .int 0, .long 0, .ref (n 35), .ref (n 36), .int (-1), .int 0, .int 0, .int 0, .ref (n 37), .int 0, .ref (n 38), .ref (n 39), .ref (n 40), .ref (n 41), .ref (n 42), .ref (n 43), .int 0, .int 0, .ref (n 44), .ref (n 45), .ref (n 46)])), ((n 8), .inl (cI, 2, .inl (fun _ => 0)))] (fun u => [((n 0), .inr (11, [.ref (n 1), .ref (n 2), .int 0, .int 0, .int 0, .int (-1), .int 0, .int 0, .int 0, .int 0, .long 0, .ref (n 3), .ref (n 4), .ref (n 5), .ref (n 6), .ref (n 7), .ref (n 8), .ref (n 9), .ref (n 10), .ref (n 11), .ref (n 12), .ref (n 13), .ref (n 14), .ref (n 15), .ref (n 16), .ref (n 17), .ref (n 18), .ref (n 19), .ref (n 20), .int 1, .int 1, .ref (n 21), .ref (n 22), .ref (n 23), .ref (n 24), .ref (n 25), .ref (n 26), .ref (n 27), .ref (n 28), .int 0, .ref (n 29), .ref (n 30), .int 0, .int 0, .ref (n 31), .ref (n 32), .ref (n 33), .ref (n 34), .int 0, .int 0, .int 0, .long 0, .ref (n 35), .ref (n 36), .int (-1), .int 0, .int 0, .int 0, .ref (n 37), .int 0, .ref (n 38), .ref (n 39), .ref (n 40), .ref (n 41), .ref (n 42), .ref (n 43), .int 0, .int 0, .ref (n 44), .ref (n 45), .ref (n 46)])), ((n 8), .inl (cI, 2, .inl (fun _ => 0)))]) 2 := by
  intro sz
  refine ct_open (cc := cX11_toldTurn) (maxL := 2) (ret := (some .int)) (by decide) rfl (Nat.le_of_ble_eq_true rfl) ?_
  intro p e s m below meth c ls A hx hb hr hml hts hown hlocks hin hP hK hD hA hS hl
  have hl : lv_has ls 2 [(0, .ref (n 0)), (1, .int 2)] := hl
  have hown : s.vm.findClass RX11 = some m.cls := hown
  have i11 : ∀ w ∈ u_ws RX11 TX11 71, w ∈ wsX11_toldTurn := fun _ h => List.mem_cons_of_mem _ (List.mem_append_right _ h)
  have w1 := hts (.fieldLink RX11 36 "GuildCharterModel" "turnMany" "[I") (List.mem_cons_of_mem _ (List.mem_append_left _ (List.mem_of_getElem? (i := 0) rfl)))
  have w2 := hts (.fieldLink RX11 233 "GuildCharterModel" "bank" "I") (List.mem_cons_of_mem _ (List.mem_append_left _ (List.mem_of_getElem? (i := 1) rfl)))
  refine lv_aload_n hx hb dX11_toldTurn_0 rfl (lv_at hl 0 rfl) ?_
  refine va_get (D := (dC, dI)) (ci := 11) (v := .ref (n 8)) (C := RX11) (T := TX11) (N := 71) hx hb hts i11 hown hK hP 0 rfl rfl 16 (nlt rfl) w1 (fun _ h9 => h9) rfl dX11_toldTurn_1 ?_
  refine lv_aload_n hx hb dX11_toldTurn_4 rfl (lv_at hl 0 rfl) ?_
  refine va_get (D := (dC, dI)) (ci := 11) (v := .int 1) (C := RX11) (T := TX11) (N := 71) hx hb hts i11 hown hK hP 0 rfl rfl 29 (nlt rfl) w2 (fun _ h9 => h9) rfl dX11_toldTurn_5 ?_
  refine my_iald (v := 0) hx hb hK hP 1 1 rfl rfl z547 rfl dX11_toldTurn_8 ?_
  refine lv_if_ne (tgt := 18) hx hb dX11_toldTurn_9 z256 (fun c1 => absurd (rfl) c1) (fun _ => ?_)
  refine lv_iload_n hx hb dX11_toldTurn_12 rfl (lv_at hl 1 rfl) ?_
  refine lv_iconst (v := 3) hx hb dX11_toldTurn_13 z69 ?_
  refine lv_irem hx hb dX11_toldTurn_14 z257 ?_
  refine tpi z262 ?_
  refine lv_goto (tgt := 42) hx hb dX11_toldTurn_15 z259 ?_
  refine W.widen (k := 0) (n := 0) (by decide +kernel) (by decide +kernel) ?_
  exact ret_i hx hb hr hlocks hS (u := (fun _ => 0)) (hP.sub [0, 1] rfl) (hD.sub [0, 1] (by decide +kernel) rfl) dX11_toldTurn_42

set_option maxHeartbeats 4000000 in
set_option maxRecDepth 100000 in
theorem k63_X11_toldTurn (l : Launch) (dC : Nat → ClassId) (dI : Nat → Nat → Nat) (cB cI cJ cZ cO : ClassId) (n : Nat → Nat) : CI l yX11_toldTurn wsX11_toldTurn ({ frames := 0, cells := 0, slots := 0, locals := 0 }) (dC, dI) (tyL cB cI cJ cZ cO) [.ref (n 0), .int 3] [((n 0), .inr (11, [.ref (n 1), .ref (n 2), .int 0, .int 0, .int 0, .int (-1), .int 0, .int 0, .int 0, .int 0, .long 0, .ref (n 3), .ref (n 4), .ref (n 5), .ref (n 6), .ref (n 7), .ref (n 8), .ref (n 9), .ref (n 10), .ref (n 11), .ref (n 12), .ref (n 13), .ref (n 14), .ref (n 15), .ref (n 16), .ref (n 17), .ref (n 18), .ref (n 19), .ref (n 20), .int 1, .int 1, .ref (n 21), .ref (n 22), .ref (n 23), .ref (n 24), .ref (n 25), .ref (n 26), .ref (n 27), .ref (n 28), .int 0, .ref (n 29), .ref (n 30), .int 0, .int 0, .ref (n 31), .ref (n 32), .ref (n 33), .ref (n 34), .int 0, .int 0, .int 0, .long 0, .ref (n 35), .ref (n 36), .int (-1), .int 0, .int 0, .int 0, .ref (n 37), .int 0, .ref (n 38), .ref (n 39), .ref (n 40), .ref (n 41), .ref (n 42), .ref (n 43), .int 0, .int 0, .ref (n 44), .ref (n 45), .ref (n 46)])), ((n 8), .inl (cI, 2, .inl (fun _ => 0)))] (fun u => [((n 0), .inr (11, [.ref (n 1), .ref (n 2), .int 0, .int 0, .int 0, .int (-1), .int 0, .int 0, .int 0, .int 0, .long 0, .ref (n 3), .ref (n 4), .ref (n 5), .ref (n 6), .ref (n 7), .ref (n 8), .ref (n 9), .ref (n 10), .ref (n 11), .ref (n 12), .ref (n 13), .ref (n 14), .ref (n 15), .ref (n 16), .ref (n 17), .ref (n 18), .ref (n 19), .ref (n 20), .int 1, .int 1, .ref (n 21), .ref (n 22), .ref (n 23), .ref (n 24), .ref (n 25), .ref (n 26), .ref (n 27), .ref (n 28), .int 0, .ref (n 29), .ref (n 30), .int 0, .int 0, .ref (n 31), .ref (n 32), .ref (n 33), .ref (n 34), .int 0, .int 0, .int 0, .long 0, .ref (n 35), .ref (n 36), .int (-1), .int 0, .int 0, .int 0, .ref (n 37), .int 0, .ref (n 38), .ref (n 39), .ref (n 40), .ref (n 41), .ref (n 42), .ref (n 43), .int 0, .int 0, .ref (n 44), .ref (n 45), .ref (n 46)])), ((n 8), .inl (cI, 2, .inl (fun _ => 0)))]) 0 := by
  intro sz
  refine ct_open (cc := cX11_toldTurn) (maxL := 2) (ret := (some .int)) (by decide) rfl (Nat.le_of_ble_eq_true rfl) ?_
  intro p e s m below meth c ls A hx hb hr hml hts hown hlocks hin hP hK hD hA hS hl
  have hl : lv_has ls 2 [(0, .ref (n 0)), (1, .int 3)] := hl
  have hown : s.vm.findClass RX11 = some m.cls := hown
  have i11 : ∀ w ∈ u_ws RX11 TX11 71, w ∈ wsX11_toldTurn := fun _ h => List.mem_cons_of_mem _ (List.mem_append_right _ h)
  have w1 := hts (.fieldLink RX11 36 "GuildCharterModel" "turnMany" "[I") (List.mem_cons_of_mem _ (List.mem_append_left _ (List.mem_of_getElem? (i := 0) rfl)))
  have w2 := hts (.fieldLink RX11 233 "GuildCharterModel" "bank" "I") (List.mem_cons_of_mem _ (List.mem_append_left _ (List.mem_of_getElem? (i := 1) rfl)))
  refine lv_aload_n hx hb dX11_toldTurn_0 rfl (lv_at hl 0 rfl) ?_
  refine va_get (D := (dC, dI)) (ci := 11) (v := .ref (n 8)) (C := RX11) (T := TX11) (N := 71) hx hb hts i11 hown hK hP 0 rfl rfl 16 (nlt rfl) w1 (fun _ h9 => h9) rfl dX11_toldTurn_1 ?_
  refine lv_aload_n hx hb dX11_toldTurn_4 rfl (lv_at hl 0 rfl) ?_
  refine va_get (D := (dC, dI)) (ci := 11) (v := .int 1) (C := RX11) (T := TX11) (N := 71) hx hb hts i11 hown hK hP 0 rfl rfl 29 (nlt rfl) w2 (fun _ h9 => h9) rfl dX11_toldTurn_5 ?_
  refine my_iald (v := 0) hx hb hK hP 1 1 rfl rfl z547 rfl dX11_toldTurn_8 ?_
  refine lv_if_ne (tgt := 18) hx hb dX11_toldTurn_9 z256 (fun c1 => absurd (rfl) c1) (fun _ => ?_)
  refine lv_iload_n hx hb dX11_toldTurn_12 rfl (lv_at hl 1 rfl) ?_
  refine lv_iconst (v := 3) hx hb dX11_toldTurn_13 z69 ?_
  refine lv_irem hx hb dX11_toldTurn_14 z257 ?_
  refine tpi z263 ?_
  refine lv_goto (tgt := 42) hx hb dX11_toldTurn_15 z259 ?_
  refine W.widen (k := 0) (n := 0) (by decide +kernel) (by decide +kernel) ?_
  exact ret_i hx hb hr hlocks hS (u := (fun _ => 0)) (hP.sub [0, 1] rfl) (hD.sub [0, 1] (by decide +kernel) rfl) dX11_toldTurn_42

set_option maxHeartbeats 4000000 in
set_option maxRecDepth 100000 in
theorem k64_X11_toldTurn (l : Launch) (dC : Nat → ClassId) (dI : Nat → Nat → Nat) (cB cI cJ cZ cO : ClassId) (n : Nat → Nat) : CI l yX11_toldTurn wsX11_toldTurn ({ frames := 0, cells := 0, slots := 0, locals := 0 }) (dC, dI) (tyL cB cI cJ cZ cO) [.ref (n 0), .int 4] [((n 0), .inr (11, [.ref (n 1), .ref (n 2), .int 0, .int 0, .int 0, .int (-1), .int 0, .int 0, .int 0, .int 0, .long 0, .ref (n 3), .ref (n 4), .ref (n 5), .ref (n 6), .ref (n 7), .ref (n 8), .ref (n 9), .ref (n 10), .ref (n 11), .ref (n 12), .ref (n 13), .ref (n 14), .ref (n 15), .ref (n 16), .ref (n 17), .ref (n 18), .ref (n 19), .ref (n 20), .int 1, .int 1, .ref (n 21), .ref (n 22), .ref (n 23), .ref (n 24), .ref (n 25), .ref (n 26), .ref (n 27), .ref (n 28), .int 0, .ref (n 29), .ref (n 30), .int 0, .int 0, .ref (n 31), .ref (n 32), .ref (n 33), .ref (n 34), .int 0, .int 0, .int 0, .long 0, .ref (n 35), .ref (n 36), .int (-1), .int 0, .int 0, .int 0, .ref (n 37), .int 0, .ref (n 38), .ref (n 39), .ref (n 40), .ref (n 41), .ref (n 42), .ref (n 43), .int 0, .int 0, .ref (n 44), .ref (n 45), .ref (n 46)])), ((n 8), .inl (cI, 2, .inl (fun _ => 0)))] (fun u => [((n 0), .inr (11, [.ref (n 1), .ref (n 2), .int 0, .int 0, .int 0, .int (-1), .int 0, .int 0, .int 0, .int 0, .long 0, .ref (n 3), .ref (n 4), .ref (n 5), .ref (n 6), .ref (n 7), .ref (n 8), .ref (n 9), .ref (n 10), .ref (n 11), .ref (n 12), .ref (n 13), .ref (n 14), .ref (n 15), .ref (n 16), .ref (n 17), .ref (n 18), .ref (n 19), .ref (n 20), .int 1, .int 1, .ref (n 21), .ref (n 22), .ref (n 23), .ref (n 24), .ref (n 25), .ref (n 26), .ref (n 27), .ref (n 28), .int 0, .ref (n 29), .ref (n 30), .int 0, .int 0, .ref (n 31), .ref (n 32), .ref (n 33), .ref (n 34), .int 0, .int 0, .int 0, .long 0, .ref (n 35), .ref (n 36), .int (-1), .int 0, .int 0, .int 0, .ref (n 37), .int 0, .ref (n 38), .ref (n 39), .ref (n 40), .ref (n 41), .ref (n 42), .ref (n 43), .int 0, .int 0, .ref (n 44), .ref (n 45), .ref (n 46)])), ((n 8), .inl (cI, 2, .inl (fun _ => 0)))]) 1 := by
  intro sz
  refine ct_open (cc := cX11_toldTurn) (maxL := 2) (ret := (some .int)) (by decide) rfl (Nat.le_of_ble_eq_true rfl) ?_
  intro p e s m below meth c ls A hx hb hr hml hts hown hlocks hin hP hK hD hA hS hl
  have hl : lv_has ls 2 [(0, .ref (n 0)), (1, .int 4)] := hl
  have hown : s.vm.findClass RX11 = some m.cls := hown
  have i11 : ∀ w ∈ u_ws RX11 TX11 71, w ∈ wsX11_toldTurn := fun _ h => List.mem_cons_of_mem _ (List.mem_append_right _ h)
  have w1 := hts (.fieldLink RX11 36 "GuildCharterModel" "turnMany" "[I") (List.mem_cons_of_mem _ (List.mem_append_left _ (List.mem_of_getElem? (i := 0) rfl)))
  have w2 := hts (.fieldLink RX11 233 "GuildCharterModel" "bank" "I") (List.mem_cons_of_mem _ (List.mem_append_left _ (List.mem_of_getElem? (i := 1) rfl)))
  refine lv_aload_n hx hb dX11_toldTurn_0 rfl (lv_at hl 0 rfl) ?_
  refine va_get (D := (dC, dI)) (ci := 11) (v := .ref (n 8)) (C := RX11) (T := TX11) (N := 71) hx hb hts i11 hown hK hP 0 rfl rfl 16 (nlt rfl) w1 (fun _ h9 => h9) rfl dX11_toldTurn_1 ?_
  refine lv_aload_n hx hb dX11_toldTurn_4 rfl (lv_at hl 0 rfl) ?_
  refine va_get (D := (dC, dI)) (ci := 11) (v := .int 1) (C := RX11) (T := TX11) (N := 71) hx hb hts i11 hown hK hP 0 rfl rfl 29 (nlt rfl) w2 (fun _ h9 => h9) rfl dX11_toldTurn_5 ?_
  refine my_iald (v := 0) hx hb hK hP 1 1 rfl rfl z547 rfl dX11_toldTurn_8 ?_
  refine lv_if_ne (tgt := 18) hx hb dX11_toldTurn_9 z256 (fun c1 => absurd (rfl) c1) (fun _ => ?_)
  refine lv_iload_n hx hb dX11_toldTurn_12 rfl (lv_at hl 1 rfl) ?_
  refine lv_iconst (v := 3) hx hb dX11_toldTurn_13 z69 ?_
  refine lv_irem hx hb dX11_toldTurn_14 z257 ?_
  refine tpi z264 ?_
  refine lv_goto (tgt := 42) hx hb dX11_toldTurn_15 z259 ?_
  refine W.widen (k := 0) (n := 0) (by decide +kernel) (by decide +kernel) ?_
  exact ret_i hx hb hr hlocks hS (u := (fun _ => 0)) (hP.sub [0, 1] rfl) (hD.sub [0, 1] (by decide +kernel) rfl) dX11_toldTurn_42

set_option maxHeartbeats 4000000 in
set_option maxRecDepth 100000 in
theorem k65_X11_toldTurn (l : Launch) (dC : Nat → ClassId) (dI : Nat → Nat → Nat) (cB cI cJ cZ cO : ClassId) (n : Nat → Nat) : CI l yX11_toldTurn wsX11_toldTurn ({ frames := 0, cells := 0, slots := 0, locals := 0 }) (dC, dI) (tyL cB cI cJ cZ cO) [.ref (n 0), .int 5] [((n 0), .inr (11, [.ref (n 1), .ref (n 2), .int 0, .int 0, .int 0, .int (-1), .int 0, .int 0, .int 0, .int 0, .long 0, .ref (n 3), .ref (n 4), .ref (n 5), .ref (n 6), .ref (n 7), .ref (n 8), .ref (n 9), .ref (n 10), .ref (n 11), .ref (n 12), .ref (n 13), .ref (n 14), .ref (n 15), .ref (n 16), .ref (n 17), .ref (n 18), .ref (n 19), .ref (n 20), .int 1, .int 1, .ref (n 21), .ref (n 22), .ref (n 23), .ref (n 24), .ref (n 25), .ref (n 26), .ref (n 27), .ref (n 28), .int 0, .ref (n 29), .ref (n 30), .int 0, .int 0, .ref (n 31), .ref (n 32), .ref (n 33), .ref (n 34), .int 0, .int 0, .int 0, .long 0, .ref (n 35), .ref (n 36), .int (-1), .int 0, .int 0, .int 0, .ref (n 37), .int 0, .ref (n 38), .ref (n 39), .ref (n 40), .ref (n 41), .ref (n 42), .ref (n 43), .int 0, .int 0, .ref (n 44), .ref (n 45), .ref (n 46)])), ((n 8), .inl (cI, 2, .inl (fun _ => 0)))] (fun u => [((n 0), .inr (11, [.ref (n 1), .ref (n 2), .int 0, .int 0, .int 0, .int (-1), .int 0, .int 0, .int 0, .int 0, .long 0, .ref (n 3), .ref (n 4), .ref (n 5), .ref (n 6), .ref (n 7), .ref (n 8), .ref (n 9), .ref (n 10), .ref (n 11), .ref (n 12), .ref (n 13), .ref (n 14), .ref (n 15), .ref (n 16), .ref (n 17), .ref (n 18), .ref (n 19), .ref (n 20), .int 1, .int 1, .ref (n 21), .ref (n 22), .ref (n 23), .ref (n 24), .ref (n 25), .ref (n 26), .ref (n 27), .ref (n 28), .int 0, .ref (n 29), .ref (n 30), .int 0, .int 0, .ref (n 31), .ref (n 32), .ref (n 33), .ref (n 34), .int 0, .int 0, .int 0, .long 0, .ref (n 35), .ref (n 36), .int (-1), .int 0, .int 0, .int 0, .ref (n 37), .int 0, .ref (n 38), .ref (n 39), .ref (n 40), .ref (n 41), .ref (n 42), .ref (n 43), .int 0, .int 0, .ref (n 44), .ref (n 45), .ref (n 46)])), ((n 8), .inl (cI, 2, .inl (fun _ => 0)))]) 2 := by
  intro sz
  refine ct_open (cc := cX11_toldTurn) (maxL := 2) (ret := (some .int)) (by decide) rfl (Nat.le_of_ble_eq_true rfl) ?_
  intro p e s m below meth c ls A hx hb hr hml hts hown hlocks hin hP hK hD hA hS hl
  have hl : lv_has ls 2 [(0, .ref (n 0)), (1, .int 5)] := hl
  have hown : s.vm.findClass RX11 = some m.cls := hown
  have i11 : ∀ w ∈ u_ws RX11 TX11 71, w ∈ wsX11_toldTurn := fun _ h => List.mem_cons_of_mem _ (List.mem_append_right _ h)
  have w1 := hts (.fieldLink RX11 36 "GuildCharterModel" "turnMany" "[I") (List.mem_cons_of_mem _ (List.mem_append_left _ (List.mem_of_getElem? (i := 0) rfl)))
  have w2 := hts (.fieldLink RX11 233 "GuildCharterModel" "bank" "I") (List.mem_cons_of_mem _ (List.mem_append_left _ (List.mem_of_getElem? (i := 1) rfl)))
  refine lv_aload_n hx hb dX11_toldTurn_0 rfl (lv_at hl 0 rfl) ?_
  refine va_get (D := (dC, dI)) (ci := 11) (v := .ref (n 8)) (C := RX11) (T := TX11) (N := 71) hx hb hts i11 hown hK hP 0 rfl rfl 16 (nlt rfl) w1 (fun _ h9 => h9) rfl dX11_toldTurn_1 ?_
  refine lv_aload_n hx hb dX11_toldTurn_4 rfl (lv_at hl 0 rfl) ?_
  refine va_get (D := (dC, dI)) (ci := 11) (v := .int 1) (C := RX11) (T := TX11) (N := 71) hx hb hts i11 hown hK hP 0 rfl rfl 29 (nlt rfl) w2 (fun _ h9 => h9) rfl dX11_toldTurn_5 ?_
  refine my_iald (v := 0) hx hb hK hP 1 1 rfl rfl z547 rfl dX11_toldTurn_8 ?_
  refine lv_if_ne (tgt := 18) hx hb dX11_toldTurn_9 z256 (fun c1 => absurd (rfl) c1) (fun _ => ?_)
  refine lv_iload_n hx hb dX11_toldTurn_12 rfl (lv_at hl 1 rfl) ?_
  refine lv_iconst (v := 3) hx hb dX11_toldTurn_13 z69 ?_
  refine lv_irem hx hb dX11_toldTurn_14 z257 ?_
  refine tpi z265 ?_
  refine lv_goto (tgt := 42) hx hb dX11_toldTurn_15 z259 ?_
  refine W.widen (k := 0) (n := 0) (by decide +kernel) (by decide +kernel) ?_
  exact ret_i hx hb hr hlocks hS (u := (fun _ => 0)) (hP.sub [0, 1] rfl) (hD.sub [0, 1] (by decide +kernel) rfl) dX11_toldTurn_42

set_option maxHeartbeats 4000000 in
set_option maxRecDepth 100000 in
theorem k66_X11_begin (l : Launch) (dC : Nat → ClassId) (dI : Nat → Nat → Nat) (cB cI cJ cZ cO : ClassId) (n : Nat → Nat) : CV l yX11_begin wsX11_begin ({ frames := 1, cells := 0, slots := 0, locals := 21 }) (dC, dI) (tyL cB cI cJ cZ cO) [.ref (n 0)] [((n 0), .inr (11, [.ref (n 1), .ref (n 2), .int 0, .int 0, .int 0, .int (-1), .int 0, .int 0, .int 0, .int 0, .long 0, .ref (n 3), .ref (n 4), .ref (n 5), .ref (n 6), .ref (n 7), .ref (n 8), .ref (n 9), .ref (n 10), .ref (n 11), .ref (n 12), .ref (n 13), .ref (n 14), .ref (n 15), .ref (n 16), .ref (n 17), .ref (n 18), .ref (n 19), .ref (n 20), .int 1, .int 1, .ref (n 21), .ref (n 22), .ref (n 23), .ref (n 24), .ref (n 25), .ref (n 26), .ref (n 27), .ref (n 28), .int 0, .ref (n 29), .ref (n 30), .int 0, .int 0, .ref (n 31), .ref (n 32), .ref (n 33), .ref (n 34), .int 0, .int 0, .int 0, .long 0, .ref (n 35), .ref (n 36), .int (-1), .int 0, .int 0, .int 0, .ref (n 37), .int 0, .ref (n 38), .ref (n 39), .ref (n 40), .ref (n 41), .ref (n 42), .ref (n 43), .int 0, .int 0, .ref (n 44), .ref (n 45), .ref (n 46)])), ((n 8), .inl (cI, 2, .inl (fun _ => 0))), ((n 27), .inl (cI, 6, .inl (upd (upd (upd (upd (fun _ => 0) 1 1) 2 2) 4 1) 5 2)))] (fun u => [((n 0), .inr (11, [.ref (n 1), .ref (n 2), .int 0, .int 0, .int 0, .int (-1), .int 0, .int 0, .int 0, .int 0, .long 0, .ref (n 3), .ref (n 4), .ref (n 5), .ref (n 6), .ref (n 7), .ref (n 8), .ref (n 9), .ref (n 10), .ref (n 11), .ref (n 12), .ref (n 13), .ref (n 14), .ref (n 15), .ref (n 16), .ref (n 17), .ref (n 18), .ref (n 19), .ref (n 20), .int 1, .int 1, .ref (n 21), .ref (n 22), .ref (n 23), .ref (n 24), .ref (n 25), .ref (n 26), .ref (n 27), .ref (n 28), .int 0, .ref (n 29), .ref (n 30), .int 0, .int 0, .ref (n 31), .ref (n 32), .ref (n 33), .ref (n 34), .int 0, .int 0, .int 0, .long 0, .ref (n 35), .ref (n 36), .int (-1), .int 0, .int 0, .int 0, .ref (n 37), .int 0, .ref (n 38), .ref (n 39), .ref (n 40), .ref (n 41), .ref (n 42), .ref (n 43), .int 0, .int 0, .ref (n 44), .ref (n 45), .ref (n 46)])), ((n 8), .inl (cI, 2, .inl (fun _ => 0))), ((n 27), .inl (cI, 6, .inl (upd (upd (upd (upd (fun _ => 0) 1 1) 2 2) 4 1) 5 2)))]) := by
  intro sz
  refine ct_open (cc := cX11_begin) (maxL := 2) (ret := none) (by decide) rfl (Nat.le_of_ble_eq_true rfl) ?_
  intro p e s m below meth c ls A hx hb hr hml hts hown hlocks hin hP hK hD hA hS hl
  have hl : lv_has ls 2 [(0, .ref (n 0))] := hl
  have hown : s.vm.findClass RX11 = some m.cls := hown
  have i11 : ∀ w ∈ u_ws RX11 TX11 71, w ∈ wsX11_begin := fun _ h => List.mem_cons_of_mem _ (List.mem_append_right _ h)
  have w1 := hts (.fieldLink RX11 336 "GuildCharterModel" "many" "I") (List.mem_cons_of_mem _ (List.mem_append_left _ (List.mem_of_getElem? (i := 0) rfl)))
  have w2 := hts (.fieldLink RX11 339 "GuildCharterModel" "acts" "I") (List.mem_cons_of_mem _ (List.mem_append_left _ (List.mem_of_getElem? (i := 1) rfl)))
  have w3 := hts (.fieldLink RX11 342 "GuildCharterModel" "undone" "I") (List.mem_cons_of_mem _ (List.mem_append_left _ (List.mem_of_getElem? (i := 2) rfl)))
  have w4 := hts (.fieldLink RX11 95 "GuildCharterModel" "turnNow" "[I") (List.mem_cons_of_mem _ (List.mem_append_left _ (List.mem_of_getElem? (i := 3) rfl)))
  refine lv_aload_n hx hb dX11_begin_0 rfl (lv_at hl 0 rfl) ?_
  refine lv_iconst (v := 0) hx hb dX11_begin_1 z8 ?_
  refine va_put (D := (dC, dI)) (ci := 11) (v := .int 0) (ty := tyX11 39) (C := RX11) (T := TX11) (N := 71) hx hb hts i11 tyX11 tyX11_ok nmX11 hown hK hP hD hS 0 rfl rfl 39 (nlt rfl) w1 (fun _ h9 => h9) rfl (tyX11_ok 39 (nlt rfl)) rfl rfl (nlt rfl) dX11_begin_2 (fun H locs hP hD hS => ?_)
  refine lv_aload_n hx hb dX11_begin_5 rfl (lv_at hl 0 rfl) ?_
  refine lv_iconst (v := 0) hx hb dX11_begin_6 z8 ?_
  refine va_put (D := (dC, dI)) (ci := 11) (v := .int 0) (ty := tyX11 42) (C := RX11) (T := TX11) (N := 71) hx hb hts i11 tyX11 tyX11_ok nmX11 hown hK hP hD hS 0 rfl rfl 42 (nlt rfl) w2 (fun _ h9 => h9) rfl (tyX11_ok 42 (nlt rfl)) rfl rfl (nlt rfl) dX11_begin_7 (fun H locs hP hD hS => ?_)
  refine lv_aload_n hx hb dX11_begin_10 rfl (lv_at hl 0 rfl) ?_
  refine lv_iconst (v := 0) hx hb dX11_begin_11 z8 ?_
  refine va_put (D := (dC, dI)) (ci := 11) (v := .int 0) (ty := tyX11 43) (C := RX11) (T := TX11) (N := 71) hx hb hts i11 tyX11 tyX11_ok nmX11 hown hK hP hD hS 0 rfl rfl 43 (nlt rfl) w3 (fun _ h9 => h9) rfl (tyX11_ok 43 (nlt rfl)) rfl rfl (nlt rfl) dX11_begin_12 (fun H locs hP hD hS => ?_)
  have hP : va_P (dC, dI) vwCl [((n 0), .inr (11, [.ref (n 1), .ref (n 2), .int 0, .int 0, .int 0, .int (-1), .int 0, .int 0, .int 0, .int 0, .long 0, .ref (n 3), .ref (n 4), .ref (n 5), .ref (n 6), .ref (n 7), .ref (n 8), .ref (n 9), .ref (n 10), .ref (n 11), .ref (n 12), .ref (n 13), .ref (n 14), .ref (n 15), .ref (n 16), .ref (n 17), .ref (n 18), .ref (n 19), .ref (n 20), .int 1, .int 1, .ref (n 21), .ref (n 22), .ref (n 23), .ref (n 24), .ref (n 25), .ref (n 26), .ref (n 27), .ref (n 28), .int 0, .ref (n 29), .ref (n 30), .int 0, .int 0, .ref (n 31), .ref (n 32), .ref (n 33), .ref (n 34), .int 0, .int 0, .int 0, .long 0, .ref (n 35), .ref (n 36), .int (-1), .int 0, .int 0, .int 0, .ref (n 37), .int 0, .ref (n 38), .ref (n 39), .ref (n 40), .ref (n 41), .ref (n 42), .ref (n 43), .int 0, .int 0, .ref (n 44), .ref (n 45), .ref (n 46)])), ((n 8), .inl (cI, 2, .inl (fun _ => 0))), ((n 27), .inl (cI, 6, .inl (upd (upd (upd (upd (fun _ => 0) 1 1) 2 2) 4 1) 5 2)))] H := hP
  have hD : va_D A [((n 0), .inr (11, [.ref (n 1), .ref (n 2), .int 0, .int 0, .int 0, .int (-1), .int 0, .int 0, .int 0, .int 0, .long 0, .ref (n 3), .ref (n 4), .ref (n 5), .ref (n 6), .ref (n 7), .ref (n 8), .ref (n 9), .ref (n 10), .ref (n 11), .ref (n 12), .ref (n 13), .ref (n 14), .ref (n 15), .ref (n 16), .ref (n 17), .ref (n 18), .ref (n 19), .ref (n 20), .int 1, .int 1, .ref (n 21), .ref (n 22), .ref (n 23), .ref (n 24), .ref (n 25), .ref (n 26), .ref (n 27), .ref (n 28), .int 0, .ref (n 29), .ref (n 30), .int 0, .int 0, .ref (n 31), .ref (n 32), .ref (n 33), .ref (n 34), .int 0, .int 0, .int 0, .long 0, .ref (n 35), .ref (n 36), .int (-1), .int 0, .int 0, .int 0, .ref (n 37), .int 0, .ref (n 38), .ref (n 39), .ref (n 40), .ref (n 41), .ref (n 42), .ref (n 43), .int 0, .int 0, .ref (n 44), .ref (n 45), .ref (n 46)])), ((n 8), .inl (cI, 2, .inl (fun _ => 0))), ((n 27), .inl (cI, 6, .inl (upd (upd (upd (upd (fun _ => 0) 1 1) 2 2) 4 1) 5 2)))] := hD
  refine lv_iconst (v := 0) hx hb dX11_begin_15 z8 ?_
  refine lv_istore_n (lv' := [(1, .int 0), (0, .ref (n 0))]) hx hb dX11_begin_16 rfl hl (nlt rfl) rfl (fun ls hl => ?_)
  refine lv_iload_n hx hb dX11_begin_17 rfl (lv_at hl 0 rfl) ?_
  refine lv_bipush (v := 6) hx hb dX11_begin_18 z4 ?_
  refine lv_icmp_ge (tgt := 40) hx hb dX11_begin_20 z255 (fun c1 => absurd c1 (z78)) (fun _ => ?_)
  refine lv_aload_n hx hb dX11_begin_23 rfl (lv_at hl 1 rfl) ?_
  refine va_get (D := (dC, dI)) (ci := 11) (v := .ref (n 27)) (C := RX11) (T := TX11) (N := 71) hx hb hts i11 hown hK hP 0 rfl rfl 37 (nlt rfl) w4 (fun _ h9 => h9) rfl dX11_begin_24 ?_
  refine lv_iload_n hx hb dX11_begin_27 rfl (lv_at hl 0 rfl) ?_
  refine lv_aload_n hx hb dX11_begin_28 rfl (lv_at hl 1 rfl) ?_
  refine lv_iload_n hx hb dX11_begin_29 rfl (lv_at hl 0 rfl) ?_
  refine call_iV (ci := 11) (As := [.int 0]) (rest := [.int 0, .ref (n 27)]) (wr := [((n 27), .inl (cI, 6, .inl (upd (upd (upd (upd (fun _ => 0) 1 1) 2 2) 4 1) 5 2)))]) ⟨hx, hb, hml, hown, hts⟩ (k60_X11_toldTurn l dC dI cB cI cJ cZ cO n) (cwV 1 hts gX11_begin_X11_toldTurn rfl rfl rfl ⟨rfl, z266⟩ ⟨Nat.le_of_ble_eq_true rfl, Nat.le_of_ble_eq_true rfl⟩) hK hP hD hS hA [0, 1] [2] rfl rfl (by decide +kernel) (by decide +kernel) (by decide +kernel) rfl rfl rfl hl.1 (Nat.le_of_ble_eq_true rfl) rfl rfl dX11_begin_30 ⟨by decide +kernel, by decide +kernel⟩ (fun u0 H locs hP hD hS => ?_)
  refine my_iastS hx hb hK hP hD hS 0 1 rfl rfl z38 rfl dX11_begin_33 (fun H locs hP hD hS => ?_)
  refine lv_iinc (v := 1) (lv' := [(1, .int 1), (0, .ref (n 0))]) hx hb dX11_begin_34 hl (k := 0) rfl z17 (nlt rfl) rfl (fun ls hl => ?_)
  refine lv_goto (tgt := 17) hx hb dX11_begin_37 z260 ?_
  refine lv_iload_n hx hb dX11_begin_17 rfl (lv_at hl 0 rfl) ?_
  refine lv_bipush (v := 6) hx hb dX11_begin_18 z4 ?_
  refine lv_icmp_ge (tgt := 40) hx hb dX11_begin_20 z255 (fun c1 => absurd c1 (z80)) (fun _ => ?_)
  refine lv_aload_n hx hb dX11_begin_23 rfl (lv_at hl 1 rfl) ?_
  refine va_get (D := (dC, dI)) (ci := 11) (v := .ref (n 27)) (C := RX11) (T := TX11) (N := 71) hx hb hts i11 hown hK hP 1 rfl rfl 37 (nlt rfl) w4 (fun _ h9 => h9) rfl dX11_begin_24 ?_
  refine lv_iload_n hx hb dX11_begin_27 rfl (lv_at hl 0 rfl) ?_
  refine lv_aload_n hx hb dX11_begin_28 rfl (lv_at hl 1 rfl) ?_
  refine lv_iload_n hx hb dX11_begin_29 rfl (lv_at hl 0 rfl) ?_
  refine call_iV (ci := 11) (As := [.int 1]) (rest := [.int 1, .ref (n 27)]) (wr := [((n 27), .inl (cI, 6, .inl (upd (upd (upd (upd (fun _ => 0) 1 1) 2 2) 4 1) 5 2)))]) ⟨hx, hb, hml, hown, hts⟩ (k61_X11_toldTurn l dC dI cB cI cJ cZ cO n) (cwV 1 hts gX11_begin_X11_toldTurn rfl rfl rfl ⟨rfl, z266⟩ ⟨Nat.le_of_ble_eq_true rfl, Nat.le_of_ble_eq_true rfl⟩) hK hP hD hS hA [1, 2] [0] rfl rfl (by decide +kernel) (by decide +kernel) (by decide +kernel) rfl rfl rfl hl.1 (Nat.le_of_ble_eq_true rfl) rfl rfl dX11_begin_30 ⟨by decide +kernel, by decide +kernel⟩ (fun u1 H locs hP hD hS => ?_)
  refine my_iastS hx hb hK hP hD hS 0 1 rfl rfl z53 rfl dX11_begin_33 (fun H locs hP hD hS => ?_)
  refine lv_iinc (v := 2) (lv' := [(1, .int 2), (0, .ref (n 0))]) hx hb dX11_begin_34 hl (k := 0) rfl z24 (nlt rfl) rfl (fun ls hl => ?_)
  refine lv_goto (tgt := 17) hx hb dX11_begin_37 z260 ?_
  refine lv_iload_n hx hb dX11_begin_17 rfl (lv_at hl 0 rfl) ?_
  refine lv_bipush (v := 6) hx hb dX11_begin_18 z4 ?_
  refine lv_icmp_ge (tgt := 40) hx hb dX11_begin_20 z255 (fun c1 => absurd c1 (z83)) (fun _ => ?_)
  refine lv_aload_n hx hb dX11_begin_23 rfl (lv_at hl 1 rfl) ?_
  refine va_get (D := (dC, dI)) (ci := 11) (v := .ref (n 27)) (C := RX11) (T := TX11) (N := 71) hx hb hts i11 hown hK hP 1 rfl rfl 37 (nlt rfl) w4 (fun _ h9 => h9) rfl dX11_begin_24 ?_
  refine lv_iload_n hx hb dX11_begin_27 rfl (lv_at hl 0 rfl) ?_
  refine lv_aload_n hx hb dX11_begin_28 rfl (lv_at hl 1 rfl) ?_
  refine lv_iload_n hx hb dX11_begin_29 rfl (lv_at hl 0 rfl) ?_
  refine call_iV (ci := 11) (As := [.int 2]) (rest := [.int 2, .ref (n 27)]) (wr := [((n 27), .inl (cI, 6, .inl (upd (upd (upd (upd (fun _ => 0) 1 1) 2 2) 4 1) 5 2)))]) ⟨hx, hb, hml, hown, hts⟩ (k62_X11_toldTurn l dC dI cB cI cJ cZ cO n) (cwV 1 hts gX11_begin_X11_toldTurn rfl rfl rfl ⟨rfl, z266⟩ ⟨Nat.le_of_ble_eq_true rfl, Nat.le_of_ble_eq_true rfl⟩) hK hP hD hS hA [1, 2] [0] rfl rfl (by decide +kernel) (by decide +kernel) (by decide +kernel) rfl rfl rfl hl.1 (Nat.le_of_ble_eq_true rfl) rfl rfl dX11_begin_30 ⟨by decide +kernel, by decide +kernel⟩ (fun u2 H locs hP hD hS => ?_)
  refine my_iastS hx hb hK hP hD hS 0 1 rfl rfl z68 rfl dX11_begin_33 (fun H locs hP hD hS => ?_)
  refine lv_iinc (v := 3) (lv' := [(1, .int 3), (0, .ref (n 0))]) hx hb dX11_begin_34 hl (k := 0) rfl z30 (nlt rfl) rfl (fun ls hl => ?_)
  refine lv_goto (tgt := 17) hx hb dX11_begin_37 z260 ?_
  refine lv_iload_n hx hb dX11_begin_17 rfl (lv_at hl 0 rfl) ?_
  refine lv_bipush (v := 6) hx hb dX11_begin_18 z4 ?_
  refine lv_icmp_ge (tgt := 40) hx hb dX11_begin_20 z255 (fun c1 => absurd c1 (z88)) (fun _ => ?_)
  refine lv_aload_n hx hb dX11_begin_23 rfl (lv_at hl 1 rfl) ?_
  refine va_get (D := (dC, dI)) (ci := 11) (v := .ref (n 27)) (C := RX11) (T := TX11) (N := 71) hx hb hts i11 hown hK hP 1 rfl rfl 37 (nlt rfl) w4 (fun _ h9 => h9) rfl dX11_begin_24 ?_
  refine lv_iload_n hx hb dX11_begin_27 rfl (lv_at hl 0 rfl) ?_
  refine lv_aload_n hx hb dX11_begin_28 rfl (lv_at hl 1 rfl) ?_
  refine lv_iload_n hx hb dX11_begin_29 rfl (lv_at hl 0 rfl) ?_
  refine call_iV (ci := 11) (As := [.int 3]) (rest := [.int 3, .ref (n 27)]) (wr := [((n 27), .inl (cI, 6, .inl (upd (upd (upd (upd (fun _ => 0) 1 1) 2 2) 4 1) 5 2)))]) ⟨hx, hb, hml, hown, hts⟩ (k63_X11_toldTurn l dC dI cB cI cJ cZ cO n) (cwV 1 hts gX11_begin_X11_toldTurn rfl rfl rfl ⟨rfl, z266⟩ ⟨Nat.le_of_ble_eq_true rfl, Nat.le_of_ble_eq_true rfl⟩) hK hP hD hS hA [1, 2] [0] rfl rfl (by decide +kernel) (by decide +kernel) (by decide +kernel) rfl rfl rfl hl.1 (Nat.le_of_ble_eq_true rfl) rfl rfl dX11_begin_30 ⟨by decide +kernel, by decide +kernel⟩ (fun u3 H locs hP hD hS => ?_)
  refine my_iastS hx hb hK hP hD hS 0 1 rfl rfl z76 rfl dX11_begin_33 (fun H locs hP hD hS => ?_)
  refine lv_iinc (v := 4) (lv' := [(1, .int 4), (0, .ref (n 0))]) hx hb dX11_begin_34 hl (k := 0) rfl z36 (nlt rfl) rfl (fun ls hl => ?_)
  refine lv_goto (tgt := 17) hx hb dX11_begin_37 z260 ?_
  refine lv_iload_n hx hb dX11_begin_17 rfl (lv_at hl 0 rfl) ?_
  refine lv_bipush (v := 6) hx hb dX11_begin_18 z4 ?_
  refine lv_icmp_ge (tgt := 40) hx hb dX11_begin_20 z255 (fun c1 => absurd c1 (z93)) (fun _ => ?_)
  refine lv_aload_n hx hb dX11_begin_23 rfl (lv_at hl 1 rfl) ?_
  refine va_get (D := (dC, dI)) (ci := 11) (v := .ref (n 27)) (C := RX11) (T := TX11) (N := 71) hx hb hts i11 hown hK hP 1 rfl rfl 37 (nlt rfl) w4 (fun _ h9 => h9) rfl dX11_begin_24 ?_
  refine lv_iload_n hx hb dX11_begin_27 rfl (lv_at hl 0 rfl) ?_
  refine lv_aload_n hx hb dX11_begin_28 rfl (lv_at hl 1 rfl) ?_
  refine lv_iload_n hx hb dX11_begin_29 rfl (lv_at hl 0 rfl) ?_
  refine call_iV (ci := 11) (As := [.int 4]) (rest := [.int 4, .ref (n 27)]) (wr := [((n 27), .inl (cI, 6, .inl (upd (upd (upd (upd (fun _ => 0) 1 1) 2 2) 4 1) 5 2)))]) ⟨hx, hb, hml, hown, hts⟩ (k64_X11_toldTurn l dC dI cB cI cJ cZ cO n) (cwV 1 hts gX11_begin_X11_toldTurn rfl rfl rfl ⟨rfl, z266⟩ ⟨Nat.le_of_ble_eq_true rfl, Nat.le_of_ble_eq_true rfl⟩) hK hP hD hS hA [1, 2] [0] rfl rfl (by decide +kernel) (by decide +kernel) (by decide +kernel) rfl rfl rfl hl.1 (Nat.le_of_ble_eq_true rfl) rfl rfl dX11_begin_30 ⟨by decide +kernel, by decide +kernel⟩ (fun u4 H locs hP hD hS => ?_)
  refine my_iastS hx hb hK hP hD hS 0 1 rfl rfl z106 rfl dX11_begin_33 (fun H locs hP hD hS => ?_)
  refine lv_iinc (v := 5) (lv' := [(1, .int 5), (0, .ref (n 0))]) hx hb dX11_begin_34 hl (k := 0) rfl z98 (nlt rfl) rfl (fun ls hl => ?_)
  refine lv_goto (tgt := 17) hx hb dX11_begin_37 z260 ?_
  refine lv_iload_n hx hb dX11_begin_17 rfl (lv_at hl 0 rfl) ?_
  refine lv_bipush (v := 6) hx hb dX11_begin_18 z4 ?_
  refine lv_icmp_ge (tgt := 40) hx hb dX11_begin_20 z255 (fun c1 => absurd c1 (z99)) (fun _ => ?_)
  refine lv_aload_n hx hb dX11_begin_23 rfl (lv_at hl 1 rfl) ?_
  refine va_get (D := (dC, dI)) (ci := 11) (v := .ref (n 27)) (C := RX11) (T := TX11) (N := 71) hx hb hts i11 hown hK hP 1 rfl rfl 37 (nlt rfl) w4 (fun _ h9 => h9) rfl dX11_begin_24 ?_
  refine lv_iload_n hx hb dX11_begin_27 rfl (lv_at hl 0 rfl) ?_
  refine lv_aload_n hx hb dX11_begin_28 rfl (lv_at hl 1 rfl) ?_
  refine lv_iload_n hx hb dX11_begin_29 rfl (lv_at hl 0 rfl) ?_
  refine call_iV (ci := 11) (As := [.int 5]) (rest := [.int 5, .ref (n 27)]) (wr := [((n 27), .inl (cI, 6, .inl (upd (upd (upd (upd (fun _ => 0) 1 1) 2 2) 4 1) 5 2)))]) ⟨hx, hb, hml, hown, hts⟩ (k65_X11_toldTurn l dC dI cB cI cJ cZ cO n) (cwV 1 hts gX11_begin_X11_toldTurn rfl rfl rfl ⟨rfl, z266⟩ ⟨Nat.le_of_ble_eq_true rfl, Nat.le_of_ble_eq_true rfl⟩) hK hP hD hS hA [1, 2] [0] rfl rfl (by decide +kernel) (by decide +kernel) (by decide +kernel) rfl rfl rfl hl.1 (Nat.le_of_ble_eq_true rfl) rfl rfl dX11_begin_30 ⟨by decide +kernel, by decide +kernel⟩ (fun u5 H locs hP hD hS => ?_)
  refine my_iastS hx hb hK hP hD hS 0 1 rfl rfl z124 rfl dX11_begin_33 (fun H locs hP hD hS => ?_)
  refine lv_iinc (v := 6) (lv' := [(1, .int 6), (0, .ref (n 0))]) hx hb dX11_begin_34 hl (k := 0) rfl z104 (nlt rfl) rfl (fun ls hl => ?_)
  refine lv_goto (tgt := 17) hx hb dX11_begin_37 z260 ?_
  refine lv_iload_n hx hb dX11_begin_17 rfl (lv_at hl 0 rfl) ?_
  refine lv_bipush (v := 6) hx hb dX11_begin_18 z4 ?_
  refine lv_icmp_ge (tgt := 40) hx hb dX11_begin_20 z255 (fun _ => ?_) (fun c1 => absurd (z105) c1)
  refine W.widen (k := 0) (n := 0) (by decide +kernel) (by decide +kernel) ?_
  exact ret_v hx hb hr hlocks hS (u := (fun _ => 0)) (hP.sub [1, 2, 0] rfl) (hD.sub [1, 2, 0] (by decide +kernel) rfl) dX11_begin_40

set_option maxHeartbeats 4000000 in
set_option maxRecDepth 100000 in
theorem k67_X11_port (l : Launch) (dC : Nat → ClassId) (dI : Nat → Nat → Nat) (cB cI cJ cZ cO : ClassId) (n : Nat → Nat) : CI l yX11_port wsX11_port ({ frames := 2, cells := 0, slots := 0, locals := 43 }) (dC, dI) (tyL cB cI cJ cZ cO) [.ref (n 0)] [((n 0), .inr (11, fM n)), ((n 3), .inl (cI, 2, .inl (fun _ => 0))), ((n 4), .inl (cI, 2, .inl (fun _ => 0))), ((n 5), .inl (cI, 2, .inl (fun _ => 0))), ((n 6), .inl (cI, 2, .inl (fun _ => 0))), ((n 7), .inl (cI, 2, .inl (upd (fun _ => 0) 0 3))), ((n 8), .inl (cI, 2, .inl (fun _ => 0))), ((n 17), .inl (cZ, 2, .inl (fun _ => 0))), ((n 16), .inl (cZ, 128, .inl (fun _ => 0))), ((n 27), .inl (cI, 6, .inl (upd (upd (upd (upd (fun _ => 0) 1 1) 2 2) 4 1) 5 2))), ((n 28), .inl (cI, 6, .inl (upd (upd (upd (upd (upd (upd (fun _ => 0) 0 (-1)) 1 (-1)) 2 (-1)) 3 (-1)) 4 (-1)) 5 (-1)))), ((n 44), .inl (cI, 3, .inl (upd (upd (upd (fun _ => 0) 0 (-1)) 1 (-1)) 2 (-1))))] (fun _ => []) 0 := by
  intro sz
  refine ct_open (cc := cX11_port) (maxL := 2) (ret := (some .int)) (by decide) rfl (Nat.le_of_ble_eq_true rfl) ?_
  intro p e s m below meth c ls A hx hb hr hml hts hown hlocks hin hP hK hD hA hS hl
  have hl : lv_has ls 2 [(0, .ref (n 0))] := hl
  have hown : s.vm.findClass RX11 = some m.cls := hown
  have i11 : ∀ w ∈ u_ws RX11 TX11 71, w ∈ wsX11_port := fun _ h => List.mem_cons_of_mem _ (List.mem_append_right _ h)
  have w1 := hts (.fieldLink RX11 167 "GuildCharterModel" "faultKind" "I") (List.mem_cons_of_mem _ (List.mem_append_left _ (List.mem_append_left _ (List.mem_of_getElem? (i := 0) rfl))))
  have w2 := hts (.fieldLink RX11 16 "GuildCharterModel" "faultPlace" "I") (List.mem_cons_of_mem _ (List.mem_append_left _ (List.mem_append_left _ (List.mem_of_getElem? (i := 1) rfl))))
  have w3 := hts (.fieldLink RX11 230 "GuildCharterModel" "taped" "I") (List.mem_cons_of_mem _ (List.mem_append_left _ (List.mem_append_left _ (List.mem_of_getElem? (i := 2) rfl))))
  have w4 := hts (.fieldLink RX11 164 "GuildCharterModel" "size" "I") (List.mem_cons_of_mem _ (List.mem_append_left _ (List.mem_append_left _ (List.mem_of_getElem? (i := 3) rfl))))
  have w5 := hts (.fieldLink RX11 182 "GuildCharterModel" "end" "I") (List.mem_cons_of_mem _ (List.mem_append_left _ (List.mem_append_left _ (List.mem_of_getElem? (i := 6) rfl))))
  have w6 := hts (.fieldLink RX11 233 "GuildCharterModel" "bank" "I") (List.mem_cons_of_mem _ (List.mem_append_left _ (List.mem_append_left _ (List.mem_of_getElem? (i := 7) rfl))))
  have w7 := hts (.fieldLink RX11 227 "GuildCharterModel" "rb" "I") (List.mem_cons_of_mem _ (List.mem_append_left _ (List.mem_append_left _ (List.mem_of_getElem? (i := 8) rfl))))
  have w8 := hts (.fieldLink RX11 192 "GuildCharterModel" "token" "I") (List.mem_cons_of_mem _ (List.mem_append_left _ (List.mem_append_left _ (List.mem_of_getElem? (i := 9) rfl))))
  have w9 := hts (.fieldLink RX11 242 "GuildCharterModel" "listKey" "J") (List.mem_cons_of_mem _ (List.mem_append_left _ (List.mem_append_left _ (List.mem_of_getElem? (i := 10) rfl))))
  have w10 := hts (.fieldLink RX11 98 "GuildCharterModel" "holes" "[I") (List.mem_cons_of_mem _ (List.mem_append_left _ (List.mem_append_left _ (List.mem_of_getElem? (i := 11) rfl))))
  have w11 := hts (.fieldLink RX11 245 "GuildCharterModel" "seenMany" "I") (List.mem_cons_of_mem _ (List.mem_append_left _ (List.mem_append_left _ (List.mem_of_getElem? (i := 12) rfl))))
  have w12 := hts (.fieldLink RX11 248 "GuildCharterModel" "laid" "I") (List.mem_cons_of_mem _ (List.mem_append_left _ (List.mem_append_left _ (List.mem_of_getElem? (i := 13) rfl))))
  have w13 := hts (.fieldLink RX11 149 "GuildCharterModel" "boxMany" "[I") (List.mem_cons_of_mem _ (List.mem_append_left _ (List.mem_append_left _ (List.mem_of_getElem? (i := 14) rfl))))
  have w14 := hts (.fieldLink RX11 20 "GuildCharterModel" "words" "[I") (List.mem_cons_of_mem _ (List.mem_append_left _ (List.mem_append_left _ (List.mem_of_getElem? (i := 15) rfl))))
  refine lv_aload_n hx hb dX11_port_0 rfl (lv_at hl 0 rfl) ?_
  refine lv_iconst (v := 0) hx hb dX11_port_1 z8 ?_
  refine va_put (D := (dC, dI)) (ci := 11) (v := .int 0) (ty := tyX11 4) (C := RX11) (T := TX11) (N := 71) hx hb hts i11 tyX11 tyX11_ok nmX11 hown hK hP hD hS 0 rfl rfl 4 (nlt rfl) w1 (fun _ h9 => h9) rfl (tyX11_ok 4 (nlt rfl)) rfl rfl (nlt rfl) dX11_port_2 (fun H locs hP hD hS => ?_)
  refine lv_aload_n hx hb dX11_port_5 rfl (lv_at hl 0 rfl) ?_
  refine lv_iconst (v := (-1)) hx hb dX11_port_6 z128 ?_
  refine va_put (D := (dC, dI)) (ci := 11) (v := .int (-1)) (ty := tyX11 5) (C := RX11) (T := TX11) (N := 71) hx hb hts i11 tyX11 tyX11_ok nmX11 hown hK hP hD hS 0 rfl rfl 5 (nlt rfl) w2 (fun _ h9 => h9) rfl (tyX11_ok 5 (nlt rfl)) rfl rfl (nlt rfl) dX11_port_7 (fun H locs hP hD hS => ?_)
  refine lv_aload_n hx hb dX11_port_10 rfl (lv_at hl 0 rfl) ?_
  refine lv_aload_n hx hb dX11_port_11 rfl (lv_at hl 0 rfl) ?_
  refine va_get (D := (dC, dI)) (ci := 11) (v := .int 0) (C := RX11) (T := TX11) (N := 71) hx hb hts i11 hown hK hP 0 rfl rfl 2 (nlt rfl) w3 (fun _ h9 => h9) rfl dX11_port_12 ?_
  refine va_put (D := (dC, dI)) (ci := 11) (v := .int 0) (ty := tyX11 3) (C := RX11) (T := TX11) (N := 71) hx hb hts i11 tyX11 tyX11_ok nmX11 hown hK hP hD hS 0 rfl rfl 3 (nlt rfl) w4 (fun _ h9 => h9) rfl (tyX11_ok 3 (nlt rfl)) rfl rfl (nlt rfl) dX11_port_15 (fun H locs hP hD hS => ?_)
  have hP : va_P (dC, dI) vwCl [((n 0), .inr (11, fM n)), ((n 3), .inl (cI, 2, .inl (fun _ => 0))), ((n 4), .inl (cI, 2, .inl (fun _ => 0))), ((n 5), .inl (cI, 2, .inl (fun _ => 0))), ((n 6), .inl (cI, 2, .inl (fun _ => 0))), ((n 7), .inl (cI, 2, .inl (upd (fun _ => 0) 0 3))), ((n 8), .inl (cI, 2, .inl (fun _ => 0))), ((n 17), .inl (cZ, 2, .inl (fun _ => 0))), ((n 16), .inl (cZ, 128, .inl (fun _ => 0))), ((n 27), .inl (cI, 6, .inl (upd (upd (upd (upd (fun _ => 0) 1 1) 2 2) 4 1) 5 2))), ((n 28), .inl (cI, 6, .inl (upd (upd (upd (upd (upd (upd (fun _ => 0) 0 (-1)) 1 (-1)) 2 (-1)) 3 (-1)) 4 (-1)) 5 (-1)))), ((n 44), .inl (cI, 3, .inl (upd (upd (upd (fun _ => 0) 0 (-1)) 1 (-1)) 2 (-1))))] H := hP
  have hD : va_D A [((n 0), .inr (11, fM n)), ((n 3), .inl (cI, 2, .inl (fun _ => 0))), ((n 4), .inl (cI, 2, .inl (fun _ => 0))), ((n 5), .inl (cI, 2, .inl (fun _ => 0))), ((n 6), .inl (cI, 2, .inl (fun _ => 0))), ((n 7), .inl (cI, 2, .inl (upd (fun _ => 0) 0 3))), ((n 8), .inl (cI, 2, .inl (fun _ => 0))), ((n 17), .inl (cZ, 2, .inl (fun _ => 0))), ((n 16), .inl (cZ, 128, .inl (fun _ => 0))), ((n 27), .inl (cI, 6, .inl (upd (upd (upd (upd (fun _ => 0) 1 1) 2 2) 4 1) 5 2))), ((n 28), .inl (cI, 6, .inl (upd (upd (upd (upd (upd (upd (fun _ => 0) 0 (-1)) 1 (-1)) 2 (-1)) 3 (-1)) 4 (-1)) 5 (-1)))), ((n 44), .inl (cI, 3, .inl (upd (upd (upd (fun _ => 0) 0 (-1)) 1 (-1)) 2 (-1))))] := hD
  refine lv_iconst (v := 0) hx hb dX11_port_18 z8 ?_
  refine lv_istore_n (lv' := [(1, .int 0), (0, .ref (n 0))]) hx hb dX11_port_19 rfl hl (nlt rfl) rfl (fun ls hl => ?_)
  refine lv_iload_n hx hb dX11_port_20 rfl (lv_at hl 0 rfl) ?_
  refine lv_aload_n hx hb dX11_port_21 rfl (lv_at hl 1 rfl) ?_
  refine va_get (D := (dC, dI)) (ci := 11) (v := .int 0) (C := RX11) (T := TX11) (N := 71) hx hb hts i11 hown hK hP 0 rfl rfl 3 (nlt rfl) w4 (fun _ h9 => h9) rfl dX11_port_22 ?_
  refine lv_icmp_ge (tgt := 46) hx hb dX11_port_25 z545 (fun _ => ?_) (fun c1 => absurd (z510) c1)
  refine lv_aload_n hx hb dX11_port_46 rfl (lv_at hl 1 rfl) ?_
  refine lv_iconst (v := 0) hx hb dX11_port_47 z8 ?_
  refine va_put (D := (dC, dI)) (ci := 11) (v := .int 0) (ty := tyX11 2) (C := RX11) (T := TX11) (N := 71) hx hb hts i11 tyX11 tyX11_ok nmX11 hown hK hP hD hS 0 rfl rfl 2 (nlt rfl) w3 (fun _ h9 => h9) rfl (tyX11_ok 2 (nlt rfl)) rfl rfl (nlt rfl) dX11_port_48 (fun H locs hP hD hS => ?_)
  refine lv_aload_n hx hb dX11_port_51 rfl (lv_at hl 1 rfl) ?_
  refine lv_iconst (v := 0) hx hb dX11_port_52 z8 ?_
  refine va_put (D := (dC, dI)) (ci := 11) (v := .int 0) (ty := tyX11 7) (C := RX11) (T := TX11) (N := 71) hx hb hts i11 tyX11 tyX11_ok nmX11 hown hK hP hD hS 0 rfl rfl 7 (nlt rfl) w5 (fun _ h9 => h9) rfl (tyX11_ok 7 (nlt rfl)) rfl rfl (nlt rfl) dX11_port_53 (fun H locs hP hD hS => ?_)
  refine lv_aload_n hx hb dX11_port_56 rfl (lv_at hl 1 rfl) ?_
  refine lv_iconst (v := 1) hx hb dX11_port_57 z39 ?_
  refine lv_aload_n hx hb dX11_port_58 rfl (lv_at hl 1 rfl) ?_
  refine va_get (D := (dC, dI)) (ci := 11) (v := .int 0) (C := RX11) (T := TX11) (N := 71) hx hb hts i11 hown hK hP 0 rfl rfl 29 (nlt rfl) w6 (fun _ h9 => h9) rfl dX11_port_59 ?_
  refine lv_isub hx hb dX11_port_62 ?_
  refine tpi z546 ?_
  refine va_put (D := (dC, dI)) (ci := 11) (v := .int 1) (ty := tyX11 30) (C := RX11) (T := TX11) (N := 71) hx hb hts i11 tyX11 tyX11_ok nmX11 hown hK hP hD hS 0 rfl rfl 30 (nlt rfl) w7 (fun _ h9 => h9) rfl (tyX11_ok 30 (nlt rfl)) rfl rfl (nlt rfl) dX11_port_63 (fun H locs hP hD hS => ?_)
  have hP : va_P (dC, dI) vwCl [((n 0), .inr (11, [.ref (n 1), .ref (n 2), .int 0, .int 0, .int 0, .int (-1), .int 0, .int 0, .int 0, .int 0, .long 0, .ref (n 3), .ref (n 4), .ref (n 5), .ref (n 6), .ref (n 7), .ref (n 8), .ref (n 9), .ref (n 10), .ref (n 11), .ref (n 12), .ref (n 13), .ref (n 14), .ref (n 15), .ref (n 16), .ref (n 17), .ref (n 18), .ref (n 19), .ref (n 20), .int 0, .int 1, .ref (n 21), .ref (n 22), .ref (n 23), .ref (n 24), .ref (n 25), .ref (n 26), .ref (n 27), .ref (n 28), .int 0, .ref (n 29), .ref (n 30), .int 0, .int 0, .ref (n 31), .ref (n 32), .ref (n 33), .ref (n 34), .int 0, .int 0, .int 0, .long 0, .ref (n 35), .ref (n 36), .int (-1), .int 0, .int 0, .int 0, .ref (n 37), .int 0, .ref (n 38), .ref (n 39), .ref (n 40), .ref (n 41), .ref (n 42), .ref (n 43), .int 0, .int 0, .ref (n 44), .ref (n 45), .ref (n 46)])), ((n 3), .inl (cI, 2, .inl (fun _ => 0))), ((n 4), .inl (cI, 2, .inl (fun _ => 0))), ((n 5), .inl (cI, 2, .inl (fun _ => 0))), ((n 6), .inl (cI, 2, .inl (fun _ => 0))), ((n 7), .inl (cI, 2, .inl (upd (fun _ => 0) 0 3))), ((n 8), .inl (cI, 2, .inl (fun _ => 0))), ((n 17), .inl (cZ, 2, .inl (fun _ => 0))), ((n 16), .inl (cZ, 128, .inl (fun _ => 0))), ((n 27), .inl (cI, 6, .inl (upd (upd (upd (upd (fun _ => 0) 1 1) 2 2) 4 1) 5 2))), ((n 28), .inl (cI, 6, .inl (upd (upd (upd (upd (upd (upd (fun _ => 0) 0 (-1)) 1 (-1)) 2 (-1)) 3 (-1)) 4 (-1)) 5 (-1)))), ((n 44), .inl (cI, 3, .inl (upd (upd (upd (fun _ => 0) 0 (-1)) 1 (-1)) 2 (-1))))] H := hP
  have hD : va_D A [((n 0), .inr (11, [.ref (n 1), .ref (n 2), .int 0, .int 0, .int 0, .int (-1), .int 0, .int 0, .int 0, .int 0, .long 0, .ref (n 3), .ref (n 4), .ref (n 5), .ref (n 6), .ref (n 7), .ref (n 8), .ref (n 9), .ref (n 10), .ref (n 11), .ref (n 12), .ref (n 13), .ref (n 14), .ref (n 15), .ref (n 16), .ref (n 17), .ref (n 18), .ref (n 19), .ref (n 20), .int 0, .int 1, .ref (n 21), .ref (n 22), .ref (n 23), .ref (n 24), .ref (n 25), .ref (n 26), .ref (n 27), .ref (n 28), .int 0, .ref (n 29), .ref (n 30), .int 0, .int 0, .ref (n 31), .ref (n 32), .ref (n 33), .ref (n 34), .int 0, .int 0, .int 0, .long 0, .ref (n 35), .ref (n 36), .int (-1), .int 0, .int 0, .int 0, .ref (n 37), .int 0, .ref (n 38), .ref (n 39), .ref (n 40), .ref (n 41), .ref (n 42), .ref (n 43), .int 0, .int 0, .ref (n 44), .ref (n 45), .ref (n 46)])), ((n 3), .inl (cI, 2, .inl (fun _ => 0))), ((n 4), .inl (cI, 2, .inl (fun _ => 0))), ((n 5), .inl (cI, 2, .inl (fun _ => 0))), ((n 6), .inl (cI, 2, .inl (fun _ => 0))), ((n 7), .inl (cI, 2, .inl (upd (fun _ => 0) 0 3))), ((n 8), .inl (cI, 2, .inl (fun _ => 0))), ((n 17), .inl (cZ, 2, .inl (fun _ => 0))), ((n 16), .inl (cZ, 128, .inl (fun _ => 0))), ((n 27), .inl (cI, 6, .inl (upd (upd (upd (upd (fun _ => 0) 1 1) 2 2) 4 1) 5 2))), ((n 28), .inl (cI, 6, .inl (upd (upd (upd (upd (upd (upd (fun _ => 0) 0 (-1)) 1 (-1)) 2 (-1)) 3 (-1)) 4 (-1)) 5 (-1)))), ((n 44), .inl (cI, 3, .inl (upd (upd (upd (fun _ => 0) 0 (-1)) 1 (-1)) 2 (-1))))] := hD
  refine lv_aload_n hx hb dX11_port_66 rfl (lv_at hl 1 rfl) ?_
  refine call_vV (ci := 11) (As := []) (rest := []) (wr := [((n 27), .inl (cI, 6, .inl (upd (upd (upd (upd (fun _ => 0) 1 1) 2 2) 4 1) 5 2))), ((n 28), .inl (cI, 6, .inl (upd (upd (upd (upd (upd (upd (fun _ => 0) 0 (-1)) 1 (-1)) 2 (-1)) 3 (-1)) 4 (-1)) 5 (-1)))), ((n 44), .inl (cI, 3, .inl (upd (upd (upd (fun _ => 0) 0 (-1)) 1 (-1)) 2 (-1))))]) ⟨hx, hb, hml, hown, hts⟩ (k55_X11_clearBank l dC dI cB cI cJ cZ cO n) (cwV 0 hts gX11_port_X11_clearBank rfl rfl rfl ⟨rfl, z570⟩ ⟨Nat.le_of_ble_eq_true rfl, Nat.le_of_ble_eq_true rfl⟩) hK hP hD hS hA [0, 1, 2, 3, 4, 5, 6, 7, 8] [9, 10, 11] rfl rfl (by decide +kernel) (by decide +kernel) (by decide +kernel) rfl rfl rfl hl.1 (Nat.le_of_ble_eq_true rfl) rfl rfl dX11_port_67 ⟨by decide +kernel, by decide +kernel⟩ (fun u0 H locs hP hD hS => ?_)
  refine lv_aload_n hx hb dX11_port_70 rfl (lv_at hl 1 rfl) ?_
  refine call_vV (ci := 11) (As := []) (rest := []) (wr := [((n 27), .inl (cI, 6, .inl (upd (upd (upd (upd (fun _ => 0) 1 1) 2 2) 4 1) 5 2))), ((n 28), .inl (cI, 6, .inl (upd (upd (upd (upd (upd (upd (fun _ => 0) 0 (-1)) 1 (-1)) 2 (-1)) 3 (-1)) 4 (-1)) 5 (-1)))), ((n 44), .inl (cI, 3, .inl (upd (upd (upd (fun _ => 0) 0 (-1)) 1 (-1)) 2 (-1)))), ((n 3), .inl (cI, 2, .inl (fun _ => 0))), ((n 4), .inl (cI, 2, .inl (fun _ => 0))), ((n 5), .inl (cI, 2, .inl (fun _ => 0))), ((n 6), .inl (cI, 2, .inl (fun _ => 0))), ((n 7), .inl (cI, 2, .inl (upd (upd (fun _ => 0) 0 3) 1 3))), ((n 8), .inl (cI, 2, .inl (fun _ => 0))), ((n 17), .inl (cZ, 2, .inl (fun _ => 0))), ((n 16), .inl (cZ, 128, .inl (fun _ => 0)))]) ⟨hx, hb, hml, hown, hts⟩ (k57_X11_goOn l dC dI cB cI cJ cZ cO n) (cwV 0 hts gX11_port_X11_goOn rfl rfl rfl ⟨rfl, z571⟩ ⟨Nat.le_of_ble_eq_true rfl, Nat.le_of_ble_eq_true rfl⟩) hK hP hD hS hA [3] [0, 1, 2, 4, 5, 6, 7, 8, 9, 10, 11] rfl rfl (by decide +kernel) (by decide +kernel) (by decide +kernel) rfl rfl rfl hl.1 (Nat.le_of_ble_eq_true rfl) rfl rfl dX11_port_71 ⟨by decide +kernel, by decide +kernel⟩ (fun u1 H locs hP hD hS => ?_)
  refine lv_aload_n hx hb dX11_port_74 rfl (lv_at hl 1 rfl) ?_
  refine call_iV (ci := 11) (As := []) (rest := []) (wr := [((n 27), .inl (cI, 6, .inl (upd (upd (upd (upd (fun _ => 0) 1 1) 2 2) 4 1) 5 2))), ((n 28), .inl (cI, 6, .inl (upd (upd (upd (upd (upd (upd (fun _ => 0) 0 (-1)) 1 (-1)) 2 (-1)) 3 (-1)) 4 (-1)) 5 (-1)))), ((n 44), .inl (cI, 3, .inl (upd (upd (upd (fun _ => 0) 0 (-1)) 1 (-1)) 2 (-1)))), ((n 3), .inl (cI, 2, .inl (fun _ => 0))), ((n 4), .inl (cI, 2, .inl (fun _ => 0))), ((n 5), .inl (cI, 2, .inl (fun _ => 0))), ((n 6), .inl (cI, 2, .inl (fun _ => 0))), ((n 7), .inl (cI, 2, .inl (upd (upd (fun _ => 0) 0 3) 1 3))), ((n 8), .inl (cI, 2, .inl (fun _ => 0))), ((n 17), .inl (cZ, 2, .inl (fun _ => 0))), ((n 16), .inl (cZ, 128, .inl (fun _ => 0)))]) ⟨hx, hb, hml, hown, hts⟩ (k58_X11_isGood l dC dI cB cI cJ cZ cO n) (cwV 0 hts gX11_port_X11_isGood rfl rfl rfl ⟨rfl, z572⟩ ⟨Nat.le_of_ble_eq_true rfl, Nat.le_of_ble_eq_true rfl⟩) hK hP hD hS hA [11] [0, 1, 2, 3, 4, 5, 6, 7, 8, 9, 10] rfl rfl (by decide +kernel) (by decide +kernel) (by decide +kernel) rfl rfl rfl hl.1 (Nat.le_of_ble_eq_true rfl) rfl rfl dX11_port_75 ⟨by decide +kernel, by decide +kernel⟩ (fun u2 H locs hP hD hS => ?_)
  refine lv_if_eq (tgt := 95) hx hb dX11_port_78 z558 (fun c1 => absurd c1 (z525)) (fun _ => ?_)
  refine lv_aload_n hx hb dX11_port_81 rfl (lv_at hl 1 rfl) ?_
  refine va_get (D := (dC, dI)) (ci := 11) (v := .int 0) (C := RX11) (T := TX11) (N := 71) hx hb hts i11 hown hK hP 11 rfl rfl 8 (nlt rfl) w8 (fun _ h9 => h9) rfl dX11_port_82 ?_
  refine lv_if_eq (tgt := 95) hx hb dX11_port_85 z559 (fun _ => ?_) (fun c1 => absurd (rfl) c1)
  refine lv_aload_n hx hb dX11_port_95 rfl (lv_at hl 1 rfl) ?_
  refine call_iV (ci := 11) (As := []) (rest := []) (wr := [((n 27), .inl (cI, 6, .inl (upd (upd (upd (upd (fun _ => 0) 1 1) 2 2) 4 1) 5 2))), ((n 28), .inl (cI, 6, .inl (upd (upd (upd (upd (upd (upd (fun _ => 0) 0 (-1)) 1 (-1)) 2 (-1)) 3 (-1)) 4 (-1)) 5 (-1)))), ((n 44), .inl (cI, 3, .inl (upd (upd (upd (fun _ => 0) 0 (-1)) 1 (-1)) 2 (-1)))), ((n 3), .inl (cI, 2, .inl (fun _ => 0))), ((n 4), .inl (cI, 2, .inl (fun _ => 0))), ((n 5), .inl (cI, 2, .inl (fun _ => 0))), ((n 6), .inl (cI, 2, .inl (fun _ => 0))), ((n 7), .inl (cI, 2, .inl (upd (upd (fun _ => 0) 0 3) 1 3))), ((n 8), .inl (cI, 2, .inl (fun _ => 0))), ((n 17), .inl (cZ, 2, .inl (fun _ => 0))), ((n 16), .inl (cZ, 128, .inl (fun _ => 0)))]) ⟨hx, hb, hml, hown, hts⟩ (k58_X11_isGood l dC dI cB cI cJ cZ cO n) (cwV 0 hts gX11_port_X11_isGood rfl rfl rfl ⟨rfl, z572⟩ ⟨Nat.le_of_ble_eq_true rfl, Nat.le_of_ble_eq_true rfl⟩) hK hP hD hS hA [11] [0, 1, 2, 3, 4, 5, 6, 7, 8, 9, 10] rfl rfl (by decide +kernel) (by decide +kernel) (by decide +kernel) rfl rfl rfl hl.1 (Nat.le_of_ble_eq_true rfl) rfl rfl dX11_port_96 ⟨by decide +kernel, by decide +kernel⟩ (fun u3 H locs hP hD hS => ?_)
  refine lv_if_eq (tgt := 106) hx hb dX11_port_99 z560 (fun c1 => absurd c1 (z525)) (fun _ => ?_)
  refine lv_aload_n hx hb dX11_port_102 rfl (lv_at hl 1 rfl) ?_
  refine call_vV (ci := 11) (As := []) (rest := []) (wr := [((n 27), .inl (cI, 6, .inl (upd (upd (upd (upd (fun _ => 0) 1 1) 2 2) 4 1) 5 2))), ((n 28), .inl (cI, 6, .inl (upd (upd (upd (upd (upd (upd (fun _ => 0) 0 (-1)) 1 (-1)) 2 (-1)) 3 (-1)) 4 (-1)) 5 (-1)))), ((n 44), .inl (cI, 3, .inl (upd (upd (upd (fun _ => 0) 0 (-1)) 1 (-1)) 2 (-1)))), ((n 3), .inl (cI, 2, .inl (fun _ => 0))), ((n 4), .inl (cI, 2, .inl (fun _ => 0))), ((n 5), .inl (cI, 2, .inl (fun _ => 0))), ((n 7), .inl (cI, 2, .inl (upd (upd (fun _ => 0) 0 3) 1 3))), ((n 8), .inl (cI, 2, .inl (fun _ => 0))), ((n 17), .inl (cZ, 2, .inl (fun _ => 0))), ((n 16), .inl (cZ, 128, .inl (fun _ => 0)))]) ⟨hx, hb, hml, hown, hts⟩ (k59_X11_settle l dC dI cB cI cJ cZ cO n) (cwV 0 hts gX11_port_X11_settle rfl rfl rfl ⟨rfl, z573⟩ ⟨Nat.le_of_ble_eq_true rfl, Nat.le_of_ble_eq_true rfl⟩) hK hP hD hS hA [11, 6] [0, 1, 2, 3, 4, 5, 7, 8, 9, 10] rfl rfl (by decide +kernel) (by decide +kernel) (by decide +kernel) rfl rfl rfl hl.1 (Nat.le_of_ble_eq_true rfl) rfl rfl dX11_port_103 ⟨by decide +kernel, by decide +kernel⟩ (fun u4 H locs hP hD hS => ?_)
  refine lv_aload_n hx hb dX11_port_106 rfl (lv_at hl 1 rfl) ?_
  refine call_iV (ci := 11) (As := []) (rest := []) (wr := [((n 27), .inl (cI, 6, .inl (upd (upd (upd (upd (fun _ => 0) 1 1) 2 2) 4 1) 5 2))), ((n 28), .inl (cI, 6, .inl (upd (upd (upd (upd (upd (upd (fun _ => 0) 0 (-1)) 1 (-1)) 2 (-1)) 3 (-1)) 4 (-1)) 5 (-1)))), ((n 44), .inl (cI, 3, .inl (upd (upd (upd (fun _ => 0) 0 (-1)) 1 (-1)) 2 (-1)))), ((n 3), .inl (cI, 2, .inl (fun _ => 0))), ((n 4), .inl (cI, 2, .inl (fun _ => 0))), ((n 5), .inl (cI, 2, .inl (fun _ => 0))), ((n 7), .inl (cI, 2, .inl (upd (upd (fun _ => 0) 0 3) 1 3))), ((n 8), .inl (cI, 2, .inl (fun _ => 0))), ((n 17), .inl (cZ, 2, .inl (fun _ => 0))), ((n 16), .inl (cZ, 128, .inl (fun _ => 0))), ((n 6), .inl (cI, 2, .inl (fun _ => 0)))]) ⟨hx, hb, hml, hown, hts⟩ (k58_X11_isGood l dC dI cB cI cJ cZ cO n) (cwV 0 hts gX11_port_X11_isGood rfl rfl rfl ⟨rfl, z572⟩ ⟨Nat.le_of_ble_eq_true rfl, Nat.le_of_ble_eq_true rfl⟩) hK hP hD hS hA [10] [0, 1, 2, 3, 4, 5, 6, 7, 8, 9, 11] rfl rfl (by decide +kernel) (by decide +kernel) (by decide +kernel) rfl rfl rfl hl.1 (Nat.le_of_ble_eq_true rfl) rfl rfl dX11_port_107 ⟨by decide +kernel, by decide +kernel⟩ (fun u5 H locs hP hD hS => ?_)
  refine lv_if_ne (tgt := 115) hx hb dX11_port_110 z565 (fun _ => ?_) (fun c1 => absurd c1 (z525))
  refine lv_aload_n hx hb dX11_port_115 rfl (lv_at hl 1 rfl) ?_
  refine lv_aload_n hx hb dX11_port_116 rfl (lv_at hl 1 rfl) ?_
  refine va_get (D := (dC, dI)) (ci := 11) (v := .int 1) (C := RX11) (T := TX11) (N := 71) hx hb hts i11 hown hK hP 11 rfl rfl 30 (nlt rfl) w7 (fun _ h9 => h9) rfl dX11_port_117 ?_
  refine va_put (D := (dC, dI)) (ci := 11) (v := .int 1) (ty := tyX11 29) (C := RX11) (T := TX11) (N := 71) hx hb hts i11 tyX11 tyX11_ok nmX11 hown hK hP hD hS 11 rfl rfl 29 (nlt rfl) w6 (fun _ h9 => h9) rfl (tyX11_ok 29 (nlt rfl)) rfl rfl (nlt rfl) dX11_port_120 (fun H locs hP hD hS => ?_)
  refine lv_aload_n hx hb dX11_port_123 rfl (lv_at hl 1 rfl) ?_
  refine lv_lconst (v := 0) hx hb dX11_port_124 rfl ?_
  refine va_put (D := (dC, dI)) (ci := 11) (v := .long 0) (ty := tyX11 51) (C := RX11) (T := TX11) (N := 71) hx hb hts i11 tyX11 tyX11_ok nmX11 hown hK hP hD hS 11 rfl rfl 51 (nlt rfl) w9 (fun _ h9 => h9) rfl (tyX11_ok 51 (nlt rfl)) rfl rfl (nlt rfl) dX11_port_125 (fun H locs hP hD hS => ?_)
  refine lv_aload_n hx hb dX11_port_128 rfl (lv_at hl 1 rfl) ?_
  refine call_vV (ci := 11) (As := []) (rest := []) (wr := [((n 28), .inl (cI, 6, .inl (upd (upd (upd (upd (upd (upd (fun _ => 0) 0 (-1)) 1 (-1)) 2 (-1)) 3 (-1)) 4 (-1)) 5 (-1)))), ((n 44), .inl (cI, 3, .inl (upd (upd (upd (fun _ => 0) 0 (-1)) 1 (-1)) 2 (-1)))), ((n 3), .inl (cI, 2, .inl (fun _ => 0))), ((n 4), .inl (cI, 2, .inl (fun _ => 0))), ((n 5), .inl (cI, 2, .inl (fun _ => 0))), ((n 7), .inl (cI, 2, .inl (upd (upd (fun _ => 0) 0 3) 1 3))), ((n 17), .inl (cZ, 2, .inl (fun _ => 0))), ((n 16), .inl (cZ, 128, .inl (fun _ => 0))), ((n 6), .inl (cI, 2, .inl (fun _ => 0)))]) ⟨hx, hb, hml, hown, hts⟩ (k66_X11_begin l dC dI cB cI cJ cZ cO n) (cwV 0 hts gX11_port_X11_begin rfl rfl rfl ⟨rfl, z574⟩ ⟨Nat.le_of_ble_eq_true rfl, Nat.le_of_ble_eq_true rfl⟩) hK hP hD hS hA [11, 7, 0] [1, 2, 3, 4, 5, 6, 8, 9, 10] rfl rfl (by decide +kernel) (by decide +kernel) (by decide +kernel) rfl rfl rfl hl.1 (Nat.le_of_ble_eq_true rfl) rfl rfl dX11_port_129 ⟨by decide +kernel, by decide +kernel⟩ (fun u6 H locs hP hD hS => ?_)
  refine lv_iconst (v := 0) hx hb dX11_port_132 z8 ?_
  refine lv_istore_n (lv' := [(1, .int 0), (0, .ref (n 0))]) hx hb dX11_port_133 rfl hl (nlt rfl) rfl (fun ls hl => ?_)
  refine lv_iload_n hx hb dX11_port_134 rfl (lv_at hl 0 rfl) ?_
  refine lv_bipush (v := 6) hx hb dX11_port_135 z4 ?_
  refine lv_icmp_ge (tgt := 153) hx hb dX11_port_137 z566 (fun c1 => absurd c1 (z78)) (fun _ => ?_)
  refine lv_aload_n hx hb dX11_port_140 rfl (lv_at hl 1 rfl) ?_
  refine va_get (D := (dC, dI)) (ci := 11) (v := .ref (n 28)) (C := RX11) (T := TX11) (N := 71) hx hb hts i11 hown hK hP 9 rfl rfl 38 (nlt rfl) w10 (fun _ h9 => h9) rfl dX11_port_141 ?_
  refine lv_iload_n hx hb dX11_port_144 rfl (lv_at hl 0 rfl) ?_
  refine lv_iconst (v := (-1)) hx hb dX11_port_145 z128 ?_
  refine my_iastS hx hb hK hP hD hS 0 1 rfl rfl z38 rfl dX11_port_146 (fun H locs hP hD hS => ?_)
  refine lv_iinc (v := 1) (lv' := [(1, .int 1), (0, .ref (n 0))]) hx hb dX11_port_147 hl (k := 0) rfl z17 (nlt rfl) rfl (fun ls hl => ?_)
  refine lv_goto (tgt := 134) hx hb dX11_port_150 z567 ?_
  refine lv_iload_n hx hb dX11_port_134 rfl (lv_at hl 0 rfl) ?_
  refine lv_bipush (v := 6) hx hb dX11_port_135 z4 ?_
  refine lv_icmp_ge (tgt := 153) hx hb dX11_port_137 z566 (fun c1 => absurd c1 (z80)) (fun _ => ?_)
  refine lv_aload_n hx hb dX11_port_140 rfl (lv_at hl 1 rfl) ?_
  refine va_get (D := (dC, dI)) (ci := 11) (v := .ref (n 28)) (C := RX11) (T := TX11) (N := 71) hx hb hts i11 hown hK hP 9 rfl rfl 38 (nlt rfl) w10 (fun _ h9 => h9) rfl dX11_port_141 ?_
  refine lv_iload_n hx hb dX11_port_144 rfl (lv_at hl 0 rfl) ?_
  refine lv_iconst (v := (-1)) hx hb dX11_port_145 z128 ?_
  refine my_iastS hx hb hK hP hD hS 0 1 rfl rfl z53 rfl dX11_port_146 (fun H locs hP hD hS => ?_)
  refine lv_iinc (v := 2) (lv' := [(1, .int 2), (0, .ref (n 0))]) hx hb dX11_port_147 hl (k := 0) rfl z24 (nlt rfl) rfl (fun ls hl => ?_)
  refine lv_goto (tgt := 134) hx hb dX11_port_150 z567 ?_
  refine lv_iload_n hx hb dX11_port_134 rfl (lv_at hl 0 rfl) ?_
  refine lv_bipush (v := 6) hx hb dX11_port_135 z4 ?_
  refine lv_icmp_ge (tgt := 153) hx hb dX11_port_137 z566 (fun c1 => absurd c1 (z83)) (fun _ => ?_)
  refine lv_aload_n hx hb dX11_port_140 rfl (lv_at hl 1 rfl) ?_
  refine va_get (D := (dC, dI)) (ci := 11) (v := .ref (n 28)) (C := RX11) (T := TX11) (N := 71) hx hb hts i11 hown hK hP 9 rfl rfl 38 (nlt rfl) w10 (fun _ h9 => h9) rfl dX11_port_141 ?_
  refine lv_iload_n hx hb dX11_port_144 rfl (lv_at hl 0 rfl) ?_
  refine lv_iconst (v := (-1)) hx hb dX11_port_145 z128 ?_
  refine my_iastS hx hb hK hP hD hS 0 1 rfl rfl z68 rfl dX11_port_146 (fun H locs hP hD hS => ?_)
  refine lv_iinc (v := 3) (lv' := [(1, .int 3), (0, .ref (n 0))]) hx hb dX11_port_147 hl (k := 0) rfl z30 (nlt rfl) rfl (fun ls hl => ?_)
  refine lv_goto (tgt := 134) hx hb dX11_port_150 z567 ?_
  refine lv_iload_n hx hb dX11_port_134 rfl (lv_at hl 0 rfl) ?_
  refine lv_bipush (v := 6) hx hb dX11_port_135 z4 ?_
  refine lv_icmp_ge (tgt := 153) hx hb dX11_port_137 z566 (fun c1 => absurd c1 (z88)) (fun _ => ?_)
  refine lv_aload_n hx hb dX11_port_140 rfl (lv_at hl 1 rfl) ?_
  refine va_get (D := (dC, dI)) (ci := 11) (v := .ref (n 28)) (C := RX11) (T := TX11) (N := 71) hx hb hts i11 hown hK hP 9 rfl rfl 38 (nlt rfl) w10 (fun _ h9 => h9) rfl dX11_port_141 ?_
  refine lv_iload_n hx hb dX11_port_144 rfl (lv_at hl 0 rfl) ?_
  refine lv_iconst (v := (-1)) hx hb dX11_port_145 z128 ?_
  refine my_iastS hx hb hK hP hD hS 0 1 rfl rfl z76 rfl dX11_port_146 (fun H locs hP hD hS => ?_)
  refine lv_iinc (v := 4) (lv' := [(1, .int 4), (0, .ref (n 0))]) hx hb dX11_port_147 hl (k := 0) rfl z36 (nlt rfl) rfl (fun ls hl => ?_)
  refine lv_goto (tgt := 134) hx hb dX11_port_150 z567 ?_
  refine lv_iload_n hx hb dX11_port_134 rfl (lv_at hl 0 rfl) ?_
  refine lv_bipush (v := 6) hx hb dX11_port_135 z4 ?_
  refine lv_icmp_ge (tgt := 153) hx hb dX11_port_137 z566 (fun c1 => absurd c1 (z93)) (fun _ => ?_)
  refine lv_aload_n hx hb dX11_port_140 rfl (lv_at hl 1 rfl) ?_
  refine va_get (D := (dC, dI)) (ci := 11) (v := .ref (n 28)) (C := RX11) (T := TX11) (N := 71) hx hb hts i11 hown hK hP 9 rfl rfl 38 (nlt rfl) w10 (fun _ h9 => h9) rfl dX11_port_141 ?_
  refine lv_iload_n hx hb dX11_port_144 rfl (lv_at hl 0 rfl) ?_
  refine lv_iconst (v := (-1)) hx hb dX11_port_145 z128 ?_
  refine my_iastS hx hb hK hP hD hS 0 1 rfl rfl z106 rfl dX11_port_146 (fun H locs hP hD hS => ?_)
  refine lv_iinc (v := 5) (lv' := [(1, .int 5), (0, .ref (n 0))]) hx hb dX11_port_147 hl (k := 0) rfl z98 (nlt rfl) rfl (fun ls hl => ?_)
  refine lv_goto (tgt := 134) hx hb dX11_port_150 z567 ?_
  refine lv_iload_n hx hb dX11_port_134 rfl (lv_at hl 0 rfl) ?_
  refine lv_bipush (v := 6) hx hb dX11_port_135 z4 ?_
  refine lv_icmp_ge (tgt := 153) hx hb dX11_port_137 z566 (fun c1 => absurd c1 (z99)) (fun _ => ?_)
  refine lv_aload_n hx hb dX11_port_140 rfl (lv_at hl 1 rfl) ?_
  refine va_get (D := (dC, dI)) (ci := 11) (v := .ref (n 28)) (C := RX11) (T := TX11) (N := 71) hx hb hts i11 hown hK hP 9 rfl rfl 38 (nlt rfl) w10 (fun _ h9 => h9) rfl dX11_port_141 ?_
  refine lv_iload_n hx hb dX11_port_144 rfl (lv_at hl 0 rfl) ?_
  refine lv_iconst (v := (-1)) hx hb dX11_port_145 z128 ?_
  refine my_iastS hx hb hK hP hD hS 0 1 rfl rfl z124 rfl dX11_port_146 (fun H locs hP hD hS => ?_)
  refine lv_iinc (v := 6) (lv' := [(1, .int 6), (0, .ref (n 0))]) hx hb dX11_port_147 hl (k := 0) rfl z104 (nlt rfl) rfl (fun ls hl => ?_)
  refine lv_goto (tgt := 134) hx hb dX11_port_150 z567 ?_
  refine lv_iload_n hx hb dX11_port_134 rfl (lv_at hl 0 rfl) ?_
  refine lv_bipush (v := 6) hx hb dX11_port_135 z4 ?_
  refine lv_icmp_ge (tgt := 153) hx hb dX11_port_137 z566 (fun _ => ?_) (fun c1 => absurd (z105) c1)
  refine lv_aload_n hx hb dX11_port_153 rfl (lv_at hl 1 rfl) ?_
  refine lv_iconst (v := 0) hx hb dX11_port_154 z8 ?_
  refine va_put (D := (dC, dI)) (ci := 11) (v := .int 0) (ty := tyX11 66) (C := RX11) (T := TX11) (N := 71) hx hb hts i11 tyX11 tyX11_ok nmX11 hown hK hP hD hS 9 rfl rfl 66 (nlt rfl) w11 (fun _ h9 => h9) rfl (tyX11_ok 66 (nlt rfl)) rfl rfl (nlt rfl) dX11_port_155 (fun H locs hP hD hS => ?_)
  refine lv_aload_n hx hb dX11_port_158 rfl (lv_at hl 1 rfl) ?_
  refine lv_iconst (v := 0) hx hb dX11_port_159 z8 ?_
  refine va_put (D := (dC, dI)) (ci := 11) (v := .int 0) (ty := tyX11 59) (C := RX11) (T := TX11) (N := 71) hx hb hts i11 tyX11 tyX11_ok nmX11 hown hK hP hD hS 9 rfl rfl 59 (nlt rfl) w12 (fun _ h9 => h9) rfl (tyX11_ok 59 (nlt rfl)) rfl rfl (nlt rfl) dX11_port_160 (fun H locs hP hD hS => ?_)
  refine lv_iconst (v := 0) hx hb dX11_port_163 z8 ?_
  refine lv_istore_n (lv' := [(1, .int 0), (0, .ref (n 0))]) hx hb dX11_port_164 rfl hl (nlt rfl) rfl (fun ls hl => ?_)
  refine lv_iload_n hx hb dX11_port_165 rfl (lv_at hl 0 rfl) ?_
  refine lv_iconst (v := 3) hx hb dX11_port_166 z69 ?_
  refine lv_icmp_ge (tgt := 183) hx hb dX11_port_167 z568 (fun c1 => absurd c1 (z267)) (fun _ => ?_)
  refine lv_aload_n hx hb dX11_port_170 rfl (lv_at hl 1 rfl) ?_
  refine va_get (D := (dC, dI)) (ci := 11) (v := .ref (n 44)) (C := RX11) (T := TX11) (N := 71) hx hb hts i11 hown hK hP 9 rfl rfl 68 (nlt rfl) w13 (fun _ h9 => h9) rfl dX11_port_171 ?_
  refine lv_iload_n hx hb dX11_port_174 rfl (lv_at hl 0 rfl) ?_
  refine lv_iconst (v := (-1)) hx hb dX11_port_175 z128 ?_
  refine my_iastS hx hb hK hP hD hS 1 1 rfl rfl z165 rfl dX11_port_176 (fun H locs hP hD hS => ?_)
  refine lv_iinc (v := 1) (lv' := [(1, .int 1), (0, .ref (n 0))]) hx hb dX11_port_177 hl (k := 0) rfl z17 (nlt rfl) rfl (fun ls hl => ?_)
  refine lv_goto (tgt := 165) hx hb dX11_port_180 z569 ?_
  refine lv_iload_n hx hb dX11_port_165 rfl (lv_at hl 0 rfl) ?_
  refine lv_iconst (v := 3) hx hb dX11_port_166 z69 ?_
  refine lv_icmp_ge (tgt := 183) hx hb dX11_port_167 z568 (fun c1 => absurd c1 (z270)) (fun _ => ?_)
  refine lv_aload_n hx hb dX11_port_170 rfl (lv_at hl 1 rfl) ?_
  refine va_get (D := (dC, dI)) (ci := 11) (v := .ref (n 44)) (C := RX11) (T := TX11) (N := 71) hx hb hts i11 hown hK hP 9 rfl rfl 68 (nlt rfl) w13 (fun _ h9 => h9) rfl dX11_port_171 ?_
  refine lv_iload_n hx hb dX11_port_174 rfl (lv_at hl 0 rfl) ?_
  refine lv_iconst (v := (-1)) hx hb dX11_port_175 z128 ?_
  refine my_iastS hx hb hK hP hD hS 1 1 rfl rfl z166 rfl dX11_port_176 (fun H locs hP hD hS => ?_)
  refine lv_iinc (v := 2) (lv' := [(1, .int 2), (0, .ref (n 0))]) hx hb dX11_port_177 hl (k := 0) rfl z24 (nlt rfl) rfl (fun ls hl => ?_)
  refine lv_goto (tgt := 165) hx hb dX11_port_180 z569 ?_
  refine lv_iload_n hx hb dX11_port_165 rfl (lv_at hl 0 rfl) ?_
  refine lv_iconst (v := 3) hx hb dX11_port_166 z69 ?_
  refine lv_icmp_ge (tgt := 183) hx hb dX11_port_167 z568 (fun c1 => absurd c1 (z271)) (fun _ => ?_)
  refine lv_aload_n hx hb dX11_port_170 rfl (lv_at hl 1 rfl) ?_
  refine va_get (D := (dC, dI)) (ci := 11) (v := .ref (n 44)) (C := RX11) (T := TX11) (N := 71) hx hb hts i11 hown hK hP 9 rfl rfl 68 (nlt rfl) w13 (fun _ h9 => h9) rfl dX11_port_171 ?_
  refine lv_iload_n hx hb dX11_port_174 rfl (lv_at hl 0 rfl) ?_
  refine lv_iconst (v := (-1)) hx hb dX11_port_175 z128 ?_
  refine my_iastS hx hb hK hP hD hS 1 1 rfl rfl z167 rfl dX11_port_176 (fun H locs hP hD hS => ?_)
  refine lv_iinc (v := 3) (lv' := [(1, .int 3), (0, .ref (n 0))]) hx hb dX11_port_177 hl (k := 0) rfl z30 (nlt rfl) rfl (fun ls hl => ?_)
  refine lv_goto (tgt := 165) hx hb dX11_port_180 z569 ?_
  refine lv_iload_n hx hb dX11_port_165 rfl (lv_at hl 0 rfl) ?_
  refine lv_iconst (v := 3) hx hb dX11_port_166 z69 ?_
  refine lv_icmp_ge (tgt := 183) hx hb dX11_port_167 z568 (fun _ => ?_) (fun c1 => absurd (z272) c1)
  refine lv_aload_n hx hb dX11_port_183 rfl (lv_at hl 1 rfl) ?_
  refine va_get (D := (dC, dI)) (ci := 11) (v := .ref (n 3)) (C := RX11) (T := TX11) (N := 71) hx hb hts i11 hown hK hP 9 rfl rfl 11 (nlt rfl) w14 (fun _ h9 => h9) rfl dX11_port_184 ?_
  refine lv_aload_n hx hb dX11_port_187 rfl (lv_at hl 1 rfl) ?_
  refine va_get (D := (dC, dI)) (ci := 11) (v := .int 1) (C := RX11) (T := TX11) (N := 71) hx hb hts i11 hown hK hP 9 rfl rfl 29 (nlt rfl) w6 (fun _ h9 => h9) rfl dX11_port_188 ?_
  refine my_iald (v := 0) hx hb hK hP 2 1 rfl rfl z547 rfl dX11_port_191 ?_
  refine W.widen (k := 0) (n := 0) (by decide +kernel) (by decide +kernel) ?_
  exact ret_i hx hb hr hlocks hS (u := (fun _ => 0)) (hP.sub [] rfl) (hD.sub [] (by decide +kernel) rfl) dX11_port_192

set_option maxHeartbeats 4000000 in
set_option maxRecDepth 100000 in
theorem k68_X10_fault (l : Launch) (dC : Nat → ClassId) (dI : Nat → Nat → Nat) (cB cI cJ cZ cO : ClassId) (r : Nat → Nat) : CI l yX10_fault wsX10_fault ({ frames := 0, cells := 0, slots := 0, locals := 0 }) (dC, dI) (tyL cB cI cJ cZ cO) [.ref (r 0), .int 0] [((r 0), .inr (10, fX r)), ((r 2), .inr (2, [.ref (r 3), .ref (r 6), .ref (r 16), .ref (r 17)])), ((r 3), .inr (8, [.ref (r 4), .ref (r 5), .int 0, .int 0, .int 0, .int 0, .long 0, .int 0, .int 0, .int (-1)]))] (fun _ => []) 0 := by
  intro sz
  refine ct_open (cc := cX10_fault) (maxL := 2) (ret := (some .int)) (by decide) rfl (Nat.le_of_ble_eq_true rfl) ?_
  intro p e s m below meth c ls A hx hb hr hml hts hown hlocks hin hP hK hD hA hS hl
  have hl : lv_has ls 2 [(0, .ref (r 0)), (1, .int 0)] := hl
  have hown : s.vm.findClass RX10 = some m.cls := hown
  have i10 : ∀ w ∈ u_ws RX10 TX10 18, w ∈ wsX10_fault := fun _ h => List.mem_cons_of_mem _ (List.mem_append_left _ (List.mem_append_left _ (List.mem_append_right _ h)))
  have w1 := hts (.fieldLink RX10 16 "GuildCharter" "parser" "LGuildCharter$Parser;") (List.mem_cons_of_mem _ (List.mem_append_left _ (List.mem_append_left _ (List.mem_append_left _ (List.mem_of_getElem? (i := 0) rfl)))))
  have i2 : ∀ w ∈ u_ws RX2 TX2 4, w ∈ wsX10_fault := fun _ h => List.mem_cons_of_mem _ (List.mem_append_left _ (List.mem_append_right _ h))
  have w3 := hts (.fieldLink RX10 131 "GuildCharter$Parser" "tokens" "LGuildCharter$Tokens;") (List.mem_cons_of_mem _ (List.mem_append_left _ (List.mem_append_left _ (List.mem_append_left _ (List.mem_of_getElem? (i := 1) rfl)))))
  have i8 : ∀ w ∈ u_ws RX8 TX8 10, w ∈ wsX10_fault := fun _ h => List.mem_cons_of_mem _ (List.mem_append_right _ h)
  have w5 := hts (.fieldLink RX10 135 "GuildCharter$Tokens" "fault" "I") (List.mem_cons_of_mem _ (List.mem_append_left _ (List.mem_append_left _ (List.mem_append_left _ (List.mem_of_getElem? (i := 2) rfl)))))
  refine lv_iload_n hx hb dX10_fault_0 rfl (lv_at hl 1 rfl) ?_
  refine lv_if_ne (tgt := 15) hx hb dX10_fault_1 z575 (fun c1 => absurd (rfl) c1) (fun _ => ?_)
  refine lv_aload_n hx hb dX10_fault_4 rfl (lv_at hl 0 rfl) ?_
  refine va_get (D := (dC, dI)) (ci := 10) (v := .ref (r 2)) (C := RX10) (T := TX10) (N := 18) hx hb hts i10 hown hK hP 0 rfl rfl 2 (nlt rfl) w1 (fun _ h9 => h9) rfl dX10_fault_5 ?_
  refine va_get (D := (dC, dI)) (ci := 2) (v := .ref (r 3)) (C := RX2) (T := TX2) (N := 4) hx hb hts i2 hown hK hP 1 rfl rfl 0 (nlt rfl) w3 (fun _ h9 => h9) rfl dX10_fault_8 ?_
  refine va_get (D := (dC, dI)) (ci := 8) (v := .int 0) (C := RX8) (T := TX8) (N := 10) hx hb hts i8 hown hK hP 2 rfl rfl 8 (nlt rfl) w5 (fun _ h9 => h9) rfl dX10_fault_11 ?_
  refine W.widen (k := 0) (n := 0) (by decide +kernel) (by decide +kernel) ?_
  exact ret_i hx hb hr hlocks hS (u := (fun _ => 0)) (hP.sub [] rfl) (hD.sub [] (by decide +kernel) rfl) dX10_fault_14

set_option maxHeartbeats 4000000 in
set_option maxRecDepth 100000 in
theorem k69_X11_fault (l : Launch) (dC : Nat → ClassId) (dI : Nat → Nat → Nat) (cB cI cJ cZ cO : ClassId) (n : Nat → Nat) : CI l yX11_fault wsX11_fault ({ frames := 0, cells := 0, slots := 0, locals := 0 }) (dC, dI) (tyL cB cI cJ cZ cO) [.ref (n 0), .int 0] [((n 0), .inr (11, fM n))] (fun _ => []) 0 := by
  intro sz
  refine ct_open (cc := cX11_fault) (maxL := 2) (ret := (some .int)) (by decide) rfl (Nat.le_of_ble_eq_true rfl) ?_
  intro p e s m below meth c ls A hx hb hr hml hts hown hlocks hin hP hK hD hA hS hl
  have hl : lv_has ls 2 [(0, .ref (n 0)), (1, .int 0)] := hl
  have hown : s.vm.findClass RX11 = some m.cls := hown
  have i11 : ∀ w ∈ u_ws RX11 TX11 71, w ∈ wsX11_fault := fun _ h => List.mem_cons_of_mem _ (List.mem_append_right _ h)
  have w1 := hts (.fieldLink RX11 167 "GuildCharterModel" "faultKind" "I") (List.mem_cons_of_mem _ (List.mem_append_left _ (List.mem_of_getElem? (i := 0) rfl)))
  refine lv_iload_n hx hb dX11_fault_0 rfl (lv_at hl 1 rfl) ?_
  refine lv_if_ne (tgt := 11) hx hb dX11_fault_1 z576 (fun c1 => absurd (rfl) c1) (fun _ => ?_)
  refine lv_aload_n hx hb dX11_fault_4 rfl (lv_at hl 0 rfl) ?_
  refine va_get (D := (dC, dI)) (ci := 11) (v := .int 0) (C := RX11) (T := TX11) (N := 71) hx hb hts i11 hown hK hP 0 rfl rfl 4 (nlt rfl) w1 (fun _ h9 => h9) rfl dX11_fault_5 ?_
  refine lv_goto (tgt := 24) hx hb dX11_fault_8 z577 ?_
  refine W.widen (k := 0) (n := 0) (by decide +kernel) (by decide +kernel) ?_
  exact ret_i hx hb hr hlocks hS (u := (fun _ => 0)) (hP.sub [] rfl) (hD.sub [] (by decide +kernel) rfl) dX11_fault_24
