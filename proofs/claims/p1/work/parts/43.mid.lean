set_option maxHeartbeats 4000000 in
set_option maxRecDepth 100000 in
theorem law_mid {p : Program} {e : Env} {s : State} {m : MethodId} {below : List Frame} {meth : Method} {c : Code} (l : Launch) {b : Nat} {xs : Nat → Int32} {L : Nat} (hL : L ≤ 6) (C0 : lw_At p s m meth c b L xs) (dC : Nat → ClassId) (dI : Nat → Nat → Nat) (cB cI cJ cZ cO : ClassId) (r n : Nat → Nat) (H : Heap) (locs : List Loc) (hK : va_K (dC, dI) vwCl (tyL cB cI cJ cZ cO) s) (hP : va_P (dC, dI) vwCl (wX cB cI cJ cZ cO r ++ wM cB cI cJ cZ cO n) H) (hD : va_D (fun q : Nat => s.heap.size ≤ q) (wX cB cI cJ cZ cO r ++ wM cB cI cJ cZ cO n)) (hS : va_S (fun q : Nat => s.heap.size ≤ q) s.heap H locs) (ls : Array Slot) (hl : lv_has ls 4 [(3, .int 0), (2, .ref (n 0)), (1, .ref (r 0)), (0, .ref b)]) : W p l e room_1 s m #[Value.ref b] below meth c H locs 135 85080 (lw_Z below #[Value.ref b] s) (F0 m 18 ls []) := by
  obtain ⟨hx, hb, hr, hml, hown, hts0, hX, hbl, hlocks, hgv⟩ := id C0
  have hA : ∀ q : Nat, s.heap.size ≤ q → (fun q : Nat => s.heap.size ≤ q) q := fun _ h => h
  have hbA : ¬ (fun q : Nat => s.heap.size ≤ q) b := Nat.not_le.mpr hbl
  rcases (show L = 6 ∨ L = 0 ∨ L = 1 ∨ L = 2 ∨ L = 3 ∨ L = 4 ∨ L = 5 by omega) with rfl | rfl | rfl | rfl | rfl | rfl | rfl
  · have e0 : xs 0 = xs 0 := rfl
    refine lv_iload_n hx hb dL_law_18 rfl (lv_at hl 0 rfl) ?_
    refine lv_aload_n hx hb dL_law_19 rfl (lv_at hl 3 rfl) ?_
    refine va_slen hx hb hX hbl hbA hS dL_law_20 ?_
    refine tpv (v := .int 6) rfl ?_
    refine lv_bipush (v := 6) hx hb dL_law_21 z4 ?_
    refine lv_isub hx hb dL_law_23 ?_
    refine tpi z945 ?_
    refine lv_icmp_gt (tgt := 1099) hx hb dL_law_24 z947 (fun c1 => absurd c1 (z125)) (fun _ => ?_)
    refine lv_aload_n hx hb dL_law_27 rfl (lv_at hl 3 rfl) ?_
    refine lv_iload_n hx hb dL_law_28 rfl (lv_at hl 0 rfl) ?_
    refine va_sld hx hb hX hbl hbA hS (vin _ _ rfl) dL_law_29 ?_
    refine tpv (v := .int (xs 0)) (congrArg Value.int e0) ?_
    refine lv_bipush (v := 63) hx hb dL_law_30 z1064 ?_
    refine lv_iand hx hb dL_law_32 ?_
    obtain ⟨j, hj, ej⟩ := pk_andE (xs 0) (m := 63) 6 (by decide)
    refine tpv (v := .int (nI j)) (congrArg Value.int ej) ?_
    rcases Nat.lt_or_ge j 37 with hj37 | hj37
    · rcases (show j = 0 ∨ j = 1 ∨ j = 2 ∨ j = 3 ∨ j = 4 ∨ j = 5 ∨ j = 6 ∨ j = 7 ∨ j = 8 ∨ j = 9 ∨ j = 10 ∨ j = 11 ∨ j = 12 ∨ j = 13 ∨ j = 14 ∨ j = 15 ∨ j = 16 ∨ j = 17 ∨ j = 18 ∨ j = 19 ∨ j = 20 ∨ j = 21 ∨ j = 22 ∨ j = 23 ∨ j = 24 ∨ j = 25 ∨ j = 26 ∨ j = 27 ∨ j = 28 ∨ j = 29 ∨ j = 30 ∨ j = 31 ∨ j = 32 ∨ j = 33 ∨ j = 34 ∨ j = 35 ∨ j = 36 by omega) with rfl | rfl | rfl | rfl | rfl | rfl | rfl | rfl | rfl | rfl | rfl | rfl | rfl | rfl | rfl | rfl | rfl | rfl | rfl | rfl | rfl | rfl | rfl | rfl | rfl | rfl | rfl | rfl | rfl | rfl | rfl | rfl | rfl | rfl | rfl | rfl | rfl
      · refine lv_tableIn (off := 163) (tgt := 196) hx hb dL_law_33 (by decide +kernel) (by decide +kernel) rfl (by decide) ?_
        exact lo_0 l C0 dC dI cB cI cJ cZ cO r n H locs hK hP hD hS ls hl
      · refine lv_tableIn (off := 226) (tgt := 259) hx hb dL_law_33 (by decide +kernel) (by decide +kernel) rfl (by decide) ?_
        exact lo_1 l C0 dC dI cB cI cJ cZ cO r n H locs hK hP hD hS ls hl
      · refine lv_tableIn (off := 249) (tgt := 282) hx hb dL_law_33 (by decide +kernel) (by decide +kernel) rfl (by decide) ?_
        exact lo_2 l C0 dC dI cB cI cJ cZ cO r n H locs hK hP hD hS ls hl
      · refine lv_tableIn (off := 262) (tgt := 295) hx hb dL_law_33 (by decide +kernel) (by decide +kernel) rfl (by decide) ?_
        exact lo_3 l C0 dC dI cB cI cJ cZ cO r n H locs hK hP hD hS ls hl
      · refine lv_tableIn (off := 285) (tgt := 318) hx hb dL_law_33 (by decide +kernel) (by decide +kernel) rfl (by decide) ?_
        exact lo_4 l C0 dC dI cB cI cJ cZ cO r n H locs hK hP hD hS ls hl
      · refine lv_tableIn (off := 318) (tgt := 351) hx hb dL_law_33 (by decide +kernel) (by decide +kernel) rfl (by decide) ?_
        exact lo_5 l C0 dC dI cB cI cJ cZ cO r n H locs hK hP hD hS ls hl
      · refine lv_tableIn (off := 361) (tgt := 394) hx hb dL_law_33 (by decide +kernel) (by decide +kernel) rfl (by decide) ?_
        exact lo_6 l C0 dC dI cB cI cJ cZ cO r n H locs hK hP hD hS ls hl
      · refine lv_tableIn (off := 384) (tgt := 417) hx hb dL_law_33 (by decide +kernel) (by decide +kernel) rfl (by decide) ?_
        exact lo_7 l C0 dC dI cB cI cJ cZ cO r n H locs hK hP hD hS ls hl
      · refine lv_tableIn (off := 407) (tgt := 440) hx hb dL_law_33 (by decide +kernel) (by decide +kernel) rfl (by decide) ?_
        exact lo_8 l C0 dC dI cB cI cJ cZ cO r n H locs hK hP hD hS ls hl
      · refine lv_tableIn (off := 440) (tgt := 473) hx hb dL_law_33 (by decide +kernel) (by decide +kernel) rfl (by decide) ?_
        exact lo_9 l C0 dC dI cB cI cJ cZ cO r n H locs hK hP hD hS ls hl
      · refine lv_tableIn (off := 453) (tgt := 486) hx hb dL_law_33 (by decide +kernel) (by decide +kernel) rfl (by decide) ?_
        exact lo_10 l C0 dC dI cB cI cJ cZ cO r n H locs hK hP hD hS ls hl
      · refine lv_tableIn (off := 466) (tgt := 499) hx hb dL_law_33 (by decide +kernel) (by decide +kernel) rfl (by decide) ?_
        exact lo_11 l C0 dC dI cB cI cJ cZ cO r n H locs hK hP hD hS ls hl
      · refine lv_tableIn (off := 479) (tgt := 512) hx hb dL_law_33 (by decide +kernel) (by decide +kernel) rfl (by decide) ?_
        exact lo_12 l C0 dC dI cB cI cJ cZ cO r n H locs hK hP hD hS ls hl
      · refine lv_tableIn (off := 502) (tgt := 535) hx hb dL_law_33 (by decide +kernel) (by decide +kernel) rfl (by decide) ?_
        exact lo_13 l C0 dC dI cB cI cJ cZ cO r n H locs hK hP hD hS ls hl
      · refine lv_tableIn (off := 515) (tgt := 548) hx hb dL_law_33 (by decide +kernel) (by decide +kernel) rfl (by decide) ?_
        exact lo_14 l C0 dC dI cB cI cJ cZ cO r n H locs hK hP hD hS ls hl
      · refine lv_tableIn (off := 528) (tgt := 561) hx hb dL_law_33 (by decide +kernel) (by decide +kernel) rfl (by decide) ?_
        exact lo_15 l C0 dC dI cB cI cJ cZ cO r n H locs hK hP hD hS ls hl
      · refine lv_tableIn (off := 551) (tgt := 584) hx hb dL_law_33 (by decide +kernel) (by decide +kernel) rfl (by decide) ?_
        exact lo_16 l C0 dC dI cB cI cJ cZ cO r n H locs hK hP hD hS ls hl
      · refine lv_tableIn (off := 574) (tgt := 607) hx hb dL_law_33 (by decide +kernel) (by decide +kernel) rfl (by decide) ?_
        exact lo_17 l C0 dC dI cB cI cJ cZ cO r n H locs hK hP hD hS ls hl
      · refine lv_tableIn (off := 597) (tgt := 630) hx hb dL_law_33 (by decide +kernel) (by decide +kernel) rfl (by decide) ?_
        exact lo_18 l C0 dC dI cB cI cJ cZ cO r n H locs hK hP hD hS ls hl
      · refine lv_tableIn (off := 630) (tgt := 663) hx hb dL_law_33 (by decide +kernel) (by decide +kernel) rfl (by decide) ?_
        exact lo_19 l C0 dC dI cB cI cJ cZ cO r n H locs hK hP hD hS ls hl
      · refine lv_tableIn (off := 643) (tgt := 676) hx hb dL_law_33 (by decide +kernel) (by decide +kernel) rfl (by decide) ?_
        exact lo_20 l C0 dC dI cB cI cJ cZ cO r n H locs hK hP hD hS ls hl
      · refine lv_tableIn (off := 676) (tgt := 709) hx hb dL_law_33 (by decide +kernel) (by decide +kernel) rfl (by decide) ?_
        exact lo_21 l C0 dC dI cB cI cJ cZ cO r n H locs hK hP hD hS ls hl
      · refine lv_tableIn (off := 689) (tgt := 722) hx hb dL_law_33 (by decide +kernel) (by decide +kernel) rfl (by decide) ?_
        exact lo_22 l C0 dC dI cB cI cJ cZ cO r n H locs hK hP hD hS ls hl
      · refine lv_tableIn (off := 712) (tgt := 745) hx hb dL_law_33 (by decide +kernel) (by decide +kernel) rfl (by decide) ?_
        exact lo_23 l C0 dC dI cB cI cJ cZ cO r n H locs hK hP hD hS ls hl
      · refine lv_tableIn (off := 725) (tgt := 758) hx hb dL_law_33 (by decide +kernel) (by decide +kernel) rfl (by decide) ?_
        exact lo_24 l C0 dC dI cB cI cJ cZ cO r n H locs hK hP hD hS ls hl
      · refine lv_tableIn (off := 748) (tgt := 781) hx hb dL_law_33 (by decide +kernel) (by decide +kernel) rfl (by decide) ?_
        exact lo_25 l C0 dC dI cB cI cJ cZ cO r n H locs hK hP hD hS ls hl
      · refine lv_tableIn (off := 781) (tgt := 814) hx hb dL_law_33 (by decide +kernel) (by decide +kernel) rfl (by decide) ?_
        exact lo_26 l C0 dC dI cB cI cJ cZ cO r n H locs hK hP hD hS ls hl
      · refine lv_tableIn (off := 794) (tgt := 827) hx hb dL_law_33 (by decide +kernel) (by decide +kernel) rfl (by decide) ?_
        exact lo_27 l C0 dC dI cB cI cJ cZ cO r n H locs hK hP hD hS ls hl
      · refine lv_tableIn (off := 817) (tgt := 850) hx hb dL_law_33 (by decide +kernel) (by decide +kernel) rfl (by decide) ?_
        exact lo_28 l C0 dC dI cB cI cJ cZ cO r n H locs hK hP hD hS ls hl
      · refine lv_tableIn (off := 840) (tgt := 873) hx hb dL_law_33 (by decide +kernel) (by decide +kernel) rfl (by decide) ?_
        exact lo_29 l C0 dC dI cB cI cJ cZ cO r n H locs hK hP hD hS ls hl
      · refine lv_tableIn (off := 863) (tgt := 896) hx hb dL_law_33 (by decide +kernel) (by decide +kernel) rfl (by decide) ?_
        exact lo_30 l C0 dC dI cB cI cJ cZ cO r n H locs hK hP hD hS ls hl
      · refine lv_tableIn (off := 922) (tgt := 955) hx hb dL_law_33 (by decide +kernel) (by decide +kernel) rfl (by decide) ?_
        exact lo_31 l C0 dC dI cB cI cJ cZ cO r n H locs hK hP hD hS ls hl
      · refine lv_tableIn (off := 945) (tgt := 978) hx hb dL_law_33 (by decide +kernel) (by decide +kernel) rfl (by decide) ?_
        exact lo_32 l C0 dC dI cB cI cJ cZ cO r n H locs hK hP hD hS ls hl
      · refine lv_tableIn (off := 968) (tgt := 1001) hx hb dL_law_33 (by decide +kernel) (by decide +kernel) rfl (by decide) ?_
        exact lo_33 l C0 dC dI cB cI cJ cZ cO r n H locs hK hP hD hS ls hl
      · refine lv_tableIn (off := 991) (tgt := 1024) hx hb dL_law_33 (by decide +kernel) (by decide +kernel) rfl (by decide) ?_
        exact lo_34 l C0 dC dI cB cI cJ cZ cO r n H locs hK hP hD hS ls hl
      · refine lv_tableIn (off := 1014) (tgt := 1047) hx hb dL_law_33 (by decide +kernel) (by decide +kernel) rfl (by decide) ?_
        exact lo_35 l C0 dC dI cB cI cJ cZ cO r n H locs hK hP hD hS ls hl
      · refine lv_tableIn (off := 1037) (tgt := 1070) hx hb dL_law_33 (by decide +kernel) (by decide +kernel) rfl (by decide) ?_
        exact lo_36 l C0 dC dI cB cI cJ cZ cO r n H locs hK hP hD hS ls hl
    · refine lv_tableOut (tgt := 1093) hx hb dL_law_33 (Or.inr (by rw [nI_toInt (by omega)]; omega)) (by decide) ?_
      refine lv_iinc (v := 6) (lv' := [(3, .int 6), (2, .ref (n 0)), (1, .ref (r 0)), (0, .ref b)]) hx hb dL_law_1093 hl (k := 0) rfl z943 (nlt rfl) rfl (fun ls hl => ?_)
      refine lv_goto (tgt := 18) hx hb dL_law_1096 z944 ?_
      refine lv_iload_n hx hb dL_law_18 rfl (lv_at hl 0 rfl) ?_
      refine lv_aload_n hx hb dL_law_19 rfl (lv_at hl 3 rfl) ?_
      refine va_slen hx hb hX hbl hbA hS dL_law_20 ?_
      refine tpv (v := .int 6) rfl ?_
      refine lv_bipush (v := 6) hx hb dL_law_21 z4 ?_
      refine lv_isub hx hb dL_law_23 ?_
      refine tpi z945 ?_
      refine lv_icmp_gt (tgt := 1099) hx hb dL_law_24 z947 (fun _ => ?_) (fun c1 => absurd (z946) c1)
      refine lv_iconst (v := 1) hx hb dL_law_1099 z39 ?_
      refine va_forget (fun q hq => hS.2.2 q hq) ?_
      refine W.widen (k := 600000) (n := 7302250) (by decide) (by decide) ?_
      exact lw_ret hx hb hr hlocks dL_law_1100
  · refine lv_iload_n hx hb dL_law_18 rfl (lv_at hl 0 rfl) ?_
    refine lv_aload_n hx hb dL_law_19 rfl (lv_at hl 3 rfl) ?_
    refine va_slen hx hb hX hbl hbA hS dL_law_20 ?_
    refine tpv (v := .int 0) rfl ?_
    refine lv_bipush (v := 6) hx hb dL_law_21 z4 ?_
    refine lv_isub hx hb dL_law_23 ?_
    refine tpi z1065 ?_
    refine lv_icmp_gt (tgt := 1099) hx hb dL_law_24 z947 (fun _ => ?_) (fun c1 => absurd (z1066) c1)
    refine lv_iconst (v := 1) hx hb dL_law_1099 z39 ?_
    refine va_forget (fun q hq => hS.2.2 q hq) ?_
    refine W.widen (k := 600000) (n := 7302250) (by decide) (by decide) ?_
    exact lw_ret hx hb hr hlocks dL_law_1100
  · refine lv_iload_n hx hb dL_law_18 rfl (lv_at hl 0 rfl) ?_
    refine lv_aload_n hx hb dL_law_19 rfl (lv_at hl 3 rfl) ?_
    refine va_slen hx hb hX hbl hbA hS dL_law_20 ?_
    refine tpv (v := .int 1) rfl ?_
    refine lv_bipush (v := 6) hx hb dL_law_21 z4 ?_
    refine lv_isub hx hb dL_law_23 ?_
    refine tpi z1067 ?_
    refine lv_icmp_gt (tgt := 1099) hx hb dL_law_24 z947 (fun _ => ?_) (fun c1 => absurd (z1068) c1)
    refine lv_iconst (v := 1) hx hb dL_law_1099 z39 ?_
    refine va_forget (fun q hq => hS.2.2 q hq) ?_
    refine W.widen (k := 600000) (n := 7302250) (by decide) (by decide) ?_
    exact lw_ret hx hb hr hlocks dL_law_1100
  · refine lv_iload_n hx hb dL_law_18 rfl (lv_at hl 0 rfl) ?_
    refine lv_aload_n hx hb dL_law_19 rfl (lv_at hl 3 rfl) ?_
    refine va_slen hx hb hX hbl hbA hS dL_law_20 ?_
    refine tpv (v := .int 2) rfl ?_
    refine lv_bipush (v := 6) hx hb dL_law_21 z4 ?_
    refine lv_isub hx hb dL_law_23 ?_
    refine tpi z1069 ?_
    refine lv_icmp_gt (tgt := 1099) hx hb dL_law_24 z947 (fun _ => ?_) (fun c1 => absurd (z1070) c1)
    refine lv_iconst (v := 1) hx hb dL_law_1099 z39 ?_
    refine va_forget (fun q hq => hS.2.2 q hq) ?_
    refine W.widen (k := 600000) (n := 7302250) (by decide) (by decide) ?_
    exact lw_ret hx hb hr hlocks dL_law_1100
  · refine lv_iload_n hx hb dL_law_18 rfl (lv_at hl 0 rfl) ?_
    refine lv_aload_n hx hb dL_law_19 rfl (lv_at hl 3 rfl) ?_
    refine va_slen hx hb hX hbl hbA hS dL_law_20 ?_
    refine tpv (v := .int 3) rfl ?_
    refine lv_bipush (v := 6) hx hb dL_law_21 z4 ?_
    refine lv_isub hx hb dL_law_23 ?_
    refine tpi z1071 ?_
    refine lv_icmp_gt (tgt := 1099) hx hb dL_law_24 z947 (fun _ => ?_) (fun c1 => absurd (z1072) c1)
    refine lv_iconst (v := 1) hx hb dL_law_1099 z39 ?_
    refine va_forget (fun q hq => hS.2.2 q hq) ?_
    refine W.widen (k := 600000) (n := 7302250) (by decide) (by decide) ?_
    exact lw_ret hx hb hr hlocks dL_law_1100
  · refine lv_iload_n hx hb dL_law_18 rfl (lv_at hl 0 rfl) ?_
    refine lv_aload_n hx hb dL_law_19 rfl (lv_at hl 3 rfl) ?_
    refine va_slen hx hb hX hbl hbA hS dL_law_20 ?_
    refine tpv (v := .int 4) rfl ?_
    refine lv_bipush (v := 6) hx hb dL_law_21 z4 ?_
    refine lv_isub hx hb dL_law_23 ?_
    refine tpi z1073 ?_
    refine lv_icmp_gt (tgt := 1099) hx hb dL_law_24 z947 (fun _ => ?_) (fun c1 => absurd (z1074) c1)
    refine lv_iconst (v := 1) hx hb dL_law_1099 z39 ?_
    refine va_forget (fun q hq => hS.2.2 q hq) ?_
    refine W.widen (k := 600000) (n := 7302250) (by decide) (by decide) ?_
    exact lw_ret hx hb hr hlocks dL_law_1100
  · refine lv_iload_n hx hb dL_law_18 rfl (lv_at hl 0 rfl) ?_
    refine lv_aload_n hx hb dL_law_19 rfl (lv_at hl 3 rfl) ?_
    refine va_slen hx hb hX hbl hbA hS dL_law_20 ?_
    refine tpv (v := .int 5) rfl ?_
    refine lv_bipush (v := 6) hx hb dL_law_21 z4 ?_
    refine lv_isub hx hb dL_law_23 ?_
    refine tpi z1075 ?_
    refine lv_icmp_gt (tgt := 1099) hx hb dL_law_24 z947 (fun _ => ?_) (fun c1 => absurd (z735) c1)
    refine lv_iconst (v := 1) hx hb dL_law_1099 z39 ?_
    refine va_forget (fun q hq => hS.2.2 q hq) ?_
    refine W.widen (k := 600000) (n := 7302250) (by decide) (by decide) ?_
    exact lw_ret hx hb hr hlocks dL_law_1100
