/-! The law's loop. -/
theorem lw_end {p : Program} {e : Env} {s : State} {m : MethodId} {below : List Frame} {meth : Method} {c : Code} (l : Launch) {b L : Nat} {xs : Nat → Int32} (C0 : lw_At p s m meth c b L xs) {H : Heap} {locs : List Loc} (hS : va_S (fun q : Nat => s.heap.size ≤ q) s.heap H locs) {cells slots : Nat} (hcs : cells ≤ room_1.cells ∧ slots ≤ room_1.slots) {ls : Array Slot} : W p l e room_1 s m #[Value.ref b] below meth c H locs cells slots (lw_Z below #[Value.ref b] s) (F0 m 1099 ls []) := by
  obtain ⟨hx, hb, hr, hml, hown, hts0, hX, hbl, hlocks, hgv⟩ := id C0
  refine lv_iconst (v := 1) hx hb dL_law_1099 rfl ?_
  refine va_forget (fun q hq => hS.2.2 q hq) ?_
  refine W.widen (k := 600000) (n := 7302250) hcs.1 hcs.2 ?_
  exact lw_ret hx hb hr hlocks dL_law_1100
theorem lw_idx {i v : Int32} {L n : Nat} (hL : L ≤ 3072) (hi : i = nI n) (hn : n + 6 ≤ L) (h0 : 0 ≤ v.toInt) (h5 : v.toInt ≤ 5) : vp_in (i + v) L := by
  have e1 : i.toInt = (n : Int) := by rw [hi]; exact nI_toInt (by omega)
  refine vp_in_iff.mpr ?_
  rw [Int32.toInt_add, e1, ck_bm (by omega) (by omega)]
  omega
set_option maxHeartbeats 8000000 in
set_option maxRecDepth 100000 in
theorem lw_loop {p : Program} {e : Env} {s : State} {m : MethodId} {below : List Frame} {meth : Method} {c : Code} (l : Launch) {b L : Nat} {xs : Nat → Int32} (hL : L ≤ 3072) (C0 : lw_At p s m meth c b L xs) (D : va_G) (k : pm_cK) (ad : Nat → Nat) (hK : va_K D vwCl (pm_ty k) s) (hE : pm_E ad (fun q : Nat => s.heap.size ≤ q) s s.heap) {cells slots : Nat} (hcs : cells ≤ room_1.cells ∧ slots ≤ room_1.slots) : ∀ (f n : Nat) (h : pm_Hp) (H : Heap) (locs : List Loc) (ls : Array Slot), L + 6 ≤ n + f → n ≤ L + 5 → ck_Inv lw_SI h → pm_Wo D k ad (fun q : Nat => s.heap.size ≤ q) s h H locs → lv_has ls 4 [(3, .int (nI n)), (2, .ref (ad 88)), (1, .ref (ad 0)), (0, .ref b)] → W p l e room_1 s m #[Value.ref b] below meth c H locs cells slots (lw_Z below #[Value.ref b] s) (F0 m 18 ls [])
  | 0, n, h, H, locs, ls, hf, hn, hI, hW, hl => by omega
  | f + 1, n, h, H, locs, ls, hf, hn, hI, hW, hl => by
    obtain ⟨hx, hb, hr, hml, hown, hts0, hX, hbl, hlocks, hgv⟩ := id C0
    have hbA : ¬ (fun q : Nat => s.heap.size ≤ q) b := Nat.not_le.mpr hbl
    have en : (nI n).toInt = (n : Int) := nI_toInt (by omega)
    have eL : (Int32.ofNat L).toInt = (L : Int) := Int32.toInt_ofNat_of_lt (by omega)
    have eS : (Int32.ofNat L - 6).toInt = (L : Int) - 6 := by
      rw [Int32.toInt_sub, eL, show (6 : Int32).toInt = 6 by decide]
      exact ck_bm (by omega) (by omega)
    refine lv_iload_n hx hb dL_law_18 rfl (lv_at hl 0 rfl) ?_
    refine lv_aload_n hx hb dL_law_19 rfl (lv_at hl 3 rfl) ?_
    refine va_slen hx hb hX hbl hbA hW.2.2 dL_law_20 ?_
    refine lv_bipush (v := 6) hx hb dL_law_21 rfl ?_
    refine lv_isub hx hb dL_law_23 ?_
    refine lv_icmp_gt (tgt := 1099) hx hb dL_law_24 rfl (fun _ => lw_end l C0 hW.2.2 hcs) (fun c1 => ?_)
    have hn6 : n + 6 ≤ L := by
      have c2 : ¬ (Int32.ofNat L - 6).toInt < (nI n).toInt := fun q => c1 (Int32.lt_iff_toInt_lt.mpr q)
      rw [eS, en] at c2
      omega
    have hi : ∀ v : Int32, 0 ≤ v.toInt → v.toInt ≤ 5 → vp_in (nI n + v) L := fun v h0 h5 => lw_idx hL rfl hn6 h0 h5
    -- behind a case: on to the next six
    have kk : ∀ (h1 : pm_Hp) (H1 : Heap) (locs1 : List Loc), ck_Inv lw_SI h1 → pm_Wo D k ad (fun q : Nat => s.heap.size ≤ q) s h1 H1 locs1 → W p l e room_1 s m #[Value.ref b] below meth c H1 locs1 cells slots (lw_Z below #[Value.ref b] s) (F0 m 1093 ls []) := by
      intro h1 H1 locs1 hI1 hW1
      refine lv_iinc (i := 3) (nL := 4) (k := 0) (v := nI (n + 6)) (x := nI n) (lv' := [(3, .int (nI (n + 6))), (2, .ref (ad 88)), (1, .ref (ad 0)), (0, .ref b)]) hx hb dL_law_1093 hl rfl ?_ (by decide) rfl (fun ls' hl' => ?_)
      · refine Int32.toInt_inj.mp ?_
        rw [Int32.toInt_add, en, nI_toInt (by omega), show (Int32.ofInt 6).toInt = 6 by decide, ck_bm (by omega) (by omega)]
        omega
      · refine lv_goto (tgt := 18) hx hb dL_law_1096 rfl ?_
        exact lw_loop l hL C0 D k ad hK hE hcs f (n + 6) h1 H1 locs1 ls' (by omega) (by omega) hI1 hW1 hl'
    refine lv_aload_n hx hb dL_law_27 rfl (lv_at hl 3 rfl) ?_
    refine lv_iload_n hx hb dL_law_28 rfl (lv_at hl 0 rfl) ?_
    refine va_sld hx hb hX hbl hbA hW.2.2 (vp_in_iff.mpr (by rw [en]; omega)) dL_law_29 ?_
    refine lv_bipush (v := 63) hx hb dL_law_30 rfl ?_
    refine lv_iand hx hb dL_law_32 ?_
    obtain ⟨j, hj, ej⟩ := pk_andE (xs (nI n).toNatClampNeg) (m := 63) 6 (by decide)
    rw [ej]
    rcases Nat.lt_or_ge j 37 with hj37 | hj37
    · rcases (show j = 0 ∨ j = 1 ∨ j = 2 ∨ j = 3 ∨ j = 4 ∨ j = 5 ∨ j = 6 ∨ j = 7 ∨ j = 8 ∨ j = 9 ∨ j = 10 ∨ j = 11 ∨ j = 12 ∨ j = 13 ∨ j = 14 ∨ j = 15 ∨ j = 16 ∨ j = 17 ∨ j = 18 ∨ j = 19 ∨ j = 20 ∨ j = 21 ∨ j = 22 ∨ j = 23 ∨ j = 24 ∨ j = 25 ∨ j = 26 ∨ j = 27 ∨ j = 28 ∨ j = 29 ∨ j = 30 ∨ j = 31 ∨ j = 32 ∨ j = 33 ∨ j = 34 ∨ j = 35 ∨ j = 36 by omega) with rfl | rfl | rfl | rfl | rfl | rfl | rfl | rfl | rfl | rfl | rfl | rfl | rfl | rfl | rfl | rfl | rfl | rfl | rfl | rfl | rfl | rfl | rfl | rfl | rfl | rfl | rfl | rfl | rfl | rfl | rfl | rfl | rfl | rfl | rfl | rfl | rfl
      · refine lv_tableIn (off := 163) (tgt := 196) hx hb dL_law_33 (by decide +kernel) (by decide +kernel) rfl (by decide) ?_
        exact lw_k_0 l C0 D k ad hK hE hi hcs hI hW hl kk
      · refine lv_tableIn (off := 226) (tgt := 259) hx hb dL_law_33 (by decide +kernel) (by decide +kernel) rfl (by decide) ?_
        exact lw_k_1 l C0 D k ad hK hE hi hcs hI hW hl kk
      · refine lv_tableIn (off := 249) (tgt := 282) hx hb dL_law_33 (by decide +kernel) (by decide +kernel) rfl (by decide) ?_
        exact lw_k_2 l C0 D k ad hK hE hi hcs hI hW hl kk
      · refine lv_tableIn (off := 262) (tgt := 295) hx hb dL_law_33 (by decide +kernel) (by decide +kernel) rfl (by decide) ?_
        exact lw_k_3 l C0 D k ad hK hE hi hcs hI hW hl kk
      · refine lv_tableIn (off := 285) (tgt := 318) hx hb dL_law_33 (by decide +kernel) (by decide +kernel) rfl (by decide) ?_
        exact lw_k_4 l C0 D k ad hK hE hi hcs hI hW hl kk
      · refine lv_tableIn (off := 318) (tgt := 351) hx hb dL_law_33 (by decide +kernel) (by decide +kernel) rfl (by decide) ?_
        exact lw_k_5 l C0 D k ad hK hE hi hcs hI hW hl kk
      · refine lv_tableIn (off := 361) (tgt := 394) hx hb dL_law_33 (by decide +kernel) (by decide +kernel) rfl (by decide) ?_
        exact lw_k_6 l C0 D k ad hK hE hi hcs hI hW hl kk
      · refine lv_tableIn (off := 384) (tgt := 417) hx hb dL_law_33 (by decide +kernel) (by decide +kernel) rfl (by decide) ?_
        exact lw_k_7 l C0 D k ad hK hE hi hcs hI hW hl kk
      · refine lv_tableIn (off := 407) (tgt := 440) hx hb dL_law_33 (by decide +kernel) (by decide +kernel) rfl (by decide) ?_
        exact lw_k_8 l C0 D k ad hK hE hi hcs hI hW hl kk
      · refine lv_tableIn (off := 440) (tgt := 473) hx hb dL_law_33 (by decide +kernel) (by decide +kernel) rfl (by decide) ?_
        exact lw_k_9 l C0 D k ad hK hE hi hcs hI hW hl kk
      · refine lv_tableIn (off := 453) (tgt := 486) hx hb dL_law_33 (by decide +kernel) (by decide +kernel) rfl (by decide) ?_
        exact lw_k_10 l C0 D k ad hK hE hi hcs hI hW hl kk
      · refine lv_tableIn (off := 466) (tgt := 499) hx hb dL_law_33 (by decide +kernel) (by decide +kernel) rfl (by decide) ?_
        exact lw_k_11 l C0 D k ad hK hE hi hcs hI hW hl kk
      · refine lv_tableIn (off := 479) (tgt := 512) hx hb dL_law_33 (by decide +kernel) (by decide +kernel) rfl (by decide) ?_
        exact lw_k_12 l C0 D k ad hK hE hi hcs hI hW hl kk
      · refine lv_tableIn (off := 502) (tgt := 535) hx hb dL_law_33 (by decide +kernel) (by decide +kernel) rfl (by decide) ?_
        exact lw_k_13 l C0 D k ad hK hE hi hcs hI hW hl kk
      · refine lv_tableIn (off := 515) (tgt := 548) hx hb dL_law_33 (by decide +kernel) (by decide +kernel) rfl (by decide) ?_
        exact lw_k_14 l C0 D k ad hK hE hi hcs hI hW hl kk
      · refine lv_tableIn (off := 528) (tgt := 561) hx hb dL_law_33 (by decide +kernel) (by decide +kernel) rfl (by decide) ?_
        exact lw_k_15 l C0 D k ad hK hE hi hcs hI hW hl kk
      · refine lv_tableIn (off := 551) (tgt := 584) hx hb dL_law_33 (by decide +kernel) (by decide +kernel) rfl (by decide) ?_
        exact lw_k_16 l C0 D k ad hK hE hi hcs hI hW hl kk
      · refine lv_tableIn (off := 574) (tgt := 607) hx hb dL_law_33 (by decide +kernel) (by decide +kernel) rfl (by decide) ?_
        exact lw_k_17 l C0 D k ad hK hE hi hcs hI hW hl kk
      · refine lv_tableIn (off := 597) (tgt := 630) hx hb dL_law_33 (by decide +kernel) (by decide +kernel) rfl (by decide) ?_
        exact lw_k_18 l C0 D k ad hK hE hi hcs hI hW hl kk
      · refine lv_tableIn (off := 630) (tgt := 663) hx hb dL_law_33 (by decide +kernel) (by decide +kernel) rfl (by decide) ?_
        exact lw_k_19 l C0 D k ad hK hE hi hcs hI hW hl kk
      · refine lv_tableIn (off := 643) (tgt := 676) hx hb dL_law_33 (by decide +kernel) (by decide +kernel) rfl (by decide) ?_
        exact lw_k_20 l C0 D k ad hK hE hi hcs hI hW hl kk
      · refine lv_tableIn (off := 676) (tgt := 709) hx hb dL_law_33 (by decide +kernel) (by decide +kernel) rfl (by decide) ?_
        exact lw_k_21 l C0 D k ad hK hE hi hcs hI hW hl kk
      · refine lv_tableIn (off := 689) (tgt := 722) hx hb dL_law_33 (by decide +kernel) (by decide +kernel) rfl (by decide) ?_
        exact lw_k_22 l C0 D k ad hK hE hi hcs hI hW hl kk
      · refine lv_tableIn (off := 712) (tgt := 745) hx hb dL_law_33 (by decide +kernel) (by decide +kernel) rfl (by decide) ?_
        exact lw_k_23 l C0 D k ad hK hE hi hcs hI hW hl kk
      · refine lv_tableIn (off := 725) (tgt := 758) hx hb dL_law_33 (by decide +kernel) (by decide +kernel) rfl (by decide) ?_
        exact lw_k_24 l C0 D k ad hK hE hi hcs hI hW hl kk
      · refine lv_tableIn (off := 748) (tgt := 781) hx hb dL_law_33 (by decide +kernel) (by decide +kernel) rfl (by decide) ?_
        exact lw_k_25 l C0 D k ad hK hE hi hcs hI hW hl kk
      · refine lv_tableIn (off := 781) (tgt := 814) hx hb dL_law_33 (by decide +kernel) (by decide +kernel) rfl (by decide) ?_
        exact lw_k_26 l C0 D k ad hK hE hi hcs hI hW hl kk
      · refine lv_tableIn (off := 794) (tgt := 827) hx hb dL_law_33 (by decide +kernel) (by decide +kernel) rfl (by decide) ?_
        exact lw_k_27 l C0 D k ad hK hE hi hcs hI hW hl kk
      · refine lv_tableIn (off := 817) (tgt := 850) hx hb dL_law_33 (by decide +kernel) (by decide +kernel) rfl (by decide) ?_
        exact lw_k_28 l C0 D k ad hK hE hi hcs hI hW hl kk
      · refine lv_tableIn (off := 840) (tgt := 873) hx hb dL_law_33 (by decide +kernel) (by decide +kernel) rfl (by decide) ?_
        exact lw_k_29 l C0 D k ad hK hE hi hcs hI hW hl kk
      · refine lv_tableIn (off := 863) (tgt := 896) hx hb dL_law_33 (by decide +kernel) (by decide +kernel) rfl (by decide) ?_
        exact lw_k_30 l C0 D k ad hK hE hi hcs hI hW hl kk
      · refine lv_tableIn (off := 922) (tgt := 955) hx hb dL_law_33 (by decide +kernel) (by decide +kernel) rfl (by decide) ?_
        exact lw_k_31 l C0 D k ad hK hE hi hcs hI hW hl kk
      · refine lv_tableIn (off := 945) (tgt := 978) hx hb dL_law_33 (by decide +kernel) (by decide +kernel) rfl (by decide) ?_
        exact lw_k_32 l C0 D k ad hK hE hi hcs hI hW hl kk
      · refine lv_tableIn (off := 968) (tgt := 1001) hx hb dL_law_33 (by decide +kernel) (by decide +kernel) rfl (by decide) ?_
        exact lw_k_33 l C0 D k ad hK hE hi hcs hI hW hl kk
      · refine lv_tableIn (off := 991) (tgt := 1024) hx hb dL_law_33 (by decide +kernel) (by decide +kernel) rfl (by decide) ?_
        exact lw_k_34 l C0 D k ad hK hE hi hcs hI hW hl kk
      · refine lv_tableIn (off := 1014) (tgt := 1047) hx hb dL_law_33 (by decide +kernel) (by decide +kernel) rfl (by decide) ?_
        exact lw_k_35 l C0 D k ad hK hE hi hcs hI hW hl kk
      · refine lv_tableIn (off := 1037) (tgt := 1070) hx hb dL_law_33 (by decide +kernel) (by decide +kernel) rfl (by decide) ?_
        exact lw_k_36 l C0 D k ad hK hE hi hcs hI hW hl kk
    · refine lv_tableOut (tgt := 1093) hx hb dL_law_33 (Or.inr (by rw [nI_toInt (by omega)]; omega)) (by decide) ?_
      exact kk h H locs hI hW
