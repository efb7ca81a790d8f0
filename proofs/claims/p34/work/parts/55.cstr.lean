abbrev chV (i : Nat) (k : Int32) : Int32 := (((sByt.getD i []).getD k.toNatClampNeg 0 &&& 255).toUInt32 % 65536).toInt32
section
variable {p : Program} {l : Launch} {e : Env} {R : Room} {s : State} {m : MethodId} {args : Array Value} {below : List Frame} {meth : Method} {c : Code} {H : Heap} {locs : List Loc} {cells slots : Nat} {cc : ByteArray} {pc : Nat} {ls : Array Slot} {D : va_G} {A : Nat → Prop} {w1 : (Nat → Nat) → va_W} {u : Nat → Nat}
theorem ret_t {v : Int32} {ty : FieldType} (hx : p.tables.exec = Jvm.exec) (hb : c.code = cc) (hr : meth.sig.returnType = some ty) (hn : narrow ty (.int v) = .int v) (hlocks : meth.locks = false) (hS : va_S A s.heap H locs) (hP : va_P D vwCl (w1 u) H) (hD : va_D A (w1 u)) (hdg : decode cc pc = .ok (.ireturn, 1)) : W p l e R s m args below meth c H locs cells slots (MQ below (qi D w1 v A) args s cells slots A) (F0 m pc ls [.int v]) :=
  W.zret hx hb hr hn (fun t ht _ => ⟨⟨v, u, rfl, rfl, by rw [ht]; exact hP, hD⟩, hS.F ht⟩) hS.2.2 hdg hlocks
end
set_option maxHeartbeats 4000000 in
set_option maxRecDepth 100000 in
theorem kj_coder (l : Launch) (dC : Nat → ClassId) (dI : Nat → Nat → Nat) (cB cI cJ cZ cO : ClassId) (ad av : Nat → Nat) (i : Nat) (hi : i < 6) : CIX l yJ0_coder_7d493 wsJ0_coder_7d493 ({ frames := 0, cells := 0, slots := 0, locals := 0 }) (dC, dI) (tyL cB cI cJ cZ cO) [.ref (ad i)] [] (fun _ => []) 0 ad av := by
  intro sz
  refine ctx_open (cc := cJ0_coder_7d493) (maxL := 1) (ret := (some .byte)) (by decide) rfl (Nat.le_of_ble_eq_true rfl) ?_
  intro p e s m below meth c ls A hx hb hr hml hts hown hlocks hin hP hK hD hA hS hl hE
  have hl : lv_has ls 1 [(0, .ref (ad i))] := hl
  have hown : s.vm.findClass RJ0 = some m.cls := hown
  refine va_gets hx hb hE.2.1.1 hS hown (hts (.fieldLink RJ0 38 "java/lang/String" "COMPACT_STRINGS" "Z") (by decide +kernel)) (fun _ h => h) dJ0_coder_7d493_0 ?_
  refine lv_if_eq (tgt := 13) hx hb dJ0_coder_7d493_3 (by decide) (fun c1 => absurd c1 (by decide)) (fun _ => ?_)
  refine lv_aload_n hx hb dJ0_coder_7d493_6 rfl (lv_at hl 0 rfl) ?_
  refine vk_getf hx hb (hE.1.1 i hi).2.1 hS hown (hts (.fieldLink RJ0 15 "java/lang/String" "coder" "B") (by decide +kernel)) (fun _ h => h) dJ0_coder_7d493_7 ?_
  refine lv_goto (tgt := 14) hx hb dJ0_coder_7d493_10 (by decide) ?_
  exact ret_t hx hb hr rfl hlocks hS (u := fun _ => 0) (hP.sub [] rfl) (hD.sub [] (by decide) rfl) dJ0_coder_7d493_14
set_option maxHeartbeats 4000000 in
set_option maxRecDepth 100000 in
theorem kj_isLatin1 (l : Launch) (dC : Nat → ClassId) (dI : Nat → Nat → Nat) (cB cI cJ cZ cO : ClassId) (ad av : Nat → Nat) (i : Nat) (hi : i < 6) : CIX l yJ0_isLatin1_aae02 wsJ0_isLatin1_aae02 ({ frames := 0, cells := 0, slots := 0, locals := 0 }) (dC, dI) (tyL cB cI cJ cZ cO) [.ref (ad i)] [] (fun _ => []) 1 ad av := by
  intro sz
  refine ctx_open (cc := cJ0_isLatin1_aae02) (maxL := 1) (ret := (some .boolean)) (by decide) rfl (Nat.le_of_ble_eq_true rfl) ?_
  intro p e s m below meth c ls A hx hb hr hml hts hown hlocks hin hP hK hD hA hS hl hE
  have hl : lv_has ls 1 [(0, .ref (ad i))] := hl
  have hown : s.vm.findClass RJ0 = some m.cls := hown
  refine va_gets hx hb hE.2.1.1 hS hown (hts (.fieldLink RJ0 38 "java/lang/String" "COMPACT_STRINGS" "Z") (by decide +kernel)) (fun _ h => h) dJ0_isLatin1_aae02_0 ?_
  refine lv_if_eq (tgt := 17) hx hb dJ0_isLatin1_aae02_3 (by decide) (fun c1 => absurd c1 (by decide)) (fun _ => ?_)
  refine lv_aload_n hx hb dJ0_isLatin1_aae02_6 rfl (lv_at hl 0 rfl) ?_
  refine vk_getf hx hb (hE.1.1 i hi).2.1 hS hown (hts (.fieldLink RJ0 15 "java/lang/String" "coder" "B") (by decide +kernel)) (fun _ h => h) dJ0_isLatin1_aae02_7 ?_
  refine lv_if_ne (tgt := 17) hx hb dJ0_isLatin1_aae02_10 (by decide) (fun c1 => absurd rfl c1) (fun _ => ?_)
  refine lv_iconst (v := 1) hx hb dJ0_isLatin1_aae02_13 (by decide) ?_
  refine lv_goto (tgt := 18) hx hb dJ0_isLatin1_aae02_14 (by decide) ?_
  exact ret_t hx hb hr rfl hlocks hS (u := fun _ => 0) (hP.sub [] rfl) (hD.sub [] (by decide) rfl) dJ0_isLatin1_aae02_18
set_option maxHeartbeats 4000000 in
set_option maxRecDepth 100000 in
theorem kj_length (l : Launch) (dC : Nat → ClassId) (dI : Nat → Nat → Nat) (cB cI cJ cZ cO : ClassId) (ad av : Nat → Nat) (i : Nat) (hi : i < 6) : CIX l yJ0_length_8abf5 wsJ0_length_8abf5 ({ frames := 1, cells := 0, slots := 0, locals := 20 }) (dC, dI) (tyL cB cI cJ cZ cO) [.ref (ad i)] [] (fun _ => []) (Int32.ofNat (sLen.getD i 0)) ad av := by
  intro sz
  refine ctx_open (cc := cJ0_length_8abf5) (maxL := 1) (ret := (some .int)) (by decide) rfl (Nat.le_of_ble_eq_true rfl) ?_
  intro p e s m below meth c ls A hx hb hr hml hts hown hlocks hin hP hK hD hA hS hl hE
  have hl : lv_has ls 1 [(0, .ref (ad i))] := hl
  have hown : s.vm.findClass RJ0 = some m.cls := hown
  refine lv_aload_n hx hb dJ0_length_8abf5_0 rfl (lv_at hl 0 rfl) ?_
  refine vk_getf hx hb (hE.1.1 i hi).2.2.1 hS hown (hts (.fieldLink RJ0 9 "java/lang/String" "value" "[B") (by decide +kernel)) (fun _ h => h) dJ0_length_8abf5_1 ?_
  refine va_tlen hx hb (hE.1.1 i hi).2.2.2 hS (v := Int32.ofNat (sLen.getD i 0)) rfl dJ0_length_8abf5_4 ?_
  refine lv_aload_n hx hb dJ0_length_8abf5_5 rfl (lv_at hl 0 rfl) ?_
  refine call_iVX hi (As := []) (rest := [.int (Int32.ofNat (sLen.getD i 0))]) (wr := []) ⟨hx, hb, hml, hown, hts⟩ (kj_coder l dC dI cB cI cJ cZ cO ad av i hi) (cwV 0 hts gJ0_length_8abf5_J0_coder_7d493 rfl rfl rfl (by decide +kernel) ⟨Nat.le_of_ble_eq_true rfl, Nat.le_of_ble_eq_true rfl⟩) hE hK hP hD hS hA [] rfl (by decide) hl.1 (Nat.le_of_ble_eq_true rfl) rfl rfl dJ0_length_8abf5_6 ⟨by decide, by decide⟩ (fun u0 H locs hP hD hS => ?_)
  refine lv_ishr hx hb dJ0_length_8abf5_9 ?_
  refine tpv (v := .int (Int32.ofNat (sLen.getD i 0))) (by rw [sb_shr0]) ?_
  exact ret_i hx hb hr hlocks hS (u := fun _ => 0) (hP.sub [] rfl) (hD.sub [] (by decide) rfl) dJ0_length_8abf5_10
set_option maxHeartbeats 4000000 in
set_option maxRecDepth 100000 in
theorem kj_check3n (l : Launch) (dC : Nat → ClassId) (dI : Nat → Nat → Nat) (cB cI cJ cZ cO : ClassId) (k n : Int32) (h0 : ¬ k < 0) (h1 : k < n) : CI l yJ3_checkIndex_8e157 wsJ3_checkIndex_8e157 ({ frames := 0, cells := 0, slots := 0, locals := 0 }) (dC, dI) (tyL cB cI cJ cZ cO) [.int k, .int n, .null] [] (fun _ => []) k := by
  intro sz
  refine ct_open (cc := cJ3_checkIndex_8e157) (maxL := 3) (ret := (some .int)) (by decide) rfl (Nat.le_of_ble_eq_true rfl) ?_
  intro p e s m below meth c ls A hx hb hr hml hts hown hlocks hin hP hK hD hA hS hl
  have hl : lv_has ls 3 [(0, .int k), (1, .int n), (2, .null)] := hl
  have hown : s.vm.findClass RJ3 = some m.cls := hown
  refine lv_iload_n hx hb dJ3_checkIndex_8e157_0 rfl (lv_at hl 0 rfl) ?_
  refine lv_if_lt (tgt := 9) hx hb dJ3_checkIndex_8e157_1 (by decide) (fun c1 => absurd c1 h0) (fun _ => ?_)
  refine lv_iload_n hx hb dJ3_checkIndex_8e157_4 rfl (lv_at hl 0 rfl) ?_
  refine lv_iload_n hx hb dJ3_checkIndex_8e157_5 rfl (lv_at hl 1 rfl) ?_
  refine lv_icmp_lt (tgt := 16) hx hb dJ3_checkIndex_8e157_6 (by decide) (fun _ => ?_) (fun c1 => absurd h1 c1)
  refine lv_iload_n hx hb dJ3_checkIndex_8e157_16 rfl (lv_at hl 0 rfl) ?_
  exact ret_i hx hb hr hlocks hS (u := fun _ => 0) (hP.sub [] rfl) (hD.sub [] (by decide) rfl) dJ3_checkIndex_8e157_17
set_option maxHeartbeats 4000000 in
set_option maxRecDepth 100000 in
theorem kj_check3r (l : Launch) (dC : Nat → ClassId) (dI : Nat → Nat → Nat) (cB cI cJ cZ cO : ClassId) (t : Nat) (k n : Int32) (h0 : ¬ k < 0) (h1 : k < n) : CI l yJ3_checkIndex_8e157 wsJ3_checkIndex_8e157 ({ frames := 0, cells := 0, slots := 0, locals := 0 }) (dC, dI) (tyL cB cI cJ cZ cO) [.int k, .int n, .ref t] [] (fun _ => []) k := by
  intro sz
  refine ct_open (cc := cJ3_checkIndex_8e157) (maxL := 3) (ret := (some .int)) (by decide) rfl (Nat.le_of_ble_eq_true rfl) ?_
  intro p e s m below meth c ls A hx hb hr hml hts hown hlocks hin hP hK hD hA hS hl
  have hl : lv_has ls 3 [(0, .int k), (1, .int n), (2, .ref t)] := hl
  have hown : s.vm.findClass RJ3 = some m.cls := hown
  refine lv_iload_n hx hb dJ3_checkIndex_8e157_0 rfl (lv_at hl 0 rfl) ?_
  refine lv_if_lt (tgt := 9) hx hb dJ3_checkIndex_8e157_1 (by decide) (fun c1 => absurd c1 h0) (fun _ => ?_)
  refine lv_iload_n hx hb dJ3_checkIndex_8e157_4 rfl (lv_at hl 0 rfl) ?_
  refine lv_iload_n hx hb dJ3_checkIndex_8e157_5 rfl (lv_at hl 1 rfl) ?_
  refine lv_icmp_lt (tgt := 16) hx hb dJ3_checkIndex_8e157_6 (by decide) (fun _ => ?_) (fun c1 => absurd h1 c1)
  refine lv_iload_n hx hb dJ3_checkIndex_8e157_16 rfl (lv_at hl 0 rfl) ?_
  exact ret_i hx hb hr hlocks hS (u := fun _ => 0) (hP.sub [] rfl) (hD.sub [] (by decide) rfl) dJ3_checkIndex_8e157_17
set_option maxHeartbeats 4000000 in
set_option maxRecDepth 100000 in
theorem kj_check (l : Launch) (dC : Nat → ClassId) (dI : Nat → Nat → Nat) (cB cI cJ cZ cO : ClassId) (ad av : Nat → Nat) (k n : Int32) (h0 : ¬ k < 0) (h1 : k < n) : CVX l yJ0_checkIndex_df160 wsJ0_checkIndex_df160 ({ frames := 1, cells := 0, slots := 0, locals := 22 }) (dC, dI) (tyL cB cI cJ cZ cO) [.int k, .int n] [] (fun _ => []) ad av := by
  intro sz
  refine ctx_open (cc := cJ0_checkIndex_df160) (maxL := 2) (ret := none) (by decide) rfl (Nat.le_of_ble_eq_true rfl) ?_
  intro p e s m below meth c ls A hx hb hr hml hts hown hlocks hin hP hK hD hA hS hl hE
  have hl : lv_has ls 2 [(0, .int k), (1, .int n)] := hl
  have hown : s.vm.findClass RJ0 = some m.cls := hown
  refine lv_iload_n hx hb dJ0_checkIndex_df160_0 rfl (lv_at hl 0 rfl) ?_
  refine lv_iload_n hx hb dJ0_checkIndex_df160_1 rfl (lv_at hl 1 rfl) ?_
  rcases hE.2.1.2.1 with hz | ⟨t, hz⟩
  · refine va_gets hx hb hz hS hown (hts (.fieldLink RJ0 1053 "jdk/internal/util/Preconditions" "SIOOBE_FORMATTER" "Ljava/util/function/BiFunction;") (by decide +kernel)) (fun _ h => h) dJ0_checkIndex_df160_2 ?_
    refine call_iS (As := [.int k, .int n, .null]) (rest := []) (wr := []) ⟨hx, hb, hml, hown, hts⟩ (kj_check3n l dC dI cB cI cJ cZ cO k n h0 h1) (va_cwS 3 hts gJ0_checkIndex_df160_J3_checkIndex_8e157 rfl rfl rfl (by decide +kernel) ⟨Nat.le_of_ble_eq_true rfl, Nat.le_of_ble_eq_true rfl⟩) hK hP hD hS hA [] [] rfl rfl (by decide) (by decide) (by decide) hl.1 (Nat.le_of_ble_eq_true rfl) rfl rfl dJ0_checkIndex_df160_5 ⟨by decide, by decide⟩ (fun u0 H locs hP hD hS => ?_)
    refine lv_pop hx hb dJ0_checkIndex_df160_8 rfl ?_
    exact ret_v hx hb hr hlocks hS (u := fun _ => 0) (hP.sub [] rfl) (hD.sub [] (by decide) rfl) dJ0_checkIndex_df160_9
  · refine va_gets hx hb hz hS hown (hts (.fieldLink RJ0 1053 "jdk/internal/util/Preconditions" "SIOOBE_FORMATTER" "Ljava/util/function/BiFunction;") (by decide +kernel)) (fun _ h => h) dJ0_checkIndex_df160_2 ?_
    refine call_iS (As := [.int k, .int n, .ref t]) (rest := []) (wr := []) ⟨hx, hb, hml, hown, hts⟩ (kj_check3r l dC dI cB cI cJ cZ cO t k n h0 h1) (va_cwS 3 hts gJ0_checkIndex_df160_J3_checkIndex_8e157 rfl rfl rfl (by decide +kernel) ⟨Nat.le_of_ble_eq_true rfl, Nat.le_of_ble_eq_true rfl⟩) hK hP hD hS hA [] [] rfl rfl (by decide) (by decide) (by decide) hl.1 (Nat.le_of_ble_eq_true rfl) rfl rfl dJ0_checkIndex_df160_5 ⟨by decide, by decide⟩ (fun u0 H locs hP hD hS => ?_)
    refine lv_pop hx hb dJ0_checkIndex_df160_8 rfl ?_
    exact ret_v hx hb hr hlocks hS (u := fun _ => 0) (hP.sub [] rfl) (hD.sub [] (by decide) rfl) dJ0_checkIndex_df160_9
set_option maxHeartbeats 4000000 in
set_option maxRecDepth 100000 in
theorem kj_lat (l : Launch) (dC : Nat → ClassId) (dI : Nat → Nat → Nat) (cB cI cJ cZ cO : ClassId) (ad av : Nat → Nat) (i : Nat) (hi : i < 6) (k : Int32) (h0 : ¬ k < 0) (h1 : k < Int32.ofNat (sLen.getD i 0)) (h2 : vp_in k (sLen.getD i 0)) : CIX l yJ1_charAt_3b067 wsJ1_charAt_3b067 ({ frames := 2, cells := 0, slots := 0, locals := 43 }) (dC, dI) (tyL cB cI cJ cZ cO) [.ref (av i), .int k] [] (fun _ => []) (chV i k) ad av := by
  intro sz
  refine ctx_open (cc := cJ1_charAt_3b067) (maxL := 2) (ret := (some .char)) (by decide) rfl (Nat.le_of_ble_eq_true rfl) ?_
  intro p e s m below meth c ls A hx hb hr hml hts hown hlocks hin hP hK hD hA hS hl hE
  have hl : lv_has ls 2 [(0, .ref (av i)), (1, .int k)] := hl
  have hown : s.vm.findClass RJ1 = some m.cls := hown
  refine lv_iload_n hx hb dJ1_charAt_3b067_0 rfl (lv_at hl 1 rfl) ?_
  refine lv_aload_n hx hb dJ1_charAt_3b067_1 rfl (lv_at hl 0 rfl) ?_
  refine va_tlen hx hb (hE.1.1 i hi).2.2.2 hS (v := Int32.ofNat (sLen.getD i 0)) rfl dJ1_charAt_3b067_2 ?_
  refine call_vSX (As := [.int k, .int (Int32.ofNat (sLen.getD i 0))]) (rest := []) (wr := []) ⟨hx, hb, hml, hown, hts⟩ (kj_check l dC dI cB cI cJ cZ cO ad av k (Int32.ofNat (sLen.getD i 0)) h0 h1) (va_cwS 2 hts gJ1_charAt_3b067_J0_checkIndex_df160 rfl rfl rfl (by decide +kernel) ⟨Nat.le_of_ble_eq_true rfl, Nat.le_of_ble_eq_true rfl⟩) hE hK hP hD hS hA [] [] rfl rfl (by decide) (by decide) (by decide) hl.1 (Nat.le_of_ble_eq_true rfl) rfl rfl dJ1_charAt_3b067_3 ⟨by decide, by decide⟩ (fun u0 H locs hP hD hS => ?_)
  refine lv_aload_n hx hb dJ1_charAt_3b067_6 rfl (lv_at hl 0 rfl) ?_
  refine lv_iload_n hx hb dJ1_charAt_3b067_7 rfl (lv_at hl 1 rfl) ?_
  refine va_tb hx hb (hE.1.1 i hi).2.2.2 hS h2 rfl dJ1_charAt_3b067_8 ?_
  refine lv_sipush (v := 255) hx hb dJ1_charAt_3b067_9 (by decide) ?_
  refine lv_iand hx hb dJ1_charAt_3b067_12 ?_
  refine lv_i2c (v := chV i k) hx hb dJ1_charAt_3b067_13 rfl ?_
  exact ret_t hx hb hr (pk_nc _) hlocks hS (u := fun _ => 0) (hP.sub [] rfl) (hD.sub [] (by decide) rfl) dJ1_charAt_3b067_14
set_option maxHeartbeats 4000000 in
set_option maxRecDepth 100000 in
theorem kj_charAt (l : Launch) (dC : Nat → ClassId) (dI : Nat → Nat → Nat) (cB cI cJ cZ cO : ClassId) (ad av : Nat → Nat) (i : Nat) (hi : i < 6) (k : Int32) (h0 : ¬ k < 0) (h1 : k < Int32.ofNat (sLen.getD i 0)) (h2 : vp_in k (sLen.getD i 0)) : CIX l yJ0_charAt_5068e wsJ0_charAt_5068e ({ frames := 3, cells := 0, slots := 0, locals := 64 }) (dC, dI) (tyL cB cI cJ cZ cO) [.ref (ad i), .int k] [] (fun _ => []) (chV i k) ad av := by
  intro sz
  refine ctx_open (cc := cJ0_charAt_5068e) (maxL := 2) (ret := (some .char)) (by decide) rfl (Nat.le_of_ble_eq_true rfl) ?_
  intro p e s m below meth c ls A hx hb hr hml hts hown hlocks hin hP hK hD hA hS hl hE
  have hl : lv_has ls 2 [(0, .ref (ad i)), (1, .int k)] := hl
  have hown : s.vm.findClass RJ0 = some m.cls := hown
  refine lv_aload_n hx hb dJ0_charAt_5068e_0 rfl (lv_at hl 0 rfl) ?_
  refine call_iVX hi (As := []) (rest := []) (wr := []) ⟨hx, hb, hml, hown, hts⟩ (kj_isLatin1 l dC dI cB cI cJ cZ cO ad av i hi) (cwV 0 hts gJ0_charAt_5068e_J0_isLatin1_aae02 rfl rfl rfl (by decide +kernel) ⟨Nat.le_of_ble_eq_true rfl, Nat.le_of_ble_eq_true rfl⟩) hE hK hP hD hS hA [] rfl (by decide) hl.1 (Nat.le_of_ble_eq_true rfl) rfl rfl dJ0_charAt_5068e_1 ⟨by decide, by decide⟩ (fun u0 H locs hP hD hS => ?_)
  refine lv_if_eq (tgt := 16) hx hb dJ0_charAt_5068e_4 (by decide) (fun c1 => absurd c1 (by decide)) (fun _ => ?_)
  refine lv_aload_n hx hb dJ0_charAt_5068e_7 rfl (lv_at hl 0 rfl) ?_
  refine vk_getf hx hb (hE.1.1 i hi).2.2.1 hS hown (hts (.fieldLink RJ0 9 "java/lang/String" "value" "[B") (by decide +kernel)) (fun _ h => h) dJ0_charAt_5068e_8 ?_
  refine lv_iload_n hx hb dJ0_charAt_5068e_11 rfl (lv_at hl 1 rfl) ?_
  refine call_iSX (As := [.ref (av i), .int k]) (rest := []) (wr := []) ⟨hx, hb, hml, hown, hts⟩ (kj_lat l dC dI cB cI cJ cZ cO ad av i hi k h0 h1 h2) (va_cwS 2 hts gJ0_charAt_5068e_J1_charAt_3b067 rfl rfl rfl (by decide +kernel) ⟨Nat.le_of_ble_eq_true rfl, Nat.le_of_ble_eq_true rfl⟩) hE hK hP hD hS hA [] [] rfl rfl (by decide) (by decide) (by decide) hl.1 (Nat.le_of_ble_eq_true rfl) rfl rfl dJ0_charAt_5068e_12 ⟨by decide, by decide⟩ (fun u0 H locs hP hD hS => ?_)
  exact ret_t hx hb hr (pk_nc _) hlocks hS (u := fun _ => 0) (hP.sub [] rfl) (hD.sub [] (by decide) rfl) dJ0_charAt_5068e_15
