/-! The law's cases. -/
set_option maxHeartbeats 4000000 in
set_option maxRecDepth 100000 in
theorem lw_k_0 {p : Program} {e : Env} {s : State} {m : MethodId} {below : List Frame} {meth : Method} {c : Code} (l : Launch) {b L : Nat} {xs : Nat → Int32} (C0 : lw_At p s m meth c b L xs) (D : va_G) (k : pm_cK) (ad : Nat → Nat) (hK : va_K D vwCl (pm_ty k) s) (hE : pm_E ad (fun q : Nat => s.heap.size ≤ q) s s.heap) {i : Int32} (hi : ∀ v : Int32, 0 ≤ v.toInt → v.toInt ≤ 5 → vp_in (i + v) L) {cells slots : Nat} (hcs : cells ≤ room_1.cells ∧ slots ≤ room_1.slots) {h : pm_Hp} {H : Heap} {locs : List Loc} (hI : ck_Inv lw_SI h) (hW : pm_Wo D k ad (fun q : Nat => s.heap.size ≤ q) s h H locs) {ls : Array Slot} (hl : lv_has ls 4 [(3, .int i), (2, .ref (ad 88)), (1, .ref (ad 0)), (0, .ref b)]) (kk : ∀ (h1 : pm_Hp) (H1 : Heap) (locs1 : List Loc), ck_Inv lw_SI h1 → pm_Wo D k ad (fun q : Nat => s.heap.size ≤ q) s h1 H1 locs1 → W p l e room_1 s m #[Value.ref b] below meth c H1 locs1 cells slots (lw_Z below #[Value.ref b] s) (F0 m 1093 ls [])) : W p l e room_1 s m #[Value.ref b] below meth c H locs cells slots (lw_Z below #[Value.ref b] s) (F0 m 196 ls []) := by
  obtain ⟨hx, hb, hr, hml, hown, hts0, hX, hbl, hlocks, hgv⟩ := id C0
  have hA : ∀ q : Nat, s.heap.size ≤ q → (fun q : Nat => s.heap.size ≤ q) q := fun _ h => h
  have hbA : ¬ (fun q : Nat => s.heap.size ≤ q) b := Nat.not_le.mpr hbl
  have hown : s.vm.findClass RL = some m.cls := hown
  have hts : ∀ w ∈ pm_G, w.before #[Value.ref b] s = true := fun w hw => hts0 w (List.mem_filter.mp hw).1
  refine lv_aload_n hx hb dL_law_196 rfl (lv_at hl 2 rfl) ?_
  refine lv_aload_n hx hb dL_law_197 rfl (lv_at hl 3 rfl) ?_
  refine lv_iload_n hx hb dL_law_198 rfl (lv_at hl 0 rfl) ?_
  refine lv_iconst (v := 1) hx hb dL_law_199 rfl ?_
  refine lv_iadd hx hb dL_law_200 ?_
  refine va_sld hx hb hX hbl hbA hW.2.2 (hi 1 (by decide) (by decide)) dL_law_201 ?_
  refine lv_aload_n hx hb dL_law_202 rfl (lv_at hl 3 rfl) ?_
  refine lv_iload_n hx hb dL_law_203 rfl (lv_at hl 0 rfl) ?_
  refine lv_iconst (v := 2) hx hb dL_law_204 rfl ?_
  refine lv_iadd hx hb dL_law_205 ?_
  refine va_sld hx hb hX hbl hbA hW.2.2 (hi 2 (by decide) (by decide)) dL_law_206 ?_
  refine lv_aload_n hx hb dL_law_207 rfl (lv_at hl 3 rfl) ?_
  refine lv_iload_n hx hb dL_law_208 rfl (lv_at hl 0 rfl) ?_
  refine lv_iconst (v := 3) hx hb dL_law_209 rfl ?_
  refine lv_iadd hx hb dL_law_210 ?_
  refine va_sld hx hb hX hbl hbA hW.2.2 (hi 3 (by decide) (by decide)) dL_law_211 ?_
  refine lv_aload_n hx hb dL_law_212 rfl (lv_at hl 3 rfl) ?_
  refine lv_iload_n hx hb dL_law_213 rfl (lv_at hl 0 rfl) ?_
  refine lv_iconst (v := 4) hx hb dL_law_214 rfl ?_
  refine lv_iadd hx hb dL_law_215 ?_
  refine va_sld hx hb hX hbl hbA hW.2.2 (hi 4 (by decide) (by decide)) dL_law_216 ?_
  refine lv_aload_n hx hb dL_law_217 rfl (lv_at hl 3 rfl) ?_
  refine lv_iload_n hx hb dL_law_218 rfl (lv_at hl 0 rfl) ?_
  refine lv_iconst (v := 5) hx hb dL_law_219 rfl ?_
  refine lv_iadd hx hb dL_law_220 ?_
  refine va_sld hx hb hX hbl hbA hW.2.2 (hi 5 (by decide) (by decide)) dL_law_221 ?_
  have hC := lw_u_0 hI (xs (i + 1).toNatClampNeg) (xs (i + 2).toNatClampNeg) (xs (i + 3).toNatClampNeg) (xs (i + 4).toNatClampNeg) (xs (i + 5).toNatClampNeg)
  refine pm_callV (As := [.int (xs (i + 1).toNatClampNeg), .int (xs (i + 2).toNatClampNeg), .int (xs (i + 3).toNatClampNeg), .int (xs (i + 4).toNatClampNeg), .int (xs (i + 5).toNatClampNeg)]) (rest := []) (me := (yX10_feed, cX10_feed, 6, some (.int), 5, 10, false)) (a := 87) (q := 0) (pm_met l 20) hx hb hml hown hts hK hE hA hW rfl (by decide) rfl (pm_inG (pm_ml_14_13) rfl) hC rfl (rfl : pm_S[0]? = some (0, 10, _)) hl.1 (Nat.le_of_ble_eq_true rfl) ⟨by decide, by decide⟩ hcs dL_law_222 (fun rv u1 H1 locs1 hq1 hW1 => ?_)
  obtain ⟨x1, rfl, hC2⟩ := hq1
  clear hC hI hW
  have hW := hW1
  clear hW1
  show W p l e room_1 s m #[Value.ref b] below meth c H1 locs1 cells slots (lw_Z below #[Value.ref b] s) (F0 m 225 ls [.int x1])
  refine lv_pop hx hb dL_law_225 rfl ?_
  refine lv_aload_n hx hb dL_law_226 rfl (lv_at hl 1 rfl) ?_
  refine lv_aload_n hx hb dL_law_227 rfl (lv_at hl 3 rfl) ?_
  refine lv_iload_n hx hb dL_law_228 rfl (lv_at hl 0 rfl) ?_
  refine lv_iconst (v := 1) hx hb dL_law_229 rfl ?_
  refine lv_iadd hx hb dL_law_230 ?_
  refine va_sld hx hb hX hbl hbA hW.2.2 (hi 1 (by decide) (by decide)) dL_law_231 ?_
  refine lv_aload_n hx hb dL_law_232 rfl (lv_at hl 3 rfl) ?_
  refine lv_iload_n hx hb dL_law_233 rfl (lv_at hl 0 rfl) ?_
  refine lv_iconst (v := 2) hx hb dL_law_234 rfl ?_
  refine lv_iadd hx hb dL_law_235 ?_
  refine va_sld hx hb hX hbl hbA hW.2.2 (hi 2 (by decide) (by decide)) dL_law_236 ?_
  refine lv_aload_n hx hb dL_law_237 rfl (lv_at hl 3 rfl) ?_
  refine lv_iload_n hx hb dL_law_238 rfl (lv_at hl 0 rfl) ?_
  refine lv_iconst (v := 3) hx hb dL_law_239 rfl ?_
  refine lv_iadd hx hb dL_law_240 ?_
  refine va_sld hx hb hX hbl hbA hW.2.2 (hi 3 (by decide) (by decide)) dL_law_241 ?_
  refine lv_aload_n hx hb dL_law_242 rfl (lv_at hl 3 rfl) ?_
  refine lv_iload_n hx hb dL_law_243 rfl (lv_at hl 0 rfl) ?_
  refine lv_iconst (v := 4) hx hb dL_law_244 rfl ?_
  refine lv_iadd hx hb dL_law_245 ?_
  refine va_sld hx hb hX hbl hbA hW.2.2 (hi 4 (by decide) (by decide)) dL_law_246 ?_
  refine lv_aload_n hx hb dL_law_247 rfl (lv_at hl 3 rfl) ?_
  refine lv_iload_n hx hb dL_law_248 rfl (lv_at hl 0 rfl) ?_
  refine lv_iconst (v := 5) hx hb dL_law_249 rfl ?_
  refine lv_iadd hx hb dL_law_250 ?_
  refine va_sld hx hb hX hbl hbA hW.2.2 (hi 5 (by decide) (by decide)) dL_law_251 ?_
  refine pm_callV (As := [.int (xs (i + 1).toNatClampNeg), .int (xs (i + 2).toNatClampNeg), .int (xs (i + 3).toNatClampNeg), .int (xs (i + 4).toNatClampNeg), .int (xs (i + 5).toNatClampNeg)]) (rest := []) (me := (yX11_feed, cX11_feed, 8, some (.int), 5, 11, false)) (a := 147) (q := 88) (pm_met l 20) hx hb hml hown hts hK hE hA hW rfl (by decide) rfl (pm_inG (pm_ml_14_17) rfl) hC2 rfl (rfl : pm_S[88]? = some (0, 11, _)) hl.1 (Nat.le_of_ble_eq_true rfl) ⟨by decide, by decide⟩ hcs dL_law_252 (fun rv u2 H2 locs2 hq1 hW2 => ?_)
  obtain ⟨hI2, x2, rfl, he⟩ := hq1
  show W p l e room_1 s m #[Value.ref b] below meth c H2 locs2 cells slots (lw_Z below #[Value.ref b] s) (F0 m 255 ls [.int x2])
  refine lv_pop hx hb dL_law_255 rfl ?_
  refine lv_goto (tgt := 1093) hx hb dL_law_256 rfl ?_
  exact kk _ _ _ hI2 hW2

set_option maxHeartbeats 4000000 in
set_option maxRecDepth 100000 in
theorem lw_k_1 {p : Program} {e : Env} {s : State} {m : MethodId} {below : List Frame} {meth : Method} {c : Code} (l : Launch) {b L : Nat} {xs : Nat → Int32} (C0 : lw_At p s m meth c b L xs) (D : va_G) (k : pm_cK) (ad : Nat → Nat) (hK : va_K D vwCl (pm_ty k) s) (hE : pm_E ad (fun q : Nat => s.heap.size ≤ q) s s.heap) {i : Int32} (hi : ∀ v : Int32, 0 ≤ v.toInt → v.toInt ≤ 5 → vp_in (i + v) L) {cells slots : Nat} (hcs : cells ≤ room_1.cells ∧ slots ≤ room_1.slots) {h : pm_Hp} {H : Heap} {locs : List Loc} (hI : ck_Inv lw_SI h) (hW : pm_Wo D k ad (fun q : Nat => s.heap.size ≤ q) s h H locs) {ls : Array Slot} (hl : lv_has ls 4 [(3, .int i), (2, .ref (ad 88)), (1, .ref (ad 0)), (0, .ref b)]) (kk : ∀ (h1 : pm_Hp) (H1 : Heap) (locs1 : List Loc), ck_Inv lw_SI h1 → pm_Wo D k ad (fun q : Nat => s.heap.size ≤ q) s h1 H1 locs1 → W p l e room_1 s m #[Value.ref b] below meth c H1 locs1 cells slots (lw_Z below #[Value.ref b] s) (F0 m 1093 ls [])) : W p l e room_1 s m #[Value.ref b] below meth c H locs cells slots (lw_Z below #[Value.ref b] s) (F0 m 259 ls []) := by
  obtain ⟨hx, hb, hr, hml, hown, hts0, hX, hbl, hlocks, hgv⟩ := id C0
  have hA : ∀ q : Nat, s.heap.size ≤ q → (fun q : Nat => s.heap.size ≤ q) q := fun _ h => h
  have hbA : ¬ (fun q : Nat => s.heap.size ≤ q) b := Nat.not_le.mpr hbl
  have hown : s.vm.findClass RL = some m.cls := hown
  have hts : ∀ w ∈ pm_G, w.before #[Value.ref b] s = true := fun w hw => hts0 w (List.mem_filter.mp hw).1
  refine lv_aload_n hx hb dL_law_259 rfl (lv_at hl 2 rfl) ?_
  refine lv_aload_n hx hb dL_law_260 rfl (lv_at hl 3 rfl) ?_
  refine lv_iload_n hx hb dL_law_261 rfl (lv_at hl 0 rfl) ?_
  refine lv_iconst (v := 1) hx hb dL_law_262 rfl ?_
  refine lv_iadd hx hb dL_law_263 ?_
  refine va_sld hx hb hX hbl hbA hW.2.2 (hi 1 (by decide) (by decide)) dL_law_264 ?_
  have hC := lw_u_1 hI (xs (i + 1).toNatClampNeg)
  refine pm_callV (As := [.int (xs (i + 1).toNatClampNeg)]) (rest := []) (me := (yX10_end, cX10_end, 2, some (.int), 1, 10, false)) (a := 85) (q := 0) (pm_met l 20) hx hb hml hown hts hK hE hA hW rfl (by decide) rfl (pm_inG (pm_ml_14_18) rfl) hC rfl (rfl : pm_S[0]? = some (0, 10, _)) hl.1 (Nat.le_of_ble_eq_true rfl) ⟨by decide, by decide⟩ hcs dL_law_265 (fun rv u1 H1 locs1 hq1 hW1 => ?_)
  obtain ⟨x1, rfl, hC2⟩ := hq1
  clear hC hI hW
  have hW := hW1
  clear hW1
  show W p l e room_1 s m #[Value.ref b] below meth c H1 locs1 cells slots (lw_Z below #[Value.ref b] s) (F0 m 268 ls [.int x1])
  refine lv_pop hx hb dL_law_268 rfl ?_
  refine lv_aload_n hx hb dL_law_269 rfl (lv_at hl 1 rfl) ?_
  refine lv_aload_n hx hb dL_law_270 rfl (lv_at hl 3 rfl) ?_
  refine lv_iload_n hx hb dL_law_271 rfl (lv_at hl 0 rfl) ?_
  refine lv_iconst (v := 1) hx hb dL_law_272 rfl ?_
  refine lv_iadd hx hb dL_law_273 ?_
  refine va_sld hx hb hX hbl hbA hW.2.2 (hi 1 (by decide) (by decide)) dL_law_274 ?_
  refine pm_callV (As := [.int (xs (i + 1).toNatClampNeg)]) (rest := []) (me := (yX11_end, cX11_end, 2, some (.int), 1, 11, false)) (a := 142) (q := 88) (pm_met l 20) hx hb hml hown hts hK hE hA hW rfl (by decide) rfl (pm_inG (pm_ml_14_22) rfl) hC2 rfl (rfl : pm_S[88]? = some (0, 11, _)) hl.1 (Nat.le_of_ble_eq_true rfl) ⟨by decide, by decide⟩ hcs dL_law_275 (fun rv u2 H2 locs2 hq1 hW2 => ?_)
  obtain ⟨hI2, x2, rfl, he⟩ := hq1
  show W p l e room_1 s m #[Value.ref b] below meth c H2 locs2 cells slots (lw_Z below #[Value.ref b] s) (F0 m 278 ls [.int x2])
  refine lv_pop hx hb dL_law_278 rfl ?_
  refine lv_goto (tgt := 1093) hx hb dL_law_279 rfl ?_
  exact kk _ _ _ hI2 hW2

set_option maxHeartbeats 4000000 in
set_option maxRecDepth 100000 in
theorem lw_k_2 {p : Program} {e : Env} {s : State} {m : MethodId} {below : List Frame} {meth : Method} {c : Code} (l : Launch) {b L : Nat} {xs : Nat → Int32} (C0 : lw_At p s m meth c b L xs) (D : va_G) (k : pm_cK) (ad : Nat → Nat) (hK : va_K D vwCl (pm_ty k) s) (hE : pm_E ad (fun q : Nat => s.heap.size ≤ q) s s.heap) {i : Int32} (hi : ∀ v : Int32, 0 ≤ v.toInt → v.toInt ≤ 5 → vp_in (i + v) L) {cells slots : Nat} (hcs : cells ≤ room_1.cells ∧ slots ≤ room_1.slots) {h : pm_Hp} {H : Heap} {locs : List Loc} (hI : ck_Inv lw_SI h) (hW : pm_Wo D k ad (fun q : Nat => s.heap.size ≤ q) s h H locs) {ls : Array Slot} (hl : lv_has ls 4 [(3, .int i), (2, .ref (ad 88)), (1, .ref (ad 0)), (0, .ref b)]) (kk : ∀ (h1 : pm_Hp) (H1 : Heap) (locs1 : List Loc), ck_Inv lw_SI h1 → pm_Wo D k ad (fun q : Nat => s.heap.size ≤ q) s h1 H1 locs1 → W p l e room_1 s m #[Value.ref b] below meth c H1 locs1 cells slots (lw_Z below #[Value.ref b] s) (F0 m 1093 ls [])) : W p l e room_1 s m #[Value.ref b] below meth c H locs cells slots (lw_Z below #[Value.ref b] s) (F0 m 282 ls []) := by
  obtain ⟨hx, hb, hr, hml, hown, hts0, hX, hbl, hlocks, hgv⟩ := id C0
  have hA : ∀ q : Nat, s.heap.size ≤ q → (fun q : Nat => s.heap.size ≤ q) q := fun _ h => h
  have hbA : ¬ (fun q : Nat => s.heap.size ≤ q) b := Nat.not_le.mpr hbl
  have hown : s.vm.findClass RL = some m.cls := hown
  have hts : ∀ w ∈ pm_G, w.before #[Value.ref b] s = true := fun w hw => hts0 w (List.mem_filter.mp hw).1
  refine lv_aload_n hx hb dL_law_282 rfl (lv_at hl 2 rfl) ?_
  have hC := lw_u_2 hI
  refine pm_callV (As := []) (rest := []) (me := (yX10_port, cX10_port, 2, some (.int), 0, 10, false)) (a := 108) (q := 0) (pm_met l 20) hx hb hml hown hts hK hE hA hW rfl (by decide) rfl (pm_inG (pm_ml_14_23) rfl) hC rfl (rfl : pm_S[0]? = some (0, 10, _)) hl.1 (Nat.le_of_ble_eq_true rfl) ⟨by decide, by decide⟩ hcs dL_law_283 (fun rv u1 H1 locs1 hq1 hW1 => ?_)
  obtain ⟨x1, rfl, hC2⟩ := hq1
  clear hC hI hW
  have hW := hW1
  clear hW1
  show W p l e room_1 s m #[Value.ref b] below meth c H1 locs1 cells slots (lw_Z below #[Value.ref b] s) (F0 m 286 ls [.int x1])
  refine lv_pop hx hb dL_law_286 rfl ?_
  refine lv_aload_n hx hb dL_law_287 rfl (lv_at hl 1 rfl) ?_
  refine pm_callV (As := []) (rest := []) (me := (yX11_port, cX11_port, 2, some (.int), 0, 11, false)) (a := 196) (q := 88) (pm_met l 20) hx hb hml hown hts hK hE hA hW rfl (by decide) rfl (pm_inG (pm_ml_14_27) rfl) hC2 rfl (rfl : pm_S[88]? = some (0, 11, _)) hl.1 (Nat.le_of_ble_eq_true rfl) ⟨by decide, by decide⟩ hcs dL_law_288 (fun rv u2 H2 locs2 hq1 hW2 => ?_)
  obtain ⟨hI2, x2, rfl, he⟩ := hq1
  show W p l e room_1 s m #[Value.ref b] below meth c H2 locs2 cells slots (lw_Z below #[Value.ref b] s) (F0 m 291 ls [.int x2])
  refine lv_pop hx hb dL_law_291 rfl ?_
  refine lv_goto (tgt := 1093) hx hb dL_law_292 rfl ?_
  exact kk _ _ _ hI2 hW2

set_option maxHeartbeats 4000000 in
set_option maxRecDepth 100000 in
theorem lw_k_3 {p : Program} {e : Env} {s : State} {m : MethodId} {below : List Frame} {meth : Method} {c : Code} (l : Launch) {b L : Nat} {xs : Nat → Int32} (C0 : lw_At p s m meth c b L xs) (D : va_G) (k : pm_cK) (ad : Nat → Nat) (hK : va_K D vwCl (pm_ty k) s) (hE : pm_E ad (fun q : Nat => s.heap.size ≤ q) s s.heap) {i : Int32} (hi : ∀ v : Int32, 0 ≤ v.toInt → v.toInt ≤ 5 → vp_in (i + v) L) {cells slots : Nat} (hcs : cells ≤ room_1.cells ∧ slots ≤ room_1.slots) {h : pm_Hp} {H : Heap} {locs : List Loc} (hI : ck_Inv lw_SI h) (hW : pm_Wo D k ad (fun q : Nat => s.heap.size ≤ q) s h H locs) {ls : Array Slot} (hl : lv_has ls 4 [(3, .int i), (2, .ref (ad 88)), (1, .ref (ad 0)), (0, .ref b)]) (kk : ∀ (h1 : pm_Hp) (H1 : Heap) (locs1 : List Loc), ck_Inv lw_SI h1 → pm_Wo D k ad (fun q : Nat => s.heap.size ≤ q) s h1 H1 locs1 → W p l e room_1 s m #[Value.ref b] below meth c H1 locs1 cells slots (lw_Z below #[Value.ref b] s) (F0 m 1093 ls [])) : W p l e room_1 s m #[Value.ref b] below meth c H locs cells slots (lw_Z below #[Value.ref b] s) (F0 m 295 ls []) := by
  obtain ⟨hx, hb, hr, hml, hown, hts0, hX, hbl, hlocks, hgv⟩ := id C0
  have hA : ∀ q : Nat, s.heap.size ≤ q → (fun q : Nat => s.heap.size ≤ q) q := fun _ h => h
  have hbA : ¬ (fun q : Nat => s.heap.size ≤ q) b := Nat.not_le.mpr hbl
  have hown : s.vm.findClass RL = some m.cls := hown
  have hts : ∀ w ∈ pm_G, w.before #[Value.ref b] s = true := fun w hw => hts0 w (List.mem_filter.mp hw).1
  refine lv_aload_n hx hb dL_law_295 rfl (lv_at hl 2 rfl) ?_
  refine lv_aload_n hx hb dL_law_296 rfl (lv_at hl 3 rfl) ?_
  refine lv_iload_n hx hb dL_law_297 rfl (lv_at hl 0 rfl) ?_
  refine lv_iconst (v := 1) hx hb dL_law_298 rfl ?_
  refine lv_iadd hx hb dL_law_299 ?_
  refine va_sld hx hb hX hbl hbA hW.2.2 (hi 1 (by decide) (by decide)) dL_law_300 ?_
  have hC := lw_u_3 hI (xs (i + 1).toNatClampNeg)
  refine pm_callV (As := [.int (xs (i + 1).toNatClampNeg)]) (rest := []) (me := (yX10_fault, cX10_fault, 2, some (.int), 1, 10, false)) (a := 86) (q := 0) (pm_met l 20) hx hb hml hown hts hK hE hA hW rfl (by decide) rfl (pm_inG (pm_ml_14_28) rfl) hC rfl (rfl : pm_S[0]? = some (0, 10, _)) hl.1 (Nat.le_of_ble_eq_true rfl) ⟨by decide, by decide⟩ hcs dL_law_301 (fun rv u1 H1 locs1 hq1 hW1 => ?_)
  obtain ⟨x1, rfl, hC2⟩ := hq1
  clear hC hI hW
  have hW := hW1
  clear hW1
  show W p l e room_1 s m #[Value.ref b] below meth c H1 locs1 cells slots (lw_Z below #[Value.ref b] s) (F0 m 304 ls [.int x1])
  refine lv_pop hx hb dL_law_304 rfl ?_
  refine lv_aload_n hx hb dL_law_305 rfl (lv_at hl 1 rfl) ?_
  refine lv_aload_n hx hb dL_law_306 rfl (lv_at hl 3 rfl) ?_
  refine lv_iload_n hx hb dL_law_307 rfl (lv_at hl 0 rfl) ?_
  refine lv_iconst (v := 1) hx hb dL_law_308 rfl ?_
  refine lv_iadd hx hb dL_law_309 ?_
  refine va_sld hx hb hX hbl hbA hW.2.2 (hi 1 (by decide) (by decide)) dL_law_310 ?_
  refine pm_callV (As := [.int (xs (i + 1).toNatClampNeg)]) (rest := []) (me := (yX11_fault, cX11_fault, 2, some (.int), 1, 11, false)) (a := 146) (q := 88) (pm_met l 20) hx hb hml hown hts hK hE hA hW rfl (by decide) rfl (pm_inG (pm_ml_14_31) rfl) hC2 rfl (rfl : pm_S[88]? = some (0, 11, _)) hl.1 (Nat.le_of_ble_eq_true rfl) ⟨by decide, by decide⟩ hcs dL_law_311 (fun rv u2 H2 locs2 hq1 hW2 => ?_)
  obtain ⟨hI2, x2, rfl, he⟩ := hq1
  show W p l e room_1 s m #[Value.ref b] below meth c H2 locs2 cells slots (lw_Z below #[Value.ref b] s) (F0 m 314 ls [.int x2])
  refine lv_pop hx hb dL_law_314 rfl ?_
  refine lv_goto (tgt := 1093) hx hb dL_law_315 rfl ?_
  exact kk _ _ _ hI2 hW2

set_option maxHeartbeats 4000000 in
set_option maxRecDepth 100000 in
theorem lw_k_4 {p : Program} {e : Env} {s : State} {m : MethodId} {below : List Frame} {meth : Method} {c : Code} (l : Launch) {b L : Nat} {xs : Nat → Int32} (C0 : lw_At p s m meth c b L xs) (D : va_G) (k : pm_cK) (ad : Nat → Nat) (hK : va_K D vwCl (pm_ty k) s) (hE : pm_E ad (fun q : Nat => s.heap.size ≤ q) s s.heap) {i : Int32} (hi : ∀ v : Int32, 0 ≤ v.toInt → v.toInt ≤ 5 → vp_in (i + v) L) {cells slots : Nat} (hcs : cells ≤ room_1.cells ∧ slots ≤ room_1.slots) {h : pm_Hp} {H : Heap} {locs : List Loc} (hI : ck_Inv lw_SI h) (hW : pm_Wo D k ad (fun q : Nat => s.heap.size ≤ q) s h H locs) {ls : Array Slot} (hl : lv_has ls 4 [(3, .int i), (2, .ref (ad 88)), (1, .ref (ad 0)), (0, .ref b)]) (kk : ∀ (h1 : pm_Hp) (H1 : Heap) (locs1 : List Loc), ck_Inv lw_SI h1 → pm_Wo D k ad (fun q : Nat => s.heap.size ≤ q) s h1 H1 locs1 → W p l e room_1 s m #[Value.ref b] below meth c H1 locs1 cells slots (lw_Z below #[Value.ref b] s) (F0 m 1093 ls [])) : W p l e room_1 s m #[Value.ref b] below meth c H locs cells slots (lw_Z below #[Value.ref b] s) (F0 m 318 ls []) := by
  obtain ⟨hx, hb, hr, hml, hown, hts0, hX, hbl, hlocks, hgv⟩ := id C0
  have hA : ∀ q : Nat, s.heap.size ≤ q → (fun q : Nat => s.heap.size ≤ q) q := fun _ h => h
  have hbA : ¬ (fun q : Nat => s.heap.size ≤ q) b := Nat.not_le.mpr hbl
  have hown : s.vm.findClass RL = some m.cls := hown
  have hts : ∀ w ∈ pm_G, w.before #[Value.ref b] s = true := fun w hw => hts0 w (List.mem_filter.mp hw).1
  refine lv_aload_n hx hb dL_law_318 rfl (lv_at hl 2 rfl) ?_
  refine lv_aload_n hx hb dL_law_319 rfl (lv_at hl 3 rfl) ?_
  refine lv_iload_n hx hb dL_law_320 rfl (lv_at hl 0 rfl) ?_
  refine lv_iconst (v := 1) hx hb dL_law_321 rfl ?_
  refine lv_iadd hx hb dL_law_322 ?_
  refine va_sld hx hb hX hbl hbA hW.2.2 (hi 1 (by decide) (by decide)) dL_law_323 ?_
  refine lv_aload_n hx hb dL_law_324 rfl (lv_at hl 3 rfl) ?_
  refine lv_iload_n hx hb dL_law_325 rfl (lv_at hl 0 rfl) ?_
  refine lv_iconst (v := 2) hx hb dL_law_326 rfl ?_
  refine lv_iadd hx hb dL_law_327 ?_
  refine va_sld hx hb hX hbl hbA hW.2.2 (hi 2 (by decide) (by decide)) dL_law_328 ?_
  have hC := lw_u_4 hI (xs (i + 1).toNatClampNeg) (xs (i + 2).toNatClampNeg)
  refine pm_callV (As := [.int (xs (i + 1).toNatClampNeg), .int (xs (i + 2).toNatClampNeg)]) (rest := []) (me := (yX10_worth, cX10_worth, 3, some (.int), 2, 10, false)) (a := 125) (q := 0) (pm_met l 20) hx hb hml hown hts hK hE hA hW rfl (by decide) rfl (pm_inG (pm_ml_14_32) rfl) hC rfl (rfl : pm_S[0]? = some (0, 10, _)) hl.1 (Nat.le_of_ble_eq_true rfl) ⟨by decide, by decide⟩ hcs dL_law_329 (fun rv u1 H1 locs1 hq1 hW1 => ?_)
  obtain ⟨x1, rfl, hC2⟩ := hq1
  clear hC hI hW
  have hW := hW1
  clear hW1
  show W p l e room_1 s m #[Value.ref b] below meth c H1 locs1 cells slots (lw_Z below #[Value.ref b] s) (F0 m 332 ls [.int x1])
  refine lv_pop hx hb dL_law_332 rfl ?_
  refine lv_aload_n hx hb dL_law_333 rfl (lv_at hl 1 rfl) ?_
  refine lv_aload_n hx hb dL_law_334 rfl (lv_at hl 3 rfl) ?_
  refine lv_iload_n hx hb dL_law_335 rfl (lv_at hl 0 rfl) ?_
  refine lv_iconst (v := 1) hx hb dL_law_336 rfl ?_
  refine lv_iadd hx hb dL_law_337 ?_
  refine va_sld hx hb hX hbl hbA hW.2.2 (hi 1 (by decide) (by decide)) dL_law_338 ?_
  refine lv_aload_n hx hb dL_law_339 rfl (lv_at hl 3 rfl) ?_
  refine lv_iload_n hx hb dL_law_340 rfl (lv_at hl 0 rfl) ?_
  refine lv_iconst (v := 2) hx hb dL_law_341 rfl ?_
  refine lv_iadd hx hb dL_law_342 ?_
  refine va_sld hx hb hX hbl hbA hW.2.2 (hi 2 (by decide) (by decide)) dL_law_343 ?_
  refine pm_callV (As := [.int (xs (i + 1).toNatClampNeg), .int (xs (i + 2).toNatClampNeg)]) (rest := []) (me := (yX11_worth, cX11_worth, 3, some (.int), 2, 11, false)) (a := 232) (q := 88) (pm_met l 20) hx hb hml hown hts hK hE hA hW rfl (by decide) rfl (pm_inG (pm_ml_14_36) rfl) hC2 rfl (rfl : pm_S[88]? = some (0, 11, _)) hl.1 (Nat.le_of_ble_eq_true rfl) ⟨by decide, by decide⟩ hcs dL_law_344 (fun rv u2 H2 locs2 hq1 hW2 => ?_)
  obtain ⟨hI2, x2, rfl, he⟩ := hq1
  show W p l e room_1 s m #[Value.ref b] below meth c H2 locs2 cells slots (lw_Z below #[Value.ref b] s) (F0 m 347 ls [.int x2])
  refine lv_pop hx hb dL_law_347 rfl ?_
  refine lv_goto (tgt := 1093) hx hb dL_law_348 rfl ?_
  exact kk _ _ _ hI2 hW2

set_option maxHeartbeats 4000000 in
set_option maxRecDepth 100000 in
theorem lw_k_5 {p : Program} {e : Env} {s : State} {m : MethodId} {below : List Frame} {meth : Method} {c : Code} (l : Launch) {b L : Nat} {xs : Nat → Int32} (C0 : lw_At p s m meth c b L xs) (D : va_G) (k : pm_cK) (ad : Nat → Nat) (hK : va_K D vwCl (pm_ty k) s) (hE : pm_E ad (fun q : Nat => s.heap.size ≤ q) s s.heap) {i : Int32} (hi : ∀ v : Int32, 0 ≤ v.toInt → v.toInt ≤ 5 → vp_in (i + v) L) {cells slots : Nat} (hcs : cells ≤ room_1.cells ∧ slots ≤ room_1.slots) {h : pm_Hp} {H : Heap} {locs : List Loc} (hI : ck_Inv lw_SI h) (hW : pm_Wo D k ad (fun q : Nat => s.heap.size ≤ q) s h H locs) {ls : Array Slot} (hl : lv_has ls 4 [(3, .int i), (2, .ref (ad 88)), (1, .ref (ad 0)), (0, .ref b)]) (kk : ∀ (h1 : pm_Hp) (H1 : Heap) (locs1 : List Loc), ck_Inv lw_SI h1 → pm_Wo D k ad (fun q : Nat => s.heap.size ≤ q) s h1 H1 locs1 → W p l e room_1 s m #[Value.ref b] below meth c H1 locs1 cells slots (lw_Z below #[Value.ref b] s) (F0 m 1093 ls [])) : W p l e room_1 s m #[Value.ref b] below meth c H locs cells slots (lw_Z below #[Value.ref b] s) (F0 m 351 ls []) := by
  obtain ⟨hx, hb, hr, hml, hown, hts0, hX, hbl, hlocks, hgv⟩ := id C0
  have hA : ∀ q : Nat, s.heap.size ≤ q → (fun q : Nat => s.heap.size ≤ q) q := fun _ h => h
  have hbA : ¬ (fun q : Nat => s.heap.size ≤ q) b := Nat.not_le.mpr hbl
  have hown : s.vm.findClass RL = some m.cls := hown
  have hts : ∀ w ∈ pm_G, w.before #[Value.ref b] s = true := fun w hw => hts0 w (List.mem_filter.mp hw).1
  refine lv_aload_n hx hb dL_law_351 rfl (lv_at hl 2 rfl) ?_
  refine lv_aload_n hx hb dL_law_352 rfl (lv_at hl 3 rfl) ?_
  refine lv_iload_n hx hb dL_law_353 rfl (lv_at hl 0 rfl) ?_
  refine lv_iconst (v := 1) hx hb dL_law_354 rfl ?_
  refine lv_iadd hx hb dL_law_355 ?_
  refine va_sld hx hb hX hbl hbA hW.2.2 (hi 1 (by decide) (by decide)) dL_law_356 ?_
  refine lv_aload_n hx hb dL_law_357 rfl (lv_at hl 3 rfl) ?_
  refine lv_iload_n hx hb dL_law_358 rfl (lv_at hl 0 rfl) ?_
  refine lv_iconst (v := 2) hx hb dL_law_359 rfl ?_
  refine lv_iadd hx hb dL_law_360 ?_
  refine va_sld hx hb hX hbl hbA hW.2.2 (hi 2 (by decide) (by decide)) dL_law_361 ?_
  refine lv_aload_n hx hb dL_law_362 rfl (lv_at hl 3 rfl) ?_
  refine lv_iload_n hx hb dL_law_363 rfl (lv_at hl 0 rfl) ?_
  refine lv_iconst (v := 3) hx hb dL_law_364 rfl ?_
  refine lv_iadd hx hb dL_law_365 ?_
  refine va_sld hx hb hX hbl hbA hW.2.2 (hi 3 (by decide) (by decide)) dL_law_366 ?_
  have hC := lw_u_5 hI (xs (i + 1).toNatClampNeg) (xs (i + 2).toNatClampNeg) (xs (i + 3).toNatClampNeg)
  refine pm_callV (As := [.int (xs (i + 1).toNatClampNeg), .int (xs (i + 2).toNatClampNeg), .int (xs (i + 3).toNatClampNeg)]) (rest := []) (me := (yX10_behind, cX10_behind, 4, some (.int), 3, 10, false)) (a := 81) (q := 0) (pm_met l 20) hx hb hml hown hts hK hE hA hW rfl (by decide) rfl (pm_inG (pm_ml_14_37) rfl) hC rfl (rfl : pm_S[0]? = some (0, 10, _)) hl.1 (Nat.le_of_ble_eq_true rfl) ⟨by decide, by decide⟩ hcs dL_law_367 (fun rv u1 H1 locs1 hq1 hW1 => ?_)
  obtain ⟨x1, rfl, hC2⟩ := hq1
  clear hC hI hW
  have hW := hW1
  clear hW1
  show W p l e room_1 s m #[Value.ref b] below meth c H1 locs1 cells slots (lw_Z below #[Value.ref b] s) (F0 m 370 ls [.int x1])
  refine lv_pop hx hb dL_law_370 rfl ?_
  refine lv_aload_n hx hb dL_law_371 rfl (lv_at hl 1 rfl) ?_
  refine lv_aload_n hx hb dL_law_372 rfl (lv_at hl 3 rfl) ?_
  refine lv_iload_n hx hb dL_law_373 rfl (lv_at hl 0 rfl) ?_
  refine lv_iconst (v := 1) hx hb dL_law_374 rfl ?_
  refine lv_iadd hx hb dL_law_375 ?_
  refine va_sld hx hb hX hbl hbA hW.2.2 (hi 1 (by decide) (by decide)) dL_law_376 ?_
  refine lv_aload_n hx hb dL_law_377 rfl (lv_at hl 3 rfl) ?_
  refine lv_iload_n hx hb dL_law_378 rfl (lv_at hl 0 rfl) ?_
  refine lv_iconst (v := 2) hx hb dL_law_379 rfl ?_
  refine lv_iadd hx hb dL_law_380 ?_
  refine va_sld hx hb hX hbl hbA hW.2.2 (hi 2 (by decide) (by decide)) dL_law_381 ?_
  refine lv_aload_n hx hb dL_law_382 rfl (lv_at hl 3 rfl) ?_
  refine lv_iload_n hx hb dL_law_383 rfl (lv_at hl 0 rfl) ?_
  refine lv_iconst (v := 3) hx hb dL_law_384 rfl ?_
  refine lv_iadd hx hb dL_law_385 ?_
  refine va_sld hx hb hX hbl hbA hW.2.2 (hi 3 (by decide) (by decide)) dL_law_386 ?_
  refine pm_callV (As := [.int (xs (i + 1).toNatClampNeg), .int (xs (i + 2).toNatClampNeg), .int (xs (i + 3).toNatClampNeg)]) (rest := []) (me := (yX11_behind, cX11_behind, 4, some (.int), 3, 11, false)) (a := 133) (q := 88) (pm_met l 20) hx hb hml hown hts hK hE hA hW rfl (by decide) rfl (pm_inG (pm_ml_14_41) rfl) hC2 rfl (rfl : pm_S[88]? = some (0, 11, _)) hl.1 (Nat.le_of_ble_eq_true rfl) ⟨by decide, by decide⟩ hcs dL_law_387 (fun rv u2 H2 locs2 hq1 hW2 => ?_)
  obtain ⟨hI2, x2, rfl, he⟩ := hq1
  show W p l e room_1 s m #[Value.ref b] below meth c H2 locs2 cells slots (lw_Z below #[Value.ref b] s) (F0 m 390 ls [.int x2])
  refine lv_pop hx hb dL_law_390 rfl ?_
  refine lv_goto (tgt := 1093) hx hb dL_law_391 rfl ?_
  exact kk _ _ _ hI2 hW2

set_option maxHeartbeats 4000000 in
set_option maxRecDepth 100000 in
theorem lw_k_6 {p : Program} {e : Env} {s : State} {m : MethodId} {below : List Frame} {meth : Method} {c : Code} (l : Launch) {b L : Nat} {xs : Nat → Int32} (C0 : lw_At p s m meth c b L xs) (D : va_G) (k : pm_cK) (ad : Nat → Nat) (hK : va_K D vwCl (pm_ty k) s) (hE : pm_E ad (fun q : Nat => s.heap.size ≤ q) s s.heap) {i : Int32} (hi : ∀ v : Int32, 0 ≤ v.toInt → v.toInt ≤ 5 → vp_in (i + v) L) {cells slots : Nat} (hcs : cells ≤ room_1.cells ∧ slots ≤ room_1.slots) {h : pm_Hp} {H : Heap} {locs : List Loc} (hI : ck_Inv lw_SI h) (hW : pm_Wo D k ad (fun q : Nat => s.heap.size ≤ q) s h H locs) {ls : Array Slot} (hl : lv_has ls 4 [(3, .int i), (2, .ref (ad 88)), (1, .ref (ad 0)), (0, .ref b)]) (kk : ∀ (h1 : pm_Hp) (H1 : Heap) (locs1 : List Loc), ck_Inv lw_SI h1 → pm_Wo D k ad (fun q : Nat => s.heap.size ≤ q) s h1 H1 locs1 → W p l e room_1 s m #[Value.ref b] below meth c H1 locs1 cells slots (lw_Z below #[Value.ref b] s) (F0 m 1093 ls [])) : W p l e room_1 s m #[Value.ref b] below meth c H locs cells slots (lw_Z below #[Value.ref b] s) (F0 m 394 ls []) := by
  obtain ⟨hx, hb, hr, hml, hown, hts0, hX, hbl, hlocks, hgv⟩ := id C0
  have hA : ∀ q : Nat, s.heap.size ≤ q → (fun q : Nat => s.heap.size ≤ q) q := fun _ h => h
  have hbA : ¬ (fun q : Nat => s.heap.size ≤ q) b := Nat.not_le.mpr hbl
  have hown : s.vm.findClass RL = some m.cls := hown
  have hts : ∀ w ∈ pm_G, w.before #[Value.ref b] s = true := fun w hw => hts0 w (List.mem_filter.mp hw).1
  refine lv_aload_n hx hb dL_law_394 rfl (lv_at hl 2 rfl) ?_
  refine lv_aload_n hx hb dL_law_395 rfl (lv_at hl 3 rfl) ?_
  refine lv_iload_n hx hb dL_law_396 rfl (lv_at hl 0 rfl) ?_
  refine lv_iconst (v := 1) hx hb dL_law_397 rfl ?_
  refine lv_iadd hx hb dL_law_398 ?_
  refine va_sld hx hb hX hbl hbA hW.2.2 (hi 1 (by decide) (by decide)) dL_law_399 ?_
  have hC := lw_u_6 hI (xs (i + 1).toNatClampNeg)
  refine pm_callV (As := [.int (xs (i + 1).toNatClampNeg)]) (rest := []) (me := (yX10_turn, cX10_turn, 2, some (.int), 1, 10, false)) (a := 119) (q := 0) (pm_met l 20) hx hb hml hown hts hK hE hA hW rfl (by decide) rfl (pm_inG (pm_ml_14_42) rfl) hC rfl (rfl : pm_S[0]? = some (0, 10, _)) hl.1 (Nat.le_of_ble_eq_true rfl) ⟨by decide, by decide⟩ hcs dL_law_400 (fun rv u1 H1 locs1 hq1 hW1 => ?_)
  obtain ⟨x1, rfl, hC2⟩ := hq1
  clear hC hI hW
  have hW := hW1
  clear hW1
  show W p l e room_1 s m #[Value.ref b] below meth c H1 locs1 cells slots (lw_Z below #[Value.ref b] s) (F0 m 403 ls [.int x1])
  refine lv_pop hx hb dL_law_403 rfl ?_
  refine lv_aload_n hx hb dL_law_404 rfl (lv_at hl 1 rfl) ?_
  refine lv_aload_n hx hb dL_law_405 rfl (lv_at hl 3 rfl) ?_
  refine lv_iload_n hx hb dL_law_406 rfl (lv_at hl 0 rfl) ?_
  refine lv_iconst (v := 1) hx hb dL_law_407 rfl ?_
  refine lv_iadd hx hb dL_law_408 ?_
  refine va_sld hx hb hX hbl hbA hW.2.2 (hi 1 (by decide) (by decide)) dL_law_409 ?_
  refine pm_callV (As := [.int (xs (i + 1).toNatClampNeg)]) (rest := []) (me := (yX11_turn, cX11_turn, 2, some (.int), 1, 11, false)) (a := 220) (q := 88) (pm_met l 20) hx hb hml hown hts hK hE hA hW rfl (by decide) rfl (pm_inG (pm_ml_14_45) rfl) hC2 rfl (rfl : pm_S[88]? = some (0, 11, _)) hl.1 (Nat.le_of_ble_eq_true rfl) ⟨by decide, by decide⟩ hcs dL_law_410 (fun rv u2 H2 locs2 hq1 hW2 => ?_)
  obtain ⟨hI2, x2, rfl, he⟩ := hq1
  show W p l e room_1 s m #[Value.ref b] below meth c H2 locs2 cells slots (lw_Z below #[Value.ref b] s) (F0 m 413 ls [.int x2])
  refine lv_pop hx hb dL_law_413 rfl ?_
  refine lv_goto (tgt := 1093) hx hb dL_law_414 rfl ?_
  exact kk _ _ _ hI2 hW2

set_option maxHeartbeats 4000000 in
set_option maxRecDepth 100000 in
theorem lw_k_7 {p : Program} {e : Env} {s : State} {m : MethodId} {below : List Frame} {meth : Method} {c : Code} (l : Launch) {b L : Nat} {xs : Nat → Int32} (C0 : lw_At p s m meth c b L xs) (D : va_G) (k : pm_cK) (ad : Nat → Nat) (hK : va_K D vwCl (pm_ty k) s) (hE : pm_E ad (fun q : Nat => s.heap.size ≤ q) s s.heap) {i : Int32} (hi : ∀ v : Int32, 0 ≤ v.toInt → v.toInt ≤ 5 → vp_in (i + v) L) {cells slots : Nat} (hcs : cells ≤ room_1.cells ∧ slots ≤ room_1.slots) {h : pm_Hp} {H : Heap} {locs : List Loc} (hI : ck_Inv lw_SI h) (hW : pm_Wo D k ad (fun q : Nat => s.heap.size ≤ q) s h H locs) {ls : Array Slot} (hl : lv_has ls 4 [(3, .int i), (2, .ref (ad 88)), (1, .ref (ad 0)), (0, .ref b)]) (kk : ∀ (h1 : pm_Hp) (H1 : Heap) (locs1 : List Loc), ck_Inv lw_SI h1 → pm_Wo D k ad (fun q : Nat => s.heap.size ≤ q) s h1 H1 locs1 → W p l e room_1 s m #[Value.ref b] below meth c H1 locs1 cells slots (lw_Z below #[Value.ref b] s) (F0 m 1093 ls [])) : W p l e room_1 s m #[Value.ref b] below meth c H locs cells slots (lw_Z below #[Value.ref b] s) (F0 m 417 ls []) := by
  obtain ⟨hx, hb, hr, hml, hown, hts0, hX, hbl, hlocks, hgv⟩ := id C0
  have hA : ∀ q : Nat, s.heap.size ≤ q → (fun q : Nat => s.heap.size ≤ q) q := fun _ h => h
  have hbA : ¬ (fun q : Nat => s.heap.size ≤ q) b := Nat.not_le.mpr hbl
  have hown : s.vm.findClass RL = some m.cls := hown
  have hts : ∀ w ∈ pm_G, w.before #[Value.ref b] s = true := fun w hw => hts0 w (List.mem_filter.mp hw).1
  refine lv_aload_n hx hb dL_law_417 rfl (lv_at hl 2 rfl) ?_
  refine lv_aload_n hx hb dL_law_418 rfl (lv_at hl 3 rfl) ?_
  refine lv_iload_n hx hb dL_law_419 rfl (lv_at hl 0 rfl) ?_
  refine lv_iconst (v := 1) hx hb dL_law_420 rfl ?_
  refine lv_iadd hx hb dL_law_421 ?_
  refine va_sld hx hb hX hbl hbA hW.2.2 (hi 1 (by decide) (by decide)) dL_law_422 ?_
  have hC := lw_u_7 hI (xs (i + 1).toNatClampNeg)
  refine pm_callV (As := [.int (xs (i + 1).toNatClampNeg)]) (rest := []) (me := (yX10_write, cX10_write, 2, some (.int), 1, 10, false)) (a := 126) (q := 0) (pm_met l 20) hx hb hml hown hts hK hE hA hW rfl (by decide) rfl (pm_inG (pm_ml_14_46) rfl) hC rfl (rfl : pm_S[0]? = some (0, 10, _)) hl.1 (Nat.le_of_ble_eq_true rfl) ⟨by decide, by decide⟩ hcs dL_law_423 (fun rv u1 H1 locs1 hq1 hW1 => ?_)
  obtain ⟨x1, rfl, hC2⟩ := hq1
  clear hC hI hW
  have hW := hW1
  clear hW1
  show W p l e room_1 s m #[Value.ref b] below meth c H1 locs1 cells slots (lw_Z below #[Value.ref b] s) (F0 m 426 ls [.int x1])
  refine lv_pop hx hb dL_law_426 rfl ?_
  refine lv_aload_n hx hb dL_law_427 rfl (lv_at hl 1 rfl) ?_
  refine lv_aload_n hx hb dL_law_428 rfl (lv_at hl 3 rfl) ?_
  refine lv_iload_n hx hb dL_law_429 rfl (lv_at hl 0 rfl) ?_
  refine lv_iconst (v := 1) hx hb dL_law_430 rfl ?_
  refine lv_iadd hx hb dL_law_431 ?_
  refine va_sld hx hb hX hbl hbA hW.2.2 (hi 1 (by decide) (by decide)) dL_law_432 ?_
  refine pm_callV (As := [.int (xs (i + 1).toNatClampNeg)]) (rest := []) (me := (yX11_write, cX11_write, 2, some (.int), 1, 11, false)) (a := 233) (q := 88) (pm_met l 20) hx hb hml hown hts hK hE hA hW rfl (by decide) rfl (pm_inG (pm_ml_14_49) rfl) hC2 rfl (rfl : pm_S[88]? = some (0, 11, _)) hl.1 (Nat.le_of_ble_eq_true rfl) ⟨by decide, by decide⟩ hcs dL_law_433 (fun rv u2 H2 locs2 hq1 hW2 => ?_)
  obtain ⟨hI2, x2, rfl, he⟩ := hq1
  show W p l e room_1 s m #[Value.ref b] below meth c H2 locs2 cells slots (lw_Z below #[Value.ref b] s) (F0 m 436 ls [.int x2])
  refine lv_pop hx hb dL_law_436 rfl ?_
  refine lv_goto (tgt := 1093) hx hb dL_law_437 rfl ?_
  exact kk _ _ _ hI2 hW2

set_option maxHeartbeats 4000000 in
set_option maxRecDepth 100000 in
theorem lw_k_8 {p : Program} {e : Env} {s : State} {m : MethodId} {below : List Frame} {meth : Method} {c : Code} (l : Launch) {b L : Nat} {xs : Nat → Int32} (C0 : lw_At p s m meth c b L xs) (D : va_G) (k : pm_cK) (ad : Nat → Nat) (hK : va_K D vwCl (pm_ty k) s) (hE : pm_E ad (fun q : Nat => s.heap.size ≤ q) s s.heap) {i : Int32} (hi : ∀ v : Int32, 0 ≤ v.toInt → v.toInt ≤ 5 → vp_in (i + v) L) {cells slots : Nat} (hcs : cells ≤ room_1.cells ∧ slots ≤ room_1.slots) {h : pm_Hp} {H : Heap} {locs : List Loc} (hI : ck_Inv lw_SI h) (hW : pm_Wo D k ad (fun q : Nat => s.heap.size ≤ q) s h H locs) {ls : Array Slot} (hl : lv_has ls 4 [(3, .int i), (2, .ref (ad 88)), (1, .ref (ad 0)), (0, .ref b)]) (kk : ∀ (h1 : pm_Hp) (H1 : Heap) (locs1 : List Loc), ck_Inv lw_SI h1 → pm_Wo D k ad (fun q : Nat => s.heap.size ≤ q) s h1 H1 locs1 → W p l e room_1 s m #[Value.ref b] below meth c H1 locs1 cells slots (lw_Z below #[Value.ref b] s) (F0 m 1093 ls [])) : W p l e room_1 s m #[Value.ref b] below meth c H locs cells slots (lw_Z below #[Value.ref b] s) (F0 m 440 ls []) := by
  obtain ⟨hx, hb, hr, hml, hown, hts0, hX, hbl, hlocks, hgv⟩ := id C0
  have hA : ∀ q : Nat, s.heap.size ≤ q → (fun q : Nat => s.heap.size ≤ q) q := fun _ h => h
  have hbA : ¬ (fun q : Nat => s.heap.size ≤ q) b := Nat.not_le.mpr hbl
  have hown : s.vm.findClass RL = some m.cls := hown
  have hts : ∀ w ∈ pm_G, w.before #[Value.ref b] s = true := fun w hw => hts0 w (List.mem_filter.mp hw).1
  refine lv_aload_n hx hb dL_law_440 rfl (lv_at hl 2 rfl) ?_
  refine lv_aload_n hx hb dL_law_441 rfl (lv_at hl 3 rfl) ?_
  refine lv_iload_n hx hb dL_law_442 rfl (lv_at hl 0 rfl) ?_
  refine lv_iconst (v := 1) hx hb dL_law_443 rfl ?_
  refine lv_iadd hx hb dL_law_444 ?_
  refine va_sld hx hb hX hbl hbA hW.2.2 (hi 1 (by decide) (by decide)) dL_law_445 ?_
  refine lv_aload_n hx hb dL_law_446 rfl (lv_at hl 3 rfl) ?_
  refine lv_iload_n hx hb dL_law_447 rfl (lv_at hl 0 rfl) ?_
  refine lv_iconst (v := 2) hx hb dL_law_448 rfl ?_
  refine lv_iadd hx hb dL_law_449 ?_
  refine va_sld hx hb hX hbl hbA hW.2.2 (hi 2 (by decide) (by decide)) dL_law_450 ?_
  have hC := lw_u_8 hI (xs (i + 1).toNatClampNeg) (xs (i + 2).toNatClampNeg)
  refine pm_callV (As := [.int (xs (i + 1).toNatClampNeg), .int (xs (i + 2).toNatClampNeg)]) (rest := []) (me := (yX10_sell, cX10_sell, 4, some (.int), 2, 10, false)) (a := 112) (q := 0) (pm_met l 20) hx hb hml hown hts hK hE hA hW rfl (by decide) rfl (pm_inG (pm_ml_14_50) rfl) hC rfl (rfl : pm_S[0]? = some (0, 10, _)) hl.1 (Nat.le_of_ble_eq_true rfl) ⟨by decide, by decide⟩ hcs dL_law_451 (fun rv u1 H1 locs1 hq1 hW1 => ?_)
  obtain ⟨x1, rfl, hC2⟩ := hq1
  clear hC hI hW
  have hW := hW1
  clear hW1
  show W p l e room_1 s m #[Value.ref b] below meth c H1 locs1 cells slots (lw_Z below #[Value.ref b] s) (F0 m 454 ls [.int x1])
  refine lv_pop hx hb dL_law_454 rfl ?_
  refine lv_aload_n hx hb dL_law_455 rfl (lv_at hl 1 rfl) ?_
  refine lv_aload_n hx hb dL_law_456 rfl (lv_at hl 3 rfl) ?_
  refine lv_iload_n hx hb dL_law_457 rfl (lv_at hl 0 rfl) ?_
  refine lv_iconst (v := 1) hx hb dL_law_458 rfl ?_
  refine lv_iadd hx hb dL_law_459 ?_
  refine va_sld hx hb hX hbl hbA hW.2.2 (hi 1 (by decide) (by decide)) dL_law_460 ?_
  refine lv_aload_n hx hb dL_law_461 rfl (lv_at hl 3 rfl) ?_
  refine lv_iload_n hx hb dL_law_462 rfl (lv_at hl 0 rfl) ?_
  refine lv_iconst (v := 2) hx hb dL_law_463 rfl ?_
  refine lv_iadd hx hb dL_law_464 ?_
  refine va_sld hx hb hX hbl hbA hW.2.2 (hi 2 (by decide) (by decide)) dL_law_465 ?_
  refine pm_callV (As := [.int (xs (i + 1).toNatClampNeg), .int (xs (i + 2).toNatClampNeg)]) (rest := []) (me := (yX11_sell, cX11_sell, 4, some (.int), 2, 11, false)) (a := 208) (q := 88) (pm_met l 20) hx hb hml hown hts hK hE hA hW rfl (by decide) rfl (pm_inG (pm_ml_14_53) rfl) hC2 rfl (rfl : pm_S[88]? = some (0, 11, _)) hl.1 (Nat.le_of_ble_eq_true rfl) ⟨by decide, by decide⟩ hcs dL_law_466 (fun rv u2 H2 locs2 hq1 hW2 => ?_)
  obtain ⟨hI2, x2, rfl, he⟩ := hq1
  show W p l e room_1 s m #[Value.ref b] below meth c H2 locs2 cells slots (lw_Z below #[Value.ref b] s) (F0 m 469 ls [.int x2])
  refine lv_pop hx hb dL_law_469 rfl ?_
  refine lv_goto (tgt := 1093) hx hb dL_law_470 rfl ?_
  exact kk _ _ _ hI2 hW2

set_option maxHeartbeats 4000000 in
set_option maxRecDepth 100000 in
theorem lw_k_9 {p : Program} {e : Env} {s : State} {m : MethodId} {below : List Frame} {meth : Method} {c : Code} (l : Launch) {b L : Nat} {xs : Nat → Int32} (C0 : lw_At p s m meth c b L xs) (D : va_G) (k : pm_cK) (ad : Nat → Nat) (hK : va_K D vwCl (pm_ty k) s) (hE : pm_E ad (fun q : Nat => s.heap.size ≤ q) s s.heap) {i : Int32} (hi : ∀ v : Int32, 0 ≤ v.toInt → v.toInt ≤ 5 → vp_in (i + v) L) {cells slots : Nat} (hcs : cells ≤ room_1.cells ∧ slots ≤ room_1.slots) {h : pm_Hp} {H : Heap} {locs : List Loc} (hI : ck_Inv lw_SI h) (hW : pm_Wo D k ad (fun q : Nat => s.heap.size ≤ q) s h H locs) {ls : Array Slot} (hl : lv_has ls 4 [(3, .int i), (2, .ref (ad 88)), (1, .ref (ad 0)), (0, .ref b)]) (kk : ∀ (h1 : pm_Hp) (H1 : Heap) (locs1 : List Loc), ck_Inv lw_SI h1 → pm_Wo D k ad (fun q : Nat => s.heap.size ≤ q) s h1 H1 locs1 → W p l e room_1 s m #[Value.ref b] below meth c H1 locs1 cells slots (lw_Z below #[Value.ref b] s) (F0 m 1093 ls [])) : W p l e room_1 s m #[Value.ref b] below meth c H locs cells slots (lw_Z below #[Value.ref b] s) (F0 m 473 ls []) := by
  obtain ⟨hx, hb, hr, hml, hown, hts0, hX, hbl, hlocks, hgv⟩ := id C0
  have hA : ∀ q : Nat, s.heap.size ≤ q → (fun q : Nat => s.heap.size ≤ q) q := fun _ h => h
  have hbA : ¬ (fun q : Nat => s.heap.size ≤ q) b := Nat.not_le.mpr hbl
  have hown : s.vm.findClass RL = some m.cls := hown
  have hts : ∀ w ∈ pm_G, w.before #[Value.ref b] s = true := fun w hw => hts0 w (List.mem_filter.mp hw).1
  refine lv_aload_n hx hb dL_law_473 rfl (lv_at hl 2 rfl) ?_
  have hC := lw_u_9 hI
  refine pm_callV (As := []) (rest := []) (me := (yX10_undo, cX10_undo, 1, some (.boolean), 0, 10, false)) (a := 120) (q := 0) (pm_met l 20) hx hb hml hown hts hK hE hA hW rfl (by decide) rfl (pm_inG (pm_ml_14_54) rfl) hC rfl (rfl : pm_S[0]? = some (0, 10, _)) hl.1 (Nat.le_of_ble_eq_true rfl) ⟨by decide, by decide⟩ hcs dL_law_474 (fun rv u1 H1 locs1 hq1 hW1 => ?_)
  obtain ⟨x1, rfl, hC2⟩ := hq1
  clear hC hI hW
  have hW := hW1
  clear hW1
  show W p l e room_1 s m #[Value.ref b] below meth c H1 locs1 cells slots (lw_Z below #[Value.ref b] s) (F0 m 477 ls [.int x1])
  refine lv_pop hx hb dL_law_477 rfl ?_
  refine lv_aload_n hx hb dL_law_478 rfl (lv_at hl 1 rfl) ?_
  refine pm_callV (As := []) (rest := []) (me := (yX11_undo, cX11_undo, 1, some (.boolean), 0, 11, false)) (a := 223) (q := 88) (pm_met l 20) hx hb hml hown hts hK hE hA hW rfl (by decide) rfl (pm_inG (pm_ml_14_58) rfl) hC2 rfl (rfl : pm_S[88]? = some (0, 11, _)) hl.1 (Nat.le_of_ble_eq_true rfl) ⟨by decide, by decide⟩ hcs dL_law_479 (fun rv u2 H2 locs2 hq1 hW2 => ?_)
  obtain ⟨hI2, x2, rfl, he⟩ := hq1
  show W p l e room_1 s m #[Value.ref b] below meth c H2 locs2 cells slots (lw_Z below #[Value.ref b] s) (F0 m 482 ls [.int x2])
  refine lv_pop hx hb dL_law_482 rfl ?_
  refine lv_goto (tgt := 1093) hx hb dL_law_483 rfl ?_
  exact kk _ _ _ hI2 hW2

set_option maxHeartbeats 4000000 in
set_option maxRecDepth 100000 in
theorem lw_k_10 {p : Program} {e : Env} {s : State} {m : MethodId} {below : List Frame} {meth : Method} {c : Code} (l : Launch) {b L : Nat} {xs : Nat → Int32} (C0 : lw_At p s m meth c b L xs) (D : va_G) (k : pm_cK) (ad : Nat → Nat) (hK : va_K D vwCl (pm_ty k) s) (hE : pm_E ad (fun q : Nat => s.heap.size ≤ q) s s.heap) {i : Int32} (hi : ∀ v : Int32, 0 ≤ v.toInt → v.toInt ≤ 5 → vp_in (i + v) L) {cells slots : Nat} (hcs : cells ≤ room_1.cells ∧ slots ≤ room_1.slots) {h : pm_Hp} {H : Heap} {locs : List Loc} (hI : ck_Inv lw_SI h) (hW : pm_Wo D k ad (fun q : Nat => s.heap.size ≤ q) s h H locs) {ls : Array Slot} (hl : lv_has ls 4 [(3, .int i), (2, .ref (ad 88)), (1, .ref (ad 0)), (0, .ref b)]) (kk : ∀ (h1 : pm_Hp) (H1 : Heap) (locs1 : List Loc), ck_Inv lw_SI h1 → pm_Wo D k ad (fun q : Nat => s.heap.size ≤ q) s h1 H1 locs1 → W p l e room_1 s m #[Value.ref b] below meth c H1 locs1 cells slots (lw_Z below #[Value.ref b] s) (F0 m 1093 ls [])) : W p l e room_1 s m #[Value.ref b] below meth c H locs cells slots (lw_Z below #[Value.ref b] s) (F0 m 486 ls []) := by
  obtain ⟨hx, hb, hr, hml, hown, hts0, hX, hbl, hlocks, hgv⟩ := id C0
  have hA : ∀ q : Nat, s.heap.size ≤ q → (fun q : Nat => s.heap.size ≤ q) q := fun _ h => h
  have hbA : ¬ (fun q : Nat => s.heap.size ≤ q) b := Nat.not_le.mpr hbl
  have hown : s.vm.findClass RL = some m.cls := hown
  have hts : ∀ w ∈ pm_G, w.before #[Value.ref b] s = true := fun w hw => hts0 w (List.mem_filter.mp hw).1
  refine lv_aload_n hx hb dL_law_486 rfl (lv_at hl 2 rfl) ?_
  have hC := lw_u_10 hI
  refine pm_callV (As := []) (rest := []) (me := (yX10_redo, cX10_redo, 1, some (.boolean), 0, 10, false)) (a := 110) (q := 0) (pm_met l 20) hx hb hml hown hts hK hE hA hW rfl (by decide) rfl (pm_inG (pm_ml_14_59) rfl) hC rfl (rfl : pm_S[0]? = some (0, 10, _)) hl.1 (Nat.le_of_ble_eq_true rfl) ⟨by decide, by decide⟩ hcs dL_law_487 (fun rv u1 H1 locs1 hq1 hW1 => ?_)
  obtain ⟨x1, rfl, hC2⟩ := hq1
  clear hC hI hW
  have hW := hW1
  clear hW1
  show W p l e room_1 s m #[Value.ref b] below meth c H1 locs1 cells slots (lw_Z below #[Value.ref b] s) (F0 m 490 ls [.int x1])
  refine lv_pop hx hb dL_law_490 rfl ?_
  refine lv_aload_n hx hb dL_law_491 rfl (lv_at hl 1 rfl) ?_
  refine pm_callV (As := []) (rest := []) (me := (yX11_redo, cX11_redo, 1, some (.boolean), 0, 11, false)) (a := 205) (q := 88) (pm_met l 20) hx hb hml hown hts hK hE hA hW rfl (by decide) rfl (pm_inG (pm_ml_14_62) rfl) hC2 rfl (rfl : pm_S[88]? = some (0, 11, _)) hl.1 (Nat.le_of_ble_eq_true rfl) ⟨by decide, by decide⟩ hcs dL_law_492 (fun rv u2 H2 locs2 hq1 hW2 => ?_)
  obtain ⟨hI2, x2, rfl, he⟩ := hq1
  show W p l e room_1 s m #[Value.ref b] below meth c H2 locs2 cells slots (lw_Z below #[Value.ref b] s) (F0 m 495 ls [.int x2])
  refine lv_pop hx hb dL_law_495 rfl ?_
  refine lv_goto (tgt := 1093) hx hb dL_law_496 rfl ?_
  exact kk _ _ _ hI2 hW2

set_option maxHeartbeats 4000000 in
set_option maxRecDepth 100000 in
theorem lw_k_11 {p : Program} {e : Env} {s : State} {m : MethodId} {below : List Frame} {meth : Method} {c : Code} (l : Launch) {b L : Nat} {xs : Nat → Int32} (C0 : lw_At p s m meth c b L xs) (D : va_G) (k : pm_cK) (ad : Nat → Nat) (hK : va_K D vwCl (pm_ty k) s) (hE : pm_E ad (fun q : Nat => s.heap.size ≤ q) s s.heap) {i : Int32} (hi : ∀ v : Int32, 0 ≤ v.toInt → v.toInt ≤ 5 → vp_in (i + v) L) {cells slots : Nat} (hcs : cells ≤ room_1.cells ∧ slots ≤ room_1.slots) {h : pm_Hp} {H : Heap} {locs : List Loc} (hI : ck_Inv lw_SI h) (hW : pm_Wo D k ad (fun q : Nat => s.heap.size ≤ q) s h H locs) {ls : Array Slot} (hl : lv_has ls 4 [(3, .int i), (2, .ref (ad 88)), (1, .ref (ad 0)), (0, .ref b)]) (kk : ∀ (h1 : pm_Hp) (H1 : Heap) (locs1 : List Loc), ck_Inv lw_SI h1 → pm_Wo D k ad (fun q : Nat => s.heap.size ≤ q) s h1 H1 locs1 → W p l e room_1 s m #[Value.ref b] below meth c H1 locs1 cells slots (lw_Z below #[Value.ref b] s) (F0 m 1093 ls [])) : W p l e room_1 s m #[Value.ref b] below meth c H locs cells slots (lw_Z below #[Value.ref b] s) (F0 m 499 ls []) := by
  obtain ⟨hx, hb, hr, hml, hown, hts0, hX, hbl, hlocks, hgv⟩ := id C0
  have hA : ∀ q : Nat, s.heap.size ≤ q → (fun q : Nat => s.heap.size ≤ q) q := fun _ h => h
  have hbA : ¬ (fun q : Nat => s.heap.size ≤ q) b := Nat.not_le.mpr hbl
  have hown : s.vm.findClass RL = some m.cls := hown
  have hts : ∀ w ∈ pm_G, w.before #[Value.ref b] s = true := fun w hw => hts0 w (List.mem_filter.mp hw).1
  refine lv_aload_n hx hb dL_law_499 rfl (lv_at hl 2 rfl) ?_
  have hC := lw_u_11 hI
  refine pm_callV (As := []) (rest := []) (me := (yX10_wipe, cX10_wipe, 2, some (.int), 0, 10, false)) (a := 123) (q := 0) (pm_met l 20) hx hb hml hown hts hK hE hA hW rfl (by decide) rfl (pm_inG (pm_ml_14_63) rfl) hC rfl (rfl : pm_S[0]? = some (0, 10, _)) hl.1 (Nat.le_of_ble_eq_true rfl) ⟨by decide, by decide⟩ hcs dL_law_500 (fun rv u1 H1 locs1 hq1 hW1 => ?_)
  obtain ⟨x1, rfl, hC2⟩ := hq1
  clear hC hI hW
  have hW := hW1
  clear hW1
  show W p l e room_1 s m #[Value.ref b] below meth c H1 locs1 cells slots (lw_Z below #[Value.ref b] s) (F0 m 503 ls [.int x1])
  refine lv_pop hx hb dL_law_503 rfl ?_
  refine lv_aload_n hx hb dL_law_504 rfl (lv_at hl 1 rfl) ?_
  refine pm_callV (As := []) (rest := []) (me := (yX11_wipe, cX11_wipe, 2, some (.int), 0, 11, false)) (a := 228) (q := 88) (pm_met l 20) hx hb hml hown hts hK hE hA hW rfl (by decide) rfl (pm_inG (pm_ml_14_66) rfl) hC2 rfl (rfl : pm_S[88]? = some (0, 11, _)) hl.1 (Nat.le_of_ble_eq_true rfl) ⟨by decide, by decide⟩ hcs dL_law_505 (fun rv u2 H2 locs2 hq1 hW2 => ?_)
  obtain ⟨hI2, x2, rfl, he⟩ := hq1
  show W p l e room_1 s m #[Value.ref b] below meth c H2 locs2 cells slots (lw_Z below #[Value.ref b] s) (F0 m 508 ls [.int x2])
  refine lv_pop hx hb dL_law_508 rfl ?_
  refine lv_goto (tgt := 1093) hx hb dL_law_509 rfl ?_
  exact kk _ _ _ hI2 hW2

set_option maxHeartbeats 4000000 in
set_option maxRecDepth 100000 in
theorem lw_k_12 {p : Program} {e : Env} {s : State} {m : MethodId} {below : List Frame} {meth : Method} {c : Code} (l : Launch) {b L : Nat} {xs : Nat → Int32} (C0 : lw_At p s m meth c b L xs) (D : va_G) (k : pm_cK) (ad : Nat → Nat) (hK : va_K D vwCl (pm_ty k) s) (hE : pm_E ad (fun q : Nat => s.heap.size ≤ q) s s.heap) {i : Int32} (hi : ∀ v : Int32, 0 ≤ v.toInt → v.toInt ≤ 5 → vp_in (i + v) L) {cells slots : Nat} (hcs : cells ≤ room_1.cells ∧ slots ≤ room_1.slots) {h : pm_Hp} {H : Heap} {locs : List Loc} (hI : ck_Inv lw_SI h) (hW : pm_Wo D k ad (fun q : Nat => s.heap.size ≤ q) s h H locs) {ls : Array Slot} (hl : lv_has ls 4 [(3, .int i), (2, .ref (ad 88)), (1, .ref (ad 0)), (0, .ref b)]) (kk : ∀ (h1 : pm_Hp) (H1 : Heap) (locs1 : List Loc), ck_Inv lw_SI h1 → pm_Wo D k ad (fun q : Nat => s.heap.size ≤ q) s h1 H1 locs1 → W p l e room_1 s m #[Value.ref b] below meth c H1 locs1 cells slots (lw_Z below #[Value.ref b] s) (F0 m 1093 ls [])) : W p l e room_1 s m #[Value.ref b] below meth c H locs cells slots (lw_Z below #[Value.ref b] s) (F0 m 512 ls []) := by
  obtain ⟨hx, hb, hr, hml, hown, hts0, hX, hbl, hlocks, hgv⟩ := id C0
  have hA : ∀ q : Nat, s.heap.size ≤ q → (fun q : Nat => s.heap.size ≤ q) q := fun _ h => h
  have hbA : ¬ (fun q : Nat => s.heap.size ≤ q) b := Nat.not_le.mpr hbl
  have hown : s.vm.findClass RL = some m.cls := hown
  have hts : ∀ w ∈ pm_G, w.before #[Value.ref b] s = true := fun w hw => hts0 w (List.mem_filter.mp hw).1
  refine lv_aload_n hx hb dL_law_512 rfl (lv_at hl 2 rfl) ?_
  refine lv_aload_n hx hb dL_law_513 rfl (lv_at hl 3 rfl) ?_
  refine lv_iload_n hx hb dL_law_514 rfl (lv_at hl 0 rfl) ?_
  refine lv_iconst (v := 1) hx hb dL_law_515 rfl ?_
  refine lv_iadd hx hb dL_law_516 ?_
  refine va_sld hx hb hX hbl hbA hW.2.2 (hi 1 (by decide) (by decide)) dL_law_517 ?_
  have hC := lw_u_12 hI (xs (i + 1).toNatClampNeg)
  refine pm_callV (As := [.int (xs (i + 1).toNatClampNeg)]) (rest := []) (me := (yX10_word, cX10_word, 2, some (.int), 1, 10, false)) (a := 124) (q := 0) (pm_met l 20) hx hb hml hown hts hK hE hA hW rfl (by decide) rfl (pm_inG (pm_ml_14_67) rfl) hC rfl (rfl : pm_S[0]? = some (0, 10, _)) hl.1 (Nat.le_of_ble_eq_true rfl) ⟨by decide, by decide⟩ hcs dL_law_518 (fun rv u1 H1 locs1 hq1 hW1 => ?_)
  obtain ⟨x1, rfl, hC2⟩ := hq1
  clear hC hI hW
  have hW := hW1
  clear hW1
  show W p l e room_1 s m #[Value.ref b] below meth c H1 locs1 cells slots (lw_Z below #[Value.ref b] s) (F0 m 521 ls [.int x1])
  refine lv_pop hx hb dL_law_521 rfl ?_
  refine lv_aload_n hx hb dL_law_522 rfl (lv_at hl 1 rfl) ?_
  refine lv_aload_n hx hb dL_law_523 rfl (lv_at hl 3 rfl) ?_
  refine lv_iload_n hx hb dL_law_524 rfl (lv_at hl 0 rfl) ?_
  refine lv_iconst (v := 1) hx hb dL_law_525 rfl ?_
  refine lv_iadd hx hb dL_law_526 ?_
  refine va_sld hx hb hX hbl hbA hW.2.2 (hi 1 (by decide) (by decide)) dL_law_527 ?_
  refine pm_callV (As := [.int (xs (i + 1).toNatClampNeg)]) (rest := []) (me := (yX11_word, cX11_word, 2, some (.int), 1, 11, false)) (a := 229) (q := 88) (pm_met l 20) hx hb hml hown hts hK hE hA hW rfl (by decide) rfl (pm_inG (pm_ml_14_70) rfl) hC2 rfl (rfl : pm_S[88]? = some (0, 11, _)) hl.1 (Nat.le_of_ble_eq_true rfl) ⟨by decide, by decide⟩ hcs dL_law_528 (fun rv u2 H2 locs2 hq1 hW2 => ?_)
  obtain ⟨hI2, x2, rfl, he⟩ := hq1
  show W p l e room_1 s m #[Value.ref b] below meth c H2 locs2 cells slots (lw_Z below #[Value.ref b] s) (F0 m 531 ls [.int x2])
  refine lv_pop hx hb dL_law_531 rfl ?_
  refine lv_goto (tgt := 1093) hx hb dL_law_532 rfl ?_
  exact kk _ _ _ hI2 hW2

set_option maxHeartbeats 4000000 in
set_option maxRecDepth 100000 in
theorem lw_k_13 {p : Program} {e : Env} {s : State} {m : MethodId} {below : List Frame} {meth : Method} {c : Code} (l : Launch) {b L : Nat} {xs : Nat → Int32} (C0 : lw_At p s m meth c b L xs) (D : va_G) (k : pm_cK) (ad : Nat → Nat) (hK : va_K D vwCl (pm_ty k) s) (hE : pm_E ad (fun q : Nat => s.heap.size ≤ q) s s.heap) {i : Int32} (hi : ∀ v : Int32, 0 ≤ v.toInt → v.toInt ≤ 5 → vp_in (i + v) L) {cells slots : Nat} (hcs : cells ≤ room_1.cells ∧ slots ≤ room_1.slots) {h : pm_Hp} {H : Heap} {locs : List Loc} (hI : ck_Inv lw_SI h) (hW : pm_Wo D k ad (fun q : Nat => s.heap.size ≤ q) s h H locs) {ls : Array Slot} (hl : lv_has ls 4 [(3, .int i), (2, .ref (ad 88)), (1, .ref (ad 0)), (0, .ref b)]) (kk : ∀ (h1 : pm_Hp) (H1 : Heap) (locs1 : List Loc), ck_Inv lw_SI h1 → pm_Wo D k ad (fun q : Nat => s.heap.size ≤ q) s h1 H1 locs1 → W p l e room_1 s m #[Value.ref b] below meth c H1 locs1 cells slots (lw_Z below #[Value.ref b] s) (F0 m 1093 ls [])) : W p l e room_1 s m #[Value.ref b] below meth c H locs cells slots (lw_Z below #[Value.ref b] s) (F0 m 535 ls []) := by
  obtain ⟨hx, hb, hr, hml, hown, hts0, hX, hbl, hlocks, hgv⟩ := id C0
  have hA : ∀ q : Nat, s.heap.size ≤ q → (fun q : Nat => s.heap.size ≤ q) q := fun _ h => h
  have hbA : ¬ (fun q : Nat => s.heap.size ≤ q) b := Nat.not_le.mpr hbl
  have hown : s.vm.findClass RL = some m.cls := hown
  have hts : ∀ w ∈ pm_G, w.before #[Value.ref b] s = true := fun w hw => hts0 w (List.mem_filter.mp hw).1
  refine lv_aload_n hx hb dL_law_535 rfl (lv_at hl 2 rfl) ?_
  have hC := lw_u_13 hI
  refine pm_callV (As := []) (rest := []) (me := (yX10_next, cX10_next, 1, some (.int), 0, 10, false)) (a := 103) (q := 0) (pm_met l 20) hx hb hml hown hts hK hE hA hW rfl (by decide) rfl (pm_inG (pm_ml_14_71) rfl) hC rfl (rfl : pm_S[0]? = some (0, 10, _)) hl.1 (Nat.le_of_ble_eq_true rfl) ⟨by decide, by decide⟩ hcs dL_law_536 (fun rv u1 H1 locs1 hq1 hW1 => ?_)
  obtain ⟨x1, rfl, hC2⟩ := hq1
  clear hC hI hW
  have hW := hW1
  clear hW1
  show W p l e room_1 s m #[Value.ref b] below meth c H1 locs1 cells slots (lw_Z below #[Value.ref b] s) (F0 m 539 ls [.int x1])
  refine lv_pop hx hb dL_law_539 rfl ?_
  refine lv_aload_n hx hb dL_law_540 rfl (lv_at hl 1 rfl) ?_
  refine pm_callV (As := []) (rest := []) (me := (yX11_next, cX11_next, 3, some (.int), 0, 11, false)) (a := 189) (q := 88) (pm_met l 20) hx hb hml hown hts hK hE hA hW rfl (by decide) rfl (pm_inG (pm_ml_14_74) rfl) hC2 rfl (rfl : pm_S[88]? = some (0, 11, _)) hl.1 (Nat.le_of_ble_eq_true rfl) ⟨by decide, by decide⟩ hcs dL_law_541 (fun rv u2 H2 locs2 hq1 hW2 => ?_)
  obtain ⟨hI2, x2, rfl, he⟩ := hq1
  show W p l e room_1 s m #[Value.ref b] below meth c H2 locs2 cells slots (lw_Z below #[Value.ref b] s) (F0 m 544 ls [.int x2])
  refine lv_pop hx hb dL_law_544 rfl ?_
  refine lv_goto (tgt := 1093) hx hb dL_law_545 rfl ?_
  exact kk _ _ _ hI2 hW2

set_option maxHeartbeats 4000000 in
set_option maxRecDepth 100000 in
theorem lw_k_14 {p : Program} {e : Env} {s : State} {m : MethodId} {below : List Frame} {meth : Method} {c : Code} (l : Launch) {b L : Nat} {xs : Nat → Int32} (C0 : lw_At p s m meth c b L xs) (D : va_G) (k : pm_cK) (ad : Nat → Nat) (hK : va_K D vwCl (pm_ty k) s) (hE : pm_E ad (fun q : Nat => s.heap.size ≤ q) s s.heap) {i : Int32} (hi : ∀ v : Int32, 0 ≤ v.toInt → v.toInt ≤ 5 → vp_in (i + v) L) {cells slots : Nat} (hcs : cells ≤ room_1.cells ∧ slots ≤ room_1.slots) {h : pm_Hp} {H : Heap} {locs : List Loc} (hI : ck_Inv lw_SI h) (hW : pm_Wo D k ad (fun q : Nat => s.heap.size ≤ q) s h H locs) {ls : Array Slot} (hl : lv_has ls 4 [(3, .int i), (2, .ref (ad 88)), (1, .ref (ad 0)), (0, .ref b)]) (kk : ∀ (h1 : pm_Hp) (H1 : Heap) (locs1 : List Loc), ck_Inv lw_SI h1 → pm_Wo D k ad (fun q : Nat => s.heap.size ≤ q) s h1 H1 locs1 → W p l e room_1 s m #[Value.ref b] below meth c H1 locs1 cells slots (lw_Z below #[Value.ref b] s) (F0 m 1093 ls [])) : W p l e room_1 s m #[Value.ref b] below meth c H locs cells slots (lw_Z below #[Value.ref b] s) (F0 m 548 ls []) := by
  obtain ⟨hx, hb, hr, hml, hown, hts0, hX, hbl, hlocks, hgv⟩ := id C0
  have hA : ∀ q : Nat, s.heap.size ≤ q → (fun q : Nat => s.heap.size ≤ q) q := fun _ h => h
  have hbA : ¬ (fun q : Nat => s.heap.size ≤ q) b := Nat.not_le.mpr hbl
  have hown : s.vm.findClass RL = some m.cls := hown
  have hts : ∀ w ∈ pm_G, w.before #[Value.ref b] s = true := fun w hw => hts0 w (List.mem_filter.mp hw).1
  refine lv_aload_n hx hb dL_law_548 rfl (lv_at hl 2 rfl) ?_
  have hC := lw_u_14 hI
  refine pm_callV (As := []) (rest := []) (me := (yX10_readings, cX10_readings, 1, some (.int), 0, 10, false)) (a := 109) (q := 0) (pm_met l 20) hx hb hml hown hts hK hE hA hW rfl (by decide) rfl (pm_inG (pm_ml_14_75) rfl) hC rfl (rfl : pm_S[0]? = some (0, 10, _)) hl.1 (Nat.le_of_ble_eq_true rfl) ⟨by decide, by decide⟩ hcs dL_law_549 (fun rv u1 H1 locs1 hq1 hW1 => ?_)
  obtain ⟨x1, rfl, hC2⟩ := hq1
  clear hC hI hW
  have hW := hW1
  clear hW1
  show W p l e room_1 s m #[Value.ref b] below meth c H1 locs1 cells slots (lw_Z below #[Value.ref b] s) (F0 m 552 ls [.int x1])
  refine lv_pop hx hb dL_law_552 rfl ?_
  refine lv_aload_n hx hb dL_law_553 rfl (lv_at hl 1 rfl) ?_
  refine pm_callV (As := []) (rest := []) (me := (yX11_readings, cX11_readings, 1, some (.int), 0, 11, false)) (a := 203) (q := 88) (pm_met l 20) hx hb hml hown hts hK hE hA hW rfl (by decide) rfl (pm_inG (pm_ml_14_78) rfl) hC2 rfl (rfl : pm_S[88]? = some (0, 11, _)) hl.1 (Nat.le_of_ble_eq_true rfl) ⟨by decide, by decide⟩ hcs dL_law_554 (fun rv u2 H2 locs2 hq1 hW2 => ?_)
  obtain ⟨hI2, x2, rfl, he⟩ := hq1
  show W p l e room_1 s m #[Value.ref b] below meth c H2 locs2 cells slots (lw_Z below #[Value.ref b] s) (F0 m 557 ls [.int x2])
  refine lv_pop hx hb dL_law_557 rfl ?_
  refine lv_goto (tgt := 1093) hx hb dL_law_558 rfl ?_
  exact kk _ _ _ hI2 hW2

set_option maxHeartbeats 4000000 in
set_option maxRecDepth 100000 in
theorem lw_k_15 {p : Program} {e : Env} {s : State} {m : MethodId} {below : List Frame} {meth : Method} {c : Code} (l : Launch) {b L : Nat} {xs : Nat → Int32} (C0 : lw_At p s m meth c b L xs) (D : va_G) (k : pm_cK) (ad : Nat → Nat) (hK : va_K D vwCl (pm_ty k) s) (hE : pm_E ad (fun q : Nat => s.heap.size ≤ q) s s.heap) {i : Int32} (hi : ∀ v : Int32, 0 ≤ v.toInt → v.toInt ≤ 5 → vp_in (i + v) L) {cells slots : Nat} (hcs : cells ≤ room_1.cells ∧ slots ≤ room_1.slots) {h : pm_Hp} {H : Heap} {locs : List Loc} (hI : ck_Inv lw_SI h) (hW : pm_Wo D k ad (fun q : Nat => s.heap.size ≤ q) s h H locs) {ls : Array Slot} (hl : lv_has ls 4 [(3, .int i), (2, .ref (ad 88)), (1, .ref (ad 0)), (0, .ref b)]) (kk : ∀ (h1 : pm_Hp) (H1 : Heap) (locs1 : List Loc), ck_Inv lw_SI h1 → pm_Wo D k ad (fun q : Nat => s.heap.size ≤ q) s h1 H1 locs1 → W p l e room_1 s m #[Value.ref b] below meth c H1 locs1 cells slots (lw_Z below #[Value.ref b] s) (F0 m 1093 ls [])) : W p l e room_1 s m #[Value.ref b] below meth c H locs cells slots (lw_Z below #[Value.ref b] s) (F0 m 561 ls []) := by
  obtain ⟨hx, hb, hr, hml, hown, hts0, hX, hbl, hlocks, hgv⟩ := id C0
  have hA : ∀ q : Nat, s.heap.size ≤ q → (fun q : Nat => s.heap.size ≤ q) q := fun _ h => h
  have hbA : ¬ (fun q : Nat => s.heap.size ≤ q) b := Nat.not_le.mpr hbl
  have hown : s.vm.findClass RL = some m.cls := hown
  have hts : ∀ w ∈ pm_G, w.before #[Value.ref b] s = true := fun w hw => hts0 w (List.mem_filter.mp hw).1
  refine lv_aload_n hx hb dL_law_561 rfl (lv_at hl 2 rfl) ?_
  refine lv_aload_n hx hb dL_law_562 rfl (lv_at hl 3 rfl) ?_
  refine lv_iload_n hx hb dL_law_563 rfl (lv_at hl 0 rfl) ?_
  refine lv_iconst (v := 1) hx hb dL_law_564 rfl ?_
  refine lv_iadd hx hb dL_law_565 ?_
  refine va_sld hx hb hX hbl hbA hW.2.2 (hi 1 (by decide) (by decide)) dL_law_566 ?_
  have hC := lw_u_15 hI (xs (i + 1).toNatClampNeg)
  refine pm_callV (As := [.int (xs (i + 1).toNatClampNeg)]) (rest := []) (me := (yX10_means, cX10_means, 2, some (.int), 1, 10, false)) (a := 102) (q := 0) (pm_met l 20) hx hb hml hown hts hK hE hA hW rfl (by decide) rfl (pm_inG (pm_ml_14_79) rfl) hC rfl (rfl : pm_S[0]? = some (0, 10, _)) hl.1 (Nat.le_of_ble_eq_true rfl) ⟨by decide, by decide⟩ hcs dL_law_567 (fun rv u1 H1 locs1 hq1 hW1 => ?_)
  obtain ⟨x1, rfl, hC2⟩ := hq1
  clear hC hI hW
  have hW := hW1
  clear hW1
  show W p l e room_1 s m #[Value.ref b] below meth c H1 locs1 cells slots (lw_Z below #[Value.ref b] s) (F0 m 570 ls [.int x1])
  refine lv_pop hx hb dL_law_570 rfl ?_
  refine lv_aload_n hx hb dL_law_571 rfl (lv_at hl 1 rfl) ?_
  refine lv_aload_n hx hb dL_law_572 rfl (lv_at hl 3 rfl) ?_
  refine lv_iload_n hx hb dL_law_573 rfl (lv_at hl 0 rfl) ?_
  refine lv_iconst (v := 1) hx hb dL_law_574 rfl ?_
  refine lv_iadd hx hb dL_law_575 ?_
  refine va_sld hx hb hX hbl hbA hW.2.2 (hi 1 (by decide) (by decide)) dL_law_576 ?_
  refine pm_callV (As := [.int (xs (i + 1).toNatClampNeg)]) (rest := []) (me := (yX11_means, cX11_means, 2, some (.int), 1, 11, false)) (a := 185) (q := 88) (pm_met l 20) hx hb hml hown hts hK hE hA hW rfl (by decide) rfl (pm_inG (pm_ml_14_82) rfl) hC2 rfl (rfl : pm_S[88]? = some (0, 11, _)) hl.1 (Nat.le_of_ble_eq_true rfl) ⟨by decide, by decide⟩ hcs dL_law_577 (fun rv u2 H2 locs2 hq1 hW2 => ?_)
  obtain ⟨hI2, x2, rfl, he⟩ := hq1
  show W p l e room_1 s m #[Value.ref b] below meth c H2 locs2 cells slots (lw_Z below #[Value.ref b] s) (F0 m 580 ls [.int x2])
  refine lv_pop hx hb dL_law_580 rfl ?_
  refine lv_goto (tgt := 1093) hx hb dL_law_581 rfl ?_
  exact kk _ _ _ hI2 hW2

set_option maxHeartbeats 4000000 in
set_option maxRecDepth 100000 in
theorem lw_k_16 {p : Program} {e : Env} {s : State} {m : MethodId} {below : List Frame} {meth : Method} {c : Code} (l : Launch) {b L : Nat} {xs : Nat → Int32} (C0 : lw_At p s m meth c b L xs) (D : va_G) (k : pm_cK) (ad : Nat → Nat) (hK : va_K D vwCl (pm_ty k) s) (hE : pm_E ad (fun q : Nat => s.heap.size ≤ q) s s.heap) {i : Int32} (hi : ∀ v : Int32, 0 ≤ v.toInt → v.toInt ≤ 5 → vp_in (i + v) L) {cells slots : Nat} (hcs : cells ≤ room_1.cells ∧ slots ≤ room_1.slots) {h : pm_Hp} {H : Heap} {locs : List Loc} (hI : ck_Inv lw_SI h) (hW : pm_Wo D k ad (fun q : Nat => s.heap.size ≤ q) s h H locs) {ls : Array Slot} (hl : lv_has ls 4 [(3, .int i), (2, .ref (ad 88)), (1, .ref (ad 0)), (0, .ref b)]) (kk : ∀ (h1 : pm_Hp) (H1 : Heap) (locs1 : List Loc), ck_Inv lw_SI h1 → pm_Wo D k ad (fun q : Nat => s.heap.size ≤ q) s h1 H1 locs1 → W p l e room_1 s m #[Value.ref b] below meth c H1 locs1 cells slots (lw_Z below #[Value.ref b] s) (F0 m 1093 ls [])) : W p l e room_1 s m #[Value.ref b] below meth c H locs cells slots (lw_Z below #[Value.ref b] s) (F0 m 584 ls []) := by
  obtain ⟨hx, hb, hr, hml, hown, hts0, hX, hbl, hlocks, hgv⟩ := id C0
  have hA : ∀ q : Nat, s.heap.size ≤ q → (fun q : Nat => s.heap.size ≤ q) q := fun _ h => h
  have hbA : ¬ (fun q : Nat => s.heap.size ≤ q) b := Nat.not_le.mpr hbl
  have hown : s.vm.findClass RL = some m.cls := hown
  have hts : ∀ w ∈ pm_G, w.before #[Value.ref b] s = true := fun w hw => hts0 w (List.mem_filter.mp hw).1
  refine lv_aload_n hx hb dL_law_584 rfl (lv_at hl 2 rfl) ?_
  refine lv_aload_n hx hb dL_law_585 rfl (lv_at hl 3 rfl) ?_
  refine lv_iload_n hx hb dL_law_586 rfl (lv_at hl 0 rfl) ?_
  refine lv_iconst (v := 1) hx hb dL_law_587 rfl ?_
  refine lv_iadd hx hb dL_law_588 ?_
  refine va_sld hx hb hX hbl hbA hW.2.2 (hi 1 (by decide) (by decide)) dL_law_589 ?_
  have hC := lw_u_16 hI (xs (i + 1).toNatClampNeg)
  refine pm_callV (As := [.int (xs (i + 1).toNatClampNeg)]) (rest := []) (me := (yX10_written, cX10_written, 4, some (.int), 1, 10, false)) (a := 127) (q := 0) (pm_met l 20) hx hb hml hown hts hK hE hA hW rfl (by decide) rfl (pm_inG (pm_ml_14_83) rfl) hC rfl (rfl : pm_S[0]? = some (0, 10, _)) hl.1 (Nat.le_of_ble_eq_true rfl) ⟨by decide, by decide⟩ hcs dL_law_590 (fun rv u1 H1 locs1 hq1 hW1 => ?_)
  obtain ⟨x1, rfl, hC2⟩ := hq1
  clear hC hI hW
  have hW := hW1
  clear hW1
  show W p l e room_1 s m #[Value.ref b] below meth c H1 locs1 cells slots (lw_Z below #[Value.ref b] s) (F0 m 593 ls [.int x1])
  refine lv_pop hx hb dL_law_593 rfl ?_
  refine lv_aload_n hx hb dL_law_594 rfl (lv_at hl 1 rfl) ?_
  refine lv_aload_n hx hb dL_law_595 rfl (lv_at hl 3 rfl) ?_
  refine lv_iload_n hx hb dL_law_596 rfl (lv_at hl 0 rfl) ?_
  refine lv_iconst (v := 1) hx hb dL_law_597 rfl ?_
  refine lv_iadd hx hb dL_law_598 ?_
  refine va_sld hx hb hX hbl hbA hW.2.2 (hi 1 (by decide) (by decide)) dL_law_599 ?_
  refine pm_callV (As := [.int (xs (i + 1).toNatClampNeg)]) (rest := []) (me := (yX11_written, cX11_written, 3, some (.int), 1, 11, false)) (a := 234) (q := 88) (pm_met l 20) hx hb hml hown hts hK hE hA hW rfl (by decide) rfl (pm_inG (pm_ml_14_86) rfl) hC2 rfl (rfl : pm_S[88]? = some (0, 11, _)) hl.1 (Nat.le_of_ble_eq_true rfl) ⟨by decide, by decide⟩ hcs dL_law_600 (fun rv u2 H2 locs2 hq1 hW2 => ?_)
  obtain ⟨hI2, x2, rfl, he⟩ := hq1
  show W p l e room_1 s m #[Value.ref b] below meth c H2 locs2 cells slots (lw_Z below #[Value.ref b] s) (F0 m 603 ls [.int x2])
  refine lv_pop hx hb dL_law_603 rfl ?_
  refine lv_goto (tgt := 1093) hx hb dL_law_604 rfl ?_
  exact kk _ _ _ hI2 hW2

set_option maxHeartbeats 4000000 in
set_option maxRecDepth 100000 in
theorem lw_k_17 {p : Program} {e : Env} {s : State} {m : MethodId} {below : List Frame} {meth : Method} {c : Code} (l : Launch) {b L : Nat} {xs : Nat → Int32} (C0 : lw_At p s m meth c b L xs) (D : va_G) (k : pm_cK) (ad : Nat → Nat) (hK : va_K D vwCl (pm_ty k) s) (hE : pm_E ad (fun q : Nat => s.heap.size ≤ q) s s.heap) {i : Int32} (hi : ∀ v : Int32, 0 ≤ v.toInt → v.toInt ≤ 5 → vp_in (i + v) L) {cells slots : Nat} (hcs : cells ≤ room_1.cells ∧ slots ≤ room_1.slots) {h : pm_Hp} {H : Heap} {locs : List Loc} (hI : ck_Inv lw_SI h) (hW : pm_Wo D k ad (fun q : Nat => s.heap.size ≤ q) s h H locs) {ls : Array Slot} (hl : lv_has ls 4 [(3, .int i), (2, .ref (ad 88)), (1, .ref (ad 0)), (0, .ref b)]) (kk : ∀ (h1 : pm_Hp) (H1 : Heap) (locs1 : List Loc), ck_Inv lw_SI h1 → pm_Wo D k ad (fun q : Nat => s.heap.size ≤ q) s h1 H1 locs1 → W p l e room_1 s m #[Value.ref b] below meth c H1 locs1 cells slots (lw_Z below #[Value.ref b] s) (F0 m 1093 ls [])) : W p l e room_1 s m #[Value.ref b] below meth c H locs cells slots (lw_Z below #[Value.ref b] s) (F0 m 607 ls []) := by
  obtain ⟨hx, hb, hr, hml, hown, hts0, hX, hbl, hlocks, hgv⟩ := id C0
  have hA : ∀ q : Nat, s.heap.size ≤ q → (fun q : Nat => s.heap.size ≤ q) q := fun _ h => h
  have hbA : ¬ (fun q : Nat => s.heap.size ≤ q) b := Nat.not_le.mpr hbl
  have hown : s.vm.findClass RL = some m.cls := hown
  have hts : ∀ w ∈ pm_G, w.before #[Value.ref b] s = true := fun w hw => hts0 w (List.mem_filter.mp hw).1
  refine lv_aload_n hx hb dL_law_607 rfl (lv_at hl 2 rfl) ?_
  refine lv_aload_n hx hb dL_law_608 rfl (lv_at hl 3 rfl) ?_
  refine lv_iload_n hx hb dL_law_609 rfl (lv_at hl 0 rfl) ?_
  refine lv_iconst (v := 1) hx hb dL_law_610 rfl ?_
  refine lv_iadd hx hb dL_law_611 ?_
  refine va_sld hx hb hX hbl hbA hW.2.2 (hi 1 (by decide) (by decide)) dL_law_612 ?_
  have hC := lw_u_17 hI (xs (i + 1).toNatClampNeg)
  refine pm_callV (As := [.int (xs (i + 1).toNatClampNeg)]) (rest := []) (me := (yX10_held, cX10_held, 3, some (.int), 1, 10, false)) (a := 93) (q := 0) (pm_met l 20) hx hb hml hown hts hK hE hA hW rfl (by decide) rfl (pm_inG (pm_ml_14_87) rfl) hC rfl (rfl : pm_S[0]? = some (0, 10, _)) hl.1 (Nat.le_of_ble_eq_true rfl) ⟨by decide, by decide⟩ hcs dL_law_613 (fun rv u1 H1 locs1 hq1 hW1 => ?_)
  obtain ⟨x1, rfl, hC2⟩ := hq1
  clear hC hI hW
  have hW := hW1
  clear hW1
  show W p l e room_1 s m #[Value.ref b] below meth c H1 locs1 cells slots (lw_Z below #[Value.ref b] s) (F0 m 616 ls [.int x1])
  refine lv_pop hx hb dL_law_616 rfl ?_
  refine lv_aload_n hx hb dL_law_617 rfl (lv_at hl 1 rfl) ?_
  refine lv_aload_n hx hb dL_law_618 rfl (lv_at hl 3 rfl) ?_
  refine lv_iload_n hx hb dL_law_619 rfl (lv_at hl 0 rfl) ?_
  refine lv_iconst (v := 1) hx hb dL_law_620 rfl ?_
  refine lv_iadd hx hb dL_law_621 ?_
  refine va_sld hx hb hX hbl hbA hW.2.2 (hi 1 (by decide) (by decide)) dL_law_622 ?_
  refine pm_callV (As := [.int (xs (i + 1).toNatClampNeg)]) (rest := []) (me := (yX11_held, cX11_held, 2, some (.int), 1, 11, false)) (a := 153) (q := 88) (pm_met l 20) hx hb hml hown hts hK hE hA hW rfl (by decide) rfl (pm_inG (pm_ml_14_90) rfl) hC2 rfl (rfl : pm_S[88]? = some (0, 11, _)) hl.1 (Nat.le_of_ble_eq_true rfl) ⟨by decide, by decide⟩ hcs dL_law_623 (fun rv u2 H2 locs2 hq1 hW2 => ?_)
  obtain ⟨hI2, x2, rfl, he⟩ := hq1
  show W p l e room_1 s m #[Value.ref b] below meth c H2 locs2 cells slots (lw_Z below #[Value.ref b] s) (F0 m 626 ls [.int x2])
  refine lv_pop hx hb dL_law_626 rfl ?_
  refine lv_goto (tgt := 1093) hx hb dL_law_627 rfl ?_
  exact kk _ _ _ hI2 hW2

set_option maxHeartbeats 4000000 in
set_option maxRecDepth 100000 in
theorem lw_k_18 {p : Program} {e : Env} {s : State} {m : MethodId} {below : List Frame} {meth : Method} {c : Code} (l : Launch) {b L : Nat} {xs : Nat → Int32} (C0 : lw_At p s m meth c b L xs) (D : va_G) (k : pm_cK) (ad : Nat → Nat) (hK : va_K D vwCl (pm_ty k) s) (hE : pm_E ad (fun q : Nat => s.heap.size ≤ q) s s.heap) {i : Int32} (hi : ∀ v : Int32, 0 ≤ v.toInt → v.toInt ≤ 5 → vp_in (i + v) L) {cells slots : Nat} (hcs : cells ≤ room_1.cells ∧ slots ≤ room_1.slots) {h : pm_Hp} {H : Heap} {locs : List Loc} (hI : ck_Inv lw_SI h) (hW : pm_Wo D k ad (fun q : Nat => s.heap.size ≤ q) s h H locs) {ls : Array Slot} (hl : lv_has ls 4 [(3, .int i), (2, .ref (ad 88)), (1, .ref (ad 0)), (0, .ref b)]) (kk : ∀ (h1 : pm_Hp) (H1 : Heap) (locs1 : List Loc), ck_Inv lw_SI h1 → pm_Wo D k ad (fun q : Nat => s.heap.size ≤ q) s h1 H1 locs1 → W p l e room_1 s m #[Value.ref b] below meth c H1 locs1 cells slots (lw_Z below #[Value.ref b] s) (F0 m 1093 ls [])) : W p l e room_1 s m #[Value.ref b] below meth c H locs cells slots (lw_Z below #[Value.ref b] s) (F0 m 630 ls []) := by
  obtain ⟨hx, hb, hr, hml, hown, hts0, hX, hbl, hlocks, hgv⟩ := id C0
  have hA : ∀ q : Nat, s.heap.size ≤ q → (fun q : Nat => s.heap.size ≤ q) q := fun _ h => h
  have hbA : ¬ (fun q : Nat => s.heap.size ≤ q) b := Nat.not_le.mpr hbl
  have hown : s.vm.findClass RL = some m.cls := hown
  have hts : ∀ w ∈ pm_G, w.before #[Value.ref b] s = true := fun w hw => hts0 w (List.mem_filter.mp hw).1
  refine lv_aload_n hx hb dL_law_630 rfl (lv_at hl 2 rfl) ?_
  refine lv_aload_n hx hb dL_law_631 rfl (lv_at hl 3 rfl) ?_
  refine lv_iload_n hx hb dL_law_632 rfl (lv_at hl 0 rfl) ?_
  refine lv_iconst (v := 1) hx hb dL_law_633 rfl ?_
  refine lv_iadd hx hb dL_law_634 ?_
  refine va_sld hx hb hX hbl hbA hW.2.2 (hi 1 (by decide) (by decide)) dL_law_635 ?_
  refine lv_aload_n hx hb dL_law_636 rfl (lv_at hl 3 rfl) ?_
  refine lv_iload_n hx hb dL_law_637 rfl (lv_at hl 0 rfl) ?_
  refine lv_iconst (v := 2) hx hb dL_law_638 rfl ?_
  refine lv_iadd hx hb dL_law_639 ?_
  refine va_sld hx hb hX hbl hbA hW.2.2 (hi 2 (by decide) (by decide)) dL_law_640 ?_
  have hC := lw_u_18 hI (xs (i + 1).toNatClampNeg) (xs (i + 2).toNatClampNeg)
  refine pm_callV (As := [.int (xs (i + 1).toNatClampNeg), .int (xs (i + 2).toNatClampNeg)]) (rest := []) (me := (yX10_share, cX10_share, 6, some (.int), 2, 10, false)) (a := 113) (q := 0) (pm_met l 20) hx hb hml hown hts hK hE hA hW rfl (by decide) rfl (pm_inG (pm_ml_14_91) rfl) hC rfl (rfl : pm_S[0]? = some (0, 10, _)) hl.1 (Nat.le_of_ble_eq_true rfl) ⟨by decide, by decide⟩ hcs dL_law_641 (fun rv u1 H1 locs1 hq1 hW1 => ?_)
  obtain ⟨x1, rfl, hC2⟩ := hq1
  clear hC hI hW
  have hW := hW1
  clear hW1
  show W p l e room_1 s m #[Value.ref b] below meth c H1 locs1 cells slots (lw_Z below #[Value.ref b] s) (F0 m 644 ls [.int x1])
  refine lv_pop hx hb dL_law_644 rfl ?_
  refine lv_aload_n hx hb dL_law_645 rfl (lv_at hl 1 rfl) ?_
  refine lv_aload_n hx hb dL_law_646 rfl (lv_at hl 3 rfl) ?_
  refine lv_iload_n hx hb dL_law_647 rfl (lv_at hl 0 rfl) ?_
  refine lv_iconst (v := 1) hx hb dL_law_648 rfl ?_
  refine lv_iadd hx hb dL_law_649 ?_
  refine va_sld hx hb hX hbl hbA hW.2.2 (hi 1 (by decide) (by decide)) dL_law_650 ?_
  refine lv_aload_n hx hb dL_law_651 rfl (lv_at hl 3 rfl) ?_
  refine lv_iload_n hx hb dL_law_652 rfl (lv_at hl 0 rfl) ?_
  refine lv_iconst (v := 2) hx hb dL_law_653 rfl ?_
  refine lv_iadd hx hb dL_law_654 ?_
  refine va_sld hx hb hX hbl hbA hW.2.2 (hi 2 (by decide) (by decide)) dL_law_655 ?_
  refine pm_callV (As := [.int (xs (i + 1).toNatClampNeg), .int (xs (i + 2).toNatClampNeg)]) (rest := []) (me := (yX11_share, cX11_share, 7, some (.int), 2, 11, false)) (a := 210) (q := 88) (pm_met l 20) hx hb hml hown hts hK hE hA hW rfl (by decide) rfl (pm_inG (pm_ml_14_94) rfl) hC2 rfl (rfl : pm_S[88]? = some (0, 11, _)) hl.1 (Nat.le_of_ble_eq_true rfl) ⟨by decide, by decide⟩ hcs dL_law_656 (fun rv u2 H2 locs2 hq1 hW2 => ?_)
  obtain ⟨hI2, x2, rfl, he⟩ := hq1
  show W p l e room_1 s m #[Value.ref b] below meth c H2 locs2 cells slots (lw_Z below #[Value.ref b] s) (F0 m 659 ls [.int x2])
  refine lv_pop hx hb dL_law_659 rfl ?_
  refine lv_goto (tgt := 1093) hx hb dL_law_660 rfl ?_
  exact kk _ _ _ hI2 hW2

set_option maxHeartbeats 4000000 in
set_option maxRecDepth 100000 in
theorem lw_k_19 {p : Program} {e : Env} {s : State} {m : MethodId} {below : List Frame} {meth : Method} {c : Code} (l : Launch) {b L : Nat} {xs : Nat → Int32} (C0 : lw_At p s m meth c b L xs) (D : va_G) (k : pm_cK) (ad : Nat → Nat) (hK : va_K D vwCl (pm_ty k) s) (hE : pm_E ad (fun q : Nat => s.heap.size ≤ q) s s.heap) {i : Int32} (hi : ∀ v : Int32, 0 ≤ v.toInt → v.toInt ≤ 5 → vp_in (i + v) L) {cells slots : Nat} (hcs : cells ≤ room_1.cells ∧ slots ≤ room_1.slots) {h : pm_Hp} {H : Heap} {locs : List Loc} (hI : ck_Inv lw_SI h) (hW : pm_Wo D k ad (fun q : Nat => s.heap.size ≤ q) s h H locs) {ls : Array Slot} (hl : lv_has ls 4 [(3, .int i), (2, .ref (ad 88)), (1, .ref (ad 0)), (0, .ref b)]) (kk : ∀ (h1 : pm_Hp) (H1 : Heap) (locs1 : List Loc), ck_Inv lw_SI h1 → pm_Wo D k ad (fun q : Nat => s.heap.size ≤ q) s h1 H1 locs1 → W p l e room_1 s m #[Value.ref b] below meth c H1 locs1 cells slots (lw_Z below #[Value.ref b] s) (F0 m 1093 ls [])) : W p l e room_1 s m #[Value.ref b] below meth c H locs cells slots (lw_Z below #[Value.ref b] s) (F0 m 663 ls []) := by
  obtain ⟨hx, hb, hr, hml, hown, hts0, hX, hbl, hlocks, hgv⟩ := id C0
  have hA : ∀ q : Nat, s.heap.size ≤ q → (fun q : Nat => s.heap.size ≤ q) q := fun _ h => h
  have hbA : ¬ (fun q : Nat => s.heap.size ≤ q) b := Nat.not_le.mpr hbl
  have hown : s.vm.findClass RL = some m.cls := hown
  have hts : ∀ w ∈ pm_G, w.before #[Value.ref b] s = true := fun w hw => hts0 w (List.mem_filter.mp hw).1
  refine lv_aload_n hx hb dL_law_663 rfl (lv_at hl 2 rfl) ?_
  have hC := lw_u_19 hI
  refine pm_callV (As := []) (rest := []) (me := (yX10_swap, cX10_swap, 2, some (.int), 0, 10, false)) (a := 117) (q := 0) (pm_met l 20) hx hb hml hown hts hK hE hA hW rfl (by decide) rfl (pm_inG (pm_ml_14_95) rfl) hC rfl (rfl : pm_S[0]? = some (0, 10, _)) hl.1 (Nat.le_of_ble_eq_true rfl) ⟨by decide, by decide⟩ hcs dL_law_664 (fun rv u1 H1 locs1 hq1 hW1 => ?_)
  obtain ⟨x1, rfl, hC2⟩ := hq1
  clear hC hI hW
  have hW := hW1
  clear hW1
  show W p l e room_1 s m #[Value.ref b] below meth c H1 locs1 cells slots (lw_Z below #[Value.ref b] s) (F0 m 667 ls [.int x1])
  refine lv_pop hx hb dL_law_667 rfl ?_
  refine lv_aload_n hx hb dL_law_668 rfl (lv_at hl 1 rfl) ?_
  refine pm_callV (As := []) (rest := []) (me := (yX11_swap, cX11_swap, 7, some (.int), 0, 11, false)) (a := 215) (q := 88) (pm_met l 20) hx hb hml hown hts hK hE hA hW rfl (by decide) rfl (pm_inG (pm_ml_14_98) rfl) hC2 rfl (rfl : pm_S[88]? = some (0, 11, _)) hl.1 (Nat.le_of_ble_eq_true rfl) ⟨by decide, by decide⟩ hcs dL_law_669 (fun rv u2 H2 locs2 hq1 hW2 => ?_)
  obtain ⟨hI2, x2, rfl, he⟩ := hq1
  show W p l e room_1 s m #[Value.ref b] below meth c H2 locs2 cells slots (lw_Z below #[Value.ref b] s) (F0 m 672 ls [.int x2])
  refine lv_pop hx hb dL_law_672 rfl ?_
  refine lv_goto (tgt := 1093) hx hb dL_law_673 rfl ?_
  exact kk _ _ _ hI2 hW2

set_option maxHeartbeats 4000000 in
set_option maxRecDepth 100000 in
theorem lw_k_20 {p : Program} {e : Env} {s : State} {m : MethodId} {below : List Frame} {meth : Method} {c : Code} (l : Launch) {b L : Nat} {xs : Nat → Int32} (C0 : lw_At p s m meth c b L xs) (D : va_G) (k : pm_cK) (ad : Nat → Nat) (hK : va_K D vwCl (pm_ty k) s) (hE : pm_E ad (fun q : Nat => s.heap.size ≤ q) s s.heap) {i : Int32} (hi : ∀ v : Int32, 0 ≤ v.toInt → v.toInt ≤ 5 → vp_in (i + v) L) {cells slots : Nat} (hcs : cells ≤ room_1.cells ∧ slots ≤ room_1.slots) {h : pm_Hp} {H : Heap} {locs : List Loc} (hI : ck_Inv lw_SI h) (hW : pm_Wo D k ad (fun q : Nat => s.heap.size ≤ q) s h H locs) {ls : Array Slot} (hl : lv_has ls 4 [(3, .int i), (2, .ref (ad 88)), (1, .ref (ad 0)), (0, .ref b)]) (kk : ∀ (h1 : pm_Hp) (H1 : Heap) (locs1 : List Loc), ck_Inv lw_SI h1 → pm_Wo D k ad (fun q : Nat => s.heap.size ≤ q) s h1 H1 locs1 → W p l e room_1 s m #[Value.ref b] below meth c H1 locs1 cells slots (lw_Z below #[Value.ref b] s) (F0 m 1093 ls [])) : W p l e room_1 s m #[Value.ref b] below meth c H locs cells slots (lw_Z below #[Value.ref b] s) (F0 m 676 ls []) := by
  obtain ⟨hx, hb, hr, hml, hown, hts0, hX, hbl, hlocks, hgv⟩ := id C0
  have hA : ∀ q : Nat, s.heap.size ≤ q → (fun q : Nat => s.heap.size ≤ q) q := fun _ h => h
  have hbA : ¬ (fun q : Nat => s.heap.size ≤ q) b := Nat.not_le.mpr hbl
  have hown : s.vm.findClass RL = some m.cls := hown
  have hts : ∀ w ∈ pm_G, w.before #[Value.ref b] s = true := fun w hw => hts0 w (List.mem_filter.mp hw).1
  refine lv_aload_n hx hb dL_law_676 rfl (lv_at hl 2 rfl) ?_
  refine lv_aload_n hx hb dL_law_677 rfl (lv_at hl 3 rfl) ?_
  refine lv_iload_n hx hb dL_law_678 rfl (lv_at hl 0 rfl) ?_
  refine lv_iconst (v := 1) hx hb dL_law_679 rfl ?_
  refine lv_iadd hx hb dL_law_680 ?_
  refine va_sld hx hb hX hbl hbA hW.2.2 (hi 1 (by decide) (by decide)) dL_law_681 ?_
  refine lv_aload_n hx hb dL_law_682 rfl (lv_at hl 3 rfl) ?_
  refine lv_iload_n hx hb dL_law_683 rfl (lv_at hl 0 rfl) ?_
  refine lv_iconst (v := 2) hx hb dL_law_684 rfl ?_
  refine lv_iadd hx hb dL_law_685 ?_
  refine va_sld hx hb hX hbl hbA hW.2.2 (hi 2 (by decide) (by decide)) dL_law_686 ?_
  have hC := lw_u_20 hI (xs (i + 1).toNatClampNeg) (xs (i + 2).toNatClampNeg)
  refine pm_callV (As := [.int (xs (i + 1).toNatClampNeg), .int (xs (i + 2).toNatClampNeg)]) (rest := []) (me := (yX10_bribe, cX10_bribe, 4, some (.int), 2, 10, false)) (a := 83) (q := 0) (pm_met l 20) hx hb hml hown hts hK hE hA hW rfl (by decide) rfl (pm_inG (pm_ml_14_99) rfl) hC rfl (rfl : pm_S[0]? = some (0, 10, _)) hl.1 (Nat.le_of_ble_eq_true rfl) ⟨by decide, by decide⟩ hcs dL_law_687 (fun rv u1 H1 locs1 hq1 hW1 => ?_)
  obtain ⟨x1, rfl, hC2⟩ := hq1
  clear hC hI hW
  have hW := hW1
  clear hW1
  show W p l e room_1 s m #[Value.ref b] below meth c H1 locs1 cells slots (lw_Z below #[Value.ref b] s) (F0 m 690 ls [.int x1])
  refine lv_pop hx hb dL_law_690 rfl ?_
  refine lv_aload_n hx hb dL_law_691 rfl (lv_at hl 1 rfl) ?_
  refine lv_aload_n hx hb dL_law_692 rfl (lv_at hl 3 rfl) ?_
  refine lv_iload_n hx hb dL_law_693 rfl (lv_at hl 0 rfl) ?_
  refine lv_iconst (v := 1) hx hb dL_law_694 rfl ?_
  refine lv_iadd hx hb dL_law_695 ?_
  refine va_sld hx hb hX hbl hbA hW.2.2 (hi 1 (by decide) (by decide)) dL_law_696 ?_
  refine lv_aload_n hx hb dL_law_697 rfl (lv_at hl 3 rfl) ?_
  refine lv_iload_n hx hb dL_law_698 rfl (lv_at hl 0 rfl) ?_
  refine lv_iconst (v := 2) hx hb dL_law_699 rfl ?_
  refine lv_iadd hx hb dL_law_700 ?_
  refine va_sld hx hb hX hbl hbA hW.2.2 (hi 2 (by decide) (by decide)) dL_law_701 ?_
  refine pm_callV (As := [.int (xs (i + 1).toNatClampNeg), .int (xs (i + 2).toNatClampNeg)]) (rest := []) (me := (yX11_bribe, cX11_bribe, 3, some (.int), 2, 11, false)) (a := 135) (q := 88) (pm_met l 20) hx hb hml hown hts hK hE hA hW rfl (by decide) rfl (pm_inG (pm_ml_14_102) rfl) hC2 rfl (rfl : pm_S[88]? = some (0, 11, _)) hl.1 (Nat.le_of_ble_eq_true rfl) ⟨by decide, by decide⟩ hcs dL_law_702 (fun rv u2 H2 locs2 hq1 hW2 => ?_)
  obtain ⟨hI2, x2, rfl, he⟩ := hq1
  show W p l e room_1 s m #[Value.ref b] below meth c H2 locs2 cells slots (lw_Z below #[Value.ref b] s) (F0 m 705 ls [.int x2])
  refine lv_pop hx hb dL_law_705 rfl ?_
  refine lv_goto (tgt := 1093) hx hb dL_law_706 rfl ?_
  exact kk _ _ _ hI2 hW2

set_option maxHeartbeats 4000000 in
set_option maxRecDepth 100000 in
theorem lw_k_21 {p : Program} {e : Env} {s : State} {m : MethodId} {below : List Frame} {meth : Method} {c : Code} (l : Launch) {b L : Nat} {xs : Nat → Int32} (C0 : lw_At p s m meth c b L xs) (D : va_G) (k : pm_cK) (ad : Nat → Nat) (hK : va_K D vwCl (pm_ty k) s) (hE : pm_E ad (fun q : Nat => s.heap.size ≤ q) s s.heap) {i : Int32} (hi : ∀ v : Int32, 0 ≤ v.toInt → v.toInt ≤ 5 → vp_in (i + v) L) {cells slots : Nat} (hcs : cells ≤ room_1.cells ∧ slots ≤ room_1.slots) {h : pm_Hp} {H : Heap} {locs : List Loc} (hI : ck_Inv lw_SI h) (hW : pm_Wo D k ad (fun q : Nat => s.heap.size ≤ q) s h H locs) {ls : Array Slot} (hl : lv_has ls 4 [(3, .int i), (2, .ref (ad 88)), (1, .ref (ad 0)), (0, .ref b)]) (kk : ∀ (h1 : pm_Hp) (H1 : Heap) (locs1 : List Loc), ck_Inv lw_SI h1 → pm_Wo D k ad (fun q : Nat => s.heap.size ≤ q) s h1 H1 locs1 → W p l e room_1 s m #[Value.ref b] below meth c H1 locs1 cells slots (lw_Z below #[Value.ref b] s) (F0 m 1093 ls [])) : W p l e room_1 s m #[Value.ref b] below meth c H locs cells slots (lw_Z below #[Value.ref b] s) (F0 m 709 ls []) := by
  obtain ⟨hx, hb, hr, hml, hown, hts0, hX, hbl, hlocks, hgv⟩ := id C0
  have hA : ∀ q : Nat, s.heap.size ≤ q → (fun q : Nat => s.heap.size ≤ q) q := fun _ h => h
  have hbA : ¬ (fun q : Nat => s.heap.size ≤ q) b := Nat.not_le.mpr hbl
  have hown : s.vm.findClass RL = some m.cls := hown
  have hts : ∀ w ∈ pm_G, w.before #[Value.ref b] s = true := fun w hw => hts0 w (List.mem_filter.mp hw).1
  refine lv_aload_n hx hb dL_law_709 rfl (lv_at hl 2 rfl) ?_
  have hC := lw_u_21 hI
  refine pm_callV (As := []) (rest := []) (me := (yX10_used, cX10_used, 1, some (.int), 0, 10, false)) (a := 122) (q := 0) (pm_met l 20) hx hb hml hown hts hK hE hA hW rfl (by decide) rfl (pm_inG (pm_ml_14_103) rfl) hC rfl (rfl : pm_S[0]? = some (0, 10, _)) hl.1 (Nat.le_of_ble_eq_true rfl) ⟨by decide, by decide⟩ hcs dL_law_710 (fun rv u1 H1 locs1 hq1 hW1 => ?_)
  obtain ⟨x1, rfl, hC2⟩ := hq1
  clear hC hI hW
  have hW := hW1
  clear hW1
  show W p l e room_1 s m #[Value.ref b] below meth c H1 locs1 cells slots (lw_Z below #[Value.ref b] s) (F0 m 713 ls [.int x1])
  refine lv_pop hx hb dL_law_713 rfl ?_
  refine lv_aload_n hx hb dL_law_714 rfl (lv_at hl 1 rfl) ?_
  refine pm_callV (As := []) (rest := []) (me := (yX11_used, cX11_used, 5, some (.int), 0, 11, false)) (a := 226) (q := 88) (pm_met l 20) hx hb hml hown hts hK hE hA hW rfl (by decide) rfl (pm_inG (pm_ml_14_106) rfl) hC2 rfl (rfl : pm_S[88]? = some (0, 11, _)) hl.1 (Nat.le_of_ble_eq_true rfl) ⟨by decide, by decide⟩ hcs dL_law_715 (fun rv u2 H2 locs2 hq1 hW2 => ?_)
  obtain ⟨hI2, x2, rfl, he⟩ := hq1
  show W p l e room_1 s m #[Value.ref b] below meth c H2 locs2 cells slots (lw_Z below #[Value.ref b] s) (F0 m 718 ls [.int x2])
  refine lv_pop hx hb dL_law_718 rfl ?_
  refine lv_goto (tgt := 1093) hx hb dL_law_719 rfl ?_
  exact kk _ _ _ hI2 hW2

set_option maxHeartbeats 4000000 in
set_option maxRecDepth 100000 in
theorem lw_k_22 {p : Program} {e : Env} {s : State} {m : MethodId} {below : List Frame} {meth : Method} {c : Code} (l : Launch) {b L : Nat} {xs : Nat → Int32} (C0 : lw_At p s m meth c b L xs) (D : va_G) (k : pm_cK) (ad : Nat → Nat) (hK : va_K D vwCl (pm_ty k) s) (hE : pm_E ad (fun q : Nat => s.heap.size ≤ q) s s.heap) {i : Int32} (hi : ∀ v : Int32, 0 ≤ v.toInt → v.toInt ≤ 5 → vp_in (i + v) L) {cells slots : Nat} (hcs : cells ≤ room_1.cells ∧ slots ≤ room_1.slots) {h : pm_Hp} {H : Heap} {locs : List Loc} (hI : ck_Inv lw_SI h) (hW : pm_Wo D k ad (fun q : Nat => s.heap.size ≤ q) s h H locs) {ls : Array Slot} (hl : lv_has ls 4 [(3, .int i), (2, .ref (ad 88)), (1, .ref (ad 0)), (0, .ref b)]) (kk : ∀ (h1 : pm_Hp) (H1 : Heap) (locs1 : List Loc), ck_Inv lw_SI h1 → pm_Wo D k ad (fun q : Nat => s.heap.size ≤ q) s h1 H1 locs1 → W p l e room_1 s m #[Value.ref b] below meth c H1 locs1 cells slots (lw_Z below #[Value.ref b] s) (F0 m 1093 ls [])) : W p l e room_1 s m #[Value.ref b] below meth c H locs cells slots (lw_Z below #[Value.ref b] s) (F0 m 722 ls []) := by
  obtain ⟨hx, hb, hr, hml, hown, hts0, hX, hbl, hlocks, hgv⟩ := id C0
  have hA : ∀ q : Nat, s.heap.size ≤ q → (fun q : Nat => s.heap.size ≤ q) q := fun _ h => h
  have hbA : ¬ (fun q : Nat => s.heap.size ≤ q) b := Nat.not_le.mpr hbl
  have hown : s.vm.findClass RL = some m.cls := hown
  have hts : ∀ w ∈ pm_G, w.before #[Value.ref b] s = true := fun w hw => hts0 w (List.mem_filter.mp hw).1
  refine lv_aload_n hx hb dL_law_722 rfl (lv_at hl 2 rfl) ?_
  refine lv_aload_n hx hb dL_law_723 rfl (lv_at hl 3 rfl) ?_
  refine lv_iload_n hx hb dL_law_724 rfl (lv_at hl 0 rfl) ?_
  refine lv_iconst (v := 1) hx hb dL_law_725 rfl ?_
  refine lv_iadd hx hb dL_law_726 ?_
  refine va_sld hx hb hX hbl hbA hW.2.2 (hi 1 (by decide) (by decide)) dL_law_727 ?_
  have hC := lw_u_22 hI (xs (i + 1).toNatClampNeg)
  refine pm_callV (As := [.int (xs (i + 1).toNatClampNeg)]) (rest := []) (me := (yX10_shortest, cX10_shortest, 2, some (.int), 1, 10, false)) (a := 114) (q := 0) (pm_met l 20) hx hb hml hown hts hK hE hA hW rfl (by decide) rfl (pm_inG (pm_ml_14_107) rfl) hC rfl (rfl : pm_S[0]? = some (0, 10, _)) hl.1 (Nat.le_of_ble_eq_true rfl) ⟨by decide, by decide⟩ hcs dL_law_728 (fun rv u1 H1 locs1 hq1 hW1 => ?_)
  obtain ⟨x1, rfl, hC2⟩ := hq1
  clear hC hI hW
  have hW := hW1
  clear hW1
  show W p l e room_1 s m #[Value.ref b] below meth c H1 locs1 cells slots (lw_Z below #[Value.ref b] s) (F0 m 731 ls [.int x1])
  refine lv_pop hx hb dL_law_731 rfl ?_
  refine lv_aload_n hx hb dL_law_732 rfl (lv_at hl 1 rfl) ?_
  refine lv_aload_n hx hb dL_law_733 rfl (lv_at hl 3 rfl) ?_
  refine lv_iload_n hx hb dL_law_734 rfl (lv_at hl 0 rfl) ?_
  refine lv_iconst (v := 1) hx hb dL_law_735 rfl ?_
  refine lv_iadd hx hb dL_law_736 ?_
  refine va_sld hx hb hX hbl hbA hW.2.2 (hi 1 (by decide) (by decide)) dL_law_737 ?_
  refine pm_callV (As := [.int (xs (i + 1).toNatClampNeg)]) (rest := []) (me := (yX11_shortest, cX11_shortest, 2, some (.int), 1, 11, false)) (a := 211) (q := 88) (pm_met l 20) hx hb hml hown hts hK hE hA hW rfl (by decide) rfl (pm_inG (pm_ml_14_110) rfl) hC2 rfl (rfl : pm_S[88]? = some (0, 11, _)) hl.1 (Nat.le_of_ble_eq_true rfl) ⟨by decide, by decide⟩ hcs dL_law_738 (fun rv u2 H2 locs2 hq1 hW2 => ?_)
  obtain ⟨hI2, x2, rfl, he⟩ := hq1
  show W p l e room_1 s m #[Value.ref b] below meth c H2 locs2 cells slots (lw_Z below #[Value.ref b] s) (F0 m 741 ls [.int x2])
  refine lv_pop hx hb dL_law_741 rfl ?_
  refine lv_goto (tgt := 1093) hx hb dL_law_742 rfl ?_
  exact kk _ _ _ hI2 hW2

set_option maxHeartbeats 4000000 in
set_option maxRecDepth 100000 in
theorem lw_k_23 {p : Program} {e : Env} {s : State} {m : MethodId} {below : List Frame} {meth : Method} {c : Code} (l : Launch) {b L : Nat} {xs : Nat → Int32} (C0 : lw_At p s m meth c b L xs) (D : va_G) (k : pm_cK) (ad : Nat → Nat) (hK : va_K D vwCl (pm_ty k) s) (hE : pm_E ad (fun q : Nat => s.heap.size ≤ q) s s.heap) {i : Int32} (hi : ∀ v : Int32, 0 ≤ v.toInt → v.toInt ≤ 5 → vp_in (i + v) L) {cells slots : Nat} (hcs : cells ≤ room_1.cells ∧ slots ≤ room_1.slots) {h : pm_Hp} {H : Heap} {locs : List Loc} (hI : ck_Inv lw_SI h) (hW : pm_Wo D k ad (fun q : Nat => s.heap.size ≤ q) s h H locs) {ls : Array Slot} (hl : lv_has ls 4 [(3, .int i), (2, .ref (ad 88)), (1, .ref (ad 0)), (0, .ref b)]) (kk : ∀ (h1 : pm_Hp) (H1 : Heap) (locs1 : List Loc), ck_Inv lw_SI h1 → pm_Wo D k ad (fun q : Nat => s.heap.size ≤ q) s h1 H1 locs1 → W p l e room_1 s m #[Value.ref b] below meth c H1 locs1 cells slots (lw_Z below #[Value.ref b] s) (F0 m 1093 ls [])) : W p l e room_1 s m #[Value.ref b] below meth c H locs cells slots (lw_Z below #[Value.ref b] s) (F0 m 745 ls []) := by
  obtain ⟨hx, hb, hr, hml, hown, hts0, hX, hbl, hlocks, hgv⟩ := id C0
  have hA : ∀ q : Nat, s.heap.size ≤ q → (fun q : Nat => s.heap.size ≤ q) q := fun _ h => h
  have hbA : ¬ (fun q : Nat => s.heap.size ≤ q) b := Nat.not_le.mpr hbl
  have hown : s.vm.findClass RL = some m.cls := hown
  have hts : ∀ w ∈ pm_G, w.before #[Value.ref b] s = true := fun w hw => hts0 w (List.mem_filter.mp hw).1
  refine lv_aload_n hx hb dL_law_745 rfl (lv_at hl 2 rfl) ?_
  have hC := lw_u_23 hI
  refine pm_callV (As := []) (rest := []) (me := (yX10_doubtful, cX10_doubtful, 4, some (.int), 0, 10, false)) (a := 84) (q := 0) (pm_met l 20) hx hb hml hown hts hK hE hA hW rfl (by decide) rfl (pm_inG (pm_ml_14_111) rfl) hC rfl (rfl : pm_S[0]? = some (0, 10, _)) hl.1 (Nat.le_of_ble_eq_true rfl) ⟨by decide, by decide⟩ hcs dL_law_746 (fun rv u1 H1 locs1 hq1 hW1 => ?_)
  obtain ⟨x1, rfl, hC2⟩ := hq1
  clear hC hI hW
  have hW := hW1
  clear hW1
  show W p l e room_1 s m #[Value.ref b] below meth c H1 locs1 cells slots (lw_Z below #[Value.ref b] s) (F0 m 749 ls [.int x1])
  refine lv_pop hx hb dL_law_749 rfl ?_
  refine lv_aload_n hx hb dL_law_750 rfl (lv_at hl 1 rfl) ?_
  refine pm_callV (As := []) (rest := []) (me := (yX11_doubtful, cX11_doubtful, 4, some (.int), 0, 11, false)) (a := 141) (q := 88) (pm_met l 20) hx hb hml hown hts hK hE hA hW rfl (by decide) rfl (pm_inG (pm_ml_14_114) rfl) hC2 rfl (rfl : pm_S[88]? = some (0, 11, _)) hl.1 (Nat.le_of_ble_eq_true rfl) ⟨by decide, by decide⟩ hcs dL_law_751 (fun rv u2 H2 locs2 hq1 hW2 => ?_)
  obtain ⟨hI2, x2, rfl, he⟩ := hq1
  show W p l e room_1 s m #[Value.ref b] below meth c H2 locs2 cells slots (lw_Z below #[Value.ref b] s) (F0 m 754 ls [.int x2])
  refine lv_pop hx hb dL_law_754 rfl ?_
  refine lv_goto (tgt := 1093) hx hb dL_law_755 rfl ?_
  exact kk _ _ _ hI2 hW2

set_option maxHeartbeats 4000000 in
set_option maxRecDepth 100000 in
theorem lw_k_24 {p : Program} {e : Env} {s : State} {m : MethodId} {below : List Frame} {meth : Method} {c : Code} (l : Launch) {b L : Nat} {xs : Nat → Int32} (C0 : lw_At p s m meth c b L xs) (D : va_G) (k : pm_cK) (ad : Nat → Nat) (hK : va_K D vwCl (pm_ty k) s) (hE : pm_E ad (fun q : Nat => s.heap.size ≤ q) s s.heap) {i : Int32} (hi : ∀ v : Int32, 0 ≤ v.toInt → v.toInt ≤ 5 → vp_in (i + v) L) {cells slots : Nat} (hcs : cells ≤ room_1.cells ∧ slots ≤ room_1.slots) {h : pm_Hp} {H : Heap} {locs : List Loc} (hI : ck_Inv lw_SI h) (hW : pm_Wo D k ad (fun q : Nat => s.heap.size ≤ q) s h H locs) {ls : Array Slot} (hl : lv_has ls 4 [(3, .int i), (2, .ref (ad 88)), (1, .ref (ad 0)), (0, .ref b)]) (kk : ∀ (h1 : pm_Hp) (H1 : Heap) (locs1 : List Loc), ck_Inv lw_SI h1 → pm_Wo D k ad (fun q : Nat => s.heap.size ≤ q) s h1 H1 locs1 → W p l e room_1 s m #[Value.ref b] below meth c H1 locs1 cells slots (lw_Z below #[Value.ref b] s) (F0 m 1093 ls [])) : W p l e room_1 s m #[Value.ref b] below meth c H locs cells slots (lw_Z below #[Value.ref b] s) (F0 m 758 ls []) := by
  obtain ⟨hx, hb, hr, hml, hown, hts0, hX, hbl, hlocks, hgv⟩ := id C0
  have hA : ∀ q : Nat, s.heap.size ≤ q → (fun q : Nat => s.heap.size ≤ q) q := fun _ h => h
  have hbA : ¬ (fun q : Nat => s.heap.size ≤ q) b := Nat.not_le.mpr hbl
  have hown : s.vm.findClass RL = some m.cls := hown
  have hts : ∀ w ∈ pm_G, w.before #[Value.ref b] s = true := fun w hw => hts0 w (List.mem_filter.mp hw).1
  refine lv_aload_n hx hb dL_law_758 rfl (lv_at hl 2 rfl) ?_
  refine lv_aload_n hx hb dL_law_759 rfl (lv_at hl 3 rfl) ?_
  refine lv_iload_n hx hb dL_law_760 rfl (lv_at hl 0 rfl) ?_
  refine lv_iconst (v := 1) hx hb dL_law_761 rfl ?_
  refine lv_iadd hx hb dL_law_762 ?_
  refine va_sld hx hb hX hbl hbA hW.2.2 (hi 1 (by decide) (by decide)) dL_law_763 ?_
  have hC := lw_u_24 hI (xs (i + 1).toNatClampNeg)
  refine pm_callV (As := [.int (xs (i + 1).toNatClampNeg)]) (rest := []) (me := (yX10_lots, cX10_lots, 5, some (.int), 1, 10, false)) (a := 101) (q := 0) (pm_met l 20) hx hb hml hown hts hK hE hA hW rfl (by decide) rfl (pm_inG (pm_ml_14_115) rfl) hC rfl (rfl : pm_S[0]? = some (0, 10, _)) hl.1 (Nat.le_of_ble_eq_true rfl) ⟨by decide, by decide⟩ hcs dL_law_764 (fun rv u1 H1 locs1 hq1 hW1 => ?_)
  obtain ⟨x1, rfl, hC2⟩ := hq1
  clear hC hI hW
  have hW := hW1
  clear hW1
  show W p l e room_1 s m #[Value.ref b] below meth c H1 locs1 cells slots (lw_Z below #[Value.ref b] s) (F0 m 767 ls [.int x1])
  refine lv_pop hx hb dL_law_767 rfl ?_
  refine lv_aload_n hx hb dL_law_768 rfl (lv_at hl 1 rfl) ?_
  refine lv_aload_n hx hb dL_law_769 rfl (lv_at hl 3 rfl) ?_
  refine lv_iload_n hx hb dL_law_770 rfl (lv_at hl 0 rfl) ?_
  refine lv_iconst (v := 1) hx hb dL_law_771 rfl ?_
  refine lv_iadd hx hb dL_law_772 ?_
  refine va_sld hx hb hX hbl hbA hW.2.2 (hi 1 (by decide) (by decide)) dL_law_773 ?_
  refine pm_callV (As := [.int (xs (i + 1).toNatClampNeg)]) (rest := []) (me := (yX11_lots, cX11_lots, 4, some (.int), 1, 11, false)) (a := 184) (q := 88) (pm_met l 20) hx hb hml hown hts hK hE hA hW rfl (by decide) rfl (pm_inG (pm_ml_14_118) rfl) hC2 rfl (rfl : pm_S[88]? = some (0, 11, _)) hl.1 (Nat.le_of_ble_eq_true rfl) ⟨by decide, by decide⟩ hcs dL_law_774 (fun rv u2 H2 locs2 hq1 hW2 => ?_)
  obtain ⟨hI2, x2, rfl, he⟩ := hq1
  show W p l e room_1 s m #[Value.ref b] below meth c H2 locs2 cells slots (lw_Z below #[Value.ref b] s) (F0 m 777 ls [.int x2])
  refine lv_pop hx hb dL_law_777 rfl ?_
  refine lv_goto (tgt := 1093) hx hb dL_law_778 rfl ?_
  exact kk _ _ _ hI2 hW2

set_option maxHeartbeats 4000000 in
set_option maxRecDepth 100000 in
theorem lw_k_25 {p : Program} {e : Env} {s : State} {m : MethodId} {below : List Frame} {meth : Method} {c : Code} (l : Launch) {b L : Nat} {xs : Nat → Int32} (C0 : lw_At p s m meth c b L xs) (D : va_G) (k : pm_cK) (ad : Nat → Nat) (hK : va_K D vwCl (pm_ty k) s) (hE : pm_E ad (fun q : Nat => s.heap.size ≤ q) s s.heap) {i : Int32} (hi : ∀ v : Int32, 0 ≤ v.toInt → v.toInt ≤ 5 → vp_in (i + v) L) {cells slots : Nat} (hcs : cells ≤ room_1.cells ∧ slots ≤ room_1.slots) {h : pm_Hp} {H : Heap} {locs : List Loc} (hI : ck_Inv lw_SI h) (hW : pm_Wo D k ad (fun q : Nat => s.heap.size ≤ q) s h H locs) {ls : Array Slot} (hl : lv_has ls 4 [(3, .int i), (2, .ref (ad 88)), (1, .ref (ad 0)), (0, .ref b)]) (kk : ∀ (h1 : pm_Hp) (H1 : Heap) (locs1 : List Loc), ck_Inv lw_SI h1 → pm_Wo D k ad (fun q : Nat => s.heap.size ≤ q) s h1 H1 locs1 → W p l e room_1 s m #[Value.ref b] below meth c H1 locs1 cells slots (lw_Z below #[Value.ref b] s) (F0 m 1093 ls [])) : W p l e room_1 s m #[Value.ref b] below meth c H locs cells slots (lw_Z below #[Value.ref b] s) (F0 m 781 ls []) := by
  obtain ⟨hx, hb, hr, hml, hown, hts0, hX, hbl, hlocks, hgv⟩ := id C0
  have hA : ∀ q : Nat, s.heap.size ≤ q → (fun q : Nat => s.heap.size ≤ q) q := fun _ h => h
  have hbA : ¬ (fun q : Nat => s.heap.size ≤ q) b := Nat.not_le.mpr hbl
  have hown : s.vm.findClass RL = some m.cls := hown
  have hts : ∀ w ∈ pm_G, w.before #[Value.ref b] s = true := fun w hw => hts0 w (List.mem_filter.mp hw).1
  refine lv_aload_n hx hb dL_law_781 rfl (lv_at hl 2 rfl) ?_
  refine lv_aload_n hx hb dL_law_782 rfl (lv_at hl 3 rfl) ?_
  refine lv_iload_n hx hb dL_law_783 rfl (lv_at hl 0 rfl) ?_
  refine lv_iconst (v := 1) hx hb dL_law_784 rfl ?_
  refine lv_iadd hx hb dL_law_785 ?_
  refine va_sld hx hb hX hbl hbA hW.2.2 (hi 1 (by decide) (by decide)) dL_law_786 ?_
  refine lv_aload_n hx hb dL_law_787 rfl (lv_at hl 3 rfl) ?_
  refine lv_iload_n hx hb dL_law_788 rfl (lv_at hl 0 rfl) ?_
  refine lv_iconst (v := 2) hx hb dL_law_789 rfl ?_
  refine lv_iadd hx hb dL_law_790 ?_
  refine va_sld hx hb hX hbl hbA hW.2.2 (hi 2 (by decide) (by decide)) dL_law_791 ?_
  have hC := lw_u_25 hI (xs (i + 1).toNatClampNeg) (xs (i + 2).toNatClampNeg)
  refine pm_callV (As := [.int (xs (i + 1).toNatClampNeg), .int (xs (i + 2).toNatClampNeg)]) (rest := []) (me := (yX10_hole, cX10_hole, 4, some (.boolean), 2, 10, false)) (a := 94) (q := 0) (pm_met l 20) hx hb hml hown hts hK hE hA hW rfl (by decide) rfl (pm_inG (pm_ml_14_119) rfl) hC rfl (rfl : pm_S[0]? = some (0, 10, _)) hl.1 (Nat.le_of_ble_eq_true rfl) ⟨by decide, by decide⟩ hcs dL_law_792 (fun rv u1 H1 locs1 hq1 hW1 => ?_)
  obtain ⟨x1, rfl, hC2⟩ := hq1
  clear hC hI hW
  have hW := hW1
  clear hW1
  show W p l e room_1 s m #[Value.ref b] below meth c H1 locs1 cells slots (lw_Z below #[Value.ref b] s) (F0 m 795 ls [.int x1])
  refine lv_pop hx hb dL_law_795 rfl ?_
  refine lv_aload_n hx hb dL_law_796 rfl (lv_at hl 1 rfl) ?_
  refine lv_aload_n hx hb dL_law_797 rfl (lv_at hl 3 rfl) ?_
  refine lv_iload_n hx hb dL_law_798 rfl (lv_at hl 0 rfl) ?_
  refine lv_iconst (v := 1) hx hb dL_law_799 rfl ?_
  refine lv_iadd hx hb dL_law_800 ?_
  refine va_sld hx hb hX hbl hbA hW.2.2 (hi 1 (by decide) (by decide)) dL_law_801 ?_
  refine lv_aload_n hx hb dL_law_802 rfl (lv_at hl 3 rfl) ?_
  refine lv_iload_n hx hb dL_law_803 rfl (lv_at hl 0 rfl) ?_
  refine lv_iconst (v := 2) hx hb dL_law_804 rfl ?_
  refine lv_iadd hx hb dL_law_805 ?_
  refine va_sld hx hb hX hbl hbA hW.2.2 (hi 2 (by decide) (by decide)) dL_law_806 ?_
  refine pm_callV (As := [.int (xs (i + 1).toNatClampNeg), .int (xs (i + 2).toNatClampNeg)]) (rest := []) (me := (yX11_hole, cX11_hole, 3, some (.boolean), 2, 11, false)) (a := 155) (q := 88) (pm_met l 20) hx hb hml hown hts hK hE hA hW rfl (by decide) rfl (pm_inG (pm_ml_14_123) rfl) hC2 rfl (rfl : pm_S[88]? = some (0, 11, _)) hl.1 (Nat.le_of_ble_eq_true rfl) ⟨by decide, by decide⟩ hcs dL_law_807 (fun rv u2 H2 locs2 hq1 hW2 => ?_)
  obtain ⟨hI2, x2, rfl, he⟩ := hq1
  show W p l e room_1 s m #[Value.ref b] below meth c H2 locs2 cells slots (lw_Z below #[Value.ref b] s) (F0 m 810 ls [.int x2])
  refine lv_pop hx hb dL_law_810 rfl ?_
  refine lv_goto (tgt := 1093) hx hb dL_law_811 rfl ?_
  exact kk _ _ _ hI2 hW2

set_option maxHeartbeats 4000000 in
set_option maxRecDepth 100000 in
theorem lw_k_26 {p : Program} {e : Env} {s : State} {m : MethodId} {below : List Frame} {meth : Method} {c : Code} (l : Launch) {b L : Nat} {xs : Nat → Int32} (C0 : lw_At p s m meth c b L xs) (D : va_G) (k : pm_cK) (ad : Nat → Nat) (hK : va_K D vwCl (pm_ty k) s) (hE : pm_E ad (fun q : Nat => s.heap.size ≤ q) s s.heap) {i : Int32} (hi : ∀ v : Int32, 0 ≤ v.toInt → v.toInt ≤ 5 → vp_in (i + v) L) {cells slots : Nat} (hcs : cells ≤ room_1.cells ∧ slots ≤ room_1.slots) {h : pm_Hp} {H : Heap} {locs : List Loc} (hI : ck_Inv lw_SI h) (hW : pm_Wo D k ad (fun q : Nat => s.heap.size ≤ q) s h H locs) {ls : Array Slot} (hl : lv_has ls 4 [(3, .int i), (2, .ref (ad 88)), (1, .ref (ad 0)), (0, .ref b)]) (kk : ∀ (h1 : pm_Hp) (H1 : Heap) (locs1 : List Loc), ck_Inv lw_SI h1 → pm_Wo D k ad (fun q : Nat => s.heap.size ≤ q) s h1 H1 locs1 → W p l e room_1 s m #[Value.ref b] below meth c H1 locs1 cells slots (lw_Z below #[Value.ref b] s) (F0 m 1093 ls [])) : W p l e room_1 s m #[Value.ref b] below meth c H locs cells slots (lw_Z below #[Value.ref b] s) (F0 m 814 ls []) := by
  obtain ⟨hx, hb, hr, hml, hown, hts0, hX, hbl, hlocks, hgv⟩ := id C0
  have hA : ∀ q : Nat, s.heap.size ≤ q → (fun q : Nat => s.heap.size ≤ q) q := fun _ h => h
  have hbA : ¬ (fun q : Nat => s.heap.size ≤ q) b := Nat.not_le.mpr hbl
  have hown : s.vm.findClass RL = some m.cls := hown
  have hts : ∀ w ∈ pm_G, w.before #[Value.ref b] s = true := fun w hw => hts0 w (List.mem_filter.mp hw).1
  refine lv_aload_n hx hb dL_law_814 rfl (lv_at hl 2 rfl) ?_
  have hC := lw_u_26 hI
  refine pm_callV (As := []) (rest := []) (me := (yX10_fit, cX10_fit, 4, some (.int), 0, 10, false)) (a := 88) (q := 0) (pm_met l 20) hx hb hml hown hts hK hE hA hW rfl (by decide) rfl (pm_inG (pm_ml_14_124) rfl) hC rfl (rfl : pm_S[0]? = some (0, 10, _)) hl.1 (Nat.le_of_ble_eq_true rfl) ⟨by decide, by decide⟩ hcs dL_law_815 (fun rv u1 H1 locs1 hq1 hW1 => ?_)
  obtain ⟨x1, rfl, hC2⟩ := hq1
  clear hC hI hW
  have hW := hW1
  clear hW1
  show W p l e room_1 s m #[Value.ref b] below meth c H1 locs1 cells slots (lw_Z below #[Value.ref b] s) (F0 m 818 ls [.int x1])
  refine lv_pop hx hb dL_law_818 rfl ?_
  refine lv_aload_n hx hb dL_law_819 rfl (lv_at hl 1 rfl) ?_
  refine pm_callV (As := []) (rest := []) (me := (yX11_fit, cX11_fit, 1, some (.int), 0, 11, false)) (a := 148) (q := 88) (pm_met l 20) hx hb hml hown hts hK hE hA hW rfl (by decide) rfl (pm_inG (pm_ml_14_127) rfl) hC2 rfl (rfl : pm_S[88]? = some (0, 11, _)) hl.1 (Nat.le_of_ble_eq_true rfl) ⟨by decide, by decide⟩ hcs dL_law_820 (fun rv u2 H2 locs2 hq1 hW2 => ?_)
  obtain ⟨hI2, x2, rfl, he⟩ := hq1
  show W p l e room_1 s m #[Value.ref b] below meth c H2 locs2 cells slots (lw_Z below #[Value.ref b] s) (F0 m 823 ls [.int x2])
  refine lv_pop hx hb dL_law_823 rfl ?_
  refine lv_goto (tgt := 1093) hx hb dL_law_824 rfl ?_
  exact kk _ _ _ hI2 hW2

set_option maxHeartbeats 4000000 in
set_option maxRecDepth 100000 in
theorem lw_k_27 {p : Program} {e : Env} {s : State} {m : MethodId} {below : List Frame} {meth : Method} {c : Code} (l : Launch) {b L : Nat} {xs : Nat → Int32} (C0 : lw_At p s m meth c b L xs) (D : va_G) (k : pm_cK) (ad : Nat → Nat) (hK : va_K D vwCl (pm_ty k) s) (hE : pm_E ad (fun q : Nat => s.heap.size ≤ q) s s.heap) {i : Int32} (hi : ∀ v : Int32, 0 ≤ v.toInt → v.toInt ≤ 5 → vp_in (i + v) L) {cells slots : Nat} (hcs : cells ≤ room_1.cells ∧ slots ≤ room_1.slots) {h : pm_Hp} {H : Heap} {locs : List Loc} (hI : ck_Inv lw_SI h) (hW : pm_Wo D k ad (fun q : Nat => s.heap.size ≤ q) s h H locs) {ls : Array Slot} (hl : lv_has ls 4 [(3, .int i), (2, .ref (ad 88)), (1, .ref (ad 0)), (0, .ref b)]) (kk : ∀ (h1 : pm_Hp) (H1 : Heap) (locs1 : List Loc), ck_Inv lw_SI h1 → pm_Wo D k ad (fun q : Nat => s.heap.size ≤ q) s h1 H1 locs1 → W p l e room_1 s m #[Value.ref b] below meth c H1 locs1 cells slots (lw_Z below #[Value.ref b] s) (F0 m 1093 ls [])) : W p l e room_1 s m #[Value.ref b] below meth c H locs cells slots (lw_Z below #[Value.ref b] s) (F0 m 827 ls []) := by
  obtain ⟨hx, hb, hr, hml, hown, hts0, hX, hbl, hlocks, hgv⟩ := id C0
  have hA : ∀ q : Nat, s.heap.size ≤ q → (fun q : Nat => s.heap.size ≤ q) q := fun _ h => h
  have hbA : ¬ (fun q : Nat => s.heap.size ≤ q) b := Nat.not_le.mpr hbl
  have hown : s.vm.findClass RL = some m.cls := hown
  have hts : ∀ w ∈ pm_G, w.before #[Value.ref b] s = true := fun w hw => hts0 w (List.mem_filter.mp hw).1
  refine lv_aload_n hx hb dL_law_827 rfl (lv_at hl 2 rfl) ?_
  refine lv_aload_n hx hb dL_law_828 rfl (lv_at hl 3 rfl) ?_
  refine lv_iload_n hx hb dL_law_829 rfl (lv_at hl 0 rfl) ?_
  refine lv_iconst (v := 1) hx hb dL_law_830 rfl ?_
  refine lv_iadd hx hb dL_law_831 ?_
  refine va_sld hx hb hX hbl hbA hW.2.2 (hi 1 (by decide) (by decide)) dL_law_832 ?_
  have hC := lw_u_27 hI (xs (i + 1).toNatClampNeg)
  refine pm_callV (As := [.int (xs (i + 1).toNatClampNeg)]) (rest := []) (me := (yX10_best, cX10_best, 5, some (.int), 1, 10, false)) (a := 82) (q := 0) (pm_met l 20) hx hb hml hown hts hK hE hA hW rfl (by decide) rfl (pm_inG (pm_ml_14_128) rfl) hC rfl (rfl : pm_S[0]? = some (0, 10, _)) hl.1 (Nat.le_of_ble_eq_true rfl) ⟨by decide, by decide⟩ hcs dL_law_833 (fun rv u1 H1 locs1 hq1 hW1 => ?_)
  obtain ⟨x1, rfl, hC2⟩ := hq1
  clear hC hI hW
  have hW := hW1
  clear hW1
  show W p l e room_1 s m #[Value.ref b] below meth c H1 locs1 cells slots (lw_Z below #[Value.ref b] s) (F0 m 836 ls [.int x1])
  refine lv_pop hx hb dL_law_836 rfl ?_
  refine lv_aload_n hx hb dL_law_837 rfl (lv_at hl 1 rfl) ?_
  refine lv_aload_n hx hb dL_law_838 rfl (lv_at hl 3 rfl) ?_
  refine lv_iload_n hx hb dL_law_839 rfl (lv_at hl 0 rfl) ?_
  refine lv_iconst (v := 1) hx hb dL_law_840 rfl ?_
  refine lv_iadd hx hb dL_law_841 ?_
  refine va_sld hx hb hX hbl hbA hW.2.2 (hi 1 (by decide) (by decide)) dL_law_842 ?_
  refine pm_callV (As := [.int (xs (i + 1).toNatClampNeg)]) (rest := []) (me := (yX11_best, cX11_best, 4, some (.int), 1, 11, false)) (a := 134) (q := 88) (pm_met l 20) hx hb hml hown hts hK hE hA hW rfl (by decide) rfl (pm_inG (pm_ml_14_131) rfl) hC2 rfl (rfl : pm_S[88]? = some (0, 11, _)) hl.1 (Nat.le_of_ble_eq_true rfl) ⟨by decide, by decide⟩ hcs dL_law_843 (fun rv u2 H2 locs2 hq1 hW2 => ?_)
  obtain ⟨hI2, x2, rfl, he⟩ := hq1
  show W p l e room_1 s m #[Value.ref b] below meth c H2 locs2 cells slots (lw_Z below #[Value.ref b] s) (F0 m 846 ls [.int x2])
  refine lv_pop hx hb dL_law_846 rfl ?_
  refine lv_goto (tgt := 1093) hx hb dL_law_847 rfl ?_
  exact kk _ _ _ hI2 hW2

set_option maxHeartbeats 4000000 in
set_option maxRecDepth 100000 in
theorem lw_k_28 {p : Program} {e : Env} {s : State} {m : MethodId} {below : List Frame} {meth : Method} {c : Code} (l : Launch) {b L : Nat} {xs : Nat → Int32} (C0 : lw_At p s m meth c b L xs) (D : va_G) (k : pm_cK) (ad : Nat → Nat) (hK : va_K D vwCl (pm_ty k) s) (hE : pm_E ad (fun q : Nat => s.heap.size ≤ q) s s.heap) {i : Int32} (hi : ∀ v : Int32, 0 ≤ v.toInt → v.toInt ≤ 5 → vp_in (i + v) L) {cells slots : Nat} (hcs : cells ≤ room_1.cells ∧ slots ≤ room_1.slots) {h : pm_Hp} {H : Heap} {locs : List Loc} (hI : ck_Inv lw_SI h) (hW : pm_Wo D k ad (fun q : Nat => s.heap.size ≤ q) s h H locs) {ls : Array Slot} (hl : lv_has ls 4 [(3, .int i), (2, .ref (ad 88)), (1, .ref (ad 0)), (0, .ref b)]) (kk : ∀ (h1 : pm_Hp) (H1 : Heap) (locs1 : List Loc), ck_Inv lw_SI h1 → pm_Wo D k ad (fun q : Nat => s.heap.size ≤ q) s h1 H1 locs1 → W p l e room_1 s m #[Value.ref b] below meth c H1 locs1 cells slots (lw_Z below #[Value.ref b] s) (F0 m 1093 ls [])) : W p l e room_1 s m #[Value.ref b] below meth c H locs cells slots (lw_Z below #[Value.ref b] s) (F0 m 850 ls []) := by
  obtain ⟨hx, hb, hr, hml, hown, hts0, hX, hbl, hlocks, hgv⟩ := id C0
  have hA : ∀ q : Nat, s.heap.size ≤ q → (fun q : Nat => s.heap.size ≤ q) q := fun _ h => h
  have hbA : ¬ (fun q : Nat => s.heap.size ≤ q) b := Nat.not_le.mpr hbl
  have hown : s.vm.findClass RL = some m.cls := hown
  have hts : ∀ w ∈ pm_G, w.before #[Value.ref b] s = true := fun w hw => hts0 w (List.mem_filter.mp hw).1
  refine lv_aload_n hx hb dL_law_850 rfl (lv_at hl 2 rfl) ?_
  refine lv_aload_n hx hb dL_law_851 rfl (lv_at hl 3 rfl) ?_
  refine lv_iload_n hx hb dL_law_852 rfl (lv_at hl 0 rfl) ?_
  refine lv_iconst (v := 1) hx hb dL_law_853 rfl ?_
  refine lv_iadd hx hb dL_law_854 ?_
  refine va_sld hx hb hX hbl hbA hW.2.2 (hi 1 (by decide) (by decide)) dL_law_855 ?_
  have hC := lw_u_28 hI (xs (i + 1).toNatClampNeg)
  refine pm_callV (As := [.int (xs (i + 1).toNatClampNeg)]) (rest := []) (me := (yX10_struck, cX10_struck, 7, some (.int), 1, 10, false)) (a := 116) (q := 0) (pm_met l 20) hx hb hml hown hts hK hE hA hW rfl (by decide) rfl (pm_inG (pm_ml_14_132) rfl) hC rfl (rfl : pm_S[0]? = some (0, 10, _)) hl.1 (Nat.le_of_ble_eq_true rfl) ⟨by decide, by decide⟩ hcs dL_law_856 (fun rv u1 H1 locs1 hq1 hW1 => ?_)
  obtain ⟨x1, rfl, hC2⟩ := hq1
  clear hC hI hW
  have hW := hW1
  clear hW1
  show W p l e room_1 s m #[Value.ref b] below meth c H1 locs1 cells slots (lw_Z below #[Value.ref b] s) (F0 m 859 ls [.int x1])
  refine lv_pop hx hb dL_law_859 rfl ?_
  refine lv_aload_n hx hb dL_law_860 rfl (lv_at hl 1 rfl) ?_
  refine lv_aload_n hx hb dL_law_861 rfl (lv_at hl 3 rfl) ?_
  refine lv_iload_n hx hb dL_law_862 rfl (lv_at hl 0 rfl) ?_
  refine lv_iconst (v := 1) hx hb dL_law_863 rfl ?_
  refine lv_iadd hx hb dL_law_864 ?_
  refine va_sld hx hb hX hbl hbA hW.2.2 (hi 1 (by decide) (by decide)) dL_law_865 ?_
  refine pm_callV (As := [.int (xs (i + 1).toNatClampNeg)]) (rest := []) (me := (yX11_struck, cX11_struck, 6, some (.int), 1, 11, false)) (a := 213) (q := 88) (pm_met l 20) hx hb hml hown hts hK hE hA hW rfl (by decide) rfl (pm_inG (pm_ml_14_135) rfl) hC2 rfl (rfl : pm_S[88]? = some (0, 11, _)) hl.1 (Nat.le_of_ble_eq_true rfl) ⟨by decide, by decide⟩ hcs dL_law_866 (fun rv u2 H2 locs2 hq1 hW2 => ?_)
  obtain ⟨hI2, x2, rfl, he⟩ := hq1
  show W p l e room_1 s m #[Value.ref b] below meth c H2 locs2 cells slots (lw_Z below #[Value.ref b] s) (F0 m 869 ls [.int x2])
  refine lv_pop hx hb dL_law_869 rfl ?_
  refine lv_goto (tgt := 1093) hx hb dL_law_870 rfl ?_
  exact kk _ _ _ hI2 hW2

set_option maxHeartbeats 4000000 in
set_option maxRecDepth 100000 in
theorem lw_k_29 {p : Program} {e : Env} {s : State} {m : MethodId} {below : List Frame} {meth : Method} {c : Code} (l : Launch) {b L : Nat} {xs : Nat → Int32} (C0 : lw_At p s m meth c b L xs) (D : va_G) (k : pm_cK) (ad : Nat → Nat) (hK : va_K D vwCl (pm_ty k) s) (hE : pm_E ad (fun q : Nat => s.heap.size ≤ q) s s.heap) {i : Int32} (hi : ∀ v : Int32, 0 ≤ v.toInt → v.toInt ≤ 5 → vp_in (i + v) L) {cells slots : Nat} (hcs : cells ≤ room_1.cells ∧ slots ≤ room_1.slots) {h : pm_Hp} {H : Heap} {locs : List Loc} (hI : ck_Inv lw_SI h) (hW : pm_Wo D k ad (fun q : Nat => s.heap.size ≤ q) s h H locs) {ls : Array Slot} (hl : lv_has ls 4 [(3, .int i), (2, .ref (ad 88)), (1, .ref (ad 0)), (0, .ref b)]) (kk : ∀ (h1 : pm_Hp) (H1 : Heap) (locs1 : List Loc), ck_Inv lw_SI h1 → pm_Wo D k ad (fun q : Nat => s.heap.size ≤ q) s h1 H1 locs1 → W p l e room_1 s m #[Value.ref b] below meth c H1 locs1 cells slots (lw_Z below #[Value.ref b] s) (F0 m 1093 ls [])) : W p l e room_1 s m #[Value.ref b] below meth c H locs cells slots (lw_Z below #[Value.ref b] s) (F0 m 873 ls []) := by
  obtain ⟨hx, hb, hr, hml, hown, hts0, hX, hbl, hlocks, hgv⟩ := id C0
  have hA : ∀ q : Nat, s.heap.size ≤ q → (fun q : Nat => s.heap.size ≤ q) q := fun _ h => h
  have hbA : ¬ (fun q : Nat => s.heap.size ≤ q) b := Nat.not_le.mpr hbl
  have hown : s.vm.findClass RL = some m.cls := hown
  have hts : ∀ w ∈ pm_G, w.before #[Value.ref b] s = true := fun w hw => hts0 w (List.mem_filter.mp hw).1
  refine lv_aload_n hx hb dL_law_873 rfl (lv_at hl 2 rfl) ?_
  refine lv_aload_n hx hb dL_law_874 rfl (lv_at hl 3 rfl) ?_
  refine lv_iload_n hx hb dL_law_875 rfl (lv_at hl 0 rfl) ?_
  refine lv_iconst (v := 1) hx hb dL_law_876 rfl ?_
  refine lv_iadd hx hb dL_law_877 ?_
  refine va_sld hx hb hX hbl hbA hW.2.2 (hi 1 (by decide) (by decide)) dL_law_878 ?_
  have hC := lw_u_29 hI (xs (i + 1).toNatClampNeg)
  refine pm_callV (As := [.int (xs (i + 1).toNatClampNeg)]) (rest := []) (me := (yX10_lies, cX10_lies, 2, some (.int), 1, 10, false)) (a := 100) (q := 0) (pm_met l 20) hx hb hml hown hts hK hE hA hW rfl (by decide) rfl (pm_inG (pm_ml_14_136) rfl) hC rfl (rfl : pm_S[0]? = some (0, 10, _)) hl.1 (Nat.le_of_ble_eq_true rfl) ⟨by decide, by decide⟩ hcs dL_law_879 (fun rv u1 H1 locs1 hq1 hW1 => ?_)
  obtain ⟨x1, rfl, hC2⟩ := hq1
  clear hC hI hW
  have hW := hW1
  clear hW1
  show W p l e room_1 s m #[Value.ref b] below meth c H1 locs1 cells slots (lw_Z below #[Value.ref b] s) (F0 m 882 ls [.int x1])
  refine lv_pop hx hb dL_law_882 rfl ?_
  refine lv_aload_n hx hb dL_law_883 rfl (lv_at hl 1 rfl) ?_
  refine lv_aload_n hx hb dL_law_884 rfl (lv_at hl 3 rfl) ?_
  refine lv_iload_n hx hb dL_law_885 rfl (lv_at hl 0 rfl) ?_
  refine lv_iconst (v := 1) hx hb dL_law_886 rfl ?_
  refine lv_iadd hx hb dL_law_887 ?_
  refine va_sld hx hb hX hbl hbA hW.2.2 (hi 1 (by decide) (by decide)) dL_law_888 ?_
  refine pm_callV (As := [.int (xs (i + 1).toNatClampNeg)]) (rest := []) (me := (yX11_lies, cX11_lies, 2, some (.int), 1, 11, false)) (a := 182) (q := 88) (pm_met l 20) hx hb hml hown hts hK hE hA hW rfl (by decide) rfl (pm_inG (pm_ml_14_139) rfl) hC2 rfl (rfl : pm_S[88]? = some (0, 11, _)) hl.1 (Nat.le_of_ble_eq_true rfl) ⟨by decide, by decide⟩ hcs dL_law_889 (fun rv u2 H2 locs2 hq1 hW2 => ?_)
  obtain ⟨hI2, x2, rfl, he⟩ := hq1
  show W p l e room_1 s m #[Value.ref b] below meth c H2 locs2 cells slots (lw_Z below #[Value.ref b] s) (F0 m 892 ls [.int x2])
  refine lv_pop hx hb dL_law_892 rfl ?_
  refine lv_goto (tgt := 1093) hx hb dL_law_893 rfl ?_
  exact kk _ _ _ hI2 hW2

set_option maxHeartbeats 4000000 in
set_option maxRecDepth 100000 in
theorem lw_k_30 {p : Program} {e : Env} {s : State} {m : MethodId} {below : List Frame} {meth : Method} {c : Code} (l : Launch) {b L : Nat} {xs : Nat → Int32} (C0 : lw_At p s m meth c b L xs) (D : va_G) (k : pm_cK) (ad : Nat → Nat) (hK : va_K D vwCl (pm_ty k) s) (hE : pm_E ad (fun q : Nat => s.heap.size ≤ q) s s.heap) {i : Int32} (hi : ∀ v : Int32, 0 ≤ v.toInt → v.toInt ≤ 5 → vp_in (i + v) L) {cells slots : Nat} (hcs : cells ≤ room_1.cells ∧ slots ≤ room_1.slots) {h : pm_Hp} {H : Heap} {locs : List Loc} (hI : ck_Inv lw_SI h) (hW : pm_Wo D k ad (fun q : Nat => s.heap.size ≤ q) s h H locs) {ls : Array Slot} (hl : lv_has ls 4 [(3, .int i), (2, .ref (ad 88)), (1, .ref (ad 0)), (0, .ref b)]) (kk : ∀ (h1 : pm_Hp) (H1 : Heap) (locs1 : List Loc), ck_Inv lw_SI h1 → pm_Wo D k ad (fun q : Nat => s.heap.size ≤ q) s h1 H1 locs1 → W p l e room_1 s m #[Value.ref b] below meth c H1 locs1 cells slots (lw_Z below #[Value.ref b] s) (F0 m 1093 ls [])) : W p l e room_1 s m #[Value.ref b] below meth c H locs cells slots (lw_Z below #[Value.ref b] s) (F0 m 896 ls []) := by
  obtain ⟨hx, hb, hr, hml, hown, hts0, hX, hbl, hlocks, hgv⟩ := id C0
  have hA : ∀ q : Nat, s.heap.size ≤ q → (fun q : Nat => s.heap.size ≤ q) q := fun _ h => h
  have hbA : ¬ (fun q : Nat => s.heap.size ≤ q) b := Nat.not_le.mpr hbl
  have hown : s.vm.findClass RL = some m.cls := hown
  have hts : ∀ w ∈ pm_G, w.before #[Value.ref b] s = true := fun w hw => hts0 w (List.mem_filter.mp hw).1
  by_cases c0 : xs (i + 3).toNatClampNeg = 0
  · refine lv_aload_n hx hb dL_law_896 rfl (lv_at hl 2 rfl) ?_
    refine lv_aload_n hx hb dL_law_897 rfl (lv_at hl 3 rfl) ?_
    refine lv_iload_n hx hb dL_law_898 rfl (lv_at hl 0 rfl) ?_
    refine lv_iconst (v := 1) hx hb dL_law_899 rfl ?_
    refine lv_iadd hx hb dL_law_900 ?_
    refine va_sld hx hb hX hbl hbA hW.2.2 (hi 1 (by decide) (by decide)) dL_law_901 ?_
    refine lv_aload_n hx hb dL_law_902 rfl (lv_at hl 3 rfl) ?_
    refine lv_iload_n hx hb dL_law_903 rfl (lv_at hl 0 rfl) ?_
    refine lv_iconst (v := 2) hx hb dL_law_904 rfl ?_
    refine lv_iadd hx hb dL_law_905 ?_
    refine va_sld hx hb hX hbl hbA hW.2.2 (hi 2 (by decide) (by decide)) dL_law_906 ?_
    refine lv_aload_n hx hb dL_law_907 rfl (lv_at hl 3 rfl) ?_
    refine lv_iload_n hx hb dL_law_908 rfl (lv_at hl 0 rfl) ?_
    refine lv_iconst (v := 3) hx hb dL_law_909 rfl ?_
    refine lv_iadd hx hb dL_law_910 ?_
    refine va_sld hx hb hX hbl hbA hW.2.2 (hi 3 (by decide) (by decide)) dL_law_911 ?_
    refine lv_if_eq (tgt := 919) hx hb dL_law_912 rfl (fun _ => ?_) (fun c9 => absurd c0 c9)
    refine lv_iconst (v := 0) hx hb dL_law_919 rfl ?_
    have hC := lw_u_30 hI (xs (i + 1).toNatClampNeg) (xs (i + 2).toNatClampNeg) 0 (by decide)
    refine pm_callV (As := [.int (xs (i + 1).toNatClampNeg), .int (xs (i + 2).toNatClampNeg), .int 0]) (rest := []) (me := (yX10_seen, cX10_seen, 4, some (.int), 3, 10, false)) (a := 111) (q := 0) (pm_met l 20) hx hb hml hown hts hK hE hA hW rfl (by decide) rfl (pm_inG (pm_ml_14_140) rfl) hC rfl (rfl : pm_S[0]? = some (0, 10, _)) hl.1 (Nat.le_of_ble_eq_true rfl) ⟨by decide, by decide⟩ hcs dL_law_920 (fun rv u1 H1 locs1 hq1 hW1 => ?_)
    obtain ⟨x1, rfl, hC2⟩ := hq1
    clear hC hI hW
    have hW := hW1
    clear hW1
    show W p l e room_1 s m #[Value.ref b] below meth c H1 locs1 cells slots (lw_Z below #[Value.ref b] s) (F0 m 923 ls [.int x1])
    refine lv_pop hx hb dL_law_923 rfl ?_
    refine lv_aload_n hx hb dL_law_924 rfl (lv_at hl 1 rfl) ?_
    refine lv_aload_n hx hb dL_law_925 rfl (lv_at hl 3 rfl) ?_
    refine lv_iload_n hx hb dL_law_926 rfl (lv_at hl 0 rfl) ?_
    refine lv_iconst (v := 1) hx hb dL_law_927 rfl ?_
    refine lv_iadd hx hb dL_law_928 ?_
    refine va_sld hx hb hX hbl hbA hW.2.2 (hi 1 (by decide) (by decide)) dL_law_929 ?_
    refine lv_aload_n hx hb dL_law_930 rfl (lv_at hl 3 rfl) ?_
    refine lv_iload_n hx hb dL_law_931 rfl (lv_at hl 0 rfl) ?_
    refine lv_iconst (v := 2) hx hb dL_law_932 rfl ?_
    refine lv_iadd hx hb dL_law_933 ?_
    refine va_sld hx hb hX hbl hbA hW.2.2 (hi 2 (by decide) (by decide)) dL_law_934 ?_
    refine lv_aload_n hx hb dL_law_935 rfl (lv_at hl 3 rfl) ?_
    refine lv_iload_n hx hb dL_law_936 rfl (lv_at hl 0 rfl) ?_
    refine lv_iconst (v := 3) hx hb dL_law_937 rfl ?_
    refine lv_iadd hx hb dL_law_938 ?_
    refine va_sld hx hb hX hbl hbA hW.2.2 (hi 3 (by decide) (by decide)) dL_law_939 ?_
    refine lv_if_eq (tgt := 947) hx hb dL_law_940 rfl (fun _ => ?_) (fun c9 => absurd c0 c9)
    refine lv_iconst (v := 0) hx hb dL_law_947 rfl ?_
    refine pm_callV (As := [.int (xs (i + 1).toNatClampNeg), .int (xs (i + 2).toNatClampNeg), .int 0]) (rest := []) (me := (yX11_seen, cX11_seen, 4, some (.int), 3, 11, false)) (a := 207) (q := 88) (pm_met l 20) hx hb hml hown hts hK hE hA hW rfl (by decide) rfl (pm_inG (pm_ml_14_144) rfl) hC2 rfl (rfl : pm_S[88]? = some (0, 11, _)) hl.1 (Nat.le_of_ble_eq_true rfl) ⟨by decide, by decide⟩ hcs dL_law_948 (fun rv u2 H2 locs2 hq1 hW2 => ?_)
    obtain ⟨hI2, x2, rfl, he⟩ := hq1
    show W p l e room_1 s m #[Value.ref b] below meth c H2 locs2 cells slots (lw_Z below #[Value.ref b] s) (F0 m 951 ls [.int x2])
    refine lv_pop hx hb dL_law_951 rfl ?_
    refine lv_goto (tgt := 1093) hx hb dL_law_952 rfl ?_
    exact kk _ _ _ hI2 hW2
  · refine lv_aload_n hx hb dL_law_896 rfl (lv_at hl 2 rfl) ?_
    refine lv_aload_n hx hb dL_law_897 rfl (lv_at hl 3 rfl) ?_
    refine lv_iload_n hx hb dL_law_898 rfl (lv_at hl 0 rfl) ?_
    refine lv_iconst (v := 1) hx hb dL_law_899 rfl ?_
    refine lv_iadd hx hb dL_law_900 ?_
    refine va_sld hx hb hX hbl hbA hW.2.2 (hi 1 (by decide) (by decide)) dL_law_901 ?_
    refine lv_aload_n hx hb dL_law_902 rfl (lv_at hl 3 rfl) ?_
    refine lv_iload_n hx hb dL_law_903 rfl (lv_at hl 0 rfl) ?_
    refine lv_iconst (v := 2) hx hb dL_law_904 rfl ?_
    refine lv_iadd hx hb dL_law_905 ?_
    refine va_sld hx hb hX hbl hbA hW.2.2 (hi 2 (by decide) (by decide)) dL_law_906 ?_
    refine lv_aload_n hx hb dL_law_907 rfl (lv_at hl 3 rfl) ?_
    refine lv_iload_n hx hb dL_law_908 rfl (lv_at hl 0 rfl) ?_
    refine lv_iconst (v := 3) hx hb dL_law_909 rfl ?_
    refine lv_iadd hx hb dL_law_910 ?_
    refine va_sld hx hb hX hbl hbA hW.2.2 (hi 3 (by decide) (by decide)) dL_law_911 ?_
    refine lv_if_eq (tgt := 919) hx hb dL_law_912 rfl (fun c9 => absurd c9 c0) (fun _ => ?_)
    refine lv_iconst (v := 1) hx hb dL_law_915 rfl ?_
    refine lv_goto (tgt := 920) hx hb dL_law_916 rfl ?_
    have hC := lw_u_30 hI (xs (i + 1).toNatClampNeg) (xs (i + 2).toNatClampNeg) 1 (by decide)
    refine pm_callV (As := [.int (xs (i + 1).toNatClampNeg), .int (xs (i + 2).toNatClampNeg), .int 1]) (rest := []) (me := (yX10_seen, cX10_seen, 4, some (.int), 3, 10, false)) (a := 111) (q := 0) (pm_met l 20) hx hb hml hown hts hK hE hA hW rfl (by decide) rfl (pm_inG (pm_ml_14_140) rfl) hC rfl (rfl : pm_S[0]? = some (0, 10, _)) hl.1 (Nat.le_of_ble_eq_true rfl) ⟨by decide, by decide⟩ hcs dL_law_920 (fun rv u1 H1 locs1 hq1 hW1 => ?_)
    obtain ⟨x1, rfl, hC2⟩ := hq1
    clear hC hI hW
    have hW := hW1
    clear hW1
    show W p l e room_1 s m #[Value.ref b] below meth c H1 locs1 cells slots (lw_Z below #[Value.ref b] s) (F0 m 923 ls [.int x1])
    refine lv_pop hx hb dL_law_923 rfl ?_
    refine lv_aload_n hx hb dL_law_924 rfl (lv_at hl 1 rfl) ?_
    refine lv_aload_n hx hb dL_law_925 rfl (lv_at hl 3 rfl) ?_
    refine lv_iload_n hx hb dL_law_926 rfl (lv_at hl 0 rfl) ?_
    refine lv_iconst (v := 1) hx hb dL_law_927 rfl ?_
    refine lv_iadd hx hb dL_law_928 ?_
    refine va_sld hx hb hX hbl hbA hW.2.2 (hi 1 (by decide) (by decide)) dL_law_929 ?_
    refine lv_aload_n hx hb dL_law_930 rfl (lv_at hl 3 rfl) ?_
    refine lv_iload_n hx hb dL_law_931 rfl (lv_at hl 0 rfl) ?_
    refine lv_iconst (v := 2) hx hb dL_law_932 rfl ?_
    refine lv_iadd hx hb dL_law_933 ?_
    refine va_sld hx hb hX hbl hbA hW.2.2 (hi 2 (by decide) (by decide)) dL_law_934 ?_
    refine lv_aload_n hx hb dL_law_935 rfl (lv_at hl 3 rfl) ?_
    refine lv_iload_n hx hb dL_law_936 rfl (lv_at hl 0 rfl) ?_
    refine lv_iconst (v := 3) hx hb dL_law_937 rfl ?_
    refine lv_iadd hx hb dL_law_938 ?_
    refine va_sld hx hb hX hbl hbA hW.2.2 (hi 3 (by decide) (by decide)) dL_law_939 ?_
    refine lv_if_eq (tgt := 947) hx hb dL_law_940 rfl (fun c9 => absurd c9 c0) (fun _ => ?_)
    refine lv_iconst (v := 1) hx hb dL_law_943 rfl ?_
    refine lv_goto (tgt := 948) hx hb dL_law_944 rfl ?_
    refine pm_callV (As := [.int (xs (i + 1).toNatClampNeg), .int (xs (i + 2).toNatClampNeg), .int 1]) (rest := []) (me := (yX11_seen, cX11_seen, 4, some (.int), 3, 11, false)) (a := 207) (q := 88) (pm_met l 20) hx hb hml hown hts hK hE hA hW rfl (by decide) rfl (pm_inG (pm_ml_14_144) rfl) hC2 rfl (rfl : pm_S[88]? = some (0, 11, _)) hl.1 (Nat.le_of_ble_eq_true rfl) ⟨by decide, by decide⟩ hcs dL_law_948 (fun rv u2 H2 locs2 hq1 hW2 => ?_)
    obtain ⟨hI2, x2, rfl, he⟩ := hq1
    show W p l e room_1 s m #[Value.ref b] below meth c H2 locs2 cells slots (lw_Z below #[Value.ref b] s) (F0 m 951 ls [.int x2])
    refine lv_pop hx hb dL_law_951 rfl ?_
    refine lv_goto (tgt := 1093) hx hb dL_law_952 rfl ?_
    exact kk _ _ _ hI2 hW2

set_option maxHeartbeats 4000000 in
set_option maxRecDepth 100000 in
theorem lw_k_31 {p : Program} {e : Env} {s : State} {m : MethodId} {below : List Frame} {meth : Method} {c : Code} (l : Launch) {b L : Nat} {xs : Nat → Int32} (C0 : lw_At p s m meth c b L xs) (D : va_G) (k : pm_cK) (ad : Nat → Nat) (hK : va_K D vwCl (pm_ty k) s) (hE : pm_E ad (fun q : Nat => s.heap.size ≤ q) s s.heap) {i : Int32} (hi : ∀ v : Int32, 0 ≤ v.toInt → v.toInt ≤ 5 → vp_in (i + v) L) {cells slots : Nat} (hcs : cells ≤ room_1.cells ∧ slots ≤ room_1.slots) {h : pm_Hp} {H : Heap} {locs : List Loc} (hI : ck_Inv lw_SI h) (hW : pm_Wo D k ad (fun q : Nat => s.heap.size ≤ q) s h H locs) {ls : Array Slot} (hl : lv_has ls 4 [(3, .int i), (2, .ref (ad 88)), (1, .ref (ad 0)), (0, .ref b)]) (kk : ∀ (h1 : pm_Hp) (H1 : Heap) (locs1 : List Loc), ck_Inv lw_SI h1 → pm_Wo D k ad (fun q : Nat => s.heap.size ≤ q) s h1 H1 locs1 → W p l e room_1 s m #[Value.ref b] below meth c H1 locs1 cells slots (lw_Z below #[Value.ref b] s) (F0 m 1093 ls [])) : W p l e room_1 s m #[Value.ref b] below meth c H locs cells slots (lw_Z below #[Value.ref b] s) (F0 m 955 ls []) := by
  obtain ⟨hx, hb, hr, hml, hown, hts0, hX, hbl, hlocks, hgv⟩ := id C0
  have hA : ∀ q : Nat, s.heap.size ≤ q → (fun q : Nat => s.heap.size ≤ q) q := fun _ h => h
  have hbA : ¬ (fun q : Nat => s.heap.size ≤ q) b := Nat.not_le.mpr hbl
  have hown : s.vm.findClass RL = some m.cls := hown
  have hts : ∀ w ∈ pm_G, w.before #[Value.ref b] s = true := fun w hw => hts0 w (List.mem_filter.mp hw).1
  refine lv_aload_n hx hb dL_law_955 rfl (lv_at hl 2 rfl) ?_
  refine lv_aload_n hx hb dL_law_956 rfl (lv_at hl 3 rfl) ?_
  refine lv_iload_n hx hb dL_law_957 rfl (lv_at hl 0 rfl) ?_
  refine lv_iconst (v := 1) hx hb dL_law_958 rfl ?_
  refine lv_iadd hx hb dL_law_959 ?_
  refine va_sld hx hb hX hbl hbA hW.2.2 (hi 1 (by decide) (by decide)) dL_law_960 ?_
  have hC := lw_u_31 hI (xs (i + 1).toNatClampNeg)
  refine pm_callV (As := [.int (xs (i + 1).toNatClampNeg)]) (rest := []) (me := (yX10_untell, cX10_untell, 2, some (.boolean), 1, 10, false)) (a := 121) (q := 0) (pm_met l 20) hx hb hml hown hts hK hE hA hW rfl (by decide) rfl (pm_inG (pm_ml_14_145) rfl) hC rfl (rfl : pm_S[0]? = some (0, 10, _)) hl.1 (Nat.le_of_ble_eq_true rfl) ⟨by decide, by decide⟩ hcs dL_law_961 (fun rv u1 H1 locs1 hq1 hW1 => ?_)
  obtain ⟨x1, rfl, hC2⟩ := hq1
  clear hC hI hW
  have hW := hW1
  clear hW1
  show W p l e room_1 s m #[Value.ref b] below meth c H1 locs1 cells slots (lw_Z below #[Value.ref b] s) (F0 m 964 ls [.int x1])
  refine lv_pop hx hb dL_law_964 rfl ?_
  refine lv_aload_n hx hb dL_law_965 rfl (lv_at hl 1 rfl) ?_
  refine lv_aload_n hx hb dL_law_966 rfl (lv_at hl 3 rfl) ?_
  refine lv_iload_n hx hb dL_law_967 rfl (lv_at hl 0 rfl) ?_
  refine lv_iconst (v := 1) hx hb dL_law_968 rfl ?_
  refine lv_iadd hx hb dL_law_969 ?_
  refine va_sld hx hb hX hbl hbA hW.2.2 (hi 1 (by decide) (by decide)) dL_law_970 ?_
  refine pm_callV (As := [.int (xs (i + 1).toNatClampNeg)]) (rest := []) (me := (yX11_untell, cX11_untell, 2, some (.boolean), 1, 11, false)) (a := 225) (q := 88) (pm_met l 20) hx hb hml hown hts hK hE hA hW rfl (by decide) rfl (pm_inG (pm_ml_14_149) rfl) hC2 rfl (rfl : pm_S[88]? = some (0, 11, _)) hl.1 (Nat.le_of_ble_eq_true rfl) ⟨by decide, by decide⟩ hcs dL_law_971 (fun rv u2 H2 locs2 hq1 hW2 => ?_)
  obtain ⟨hI2, x2, rfl, he⟩ := hq1
  show W p l e room_1 s m #[Value.ref b] below meth c H2 locs2 cells slots (lw_Z below #[Value.ref b] s) (F0 m 974 ls [.int x2])
  refine lv_pop hx hb dL_law_974 rfl ?_
  refine lv_goto (tgt := 1093) hx hb dL_law_975 rfl ?_
  exact kk _ _ _ hI2 hW2

set_option maxHeartbeats 4000000 in
set_option maxRecDepth 100000 in
theorem lw_k_32 {p : Program} {e : Env} {s : State} {m : MethodId} {below : List Frame} {meth : Method} {c : Code} (l : Launch) {b L : Nat} {xs : Nat → Int32} (C0 : lw_At p s m meth c b L xs) (D : va_G) (k : pm_cK) (ad : Nat → Nat) (hK : va_K D vwCl (pm_ty k) s) (hE : pm_E ad (fun q : Nat => s.heap.size ≤ q) s s.heap) {i : Int32} (hi : ∀ v : Int32, 0 ≤ v.toInt → v.toInt ≤ 5 → vp_in (i + v) L) {cells slots : Nat} (hcs : cells ≤ room_1.cells ∧ slots ≤ room_1.slots) {h : pm_Hp} {H : Heap} {locs : List Loc} (hI : ck_Inv lw_SI h) (hW : pm_Wo D k ad (fun q : Nat => s.heap.size ≤ q) s h H locs) {ls : Array Slot} (hl : lv_has ls 4 [(3, .int i), (2, .ref (ad 88)), (1, .ref (ad 0)), (0, .ref b)]) (kk : ∀ (h1 : pm_Hp) (H1 : Heap) (locs1 : List Loc), ck_Inv lw_SI h1 → pm_Wo D k ad (fun q : Nat => s.heap.size ≤ q) s h1 H1 locs1 → W p l e room_1 s m #[Value.ref b] below meth c H1 locs1 cells slots (lw_Z below #[Value.ref b] s) (F0 m 1093 ls [])) : W p l e room_1 s m #[Value.ref b] below meth c H locs cells slots (lw_Z below #[Value.ref b] s) (F0 m 978 ls []) := by
  obtain ⟨hx, hb, hr, hml, hown, hts0, hX, hbl, hlocks, hgv⟩ := id C0
  have hA : ∀ q : Nat, s.heap.size ≤ q → (fun q : Nat => s.heap.size ≤ q) q := fun _ h => h
  have hbA : ¬ (fun q : Nat => s.heap.size ≤ q) b := Nat.not_le.mpr hbl
  have hown : s.vm.findClass RL = some m.cls := hown
  have hts : ∀ w ∈ pm_G, w.before #[Value.ref b] s = true := fun w hw => hts0 w (List.mem_filter.mp hw).1
  refine lv_aload_n hx hb dL_law_978 rfl (lv_at hl 2 rfl) ?_
  refine lv_aload_n hx hb dL_law_979 rfl (lv_at hl 3 rfl) ?_
  refine lv_iload_n hx hb dL_law_980 rfl (lv_at hl 0 rfl) ?_
  refine lv_iconst (v := 1) hx hb dL_law_981 rfl ?_
  refine lv_iadd hx hb dL_law_982 ?_
  refine va_sld hx hb hX hbl hbA hW.2.2 (hi 1 (by decide) (by decide)) dL_law_983 ?_
  have hC := lw_u_32 hI (xs (i + 1).toNatClampNeg)
  refine pm_callV (As := [.int (xs (i + 1).toNatClampNeg)]) (rest := []) (me := (yX10_later, cX10_later, 2, some (.int), 1, 10, false)) (a := 98) (q := 0) (pm_met l 20) hx hb hml hown hts hK hE hA hW rfl (by decide) rfl (pm_inG (pm_ml_14_150) rfl) hC rfl (rfl : pm_S[0]? = some (0, 10, _)) hl.1 (Nat.le_of_ble_eq_true rfl) ⟨by decide, by decide⟩ hcs dL_law_984 (fun rv u1 H1 locs1 hq1 hW1 => ?_)
  obtain ⟨x1, rfl, hC2⟩ := hq1
  clear hC hI hW
  have hW := hW1
  clear hW1
  show W p l e room_1 s m #[Value.ref b] below meth c H1 locs1 cells slots (lw_Z below #[Value.ref b] s) (F0 m 987 ls [.int x1])
  refine lv_aload_n hx hb dL_law_987 rfl (lv_at hl 1 rfl) ?_
  refine lv_aload_n hx hb dL_law_988 rfl (lv_at hl 3 rfl) ?_
  refine lv_iload_n hx hb dL_law_989 rfl (lv_at hl 0 rfl) ?_
  refine lv_iconst (v := 1) hx hb dL_law_990 rfl ?_
  refine lv_iadd hx hb dL_law_991 ?_
  refine va_sld hx hb hX hbl hbA hW.2.2 (hi 1 (by decide) (by decide)) dL_law_992 ?_
  refine pm_callV (As := [.int (xs (i + 1).toNatClampNeg)]) (rest := [.int x1]) (me := (yX11_later, cX11_later, 2, some (.int), 1, 11, false)) (a := 175) (q := 88) (pm_met l 20) hx hb hml hown hts hK hE hA hW rfl (by decide) rfl (pm_inG (pm_ml_14_153) rfl) hC2 rfl (rfl : pm_S[88]? = some (0, 11, _)) hl.1 (Nat.le_of_ble_eq_true rfl) ⟨by decide, by decide⟩ hcs dL_law_993 (fun rv u2 H2 locs2 hq1 hW2 => ?_)
  obtain ⟨hI2, x2, rfl, he⟩ := hq1
  show W p l e room_1 s m #[Value.ref b] below meth c H2 locs2 cells slots (lw_Z below #[Value.ref b] s) (F0 m 996 ls [.int x2, .int x1])
  refine lv_icmp_eq (tgt := 1093) hx hb dL_law_996 rfl (fun _ => ?_) (fun c9 => absurd (he rfl) c9)
  exact kk _ _ _ hI2 hW2

set_option maxHeartbeats 4000000 in
set_option maxRecDepth 100000 in
theorem lw_k_33 {p : Program} {e : Env} {s : State} {m : MethodId} {below : List Frame} {meth : Method} {c : Code} (l : Launch) {b L : Nat} {xs : Nat → Int32} (C0 : lw_At p s m meth c b L xs) (D : va_G) (k : pm_cK) (ad : Nat → Nat) (hK : va_K D vwCl (pm_ty k) s) (hE : pm_E ad (fun q : Nat => s.heap.size ≤ q) s s.heap) {i : Int32} (hi : ∀ v : Int32, 0 ≤ v.toInt → v.toInt ≤ 5 → vp_in (i + v) L) {cells slots : Nat} (hcs : cells ≤ room_1.cells ∧ slots ≤ room_1.slots) {h : pm_Hp} {H : Heap} {locs : List Loc} (hI : ck_Inv lw_SI h) (hW : pm_Wo D k ad (fun q : Nat => s.heap.size ≤ q) s h H locs) {ls : Array Slot} (hl : lv_has ls 4 [(3, .int i), (2, .ref (ad 88)), (1, .ref (ad 0)), (0, .ref b)]) (kk : ∀ (h1 : pm_Hp) (H1 : Heap) (locs1 : List Loc), ck_Inv lw_SI h1 → pm_Wo D k ad (fun q : Nat => s.heap.size ≤ q) s h1 H1 locs1 → W p l e room_1 s m #[Value.ref b] below meth c H1 locs1 cells slots (lw_Z below #[Value.ref b] s) (F0 m 1093 ls [])) : W p l e room_1 s m #[Value.ref b] below meth c H locs cells slots (lw_Z below #[Value.ref b] s) (F0 m 1001 ls []) := by
  obtain ⟨hx, hb, hr, hml, hown, hts0, hX, hbl, hlocks, hgv⟩ := id C0
  have hA : ∀ q : Nat, s.heap.size ≤ q → (fun q : Nat => s.heap.size ≤ q) q := fun _ h => h
  have hbA : ¬ (fun q : Nat => s.heap.size ≤ q) b := Nat.not_le.mpr hbl
  have hown : s.vm.findClass RL = some m.cls := hown
  have hts : ∀ w ∈ pm_G, w.before #[Value.ref b] s = true := fun w hw => hts0 w (List.mem_filter.mp hw).1
  refine lv_aload_n hx hb dL_law_1001 rfl (lv_at hl 2 rfl) ?_
  refine lv_aload_n hx hb dL_law_1002 rfl (lv_at hl 3 rfl) ?_
  refine lv_iload_n hx hb dL_law_1003 rfl (lv_at hl 0 rfl) ?_
  refine lv_iconst (v := 1) hx hb dL_law_1004 rfl ?_
  refine lv_iadd hx hb dL_law_1005 ?_
  refine va_sld hx hb hX hbl hbA hW.2.2 (hi 1 (by decide) (by decide)) dL_law_1006 ?_
  have hC := lw_u_33 hI (xs (i + 1).toNatClampNeg)
  refine pm_callV (As := [.int (xs (i + 1).toNatClampNeg)]) (rest := []) (me := (yX10_orders, cX10_orders, 5, some (.int), 1, 10, false)) (a := 105) (q := 0) (pm_met l 20) hx hb hml hown hts hK hE hA hW rfl (by decide) rfl (pm_inG (pm_ml_14_154) rfl) hC rfl (rfl : pm_S[0]? = some (0, 10, _)) hl.1 (Nat.le_of_ble_eq_true rfl) ⟨by decide, by decide⟩ hcs dL_law_1007 (fun rv u1 H1 locs1 hq1 hW1 => ?_)
  obtain ⟨x1, rfl, hC2⟩ := hq1
  clear hC hI hW
  have hW := hW1
  clear hW1
  show W p l e room_1 s m #[Value.ref b] below meth c H1 locs1 cells slots (lw_Z below #[Value.ref b] s) (F0 m 1010 ls [.int x1])
  refine lv_pop hx hb dL_law_1010 rfl ?_
  refine lv_aload_n hx hb dL_law_1011 rfl (lv_at hl 1 rfl) ?_
  refine lv_aload_n hx hb dL_law_1012 rfl (lv_at hl 3 rfl) ?_
  refine lv_iload_n hx hb dL_law_1013 rfl (lv_at hl 0 rfl) ?_
  refine lv_iconst (v := 1) hx hb dL_law_1014 rfl ?_
  refine lv_iadd hx hb dL_law_1015 ?_
  refine va_sld hx hb hX hbl hbA hW.2.2 (hi 1 (by decide) (by decide)) dL_law_1016 ?_
  refine pm_callV (As := [.int (xs (i + 1).toNatClampNeg)]) (rest := []) (me := (yX11_orders, cX11_orders, 4, some (.int), 1, 11, false)) (a := 192) (q := 88) (pm_met l 20) hx hb hml hown hts hK hE hA hW rfl (by decide) rfl (pm_inG (pm_ml_14_157) rfl) hC2 rfl (rfl : pm_S[88]? = some (0, 11, _)) hl.1 (Nat.le_of_ble_eq_true rfl) ⟨by decide, by decide⟩ hcs dL_law_1017 (fun rv u2 H2 locs2 hq1 hW2 => ?_)
  obtain ⟨hI2, x2, rfl, he⟩ := hq1
  show W p l e room_1 s m #[Value.ref b] below meth c H2 locs2 cells slots (lw_Z below #[Value.ref b] s) (F0 m 1020 ls [.int x2])
  refine lv_pop hx hb dL_law_1020 rfl ?_
  refine lv_goto (tgt := 1093) hx hb dL_law_1021 rfl ?_
  exact kk _ _ _ hI2 hW2

set_option maxHeartbeats 4000000 in
set_option maxRecDepth 100000 in
theorem lw_k_34 {p : Program} {e : Env} {s : State} {m : MethodId} {below : List Frame} {meth : Method} {c : Code} (l : Launch) {b L : Nat} {xs : Nat → Int32} (C0 : lw_At p s m meth c b L xs) (D : va_G) (k : pm_cK) (ad : Nat → Nat) (hK : va_K D vwCl (pm_ty k) s) (hE : pm_E ad (fun q : Nat => s.heap.size ≤ q) s s.heap) {i : Int32} (hi : ∀ v : Int32, 0 ≤ v.toInt → v.toInt ≤ 5 → vp_in (i + v) L) {cells slots : Nat} (hcs : cells ≤ room_1.cells ∧ slots ≤ room_1.slots) {h : pm_Hp} {H : Heap} {locs : List Loc} (hI : ck_Inv lw_SI h) (hW : pm_Wo D k ad (fun q : Nat => s.heap.size ≤ q) s h H locs) {ls : Array Slot} (hl : lv_has ls 4 [(3, .int i), (2, .ref (ad 88)), (1, .ref (ad 0)), (0, .ref b)]) (kk : ∀ (h1 : pm_Hp) (H1 : Heap) (locs1 : List Loc), ck_Inv lw_SI h1 → pm_Wo D k ad (fun q : Nat => s.heap.size ≤ q) s h1 H1 locs1 → W p l e room_1 s m #[Value.ref b] below meth c H1 locs1 cells slots (lw_Z below #[Value.ref b] s) (F0 m 1093 ls [])) : W p l e room_1 s m #[Value.ref b] below meth c H locs cells slots (lw_Z below #[Value.ref b] s) (F0 m 1024 ls []) := by
  obtain ⟨hx, hb, hr, hml, hown, hts0, hX, hbl, hlocks, hgv⟩ := id C0
  have hA : ∀ q : Nat, s.heap.size ≤ q → (fun q : Nat => s.heap.size ≤ q) q := fun _ h => h
  have hbA : ¬ (fun q : Nat => s.heap.size ≤ q) b := Nat.not_le.mpr hbl
  have hown : s.vm.findClass RL = some m.cls := hown
  have hts : ∀ w ∈ pm_G, w.before #[Value.ref b] s = true := fun w hw => hts0 w (List.mem_filter.mp hw).1
  refine lv_aload_n hx hb dL_law_1024 rfl (lv_at hl 2 rfl) ?_
  refine lv_aload_n hx hb dL_law_1025 rfl (lv_at hl 3 rfl) ?_
  refine lv_iload_n hx hb dL_law_1026 rfl (lv_at hl 0 rfl) ?_
  refine lv_iconst (v := 1) hx hb dL_law_1027 rfl ?_
  refine lv_iadd hx hb dL_law_1028 ?_
  refine va_sld hx hb hX hbl hbA hW.2.2 (hi 1 (by decide) (by decide)) dL_law_1029 ?_
  have hC := lw_u_34 hI (xs (i + 1).toNatClampNeg)
  refine pm_callV (As := [.int (xs (i + 1).toNatClampNeg)]) (rest := []) (me := (yX10_image, cX10_image, 2, some (.int), 1, 10, false)) (a := 95) (q := 0) (pm_met l 20) hx hb hml hown hts hK hE hA hW rfl (by decide) rfl (pm_inG (pm_ml_14_158) rfl) hC rfl (rfl : pm_S[0]? = some (0, 10, _)) hl.1 (Nat.le_of_ble_eq_true rfl) ⟨by decide, by decide⟩ hcs dL_law_1030 (fun rv u1 H1 locs1 hq1 hW1 => ?_)
  obtain ⟨x1, rfl, hC2⟩ := hq1
  clear hC hI hW
  have hW := hW1
  clear hW1
  show W p l e room_1 s m #[Value.ref b] below meth c H1 locs1 cells slots (lw_Z below #[Value.ref b] s) (F0 m 1033 ls [.int x1])
  refine lv_pop hx hb dL_law_1033 rfl ?_
  refine lv_aload_n hx hb dL_law_1034 rfl (lv_at hl 1 rfl) ?_
  refine lv_aload_n hx hb dL_law_1035 rfl (lv_at hl 3 rfl) ?_
  refine lv_iload_n hx hb dL_law_1036 rfl (lv_at hl 0 rfl) ?_
  refine lv_iconst (v := 1) hx hb dL_law_1037 rfl ?_
  refine lv_iadd hx hb dL_law_1038 ?_
  refine va_sld hx hb hX hbl hbA hW.2.2 (hi 1 (by decide) (by decide)) dL_law_1039 ?_
  refine pm_callV (As := [.int (xs (i + 1).toNatClampNeg)]) (rest := []) (me := (yX11_image, cX11_image, 3, some (.int), 1, 11, false)) (a := 156) (q := 88) (pm_met l 20) hx hb hml hown hts hK hE hA hW rfl (by decide) rfl (pm_inG (pm_ml_14_161) rfl) hC2 rfl (rfl : pm_S[88]? = some (0, 11, _)) hl.1 (Nat.le_of_ble_eq_true rfl) ⟨by decide, by decide⟩ hcs dL_law_1040 (fun rv u2 H2 locs2 hq1 hW2 => ?_)
  obtain ⟨hI2, x2, rfl, he⟩ := hq1
  show W p l e room_1 s m #[Value.ref b] below meth c H2 locs2 cells slots (lw_Z below #[Value.ref b] s) (F0 m 1043 ls [.int x2])
  refine lv_pop hx hb dL_law_1043 rfl ?_
  refine lv_goto (tgt := 1093) hx hb dL_law_1044 rfl ?_
  exact kk _ _ _ hI2 hW2

set_option maxHeartbeats 4000000 in
set_option maxRecDepth 100000 in
theorem lw_k_35 {p : Program} {e : Env} {s : State} {m : MethodId} {below : List Frame} {meth : Method} {c : Code} (l : Launch) {b L : Nat} {xs : Nat → Int32} (C0 : lw_At p s m meth c b L xs) (D : va_G) (k : pm_cK) (ad : Nat → Nat) (hK : va_K D vwCl (pm_ty k) s) (hE : pm_E ad (fun q : Nat => s.heap.size ≤ q) s s.heap) {i : Int32} (hi : ∀ v : Int32, 0 ≤ v.toInt → v.toInt ≤ 5 → vp_in (i + v) L) {cells slots : Nat} (hcs : cells ≤ room_1.cells ∧ slots ≤ room_1.slots) {h : pm_Hp} {H : Heap} {locs : List Loc} (hI : ck_Inv lw_SI h) (hW : pm_Wo D k ad (fun q : Nat => s.heap.size ≤ q) s h H locs) {ls : Array Slot} (hl : lv_has ls 4 [(3, .int i), (2, .ref (ad 88)), (1, .ref (ad 0)), (0, .ref b)]) (kk : ∀ (h1 : pm_Hp) (H1 : Heap) (locs1 : List Loc), ck_Inv lw_SI h1 → pm_Wo D k ad (fun q : Nat => s.heap.size ≤ q) s h1 H1 locs1 → W p l e room_1 s m #[Value.ref b] below meth c H1 locs1 cells slots (lw_Z below #[Value.ref b] s) (F0 m 1093 ls [])) : W p l e room_1 s m #[Value.ref b] below meth c H locs cells slots (lw_Z below #[Value.ref b] s) (F0 m 1047 ls []) := by
  obtain ⟨hx, hb, hr, hml, hown, hts0, hX, hbl, hlocks, hgv⟩ := id C0
  have hA : ∀ q : Nat, s.heap.size ≤ q → (fun q : Nat => s.heap.size ≤ q) q := fun _ h => h
  have hbA : ¬ (fun q : Nat => s.heap.size ≤ q) b := Nat.not_le.mpr hbl
  have hown : s.vm.findClass RL = some m.cls := hown
  have hts : ∀ w ∈ pm_G, w.before #[Value.ref b] s = true := fun w hw => hts0 w (List.mem_filter.mp hw).1
  refine lv_aload_n hx hb dL_law_1047 rfl (lv_at hl 2 rfl) ?_
  refine lv_aload_n hx hb dL_law_1048 rfl (lv_at hl 3 rfl) ?_
  refine lv_iload_n hx hb dL_law_1049 rfl (lv_at hl 0 rfl) ?_
  refine lv_iconst (v := 1) hx hb dL_law_1050 rfl ?_
  refine lv_iadd hx hb dL_law_1051 ?_
  refine va_sld hx hb hX hbl hbA hW.2.2 (hi 1 (by decide) (by decide)) dL_law_1052 ?_
  have hC := lw_u_35 hI (xs (i + 1).toNatClampNeg)
  refine pm_callV (As := [.int (xs (i + 1).toNatClampNeg)]) (rest := []) (me := (yX10_back, cX10_back, 2, some (.int), 1, 10, false)) (a := 80) (q := 0) (pm_met l 20) hx hb hml hown hts hK hE hA hW rfl (by decide) rfl (pm_inG (pm_ml_14_162) rfl) hC rfl (rfl : pm_S[0]? = some (0, 10, _)) hl.1 (Nat.le_of_ble_eq_true rfl) ⟨by decide, by decide⟩ hcs dL_law_1053 (fun rv u1 H1 locs1 hq1 hW1 => ?_)
  obtain ⟨x1, rfl, hC2⟩ := hq1
  clear hC hI hW
  have hW := hW1
  clear hW1
  show W p l e room_1 s m #[Value.ref b] below meth c H1 locs1 cells slots (lw_Z below #[Value.ref b] s) (F0 m 1056 ls [.int x1])
  refine lv_pop hx hb dL_law_1056 rfl ?_
  refine lv_aload_n hx hb dL_law_1057 rfl (lv_at hl 1 rfl) ?_
  refine lv_aload_n hx hb dL_law_1058 rfl (lv_at hl 3 rfl) ?_
  refine lv_iload_n hx hb dL_law_1059 rfl (lv_at hl 0 rfl) ?_
  refine lv_iconst (v := 1) hx hb dL_law_1060 rfl ?_
  refine lv_iadd hx hb dL_law_1061 ?_
  refine va_sld hx hb hX hbl hbA hW.2.2 (hi 1 (by decide) (by decide)) dL_law_1062 ?_
  refine pm_callV (As := [.int (xs (i + 1).toNatClampNeg)]) (rest := []) (me := (yX11_back, cX11_back, 3, some (.int), 1, 11, false)) (a := 131) (q := 88) (pm_met l 20) hx hb hml hown hts hK hE hA hW rfl (by decide) rfl (pm_inG (pm_ml_14_165) rfl) hC2 rfl (rfl : pm_S[88]? = some (0, 11, _)) hl.1 (Nat.le_of_ble_eq_true rfl) ⟨by decide, by decide⟩ hcs dL_law_1063 (fun rv u2 H2 locs2 hq1 hW2 => ?_)
  obtain ⟨hI2, x2, rfl, he⟩ := hq1
  show W p l e room_1 s m #[Value.ref b] below meth c H2 locs2 cells slots (lw_Z below #[Value.ref b] s) (F0 m 1066 ls [.int x2])
  refine lv_pop hx hb dL_law_1066 rfl ?_
  refine lv_goto (tgt := 1093) hx hb dL_law_1067 rfl ?_
  exact kk _ _ _ hI2 hW2

set_option maxHeartbeats 4000000 in
set_option maxRecDepth 100000 in
theorem lw_k_36 {p : Program} {e : Env} {s : State} {m : MethodId} {below : List Frame} {meth : Method} {c : Code} (l : Launch) {b L : Nat} {xs : Nat → Int32} (C0 : lw_At p s m meth c b L xs) (D : va_G) (k : pm_cK) (ad : Nat → Nat) (hK : va_K D vwCl (pm_ty k) s) (hE : pm_E ad (fun q : Nat => s.heap.size ≤ q) s s.heap) {i : Int32} (hi : ∀ v : Int32, 0 ≤ v.toInt → v.toInt ≤ 5 → vp_in (i + v) L) {cells slots : Nat} (hcs : cells ≤ room_1.cells ∧ slots ≤ room_1.slots) {h : pm_Hp} {H : Heap} {locs : List Loc} (hI : ck_Inv lw_SI h) (hW : pm_Wo D k ad (fun q : Nat => s.heap.size ≤ q) s h H locs) {ls : Array Slot} (hl : lv_has ls 4 [(3, .int i), (2, .ref (ad 88)), (1, .ref (ad 0)), (0, .ref b)]) (kk : ∀ (h1 : pm_Hp) (H1 : Heap) (locs1 : List Loc), ck_Inv lw_SI h1 → pm_Wo D k ad (fun q : Nat => s.heap.size ≤ q) s h1 H1 locs1 → W p l e room_1 s m #[Value.ref b] below meth c H1 locs1 cells slots (lw_Z below #[Value.ref b] s) (F0 m 1093 ls [])) : W p l e room_1 s m #[Value.ref b] below meth c H locs cells slots (lw_Z below #[Value.ref b] s) (F0 m 1070 ls []) := by
  obtain ⟨hx, hb, hr, hml, hown, hts0, hX, hbl, hlocks, hgv⟩ := id C0
  have hA : ∀ q : Nat, s.heap.size ≤ q → (fun q : Nat => s.heap.size ≤ q) q := fun _ h => h
  have hbA : ¬ (fun q : Nat => s.heap.size ≤ q) b := Nat.not_le.mpr hbl
  have hown : s.vm.findClass RL = some m.cls := hown
  have hts : ∀ w ∈ pm_G, w.before #[Value.ref b] s = true := fun w hw => hts0 w (List.mem_filter.mp hw).1
  refine lv_aload_n hx hb dL_law_1070 rfl (lv_at hl 2 rfl) ?_
  refine lv_aload_n hx hb dL_law_1071 rfl (lv_at hl 3 rfl) ?_
  refine lv_iload_n hx hb dL_law_1072 rfl (lv_at hl 0 rfl) ?_
  refine lv_iconst (v := 1) hx hb dL_law_1073 rfl ?_
  refine lv_iadd hx hb dL_law_1074 ?_
  refine va_sld hx hb hX hbl hbA hW.2.2 (hi 1 (by decide) (by decide)) dL_law_1075 ?_
  have hC := lw_u_36 hI (xs (i + 1).toNatClampNeg)
  refine pm_callV (As := [.int (xs (i + 1).toNatClampNeg)]) (rest := []) (me := (yX10_about, cX10_about, 2, some (.int), 1, 10, false)) (a := 79) (q := 0) (pm_met l 20) hx hb hml hown hts hK hE hA hW rfl (by decide) rfl (pm_inG (pm_ml_14_166) rfl) hC rfl (rfl : pm_S[0]? = some (0, 10, _)) hl.1 (Nat.le_of_ble_eq_true rfl) ⟨by decide, by decide⟩ hcs dL_law_1076 (fun rv u1 H1 locs1 hq1 hW1 => ?_)
  obtain ⟨x1, rfl, hC2⟩ := hq1
  clear hC hI hW
  have hW := hW1
  clear hW1
  show W p l e room_1 s m #[Value.ref b] below meth c H1 locs1 cells slots (lw_Z below #[Value.ref b] s) (F0 m 1079 ls [.int x1])
  refine lv_pop hx hb dL_law_1079 rfl ?_
  refine lv_aload_n hx hb dL_law_1080 rfl (lv_at hl 1 rfl) ?_
  refine lv_aload_n hx hb dL_law_1081 rfl (lv_at hl 3 rfl) ?_
  refine lv_iload_n hx hb dL_law_1082 rfl (lv_at hl 0 rfl) ?_
  refine lv_iconst (v := 1) hx hb dL_law_1083 rfl ?_
  refine lv_iadd hx hb dL_law_1084 ?_
  refine va_sld hx hb hX hbl hbA hW.2.2 (hi 1 (by decide) (by decide)) dL_law_1085 ?_
  refine pm_callV (As := [.int (xs (i + 1).toNatClampNeg)]) (rest := []) (me := (yX11_about, cX11_about, 2, some (.int), 1, 11, false)) (a := 128) (q := 88) (pm_met l 20) hx hb hml hown hts hK hE hA hW rfl (by decide) rfl (pm_inG (pm_ml_14_169) rfl) hC2 rfl (rfl : pm_S[88]? = some (0, 11, _)) hl.1 (Nat.le_of_ble_eq_true rfl) ⟨by decide, by decide⟩ hcs dL_law_1086 (fun rv u2 H2 locs2 hq1 hW2 => ?_)
  obtain ⟨hI2, x2, rfl, he⟩ := hq1
  show W p l e room_1 s m #[Value.ref b] below meth c H2 locs2 cells slots (lw_Z below #[Value.ref b] s) (F0 m 1089 ls [.int x2])
  refine lv_pop hx hb dL_law_1089 rfl ?_
  refine lv_goto (tgt := 1093) hx hb dL_law_1090 rfl ?_
  exact kk _ _ _ hI2 hW2
