/-! The pure machine's runs are the real machine's: contracts of all methods out of 'pm_Cd'. -/
def pm_ws (me : pm_Me) : List Cond := Cond.code me.1 me.2.1 me.2.2.1 me.2.2.2.1 :: pm_G
def pm_rm (d : Nat) : Room := { frames := d, cells := 0, slots := 0, locals := 60 * d }
def pm_B (D : va_G) (k : pm_cK) (ad : Nat → Nat) (A : Nat → Prop) (u : pm_Hp) (t : State) : Prop := va_P D vwCl (pm_Wd k ad u) t.heap ∧ va_D A (pm_Wd k ad u)
def pm_Qc (D : va_G) (k : pm_cK) (ad : Nat → Nat) (rt : Option FieldType) (Q : pm_Q) (A : Nat → Prop) : Array Value → State → Outcome → State → Prop := match rt with
  | none => va_Qv (fun u => Q none u) (pm_B D k ad A) A
  | some .long => va_Ql (fun r u => Q (some (.long r)) u) (pm_B D k ad A) A
  | some (.object _) => va_Qr (fun u : pm_Hp × Nat => Q (some (.ref u.2)) u.1) (fun u a t => a = ad u.2 ∧ pm_B D k ad A u.1 t) A
  | some _ => va_Qi (fun r u => Q (some (.int r)) u) (pm_B D k ad A) A
def pm_pre (D : va_G) (k : pm_cK) (ad : Nat → Nat) (h : pm_Hp) (sz : Nat) (U : State) : Prop := U.heap.size = sz ∧ va_P D vwCl (pm_Wd k ad h) U.heap ∧ va_K D vwCl (pm_ty k) U ∧ va_D (fun _ => True) (pm_Wd k ad h) ∧ pm_E ad (va_A (pm_Wd k ad h) sz) U U.heap
def pm_Mt (l : Launch) (d : Nat) : Prop := ∀ (a : Nat) (me : pm_Me) (as : List Value) (h : pm_Hp) (Q : pm_Q) (D : va_G) (k : pm_cK) (ad : Nat → Nat) (sz : Nat), pm_M[a]? = some me → a < 236 → pm_Cd d a as h Q →
  Met l me.1 (pm_ws me) (pm_rm d) (va_Pc (as.map (pm_vr ad)) (pm_pre D k ad h sz)) (pm_Qc D k ad me.2.2.2.1 Q (va_A (pm_Wd k ad h) sz)) 0 0 (va_A (pm_Wd k ad h) sz)
theorem pm_blind {av : List Value} {D : va_G} {k : pm_cK} {ad : Nat → Nat} {h : pm_Hp} {sz : Nat} : FrameBlind (va_Pc av (pm_pre D k ad h sz)) := fun a U g mk q => by
  obtain ⟨q0, q1, qP, qK, qD, qE⟩ := q
  exact ⟨q0, q1, qP, va_K.moved (u := U) (U := U.calling g mk a) (Vm.Alike.refl U.vm) qK, qD, pm_E_same (u := U) (U := U.calling g mk a) rfl rfl qE⟩
theorem pm_good {me : pm_Me} (hm : pm_Mk me) : GoodIn pm_G (pm_ws me) := fun w hw => by
  have hg : w ∈ pm_G := by
    rcases List.mem_cons.mp hw with rfl | h1
    · exact hm.1
    · exact h1
  exact ⟨hg, good_of_word (List.mem_filter.mp hg).2⟩
section
variable {p : Program} {l : Launch} {e : Env} {R : Room} {s : State} {m : MethodId} {args : Array Value} {below : List Frame} {meth : Method} {c : Code} {H : Heap} {locs : List Loc} {cells slots : Nat} {Q : State → Prop} {D : va_G} {k : pm_cK} {ad : Nat → Nat} {A : Nat → Prop} {me : pm_Me} {pc : Nat} {lv : pm_Lv} {st : List Value} {h : pm_Hp} {ls : Array Slot} {cc : ByteArray} {nL a q d i : Nat} {own : String} {As rest : List Value} {Q' : pm_Q} {ks : List Nat}
theorem pm_free (hD : va_D A (pm_Wd k ad h)) (hS : va_S A s.heap H locs) (hA : ∀ q, s.heap.size ≤ q → A q) : ∀ q, va_A (pm_Wd k ad h) H.size q → A q := fun q hq => by
  rcases hq with ⟨j, e1, hj⟩ | hq
  · exact hD.2 j _ hj
  · exact hA q (Nat.le_trans hS.1 hq)
theorem pm_preS (hK : va_K D vwCl (pm_ty k) s) (hE : pm_E ad A s s.heap) (hA : ∀ q, s.heap.size ≤ q → A q) (hW : pm_Wo D k ad A s h H locs) (av : List Value) : PreS s H (va_Pc av (pm_pre D k ad h H.size)) av :=
  ⟨pm_blind, fun U hU hw => ⟨rfl, by rw [hU], by rw [hU]; exact hW.1, va_K.moved hw.alike hK, hW.2.1.weaken (fun _ _ _ _ => trivial), pm_E_at hE hW.2.2 (pm_free hW.2.1 hW.2.2 hA) hU hw⟩⟩
theorem pm_callB (hts : ∀ w ∈ pm_G, w.before args s = true) (hm : pm_Mk me) (hlink : Cond.methodLink own i me.1 ∈ pm_G) (hR : d + 1 ≤ R.frames ∧ 60 * d + 60 ≤ R.locals) : CallB R s args own i me.1 me.2.1 me.2.2.1 me.2.2.2.1 (pm_ws me) (pm_rm d) 0 0 me.2.2.2.2.1 :=
  callB_of (ws' := pm_G) me.2.2.2.2.1 hts (pm_good hm) rfl rfl rfl (hts _ hm.2.1) (hts _ hlink) hm.2.2.1 ⟨hR.1, by have h1 := hm.2.2.2.2.2.2.1; show 8 + (me.2.2.1 + 11) + 60 * d ≤ R.locals; omega⟩
/-- behind a call -/
theorem pm_after {rt : Option FieldType} {A1 : Nat → Prop} {av : Array Value} {st0 : List Value} (hrt : rt = none ∨ rt = some .int ∨ rt = some .boolean ∨ rt = some .long ∨ ∃ C, rt = some (.object C))
    (hr : va_Run p l e R s m args below meth c H locs cells slots 0 0 (F0 m pc ls st0) rest (pm_Qc D k ad rt Q' A1 av) A1) (hS : va_S A s.heap H locs) (hF : ∀ q, A1 q → A q)
    (kk : ∀ (r : Option Value) (u : pm_Hp) (H1 : Heap) (locs1 : List Loc), Q' r u → pm_Wo D k ad A s u H1 locs1 → W p l e R s m args below meth c H1 locs1 cells slots Q (F0 m (pc + 3) ls ((r.map (pm_vr ad)).toList ++ rest))) : W p l e R s m args below meth c H locs cells slots Q (F0 m pc ls st0) := by
  rcases hrt with rfl | rfl | rfl | rfl | ⟨C, rfl⟩
  · exact va_callv (a := av) hr hS (fun q _ h1 => hF q h1) hF (fun u t H1 locs1 ht hvm hw hB hz1 hk1 hS1 => kk none u H1 locs1 hw ⟨by rw [← ht]; exact hB.1, hB.2.weaken (fun _ _ _ h1 => hF _ h1), hS1⟩)
  · exact va_calli (a := av) hr hS (fun q _ h1 => hF q h1) hF (fun r u t H1 locs1 ht hvm hw hB hz1 hk1 hS1 => kk (some (.int r)) u H1 locs1 hw ⟨by rw [← ht]; exact hB.1, hB.2.weaken (fun _ _ _ h1 => hF _ h1), hS1⟩)
  · exact va_calli (a := av) hr hS (fun q _ h1 => hF q h1) hF (fun r u t H1 locs1 ht hvm hw hB hz1 hk1 hS1 => kk (some (.int r)) u H1 locs1 hw ⟨by rw [← ht]; exact hB.1, hB.2.weaken (fun _ _ _ h1 => hF _ h1), hS1⟩)
  · exact va_calll (a := av) hr hS (fun q _ h1 => hF q h1) hF (fun r u t H1 locs1 ht hvm hw hB hz1 hk1 hS1 => kk (some (.long r)) u H1 locs1 hw ⟨by rw [← ht]; exact hB.1, hB.2.weaken (fun _ _ _ h1 => hF _ h1), hS1⟩)
  · refine va_callr (a := av) hr hS (fun q _ h1 => hF q h1) hF (fun u ra t H1 locs1 ht hvm hw hB hz1 hk1 hS1 => ?_)
    obtain ⟨rfl, hB1, hB2⟩ := hB
    exact kk (some (.ref u.2)) u.1 H1 locs1 hw ⟨by rw [← ht]; exact hB1, hB2.weaken (fun _ _ _ h1 => hF _ h1), hS1⟩
/-- a call of an object's method -/
theorem pm_callV (IH : pm_Mt l d) (hx : p.tables.exec = Jvm.exec) (hb : c.code = cc) (hml : c.maxLocals = nL) (hown : s.vm.findClass own = some m.cls) (hts : ∀ w ∈ pm_G, w.before args s = true) (hK : va_K D vwCl (pm_ty k) s) (hE : pm_E ad A s s.heap) (hA : ∀ q, s.heap.size ≤ q → A q) (hW : pm_Wo D k ad A s h H locs)
    (hM : pm_M[a]? = some me) (ha : a < 236) (hsta : me.2.2.2.2.2.2 = false) (hlink : Cond.methodLink own i me.1 ∈ pm_G) (hC : pm_Cd d a (.ref q :: As) h Q') (hn : As.length = me.2.2.2.2.1) (hq : pm_S[q]? = some (0, me.2.2.2.2.2.1, ks)) (hls : ls.size = nL) (hroom : (rest.map fun v => v.category).sum ≤ 8) (hR : d + 1 ≤ R.frames ∧ 60 * d + 60 ≤ R.locals) (hcs : cells ≤ R.cells ∧ slots ≤ R.slots) (hdg : decode cc pc = .ok (.invokevirtual i, 3))
    (kk : ∀ (r : Option Value) (u : pm_Hp) (H1 : Heap) (locs1 : List Loc), Q' r u → pm_Wo D k ad A s u H1 locs1 → W p l e R s m args below meth c H1 locs1 cells slots Q (F0 m (pc + 3) ls ((r.map (pm_vr ad)).toList ++ rest))) : W p l e R s m args below meth c H locs cells slots Q (F0 m pc ls ((As.map (pm_vr ad)).reverse ++ .ref (ad q) :: rest)) := by
  have hm := pm_mk a me ha hM
  have hF := pm_free hW.2.1 hW.2.2 hA
  have hinst : Cond.instanceMethod me.1 ∈ pm_G ∧ Cond.selects me.1.cls me.1 me.1 ∈ pm_G := by
    have h1 := hm.2.2.2.2.2.1
    rw [hsta] at h1
    exact h1
  have hb12 : me.2.2.2.2.2.1 < 12 := by
    have h1 := List.all_eq_true.mp pm_ko _ (List.mem_of_getElem? hq)
    simp only [bne_self_eq_false, Bool.false_or, Bool.and_eq_true, beq_iff_eq, decide_eq_true_eq] at h1
    exact h1.2.2
  have hrec := va_recv hK hW.1 (pm_cl _ hb12) (pm_Wd_at k ad h hq (by decide : (0 : Nat) ≠ 6))
  refine pm_after hm.2.2.2.2.2.2.2 (va_runV (rest := rest) ⟨hx, hb, hml, hown, hts⟩ (IH a me (.ref q :: As) h Q' D k ad H.size hM ha hC) ⟨pm_callB hts hm hlink hR, hts _ hinst.1, hts _ hinst.2⟩ ⟨pm_blind, ?_, (pm_preS hK hE hA hW _).2⟩ rfl (by rw [List.length_map]; exact hn) hls rfl (lv_room hroom) hdg hcs) hW.2.2 hF kk
  rw [hm.2.2.2.1]
  exact hrec
/-- a call of a class's method -/
theorem pm_callS (IH : pm_Mt l d) (hx : p.tables.exec = Jvm.exec) (hb : c.code = cc) (hml : c.maxLocals = nL) (hown : s.vm.findClass own = some m.cls) (hts : ∀ w ∈ pm_G, w.before args s = true) (hK : va_K D vwCl (pm_ty k) s) (hE : pm_E ad A s s.heap) (hA : ∀ q, s.heap.size ≤ q → A q) (hW : pm_Wo D k ad A s h H locs)
    (hM : pm_M[a]? = some me) (ha : a < 236) (hsta : me.2.2.2.2.2.2 = true) (hlink : Cond.methodLink own i me.1 ∈ pm_G) (hC : pm_Cd d a As h Q') (hn : As.length = me.2.2.2.2.1) (hls : ls.size = nL) (hroom : (rest.map fun v => v.category).sum ≤ 8) (hR : d + 1 ≤ R.frames ∧ 60 * d + 60 ≤ R.locals) (hcs : cells ≤ R.cells ∧ slots ≤ R.slots) (hdg : decode cc pc = .ok (.invokestatic i, 3))
    (kk : ∀ (r : Option Value) (u : pm_Hp) (H1 : Heap) (locs1 : List Loc), Q' r u → pm_Wo D k ad A s u H1 locs1 → W p l e R s m args below meth c H1 locs1 cells slots Q (F0 m (pc + 3) ls ((r.map (pm_vr ad)).toList ++ rest))) : W p l e R s m args below meth c H locs cells slots Q (F0 m pc ls ((As.map (pm_vr ad)).reverse ++ rest)) := by
  have hm := pm_mk a me ha hM
  have hF := pm_free hW.2.1 hW.2.2 hA
  have hstt : Cond.static me.1 ∈ pm_G := by
    have h1 := hm.2.2.2.2.2.1
    rw [hsta] at h1
    exact h1
  exact pm_after hm.2.2.2.2.2.2.2 (va_runS (rest := rest) ⟨hx, hb, hml, hown, hts⟩ (IH a me As h Q' D k ad H.size hM ha hC) ⟨pm_callB hts hm hlink hR, hts _ hstt⟩ (pm_preS hK hE hA hW _) rfl (by rw [List.length_map]; exact hn) hls rfl (lv_room hroom) hdg hcs) hW.2.2 hF kk
/-- a return -/
theorem pm_oret {f r len b : Nat} {z : Int} (hf : 39 ≤ f ∧ f ≤ 42) (G : pm_Gx p s m args c R D k ad A me) (hr : meth.sig.returnType = me.2.2.2.1) (hlocks : meth.locks = false) (hd : decode me.2.1 pc = .ok (pm_real (f, r, len, z, a, b, i), len)) (hs : pm_side me pc (f, r, len, z, a, b, i) = true) (ht : pm_ret f r Q' st h) (hW : pm_Wo D k ad A s h H locs) : W p l e R s m args below meth c H locs cells slots (MQ below (pm_Qc D k ad me.2.2.2.1 Q' A) args s cells slots A) (F0 m pc ls (st.map (pm_vr ad))) := by
  obtain ⟨my, bt, ml, rt, np, ow, sta⟩ := me
  obtain ⟨⟨hx, hb, hml, hown, hts⟩, hK, hE, hA, hR1, hR2⟩ := G
  match f, hf, hd, hs, ht with
  | 39, _, hd, hs, ht =>
    obtain ⟨x, rfl, hz, hq⟩ := ht
    match r, hd, hs, hz with
    | 0, hd, hs, hz =>
      simp [pm_side, pm_len] at hs
      obtain ⟨rfl, h2⟩ := hs
      subst h2
      exact W.iret hx hb hr (fun t ht _ => ⟨⟨x, h, rfl, hq, by rw [ht]; exact hW.1, hW.2.1⟩, hW.2.2.F ht⟩) hW.2.2.2.2 hd hlocks
    | r + 1, hd, hs, hz =>
      simp [pm_side, pm_len] at hs
      obtain ⟨rfl, h1, h2⟩ := hs
      subst h1
      subst h2
      exact W.zret hx hb hr (pm_nnz (hz rfl)) (fun t ht _ => ⟨⟨x, h, rfl, hq, by rw [ht]; exact hW.1, hW.2.1⟩, hW.2.2.F ht⟩) hW.2.2.2.2 hd hlocks
  | 40, _, hd, hs, ht =>
    obtain ⟨x, rfl, hq⟩ := ht
    simp [pm_side, pm_len] at hs
    obtain ⟨rfl, h2⟩ := hs
    subst h2
    exact W.lret hx hb hr (fun t ht _ => ⟨⟨x, h, rfl, hq, by rw [ht]; exact hW.1, hW.2.1⟩, hW.2.2.F ht⟩) hW.2.2.2.2 hd hlocks
  | 41, _, hd, hs, ht =>
    obtain ⟨x, rfl, hq⟩ := ht
    match rt, hr, hs with
    | some (.object C), hr, hs =>
      simp [pm_side, pm_len] at hs
      subst hs
      exact W.aret hx hb hr (Or.inl ⟨C, rfl⟩) (Or.inr ⟨ad x, rfl⟩) (fun t ht _ => ⟨⟨(h, x), ad x, rfl, hq, rfl, by rw [ht]; exact hW.1, hW.2.1⟩, hW.2.2.F ht⟩) hW.2.2.2.2 hd hlocks
    | none, _, hs => simp [pm_side, pm_len] at hs
    | some .int, _, hs => simp [pm_side, pm_len] at hs
    | some .long, _, hs => simp [pm_side, pm_len] at hs
    | some .boolean, _, hs => simp [pm_side, pm_len] at hs
    | some .byte, _, hs => simp [pm_side, pm_len] at hs
    | some .char, _, hs => simp [pm_side, pm_len] at hs
    | some .short, _, hs => simp [pm_side, pm_len] at hs
    | some .float, _, hs => simp [pm_side, pm_len] at hs
    | some .double, _, hs => simp [pm_side, pm_len] at hs
    | some (.array _), _, hs => simp [pm_side, pm_len] at hs
  | 42, _, hd, hs, ht =>
    obtain ⟨rfl, hq⟩ := ht
    simp [pm_side, pm_len] at hs
    obtain ⟨rfl, h2⟩ := hs
    subst h2
    exact W.vret hx hb hr (fun t ht _ => ⟨⟨h, rfl, hq, by rw [ht]; exact hW.1, hW.2.1⟩, hW.2.2.F ht⟩) hW.2.2.2.2 hd hlocks
  | f + 43, hf, _, _, _ => exact absurd hf.2 (by omega)
end
theorem pm_ML_lt : ∀ q ∈ pm_ML, q.2.2 < 236 := by decide +kernel
theorem pm_ok1 {a pc : Nat} {me : pm_Me} {i : pm_Ins} (ha : a < 236) (hM : pm_M[a]? = some me) (hi : pm_ins a pc = some i) : decode me.2.1 pc = .ok (pm_real i, i.2.2.1) ∧ pm_side me pc i = true := by
  unfold pm_ins at hi
  cases hl : pm_I[a]? with
  | none => rw [hl] at hi; cases hi
  | some l =>
    rw [hl] at hi
    simp only [Option.bind_some] at hi
    cases hf : l.find? (fun q => q.1 == pc) with
    | none => rw [hf] at hi; cases hi
    | some q =>
      rw [hf] at hi
      simp only [Option.map_some, Option.some.injEq] at hi
      have h1 := List.all_eq_true.mp (pm_ok a me l ha hM hl) q (List.mem_of_find?_eq_some hf)
      have h2 : q.1 = pc := by simpa using List.find?_some hf
      unfold pm_okB at h1
      rw [Bool.and_eq_true, decide_eq_true_eq, h2, hi] at h1
      exact h1
/-- ALL METHODS: a contract of the pure machine is one of the real machine -/
theorem pm_met (l : Launch) : ∀ d : Nat, pm_Mt l d
  | 0 => fun _ _ _ _ _ _ _ _ _ _ _ hC => hC.elim
  | d + 1 => by
    intro a me as h Qp D k ad sz hM ha hC
    have IH := pm_met l d
    have hm := pm_mk a me ha hM
    obtain ⟨⟨me', hM', hlen⟩, hrun⟩ := hC
    cases hM.symm.trans hM'
    refine Met.ofW (cc := me.2.1) (maxL := me.2.2.1) (ret := me.2.2.2.1) hm.2.2.2.2.1 (ws' := pm_G) rfl ?_
    intro p e s m args below meth c s₁ B hml hv
    obtain ⟨rfl, hsz, hP, hK, hD0, hE⟩ := hv
    have hts0 := atoms_spec (ws := pm_ws me) B.pre
    have hown : s.vm.findClass me.1.cls = some m.cls := findClass_of_methodNamed B.named
    rw [hm.2.2.2.1] at hown
    subst hsz
    have hD := hD0.self (sz := s.heap.size)
    have hA : ∀ q : Nat, s.heap.size ≤ q → va_A (pm_Wd k ad h) s.heap.size q := fun q h1 => Or.inr h1
    have hl := lv_entry (as.map (pm_vr ad)) (n := me.2.2.1) (by rw [pm_sl_len]; exact hlen)
    rw [lg_entry_eq]
    have G : pm_Gx p s m (as.map (pm_vr ad)).toArray c (pm_rm (d + 1)) D k ad (va_A (pm_Wd k ad h) s.heap.size) me := ⟨⟨B.exec, B.bytes, hml, hown, fun w hw => hts0 w (List.mem_cons_of_mem _ hw)⟩, hK, hE, hA, by show 1 ≤ d + 1; omega, by show 60 ≤ 60 * (d + 1); omega⟩
    rw [← pm_lr_args] at hl
    refine hrun (pm_Sx p l e (pm_rm (d + 1)) s m (as.map (pm_vr ad)).toArray below meth c 0 0 (MQ below (pm_Qc D k ad me.2.2.2.1 Qp (va_A (pm_Wd k ad h) s.heap.size)) (as.map (pm_vr ad)).toArray s 0 0 (va_A (pm_Wd k ad h) s.heap.size)) D k ad (va_A (pm_Wd k ad h) s.heap.size) me.2.2.1) ?_ s.heap [] _ ⟨hP, hD, va_S.rf⟩ hl
    intro pc lv st h1 hF H locs ls hW hl
    obtain ⟨i, hi, hF⟩ := hF
    obtain ⟨hd, hs⟩ := pm_ok1 ha hM hi
    unfold pm_Fi at hF
    obtain ⟨f, r, len, z, a1, b, ix⟩ := i
    dsimp only at hF
    by_cases c1 : f = 43
    · subst c1
      rw [if_pos rfl] at hF
      obtain ⟨me1, q, As, rest, ks, g1, g2, g3, g4, g5, g6⟩ := hF
      obtain ⟨my, bt, ml, rt, np, ow, sta⟩ := me
      simp [pm_side, pm_len] at hs
      obtain ⟨rfl, hml1, hst⟩ := hs
      obtain ⟨y, rr, hy1, hy2⟩ := pm_ML_ok _ hml1
      have e1 : me1 = (y, rr) := Option.some.inj (g1.symm.trans hy1)
      have hsta : me1.2.2.2.2.2.2 = false := by
          rw [g1] at hst
          simp only [Option.some.injEq] at hst
          obtain ⟨x1, x2, x3, x4, x5, x6, x7⟩ := me1
          simp at hst
          first | exact hst | (obtain ⟨_, _, _, _, _, _, h0⟩ := hst; cases h0; rfl) | (subst hst; rfl)
      obtain ⟨⟨hx, hb, hml2, hown2, hts⟩, hK2, hE2, hA2, hR1, hR2⟩ := G
      rw [g3, List.map_append, List.map_reverse]
      exact pm_callV IH hx hb hml2 hown2 hts hK2 hE2 hA2 hW g1 (pm_ML_lt _ hml1) hsta (pm_inG (by rw [e1]; exact hy2) rfl) g6 g2 g4 hl.1 (by rw [pm_cat_map]; exact g5) ⟨by show d + 1 ≤ d + 1; omega, by show 60 * d + 60 ≤ 60 * (d + 1); omega⟩ ⟨Nat.le_refl _, Nat.le_refl _⟩ hd (fun r1 u H1 locs1 hq hW1 => by
        have h9 := hq H1 locs1 ls hW1 hl
        rw [List.map_append, show (r1.toList).map (pm_vr ad) = (r1.map (pm_vr ad)).toList by cases r1 <;> rfl] at h9
        exact h9)
    · rw [if_neg c1] at hF
      by_cases c2 : f = 44
      · subst c2
        rw [if_pos rfl] at hF
        obtain ⟨me1, As, rest, g1, g2, g3, g4, g5⟩ := hF
        obtain ⟨my, bt, ml, rt, np, ow, sta⟩ := me
        simp [pm_side, pm_len] at hs
        obtain ⟨rfl, hml1, hst⟩ := hs
        obtain ⟨y, rr, hy1, hy2⟩ := pm_ML_ok _ hml1
        have e1 : me1 = (y, rr) := Option.some.inj (g1.symm.trans hy1)
        have hsta : me1.2.2.2.2.2.2 = true := by
          rw [g1] at hst
          simp only [Option.some.injEq] at hst
          obtain ⟨x1, x2, x3, x4, x5, x6, x7⟩ := me1
          simp at hst
          first | exact hst | (obtain ⟨_, _, _, _, _, _, h0⟩ := hst; cases h0; rfl) | (subst hst; rfl)
        obtain ⟨⟨hx, hb, hml2, hown2, hts⟩, hK2, hE2, hA2, hR1, hR2⟩ := G
        rw [g3, List.map_append, List.map_reverse]
        exact pm_callS IH hx hb hml2 hown2 hts hK2 hE2 hA2 hW g1 (pm_ML_lt _ hml1) hsta (pm_inG (by rw [e1]; exact hy2) rfl) g5 g2 hl.1 (by rw [pm_cat_map]; exact g4) ⟨by show d + 1 ≤ d + 1; omega, by show 60 * d + 60 ≤ 60 * (d + 1); omega⟩ ⟨Nat.le_refl _, Nat.le_refl _⟩ hd (fun r1 u H1 locs1 hq hW1 => by
          have h9 := hq H1 locs1 ls hW1 hl
          rw [List.map_append, show (r1.toList).map (pm_vr ad) = (r1.map (pm_vr ad)).toList by cases r1 <;> rfl] at h9
          exact h9)
      · rw [if_neg c2] at hF
        by_cases c3 : 39 ≤ f ∧ f ≤ 42
        · rw [if_pos c3] at hF
          exact pm_oret c3 G B.returns B.notSynchronized hd hs hF hW
        · rw [if_neg c3] at hF
          obtain ⟨nx, h2, h3⟩ := hF
          exact pm_step1 ⟨Nat.le_refl _, Nat.le_refl _⟩ G hd hs h2 hW hl h3
