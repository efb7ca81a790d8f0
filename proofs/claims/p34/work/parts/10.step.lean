section
variable {p : Program} {l : Launch} {e : Env} {R : Room} {s : State} {m : MethodId} {args : Array Value} {below : List Frame} {meth : Method} {c : Code} {H : Heap} {locs : List Loc} {cells slots : Nat} {Q : State → Prop} {D : va_G} {k : pm_cK} {ad : Nat → Nat} {A : Nat → Prop} {me : pm_Me} {pc : Nat} {lv : pm_Lv} {st : List Value} {h : pm_Hp} {nx : pm_Nx} {ls : Array Slot} {r len a b i : Nat} {z : Int}

theorem pm_o0 (G : pm_Gx p s m args c R D k ad A me) (hd : decode me.2.1 pc = .ok (pm_real (0, r, len, z, a, b, i), len)) (hs : pm_side me pc (0, r, len, z, a, b, i) = true) (ht : pm_stp (0, r, len, z, a, b, i) pc lv st h = some nx) (hW : pm_Wo D k ad A s h H locs) (hl : lv_has ls me.2.2.1 (pm_lr ad lv)) (X : pm_Sx p l e R s m args below meth c cells slots Q D k ad A me.2.2.1 nx.1 nx.2.1 nx.2.2.1 nx.2.2.2) : W p l e R s m args below meth c H locs cells slots Q (F0 m pc ls (st.map (pm_vr ad))) := by
  obtain ⟨my, bt, ml, rt, np, ow, sta⟩ := me
  obtain ⟨⟨hx, hb, hml, hown, hts⟩, hK, hE, hA, hR1, hR2⟩ := G
  cases ht
  match r, hd, hs with
  | 0, hd, hs => simp [pm_side, pm_len] at hs; obtain ⟨rfl, hs⟩ := hs; exact lv_iconst hx hb hd rfl (X _ _ _ hW hl)
  | 1, hd, hs => simp [pm_side, pm_len] at hs; obtain ⟨rfl, h2⟩ := hs; exact lv_bipush hx hb hd h2 (X _ _ _ hW hl)
  | 2, hd, hs => simp [pm_side, pm_len] at hs; obtain ⟨rfl, h2⟩ := hs; exact lv_sipush hx hb hd h2 (X _ _ _ hW hl)
  | 3, hd, hs => simp [pm_side, pm_len] at hs; obtain ⟨rfl, h2⟩ := hs; exact lv_ldc hx hb hown (hts _ (pm_inG (pm_CI_ok (ow, i, z) h2) rfl)) hd (X _ _ _ hW hl)
  | r + 4, hd, hs => simp [pm_side, pm_len] at hs; obtain ⟨rfl, h2⟩ := hs; exact lv_ldcw hx hb hown (hts _ (pm_inG (pm_CI_ok (ow, i, z) h2) rfl)) hd (X _ _ _ hW hl)

theorem pm_o1 (G : pm_Gx p s m args c R D k ad A me) (hd : decode me.2.1 pc = .ok (pm_real (1, r, len, z, a, b, i), len)) (hs : pm_side me pc (1, r, len, z, a, b, i) = true) (ht : pm_stp (1, r, len, z, a, b, i) pc lv st h = some nx) (hW : pm_Wo D k ad A s h H locs) (hl : lv_has ls me.2.2.1 (pm_lr ad lv)) (X : pm_Sx p l e R s m args below meth c cells slots Q D k ad A me.2.2.1 nx.1 nx.2.1 nx.2.2.1 nx.2.2.2) : W p l e R s m args below meth c H locs cells slots Q (F0 m pc ls (st.map (pm_vr ad))) := by
  obtain ⟨my, bt, ml, rt, np, ow, sta⟩ := me
  obtain ⟨⟨hx, hb, hml, hown, hts⟩, hK, hE, hA, hR1, hR2⟩ := G
  cases ht
  match r, hd, hs with
  | 0, hd, hs =>
    simp [pm_side, pm_len] at hs
    obtain ⟨rfl, h2⟩ := hs
    rcases h2 with ⟨rfl, rfl⟩ | ⟨rfl, rfl⟩
    · exact lv_lconst hx hb hd (by decide) (X _ _ _ hW hl)
    · exact lv_lconst hx hb hd (by decide) (X _ _ _ hW hl)
  | r + 1, hd, hs => simp [pm_side, pm_len] at hs; obtain ⟨rfl, h2⟩ := hs; exact lv_ldc2 hx hb hown (hts _ (pm_inG (pm_CL_ok (ow, i, z) h2) rfl)) hd (X _ _ _ hW hl)

theorem pm_o2 (G : pm_Gx p s m args c R D k ad A me) (hd : decode me.2.1 pc = .ok (pm_real (2, r, len, z, a, b, i), len)) (hs : pm_side me pc (2, r, len, z, a, b, i) = true) (ht : pm_stp (2, r, len, z, a, b, i) pc lv st h = some nx) (hW : pm_Wo D k ad A s h H locs) (hl : lv_has ls me.2.2.1 (pm_lr ad lv)) (X : pm_Sx p l e R s m args below meth c cells slots Q D k ad A me.2.2.1 nx.1 nx.2.1 nx.2.2.1 nx.2.2.2) : W p l e R s m args below meth c H locs cells slots Q (F0 m pc ls (st.map (pm_vr ad))) := by
  obtain ⟨my, bt, ml, rt, np, ow, sta⟩ := me
  obtain ⟨⟨hx, hb, hml, hown, hts⟩, hK, hE, hA, hR1, hR2⟩ := G
  simp [pm_side, pm_len] at hs
  obtain ⟨x, hg, ht⟩ := pm_gI_some ht
  cases ht
  have hv := pm_lr_at hl hg
  match r, hd, hs with
  | 0, hd, hs => obtain ⟨rfl, hs⟩ := hs; exact lv_iload_n hx hb hd (Nat.mod_eq_of_lt (by omega)) hv (X _ _ _ hW hl)
  | r + 1, hd, hs => simp at hs; subst hs; exact lv_iload hx hb hd hv (X _ _ _ hW hl)

theorem pm_o3 (G : pm_Gx p s m args c R D k ad A me) (hd : decode me.2.1 pc = .ok (pm_real (3, r, len, z, a, b, i), len)) (hs : pm_side me pc (3, r, len, z, a, b, i) = true) (ht : pm_stp (3, r, len, z, a, b, i) pc lv st h = some nx) (hW : pm_Wo D k ad A s h H locs) (hl : lv_has ls me.2.2.1 (pm_lr ad lv)) (X : pm_Sx p l e R s m args below meth c cells slots Q D k ad A me.2.2.1 nx.1 nx.2.1 nx.2.2.1 nx.2.2.2) : W p l e R s m args below meth c H locs cells slots Q (F0 m pc ls (st.map (pm_vr ad))) := by
  obtain ⟨my, bt, ml, rt, np, ow, sta⟩ := me
  obtain ⟨⟨hx, hb, hml, hown, hts⟩, hK, hE, hA, hR1, hR2⟩ := G
  simp [pm_side, pm_len] at hs
  obtain ⟨x, hg, ht⟩ := pm_gL_some ht
  cases ht
  have hv := pm_lr_at hl hg
  match r, hd, hs with
  | 0, hd, hs => obtain ⟨rfl, hs⟩ := hs; exact lv_lload_n hx hb hd (Nat.mod_eq_of_lt (by omega)) hv (X _ _ _ hW hl)
  | r + 1, hd, hs => simp at hs; subst hs; exact lv_lload hx hb hd hv (X _ _ _ hW hl)

theorem pm_o4 (G : pm_Gx p s m args c R D k ad A me) (hd : decode me.2.1 pc = .ok (pm_real (4, r, len, z, a, b, i), len)) (hs : pm_side me pc (4, r, len, z, a, b, i) = true) (ht : pm_stp (4, r, len, z, a, b, i) pc lv st h = some nx) (hW : pm_Wo D k ad A s h H locs) (hl : lv_has ls me.2.2.1 (pm_lr ad lv)) (X : pm_Sx p l e R s m args below meth c cells slots Q D k ad A me.2.2.1 nx.1 nx.2.1 nx.2.2.1 nx.2.2.2) : W p l e R s m args below meth c H locs cells slots Q (F0 m pc ls (st.map (pm_vr ad))) := by
  obtain ⟨my, bt, ml, rt, np, ow, sta⟩ := me
  obtain ⟨⟨hx, hb, hml, hown, hts⟩, hK, hE, hA, hR1, hR2⟩ := G
  simp [pm_side, pm_len] at hs
  obtain ⟨x, hg, ht⟩ := pm_gR_some ht
  cases ht
  have hv := pm_lr_at hl hg
  match r, hd, hs with
  | 0, hd, hs => obtain ⟨rfl, hs⟩ := hs; exact lv_aload_n hx hb hd (Nat.mod_eq_of_lt (by omega)) hv (X _ _ _ hW hl)
  | r + 1, hd, hs => simp at hs; subst hs; exact lv_aload hx hb hd hv (X _ _ _ hW hl)

theorem pm_o5 (G : pm_Gx p s m args c R D k ad A me) (hd : decode me.2.1 pc = .ok (pm_real (5, r, len, z, a, b, i), len)) (hs : pm_side me pc (5, r, len, z, a, b, i) = true) (ht : pm_stp (5, r, len, z, a, b, i) pc lv st h = some nx) (hW : pm_Wo D k ad A s h H locs) (hl : lv_has ls me.2.2.1 (pm_lr ad lv)) (X : pm_Sx p l e R s m args below meth c cells slots Q D k ad A me.2.2.1 nx.1 nx.2.1 nx.2.2.1 nx.2.2.2) : W p l e R s m args below meth c H locs cells slots Q (F0 m pc ls (st.map (pm_vr ad))) := by
  obtain ⟨my, bt, ml, rt, np, ow, sta⟩ := me
  obtain ⟨⟨hx, hb, hml, hown, hts⟩, hK, hE, hA, hR1, hR2⟩ := G
  simp [pm_side, pm_len] at hs
  obtain ⟨x, t, rfl, ht⟩ := pm_sI_some ht
  cases ht
  match r, hd, hs with
  | 0, hd, hs => simp at hs; obtain ⟨rfl, hs, hn⟩ := hs; exact lv_istore_n hx hb hd (Nat.mod_eq_of_lt (by omega)) hl hn rfl (fun ls' hl' => X _ _ ls' hW (by rw [pm_lr_l1]; exact hl'))
  | r + 1, hd, hs => simp at hs; obtain ⟨rfl, hn⟩ := hs; exact lv_istore hx hb hd hl hn rfl (fun ls' hl' => X _ _ ls' hW (by rw [pm_lr_l1]; exact hl'))

theorem pm_o6 (G : pm_Gx p s m args c R D k ad A me) (hd : decode me.2.1 pc = .ok (pm_real (6, r, len, z, a, b, i), len)) (hs : pm_side me pc (6, r, len, z, a, b, i) = true) (ht : pm_stp (6, r, len, z, a, b, i) pc lv st h = some nx) (hW : pm_Wo D k ad A s h H locs) (hl : lv_has ls me.2.2.1 (pm_lr ad lv)) (X : pm_Sx p l e R s m args below meth c cells slots Q D k ad A me.2.2.1 nx.1 nx.2.1 nx.2.2.1 nx.2.2.2) : W p l e R s m args below meth c H locs cells slots Q (F0 m pc ls (st.map (pm_vr ad))) := by
  obtain ⟨my, bt, ml, rt, np, ow, sta⟩ := me
  obtain ⟨⟨hx, hb, hml, hown, hts⟩, hK, hE, hA, hR1, hR2⟩ := G
  simp [pm_side, pm_len] at hs
  obtain ⟨x, t, rfl, ht⟩ := pm_sL_some ht
  cases ht
  match r, hd, hs with
  | 0, hd, hs => simp at hs; obtain ⟨rfl, hs, hn⟩ := hs; exact lv_lstore_n hx hb hd (Nat.mod_eq_of_lt (by omega)) hl hn rfl (fun ls' hl' => X _ _ ls' hW (by rw [pm_lr_l2]; exact hl'))
  | r + 1, hd, hs => simp at hs; obtain ⟨rfl, hn⟩ := hs; exact lv_lstore hx hb hd hl hn rfl (fun ls' hl' => X _ _ ls' hW (by rw [pm_lr_l2]; exact hl'))

theorem pm_o7 (G : pm_Gx p s m args c R D k ad A me) (hd : decode me.2.1 pc = .ok (pm_real (7, r, len, z, a, b, i), len)) (hs : pm_side me pc (7, r, len, z, a, b, i) = true) (ht : pm_stp (7, r, len, z, a, b, i) pc lv st h = some nx) (hW : pm_Wo D k ad A s h H locs) (hl : lv_has ls me.2.2.1 (pm_lr ad lv)) (X : pm_Sx p l e R s m args below meth c cells slots Q D k ad A me.2.2.1 nx.1 nx.2.1 nx.2.2.1 nx.2.2.2) : W p l e R s m args below meth c H locs cells slots Q (F0 m pc ls (st.map (pm_vr ad))) := by
  obtain ⟨my, bt, ml, rt, np, ow, sta⟩ := me
  obtain ⟨⟨hx, hb, hml, hown, hts⟩, hK, hE, hA, hR1, hR2⟩ := G
  simp [pm_side, pm_len] at hs
  obtain ⟨x, t, rfl, ht⟩ := pm_sR_some ht
  cases ht
  match r, hd, hs with
  | 0, hd, hs => simp at hs; obtain ⟨rfl, hs, hn⟩ := hs; exact lv_astore_n hx hb hd (Nat.mod_eq_of_lt (by omega)) hl hn rfl (fun ls' hl' => X _ _ ls' hW (by rw [pm_lr_l1]; exact hl'))
  | r + 1, hd, hs => simp at hs; obtain ⟨rfl, hn⟩ := hs; exact lv_astore hx hb hd hl hn rfl (fun ls' hl' => X _ _ ls' hW (by rw [pm_lr_l1]; exact hl'))

theorem pm_o8 (G : pm_Gx p s m args c R D k ad A me) (hd : decode me.2.1 pc = .ok (pm_real (8, r, len, z, a, b, i), len)) (hs : pm_side me pc (8, r, len, z, a, b, i) = true) (ht : pm_stp (8, r, len, z, a, b, i) pc lv st h = some nx) (hW : pm_Wo D k ad A s h H locs) (hl : lv_has ls me.2.2.1 (pm_lr ad lv)) (X : pm_Sx p l e R s m args below meth c cells slots Q D k ad A me.2.2.1 nx.1 nx.2.1 nx.2.2.1 nx.2.2.2) : W p l e R s m args below meth c H locs cells slots Q (F0 m pc ls (st.map (pm_vr ad))) := by
  obtain ⟨my, bt, ml, rt, np, ow, sta⟩ := me
  obtain ⟨⟨hx, hb, hml, hown, hts⟩, hK, hE, hA, hR1, hR2⟩ := G
  simp [pm_side, pm_len] at hs
  obtain ⟨x, hg, ht⟩ := pm_gI_some ht
  cases ht
  obtain ⟨rfl, hn⟩ := hs
  obtain ⟨j, hj⟩ := List.getElem?_of_mem (List.mem_map.mpr ⟨(a, Value.int x), pm_lg_mem hg, rfl⟩ : ((a, Value.int x) : Nat × Value) ∈ pm_lr ad lv)
  exact lv_iinc hx hb hd hl hj rfl hn rfl (fun ls' hl' => X _ _ ls' hW (by rw [pm_lr_l1]; exact hl'))

theorem pm_o9 (G : pm_Gx p s m args c R D k ad A me) (hd : decode me.2.1 pc = .ok (pm_real (9, r, len, z, a, b, i), len)) (hs : pm_side me pc (9, r, len, z, a, b, i) = true) (ht : pm_stp (9, r, len, z, a, b, i) pc lv st h = some nx) (hW : pm_Wo D k ad A s h H locs) (hl : lv_has ls me.2.2.1 (pm_lr ad lv)) (X : pm_Sx p l e R s m args below meth c cells slots Q D k ad A me.2.2.1 nx.1 nx.2.1 nx.2.2.1 nx.2.2.2) : W p l e R s m args below meth c H locs cells slots Q (F0 m pc ls (st.map (pm_vr ad))) := by
  obtain ⟨my, bt, ml, rt, np, ow, sta⟩ := me
  obtain ⟨⟨hx, hb, hml, hown, hts⟩, hK, hE, hA, hR1, hR2⟩ := G
  simp [pm_side, pm_len] at hs
  obtain ⟨y, t, rfl, hu0⟩ := pm_sI_some ht
  obtain ⟨x, u, rfl, hu⟩ := pm_sI_some hu0
  obtain ⟨rfl, hs⟩ := hs
  match b, hs, hd, hu with
  | 0, _, hd, hu => cases hu; exact lv_iadd hx hb hd (X _ _ _ hW hl)
  | 1, _, hd, hu => cases hu; exact lv_isub hx hb hd (X _ _ _ hW hl)
  | 2, _, hd, hu => cases hu; exact lv_imul hx hb hd (X _ _ _ hW hl)
  | 3, _, hd, hu => cases hu; exact lv_iand hx hb hd (X _ _ _ hW hl)
  | 4, _, hd, hu => cases hu; exact lv_ior hx hb hd (X _ _ _ hW hl)
  | 5, _, hd, hu => cases hu; exact lv_ixor hx hb hd (X _ _ _ hW hl)
  | 6, _, hd, hu => cases hu; exact lv_ishl hx hb hd (X _ _ _ hW hl)
  | 7, _, hd, hu => cases hu; exact lv_ishr hx hb hd (X _ _ _ hW hl)
  | 8, _, hd, hu =>
    by_cases hy : y = 0
    · rw [show pm_bop 8 x y = none from if_pos hy] at hu; cases hu
    · rw [show pm_bop 8 x y = some _ from if_neg hy] at hu
      cases hu; exact lv_irem hx hb hd hy (X _ _ _ hW hl)
  | 9, _, hd, hu =>
    by_cases hy : y = 0
    · rw [show pm_bop 9 x y = none from if_pos hy] at hu; cases hu
    · rw [show pm_bop 9 x y = some _ from if_neg hy] at hu
      cases hu; exact lv_idiv hx hb hd hy (X _ _ _ hW hl)
  | b + 10, hs, _, _ => exact absurd hs (by omega)

theorem pm_o10 (G : pm_Gx p s m args c R D k ad A me) (hd : decode me.2.1 pc = .ok (pm_real (10, r, len, z, a, b, i), len)) (hs : pm_side me pc (10, r, len, z, a, b, i) = true) (ht : pm_stp (10, r, len, z, a, b, i) pc lv st h = some nx) (hW : pm_Wo D k ad A s h H locs) (hl : lv_has ls me.2.2.1 (pm_lr ad lv)) (X : pm_Sx p l e R s m args below meth c cells slots Q D k ad A me.2.2.1 nx.1 nx.2.1 nx.2.2.1 nx.2.2.2) : W p l e R s m args below meth c H locs cells slots Q (F0 m pc ls (st.map (pm_vr ad))) := by
  obtain ⟨my, bt, ml, rt, np, ow, sta⟩ := me
  obtain ⟨⟨hx, hb, hml, hown, hts⟩, hK, hE, hA, hR1, hR2⟩ := G
  simp [pm_side, pm_len] at hs
  obtain ⟨x, t, rfl, hu⟩ := pm_sI_some ht
  cases hu
  subst hs
  exact lv_ineg hx hb hd (X _ _ _ hW hl)

theorem pm_o11 (G : pm_Gx p s m args c R D k ad A me) (hd : decode me.2.1 pc = .ok (pm_real (11, r, len, z, a, b, i), len)) (hs : pm_side me pc (11, r, len, z, a, b, i) = true) (ht : pm_stp (11, r, len, z, a, b, i) pc lv st h = some nx) (hW : pm_Wo D k ad A s h H locs) (hl : lv_has ls me.2.2.1 (pm_lr ad lv)) (X : pm_Sx p l e R s m args below meth c cells slots Q D k ad A me.2.2.1 nx.1 nx.2.1 nx.2.2.1 nx.2.2.2) : W p l e R s m args below meth c H locs cells slots Q (F0 m pc ls (st.map (pm_vr ad))) := by
  obtain ⟨my, bt, ml, rt, np, ow, sta⟩ := me
  obtain ⟨⟨hx, hb, hml, hown, hts⟩, hK, hE, hA, hR1, hR2⟩ := G
  simp [pm_side, pm_len] at hs
  obtain ⟨y, t, rfl, hu0⟩ := pm_sL_some ht
  obtain ⟨x, u, rfl, hu⟩ := pm_sL_some hu0
  obtain ⟨rfl, hs⟩ := hs
  match b, hs, hd, hu with
  | 0, _, hd, hu => cases hu; exact lv_ladd hx hb hd (X _ _ _ hW hl)
  | 1, _, hd, hu => cases hu; exact lv_lmul hx hb hd (X _ _ _ hW hl)
  | 2, _, hd, hu => cases hu; exact lv_land hx hb hd (X _ _ _ hW hl)
  | 3, _, hd, hu => cases hu; exact lv_lor hx hb hd (X _ _ _ hW hl)
  | b + 4, hs, _, _ => exact absurd hs (by omega)

theorem pm_o12 (G : pm_Gx p s m args c R D k ad A me) (hd : decode me.2.1 pc = .ok (pm_real (12, r, len, z, a, b, i), len)) (hs : pm_side me pc (12, r, len, z, a, b, i) = true) (ht : pm_stp (12, r, len, z, a, b, i) pc lv st h = some nx) (hW : pm_Wo D k ad A s h H locs) (hl : lv_has ls me.2.2.1 (pm_lr ad lv)) (X : pm_Sx p l e R s m args below meth c cells slots Q D k ad A me.2.2.1 nx.1 nx.2.1 nx.2.2.1 nx.2.2.2) : W p l e R s m args below meth c H locs cells slots Q (F0 m pc ls (st.map (pm_vr ad))) := by
  obtain ⟨my, bt, ml, rt, np, ow, sta⟩ := me
  obtain ⟨⟨hx, hb, hml, hown, hts⟩, hK, hE, hA, hR1, hR2⟩ := G
  simp [pm_side, pm_len] at hs
  obtain ⟨y, t, rfl, hu0⟩ := pm_sI_some ht
  obtain ⟨x, u, rfl, hu⟩ := pm_sL_some hu0
  obtain ⟨rfl, hs⟩ := hs
  match b, hs, hd, hu with
  | 0, _, hd, hu => cases hu; exact lv_lshl hx hb hd rfl (X _ _ _ hW hl)
  | 1, _, hd, hu => cases hu; exact lv_lshr hx hb hd rfl (X _ _ _ hW hl)
  | b + 2, hs, _, _ => exact absurd hs (by omega)

theorem pm_o13 (G : pm_Gx p s m args c R D k ad A me) (hd : decode me.2.1 pc = .ok (pm_real (13, r, len, z, a, b, i), len)) (hs : pm_side me pc (13, r, len, z, a, b, i) = true) (ht : pm_stp (13, r, len, z, a, b, i) pc lv st h = some nx) (hW : pm_Wo D k ad A s h H locs) (hl : lv_has ls me.2.2.1 (pm_lr ad lv)) (X : pm_Sx p l e R s m args below meth c cells slots Q D k ad A me.2.2.1 nx.1 nx.2.1 nx.2.2.1 nx.2.2.2) : W p l e R s m args below meth c H locs cells slots Q (F0 m pc ls (st.map (pm_vr ad))) := by
  obtain ⟨my, bt, ml, rt, np, ow, sta⟩ := me
  obtain ⟨⟨hx, hb, hml, hown, hts⟩, hK, hE, hA, hR1, hR2⟩ := G
  simp [pm_side, pm_len] at hs
  obtain ⟨y, t, rfl, hu0⟩ := pm_sL_some ht
  obtain ⟨x, u, rfl, hu⟩ := pm_sL_some hu0
  cases hu
  subst hs
  exact W.lcmp hx hb hd (X _ _ _ hW hl)

theorem pm_o14 (G : pm_Gx p s m args c R D k ad A me) (hd : decode me.2.1 pc = .ok (pm_real (14, r, len, z, a, b, i), len)) (hs : pm_side me pc (14, r, len, z, a, b, i) = true) (ht : pm_stp (14, r, len, z, a, b, i) pc lv st h = some nx) (hW : pm_Wo D k ad A s h H locs) (hl : lv_has ls me.2.2.1 (pm_lr ad lv)) (X : pm_Sx p l e R s m args below meth c cells slots Q D k ad A me.2.2.1 nx.1 nx.2.1 nx.2.2.1 nx.2.2.2) : W p l e R s m args below meth c H locs cells slots Q (F0 m pc ls (st.map (pm_vr ad))) := by
  obtain ⟨my, bt, ml, rt, np, ow, sta⟩ := me
  obtain ⟨⟨hx, hb, hml, hown, hts⟩, hK, hE, hA, hR1, hR2⟩ := G
  simp [pm_side, pm_len] at hs
  obtain ⟨x, t, rfl, hu⟩ := pm_sI_some ht
  cases hu
  subst hs
  exact lv_i2l hx hb hd rfl (X _ _ _ hW hl)

theorem pm_o15 (G : pm_Gx p s m args c R D k ad A me) (hd : decode me.2.1 pc = .ok (pm_real (15, r, len, z, a, b, i), len)) (hs : pm_side me pc (15, r, len, z, a, b, i) = true) (ht : pm_stp (15, r, len, z, a, b, i) pc lv st h = some nx) (hW : pm_Wo D k ad A s h H locs) (hl : lv_has ls me.2.2.1 (pm_lr ad lv)) (X : pm_Sx p l e R s m args below meth c cells slots Q D k ad A me.2.2.1 nx.1 nx.2.1 nx.2.2.1 nx.2.2.2) : W p l e R s m args below meth c H locs cells slots Q (F0 m pc ls (st.map (pm_vr ad))) := by
  obtain ⟨my, bt, ml, rt, np, ow, sta⟩ := me
  obtain ⟨⟨hx, hb, hml, hown, hts⟩, hK, hE, hA, hR1, hR2⟩ := G
  simp [pm_side, pm_len] at hs
  obtain ⟨x, t, rfl, hu⟩ := pm_sL_some ht
  cases hu
  subst hs
  exact lv_l2i hx hb hd rfl (X _ _ _ hW hl)

theorem pm_o16 (G : pm_Gx p s m args c R D k ad A me) (hd : decode me.2.1 pc = .ok (pm_real (16, r, len, z, a, b, i), len)) (hs : pm_side me pc (16, r, len, z, a, b, i) = true) (ht : pm_stp (16, r, len, z, a, b, i) pc lv st h = some nx) (hW : pm_Wo D k ad A s h H locs) (hl : lv_has ls me.2.2.1 (pm_lr ad lv)) (X : pm_Sx p l e R s m args below meth c cells slots Q D k ad A me.2.2.1 nx.1 nx.2.1 nx.2.2.1 nx.2.2.2) : W p l e R s m args below meth c H locs cells slots Q (F0 m pc ls (st.map (pm_vr ad))) := by
  obtain ⟨my, bt, ml, rt, np, ow, sta⟩ := me
  obtain ⟨⟨hx, hb, hml, hown, hts⟩, hK, hE, hA, hR1, hR2⟩ := G
  simp [pm_side, pm_len] at hs
  obtain ⟨x, t, rfl, hu⟩ := pm_sI_some ht
  cases hu
  subst hs
  exact lv_i2b hx hb hd rfl (X _ _ _ hW hl)

theorem pm_o17 (G : pm_Gx p s m args c R D k ad A me) (hd : decode me.2.1 pc = .ok (pm_real (17, r, len, z, a, b, i), len)) (hs : pm_side me pc (17, r, len, z, a, b, i) = true) (ht : pm_stp (17, r, len, z, a, b, i) pc lv st h = some nx) (hW : pm_Wo D k ad A s h H locs) (hl : lv_has ls me.2.2.1 (pm_lr ad lv)) (X : pm_Sx p l e R s m args below meth c cells slots Q D k ad A me.2.2.1 nx.1 nx.2.1 nx.2.2.1 nx.2.2.2) : W p l e R s m args below meth c H locs cells slots Q (F0 m pc ls (st.map (pm_vr ad))) := by
  obtain ⟨my, bt, ml, rt, np, ow, sta⟩ := me
  obtain ⟨⟨hx, hb, hml, hown, hts⟩, hK, hE, hA, hR1, hR2⟩ := G
  simp [pm_side, pm_len] at hs
  obtain ⟨v, t, rfl, hc, ht⟩ := pm_s1_some ht
  cases ht
  subst hs
  exact lv_dup hx hb hd ((pm_vr_cat ad v).trans hc) (X _ _ _ hW hl)

theorem pm_o18 (G : pm_Gx p s m args c R D k ad A me) (hd : decode me.2.1 pc = .ok (pm_real (18, r, len, z, a, b, i), len)) (hs : pm_side me pc (18, r, len, z, a, b, i) = true) (ht : pm_stp (18, r, len, z, a, b, i) pc lv st h = some nx) (hW : pm_Wo D k ad A s h H locs) (hl : lv_has ls me.2.2.1 (pm_lr ad lv)) (X : pm_Sx p l e R s m args below meth c cells slots Q D k ad A me.2.2.1 nx.1 nx.2.1 nx.2.2.1 nx.2.2.2) : W p l e R s m args below meth c H locs cells slots Q (F0 m pc ls (st.map (pm_vr ad))) := by
  obtain ⟨my, bt, ml, rt, np, ow, sta⟩ := me
  obtain ⟨⟨hx, hb, hml, hown, hts⟩, hK, hE, hA, hR1, hR2⟩ := G
  simp [pm_side, pm_len] at hs
  obtain ⟨v, t, rfl, hc, ht⟩ := pm_s1_some ht
  cases ht
  subst hs
  exact lv_pop hx hb hd ((pm_vr_cat ad v).trans hc) (X _ _ _ hW hl)

theorem pm_o19 (G : pm_Gx p s m args c R D k ad A me) (hd : decode me.2.1 pc = .ok (pm_real (19, r, len, z, a, b, i), len)) (hs : pm_side me pc (19, r, len, z, a, b, i) = true) (ht : pm_stp (19, r, len, z, a, b, i) pc lv st h = some nx) (hW : pm_Wo D k ad A s h H locs) (hl : lv_has ls me.2.2.1 (pm_lr ad lv)) (X : pm_Sx p l e R s m args below meth c cells slots Q D k ad A me.2.2.1 nx.1 nx.2.1 nx.2.2.1 nx.2.2.2) : W p l e R s m args below meth c H locs cells slots Q (F0 m pc ls (st.map (pm_vr ad))) := by
  obtain ⟨my, bt, ml, rt, np, ow, sta⟩ := me
  obtain ⟨⟨hx, hb, hml, hown, hts⟩, hK, hE, hA, hR1, hR2⟩ := G
  simp [pm_side, pm_len] at hs
  obtain ⟨v, t, rfl, hc, ht⟩ := pm_s1_some ht
  obtain ⟨w, u, rfl, hc2, ht⟩ := pm_s1_some ht
  cases ht
  subst hs
  exact lv_dup2_11 hx hb hd ((pm_vr_cat ad v).trans hc) ((pm_vr_cat ad w).trans hc2) (X _ _ _ hW hl)

theorem pm_o20 (G : pm_Gx p s m args c R D k ad A me) (hd : decode me.2.1 pc = .ok (pm_real (20, r, len, z, a, b, i), len)) (hs : pm_side me pc (20, r, len, z, a, b, i) = true) (ht : pm_stp (20, r, len, z, a, b, i) pc lv st h = some nx) (hW : pm_Wo D k ad A s h H locs) (hl : lv_has ls me.2.2.1 (pm_lr ad lv)) (X : pm_Sx p l e R s m args below meth c cells slots Q D k ad A me.2.2.1 nx.1 nx.2.1 nx.2.2.1 nx.2.2.2) : W p l e R s m args below meth c H locs cells slots Q (F0 m pc ls (st.map (pm_vr ad))) := by
  obtain ⟨my, bt, ml, rt, np, ow, sta⟩ := me
  obtain ⟨⟨hx, hb, hml, hown, hts⟩, hK, hE, hA, hR1, hR2⟩ := G
  simp [pm_side, pm_len] at hs
  cases ht
  obtain ⟨rfl, hz⟩ := hs
  exact lv_goto hx hb hd hz (X _ _ _ hW hl)

theorem pm_o21 (G : pm_Gx p s m args c R D k ad A me) (hd : decode me.2.1 pc = .ok (pm_real (21, r, len, z, a, b, i), len)) (hs : pm_side me pc (21, r, len, z, a, b, i) = true) (ht : pm_stp (21, r, len, z, a, b, i) pc lv st h = some nx) (hW : pm_Wo D k ad A s h H locs) (hl : lv_has ls me.2.2.1 (pm_lr ad lv)) (X : pm_Sx p l e R s m args below meth c cells slots Q D k ad A me.2.2.1 nx.1 nx.2.1 nx.2.2.1 nx.2.2.2) : W p l e R s m args below meth c H locs cells slots Q (F0 m pc ls (st.map (pm_vr ad))) := by
  obtain ⟨my, bt, ml, rt, np, ow, sta⟩ := me
  obtain ⟨⟨hx, hb, hml, hown, hts⟩, hK, hE, hA, hR1, hR2⟩ := G
  simp [pm_side, pm_len] at hs
  obtain ⟨x, t, rfl, hu⟩ := pm_sI_some ht
  obtain ⟨rfl, hz, hs⟩ := hs
  match b, hs, hd, hu with
  | 0, _, hd, hu => cases hu; exact lv_if_eq hx hb hd hz (fun c1 => by have y1 := X _ _ _ hW hl; dsimp only at y1; rw [if_pos (decide_eq_true c1)] at y1; exact y1) (fun c1 => by have y1 := X _ _ _ hW hl; dsimp only at y1; rw [if_neg (fun q => c1 (of_decide_eq_true q))] at y1; exact y1)
  | 1, _, hd, hu => cases hu; exact lv_if_ne hx hb hd hz (fun c1 => by have y1 := X _ _ _ hW hl; dsimp only at y1; rw [if_pos (decide_eq_true c1)] at y1; exact y1) (fun c1 => by have y1 := X _ _ _ hW hl; dsimp only at y1; rw [if_neg (by simp [c1])] at y1; exact y1)
  | 2, _, hd, hu => cases hu; exact lv_if_lt hx hb hd hz (fun c1 => by have y1 := X _ _ _ hW hl; dsimp only at y1; rw [if_pos (decide_eq_true c1)] at y1; exact y1) (fun c1 => by have y1 := X _ _ _ hW hl; dsimp only at y1; rw [if_neg (fun q => c1 (of_decide_eq_true q))] at y1; exact y1)
  | 3, _, hd, hu => cases hu; exact lv_if_ge hx hb hd hz (fun c1 => by have y1 := X _ _ _ hW hl; dsimp only at y1; rw [if_pos (decide_eq_true c1)] at y1; exact y1) (fun c1 => by have y1 := X _ _ _ hW hl; dsimp only at y1; rw [if_neg (fun q => c1 (of_decide_eq_true q))] at y1; exact y1)
  | 4, _, hd, hu => cases hu; exact lv_if_gt hx hb hd hz (fun c1 => by have y1 := X _ _ _ hW hl; dsimp only at y1; rw [if_pos (decide_eq_true c1)] at y1; exact y1) (fun c1 => by have y1 := X _ _ _ hW hl; dsimp only at y1; rw [if_neg (fun q => c1 (of_decide_eq_true q))] at y1; exact y1)
  | 5, _, hd, hu => cases hu; exact lv_if_le hx hb hd hz (fun c1 => by have y1 := X _ _ _ hW hl; dsimp only at y1; rw [if_pos (decide_eq_true c1)] at y1; exact y1) (fun c1 => by have y1 := X _ _ _ hW hl; dsimp only at y1; rw [if_neg (fun q => c1 (of_decide_eq_true q))] at y1; exact y1)
  | b + 6, hs, _, _ => exact absurd hs (by omega)

theorem pm_o22 (G : pm_Gx p s m args c R D k ad A me) (hd : decode me.2.1 pc = .ok (pm_real (22, r, len, z, a, b, i), len)) (hs : pm_side me pc (22, r, len, z, a, b, i) = true) (ht : pm_stp (22, r, len, z, a, b, i) pc lv st h = some nx) (hW : pm_Wo D k ad A s h H locs) (hl : lv_has ls me.2.2.1 (pm_lr ad lv)) (X : pm_Sx p l e R s m args below meth c cells slots Q D k ad A me.2.2.1 nx.1 nx.2.1 nx.2.2.1 nx.2.2.2) : W p l e R s m args below meth c H locs cells slots Q (F0 m pc ls (st.map (pm_vr ad))) := by
  obtain ⟨my, bt, ml, rt, np, ow, sta⟩ := me
  obtain ⟨⟨hx, hb, hml, hown, hts⟩, hK, hE, hA, hR1, hR2⟩ := G
  simp [pm_side, pm_len] at hs
  obtain ⟨y, t, rfl, hu0⟩ := pm_sI_some ht
  obtain ⟨x, u, rfl, hu⟩ := pm_sI_some hu0
  obtain ⟨rfl, hz, hs⟩ := hs
  match b, hs, hd, hu with
  | 0, _, hd, hu => cases hu; exact lv_icmp_eq hx hb hd hz (fun c1 => by have y1 := X _ _ _ hW hl; dsimp only at y1; rw [if_pos (decide_eq_true c1)] at y1; exact y1) (fun c1 => by have y1 := X _ _ _ hW hl; dsimp only at y1; rw [if_neg (fun q => c1 (of_decide_eq_true q))] at y1; exact y1)
  | 1, _, hd, hu => cases hu; exact lv_icmp_ne hx hb hd hz (fun c1 => by have y1 := X _ _ _ hW hl; dsimp only at y1; rw [if_pos (decide_eq_true c1)] at y1; exact y1) (fun c1 => by have y1 := X _ _ _ hW hl; dsimp only at y1; rw [if_neg (by simp [c1])] at y1; exact y1)
  | 2, _, hd, hu => cases hu; exact lv_icmp_lt hx hb hd hz (fun c1 => by have y1 := X _ _ _ hW hl; dsimp only at y1; rw [if_pos (decide_eq_true c1)] at y1; exact y1) (fun c1 => by have y1 := X _ _ _ hW hl; dsimp only at y1; rw [if_neg (fun q => c1 (of_decide_eq_true q))] at y1; exact y1)
  | 3, _, hd, hu => cases hu; exact lv_icmp_ge hx hb hd hz (fun c1 => by have y1 := X _ _ _ hW hl; dsimp only at y1; rw [if_pos (decide_eq_true c1)] at y1; exact y1) (fun c1 => by have y1 := X _ _ _ hW hl; dsimp only at y1; rw [if_neg (fun q => c1 (of_decide_eq_true q))] at y1; exact y1)
  | 4, _, hd, hu => cases hu; exact lv_icmp_gt hx hb hd hz (fun c1 => by have y1 := X _ _ _ hW hl; dsimp only at y1; rw [if_pos (decide_eq_true c1)] at y1; exact y1) (fun c1 => by have y1 := X _ _ _ hW hl; dsimp only at y1; rw [if_neg (fun q => c1 (of_decide_eq_true q))] at y1; exact y1)
  | 5, _, hd, hu => cases hu; exact lv_icmp_le hx hb hd hz (fun c1 => by have y1 := X _ _ _ hW hl; dsimp only at y1; rw [if_pos (decide_eq_true c1)] at y1; exact y1) (fun c1 => by have y1 := X _ _ _ hW hl; dsimp only at y1; rw [if_neg (fun q => c1 (of_decide_eq_true q))] at y1; exact y1)
  | b + 6, hs, _, _ => exact absurd hs (by omega)

theorem pm_o23 (G : pm_Gx p s m args c R D k ad A me) (hd : decode me.2.1 pc = .ok (pm_real (23, r, len, z, a, b, i), len)) (hs : pm_side me pc (23, r, len, z, a, b, i) = true) (ht : pm_stp (23, r, len, z, a, b, i) pc lv st h = some nx) (hW : pm_Wo D k ad A s h H locs) (hl : lv_has ls me.2.2.1 (pm_lr ad lv)) (X : pm_Sx p l e R s m args below meth c cells slots Q D k ad A me.2.2.1 nx.1 nx.2.1 nx.2.2.1 nx.2.2.2) : W p l e R s m args below meth c H locs cells slots Q (F0 m pc ls (st.map (pm_vr ad))) := by
  obtain ⟨my, bt, ml, rt, np, ow, sta⟩ := me
  obtain ⟨⟨hx, hb, hml, hown, hts⟩, hK, hE, hA, hR1, hR2⟩ := G
  simp [pm_side, pm_len] at hs
  obtain ⟨x, t, rfl, hu⟩ := pm_sI_some ht
  cases hg : pm_sw a pc x with
  | none => rw [hg] at hu; cases hu
  | some g =>
    rw [hg] at hu
    cases hu
    unfold pm_sw at hg
    cases hw : pm_SW[a]? with
    | none => rw [hw] at hg; cases hg
    | some q =>
      obtain ⟨d, lo, hi, offs, p0⟩ := q
      rw [hw] at hg
      have hd' : decode bt pc = .ok (.tableswitch d lo hi offs.toArray, len) := by
        rw [show decode bt pc = _ from hd]; simp only [pm_real, hw]
      have hgo : ∀ o : Int, pm_go pc o = some g → (pc : Int) + o = (g : Int) := by
        intro o ho
        unfold pm_go at ho
        split at ho
        · cases ho; omega
        · cases ho
      dsimp only at hg
      split at hg
      · rename_i hc
        exact lv_tableOut hx hb hd' hc (hgo _ hg) (X _ _ _ hW hl)
      · rename_i hc
        cases ho : offs[(x.toInt - lo).toNat]? with
        | none => rw [ho] at hg; cases hg
        | some o =>
          rw [ho] at hg
          exact lv_tableIn hx hb hd' (fun q => hc (Or.inl q)) (fun q => hc (Or.inr q)) (by rw [List.getElem?_toArray]; exact ho) (hgo o hg) (X _ _ _ hW hl)

end
