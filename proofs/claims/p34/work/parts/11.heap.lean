section
variable {p : Program} {l : Launch} {e : Env} {R : Room} {s : State} {m : MethodId} {args : Array Value} {below : List Frame} {meth : Method} {c : Code} {H : Heap} {locs : List Loc} {cells slots : Nat} {Q : State → Prop} {D : va_G} {k : pm_cK} {ad : Nat → Nat} {A : Nat → Prop} {me : pm_Me} {pc : Nat} {lv : pm_Lv} {st : List Value} {h : pm_Hp} {nx : pm_Nx} {ls : Array Slot} {r len a b i : Nat} {z : Int}

theorem pm_o24 (G : pm_Gx p s m args c R D k ad A me) (hd : decode me.2.1 pc = .ok (pm_real (24, r, len, z, a, b, i), len)) (hs : pm_side me pc (24, r, len, z, a, b, i) = true) (ht : pm_stp (24, r, len, z, a, b, i) pc lv st h = some nx) (hW : pm_Wo D k ad A s h H locs) (hl : lv_has ls me.2.2.1 (pm_lr ad lv)) (X : pm_Sx p l e R s m args below meth c cells slots Q D k ad A me.2.2.1 nx.1 nx.2.1 nx.2.2.1 nx.2.2.2) : W p l e R s m args below meth c H locs cells slots Q (F0 m pc ls (st.map (pm_vr ad))) := by
  obtain ⟨my, bt, ml, rt, np, ow, sta⟩ := me
  obtain ⟨⟨hx, hb, hml, hown, hts⟩, hK, hE, hA, hR1, hR2⟩ := G
  obtain ⟨q, t, rfl, hu⟩ := pm_sR_some ht
  by_cases hk0 : pm_fk q b a = some 0 ∨ pm_fk q b a = some 4
  · rw [if_pos hk0] at hu
    cases hu
    obtain ⟨kd, hkd, hkv⟩ : ∃ kd, pm_fk q b a = some kd ∧ ∀ z, pm_vK ad kd z = .int (Int32.ofInt z) := by
      rcases hk0 with e1 | e1
      · exact ⟨0, e1, fun _ => rfl⟩
      · exact ⟨4, e1, fun _ => rfl⟩
    obtain ⟨ks, hS, hka, hkt, haN, hb12, hlen⟩ := pm_fk_some hkd
    have he := pm_Wd_at k ad h hS (by decide : (0 : Nat) ≠ 6)
    have hv : (pm_mF ad (h q) 0 ks)[a]? = some (pm_vK ad kd (h q a)) := by rw [pm_mF_get, hka, Nat.zero_add]; rfl
    rw [hkv] at hv
    match r, hd, hs with
    | 0, hd, hs =>
      simp [pm_side, pm_len] at hs
      obtain ⟨rfl, h3⟩ := hs
      have hm := h3.1.1
      exact va_get hx hb hts (pm_inU b hb12) hown hK hW.1 q he (pm_cl b hb12) a haN (hts _ (pm_inG (pm_FL_ok (ow, i, b, a) hm) rfl)) (fun x1 h1 => by rw [← pm_T1 b hb12 a]; exact h1) hv hd (X _ _ _ hW hl)
    | r + 1, hd, hs =>
      simp [pm_side, pm_len] at hs
      obtain ⟨rfl, rfl, rfl, rfl, rfl⟩ := hs
      exact va_getN hx hb hts (pm_inU 9 hb12) hown hK hW.1 q he (pm_cl 9 hb12) 6 haN (va_tabs rfl rfl hE.2.2.1) (fun x1 h1 => h1) hv hd (X _ _ _ hW hl)
  · rw [if_neg hk0] at hu; cases hu

theorem pm_o25 (G : pm_Gx p s m args c R D k ad A me) (hd : decode me.2.1 pc = .ok (pm_real (25, r, len, z, a, b, i), len)) (hs : pm_side me pc (25, r, len, z, a, b, i) = true) (ht : pm_stp (25, r, len, z, a, b, i) pc lv st h = some nx) (hW : pm_Wo D k ad A s h H locs) (hl : lv_has ls me.2.2.1 (pm_lr ad lv)) (X : pm_Sx p l e R s m args below meth c cells slots Q D k ad A me.2.2.1 nx.1 nx.2.1 nx.2.2.1 nx.2.2.2) : W p l e R s m args below meth c H locs cells slots Q (F0 m pc ls (st.map (pm_vr ad))) := by
  obtain ⟨my, bt, ml, rt, np, ow, sta⟩ := me
  obtain ⟨⟨hx, hb, hml, hown, hts⟩, hK, hE, hA, hR1, hR2⟩ := G
  obtain ⟨q, t, rfl, hu⟩ := pm_sR_some ht
  by_cases hk0 : pm_fk q b a = some 1
  · rw [if_pos hk0] at hu
    cases hu
    obtain ⟨kd, hkd, hkv⟩ : ∃ kd, pm_fk q b a = some kd ∧ ∀ z, pm_vK ad kd z = .long (Int64.ofInt z) := by
      exact ⟨1, hk0, fun _ => rfl⟩
    obtain ⟨ks, hS, hka, hkt, haN, hb12, hlen⟩ := pm_fk_some hkd
    have he := pm_Wd_at k ad h hS (by decide : (0 : Nat) ≠ 6)
    have hv : (pm_mF ad (h q) 0 ks)[a]? = some (pm_vK ad kd (h q a)) := by rw [pm_mF_get, hka, Nat.zero_add]; rfl
    rw [hkv] at hv
    simp [pm_side, pm_len] at hs
    obtain ⟨rfl, h3⟩ := hs
    have hm := h3.1.1.2
    exact va_get hx hb hts (pm_inU b hb12) hown hK hW.1 q he (pm_cl b hb12) a haN (hts _ (pm_inG (pm_FL_ok (ow, i, b, a) hm) rfl)) (fun x1 h1 => by rw [← pm_T1 b hb12 a]; exact h1) hv hd (X _ _ _ hW hl)
  · rw [if_neg hk0] at hu; cases hu

theorem pm_o26 (G : pm_Gx p s m args c R D k ad A me) (hd : decode me.2.1 pc = .ok (pm_real (26, r, len, z, a, b, i), len)) (hs : pm_side me pc (26, r, len, z, a, b, i) = true) (ht : pm_stp (26, r, len, z, a, b, i) pc lv st h = some nx) (hW : pm_Wo D k ad A s h H locs) (hl : lv_has ls me.2.2.1 (pm_lr ad lv)) (X : pm_Sx p l e R s m args below meth c cells slots Q D k ad A me.2.2.1 nx.1 nx.2.1 nx.2.2.1 nx.2.2.2) : W p l e R s m args below meth c H locs cells slots Q (F0 m pc ls (st.map (pm_vr ad))) := by
  obtain ⟨my, bt, ml, rt, np, ow, sta⟩ := me
  obtain ⟨⟨hx, hb, hml, hown, hts⟩, hK, hE, hA, hR1, hR2⟩ := G
  obtain ⟨q, t, rfl, hu⟩ := pm_sR_some ht
  by_cases hk0 : pm_fk q b a = some 2
  · rw [if_pos hk0] at hu
    cases hu
    obtain ⟨kd, hkd, hkv⟩ : ∃ kd, pm_fk q b a = some kd ∧ ∀ z, pm_vK ad kd z = .ref (ad z.toNat) := by
      exact ⟨2, hk0, fun _ => rfl⟩
    obtain ⟨ks, hS, hka, hkt, haN, hb12, hlen⟩ := pm_fk_some hkd
    have he := pm_Wd_at k ad h hS (by decide : (0 : Nat) ≠ 6)
    have hv : (pm_mF ad (h q) 0 ks)[a]? = some (pm_vK ad kd (h q a)) := by rw [pm_mF_get, hka, Nat.zero_add]; rfl
    rw [hkv] at hv
    simp [pm_side, pm_len] at hs
    obtain ⟨rfl, h3⟩ := hs
    have hm := h3.1.1.2
    exact va_get hx hb hts (pm_inU b hb12) hown hK hW.1 q he (pm_cl b hb12) a haN (hts _ (pm_inG (pm_FL_ok (ow, i, b, a) hm) rfl)) (fun x1 h1 => by rw [← pm_T1 b hb12 a]; exact h1) hv hd (X _ _ _ hW hl)
  · rw [if_neg hk0] at hu; cases hu

theorem pm_o27 (G : pm_Gx p s m args c R D k ad A me) (hd : decode me.2.1 pc = .ok (pm_real (27, r, len, z, a, b, i), len)) (hs : pm_side me pc (27, r, len, z, a, b, i) = true) (ht : pm_stp (27, r, len, z, a, b, i) pc lv st h = some nx) (hW : pm_Wo D k ad A s h H locs) (hl : lv_has ls me.2.2.1 (pm_lr ad lv)) (X : pm_Sx p l e R s m args below meth c cells slots Q D k ad A me.2.2.1 nx.1 nx.2.1 nx.2.2.1 nx.2.2.2) : W p l e R s m args below meth c H locs cells slots Q (F0 m pc ls (st.map (pm_vr ad))) := by
  obtain ⟨my, bt, ml, rt, np, ow, sta⟩ := me
  obtain ⟨⟨hx, hb, hml, hown, hts⟩, hK, hE, hA, hR1, hR2⟩ := G
  obtain ⟨x, t, rfl, hu0⟩ := pm_sI_some ht
  obtain ⟨q, u, rfl, hu⟩ := pm_sR_some hu0
  by_cases hk0 : pm_fk q b a = some 0 ∨ (pm_fk q b a = some 4 ∧ (x = 0 ∨ x = 1))
  · rw [if_pos hk0] at hu
    cases hu
    obtain ⟨kd, hkd, hkv, hty⟩ : ∃ kd, pm_fk q b a = some kd ∧ Value.int x = pm_vK ad kd x.toInt ∧ ∀ ty, pm_kt kd ty = true → narrow ty (Value.int x) = Value.int x ∧ fits ty (Value.int x) = true := by
      rcases hk0 with e1 | ⟨e1, e2⟩
      · exact ⟨0, e1, by show _ = Value.int _; rw [pm_oi], fun ty h1 => by cases ty <;> first | exact ⟨rfl, rfl⟩ | cases h1⟩
      · exact ⟨4, e1, by show _ = Value.int _; rw [pm_oi], fun ty h1 => by cases ty <;> first | (rcases e2 with rfl | rfl <;> exact ⟨by decide +kernel, by decide +kernel⟩) | cases h1⟩
    obtain ⟨ks, hS, hka, hkt, haN, hb12, hlen⟩ := pm_fk_some hkd
    have he := pm_Wd_at k ad h hS (by decide : (0 : Nat) ≠ 6)
    have hset : (pm_Wd k ad h).set q (ad q, .inr (b, (pm_mF ad (h q) 0 ks).set a (Value.int x))) = pm_Wd k ad (pm_up h q a x.toInt) := by
      refine pm_Wd_set k ad hS (by decide : (0 : Nat) ≠ 6) ?_ (fun c1 hc => pm_up_nc _ _ _ _ _ hc)
      show _ = (ad q, Sum.inr (b, pm_mF ad (pm_up h q a x.toInt q) 0 ks))
      rw [pm_mF_set ad hka (by rw [pm_up_at]; exact hkv) (fun j hj => pm_up_nj _ _ _ _ _ hj)]
    obtain ⟨hn, hf⟩ := hty _ hkt
    simp [pm_side, pm_len] at hs
    obtain ⟨rfl, h3, hfin⟩ := hs
    have hm := h3.1.1.2
    exact va_put hx hb hts (pm_inU b hb12) (pm_tf b) (pm_tf_ok b hb12) (pm_nm b hb12) hown hK hW.1 hW.2.1 hW.2.2 q he (pm_cl b hb12) a haN (hts _ (pm_inG (pm_FL_ok (ow, i, b, a) hm) rfl)) (fun x1 h1 => by rw [← pm_T1 b hb12 a]; exact h1) hfin (pm_tf_ok b hb12 a haN) hn hf (by rw [pm_mF_len, hlen]; exact haN) hd (fun H1 locs1 hP1 hD1 hS1 => X _ _ _ ⟨by rw [← hset]; exact hP1, by rw [← hset]; exact hD1, hS1⟩ hl)
  · rw [if_neg hk0] at hu; cases hu

theorem pm_o28 (G : pm_Gx p s m args c R D k ad A me) (hd : decode me.2.1 pc = .ok (pm_real (28, r, len, z, a, b, i), len)) (hs : pm_side me pc (28, r, len, z, a, b, i) = true) (ht : pm_stp (28, r, len, z, a, b, i) pc lv st h = some nx) (hW : pm_Wo D k ad A s h H locs) (hl : lv_has ls me.2.2.1 (pm_lr ad lv)) (X : pm_Sx p l e R s m args below meth c cells slots Q D k ad A me.2.2.1 nx.1 nx.2.1 nx.2.2.1 nx.2.2.2) : W p l e R s m args below meth c H locs cells slots Q (F0 m pc ls (st.map (pm_vr ad))) := by
  obtain ⟨my, bt, ml, rt, np, ow, sta⟩ := me
  obtain ⟨⟨hx, hb, hml, hown, hts⟩, hK, hE, hA, hR1, hR2⟩ := G
  obtain ⟨x, t, rfl, hu0⟩ := pm_sL_some ht
  obtain ⟨q, u, rfl, hu⟩ := pm_sR_some hu0
  by_cases hk0 : pm_fk q b a = some 1
  · rw [if_pos hk0] at hu
    cases hu
    obtain ⟨kd, hkd, hkv, hty⟩ : ∃ kd, pm_fk q b a = some kd ∧ Value.long x = pm_vK ad kd x.toInt ∧ ∀ ty, pm_kt kd ty = true → narrow ty (Value.long x) = Value.long x ∧ fits ty (Value.long x) = true := by
      exact ⟨1, hk0, by show _ = Value.long _; rw [pm_ol], fun ty h1 => by cases ty <;> first | exact ⟨rfl, rfl⟩ | cases h1⟩
    obtain ⟨ks, hS, hka, hkt, haN, hb12, hlen⟩ := pm_fk_some hkd
    have he := pm_Wd_at k ad h hS (by decide : (0 : Nat) ≠ 6)
    have hset : (pm_Wd k ad h).set q (ad q, .inr (b, (pm_mF ad (h q) 0 ks).set a (Value.long x))) = pm_Wd k ad (pm_up h q a x.toInt) := by
      refine pm_Wd_set k ad hS (by decide : (0 : Nat) ≠ 6) ?_ (fun c1 hc => pm_up_nc _ _ _ _ _ hc)
      show _ = (ad q, Sum.inr (b, pm_mF ad (pm_up h q a x.toInt q) 0 ks))
      rw [pm_mF_set ad hka (by rw [pm_up_at]; exact hkv) (fun j hj => pm_up_nj _ _ _ _ _ hj)]
    obtain ⟨hn, hf⟩ := hty _ hkt
    simp [pm_side, pm_len] at hs
    obtain ⟨rfl, h3, hfin⟩ := hs
    have hm := h3.1.1.2
    exact va_put hx hb hts (pm_inU b hb12) (pm_tf b) (pm_tf_ok b hb12) (pm_nm b hb12) hown hK hW.1 hW.2.1 hW.2.2 q he (pm_cl b hb12) a haN (hts _ (pm_inG (pm_FL_ok (ow, i, b, a) hm) rfl)) (fun x1 h1 => by rw [← pm_T1 b hb12 a]; exact h1) hfin (pm_tf_ok b hb12 a haN) hn hf (by rw [pm_mF_len, hlen]; exact haN) hd (fun H1 locs1 hP1 hD1 hS1 => X _ _ _ ⟨by rw [← hset]; exact hP1, by rw [← hset]; exact hD1, hS1⟩ hl)
  · rw [if_neg hk0] at hu; cases hu

theorem pm_o29 (G : pm_Gx p s m args c R D k ad A me) (hd : decode me.2.1 pc = .ok (pm_real (29, r, len, z, a, b, i), len)) (hs : pm_side me pc (29, r, len, z, a, b, i) = true) (ht : pm_stp (29, r, len, z, a, b, i) pc lv st h = some nx) (hW : pm_Wo D k ad A s h H locs) (hl : lv_has ls me.2.2.1 (pm_lr ad lv)) (X : pm_Sx p l e R s m args below meth c cells slots Q D k ad A me.2.2.1 nx.1 nx.2.1 nx.2.2.1 nx.2.2.2) : W p l e R s m args below meth c H locs cells slots Q (F0 m pc ls (st.map (pm_vr ad))) := by
  obtain ⟨my, bt, ml, rt, np, ow, sta⟩ := me
  obtain ⟨⟨hx, hb, hml, hown, hts⟩, hK, hE, hA, hR1, hR2⟩ := G
  obtain ⟨x, t, rfl, hu0⟩ := pm_sR_some ht
  obtain ⟨q, u, rfl, hu⟩ := pm_sR_some hu0
  by_cases hk0 : pm_fk q b a = some 2
  · rw [if_pos hk0] at hu
    cases hu
    obtain ⟨kd, hkd, hkv, hty⟩ : ∃ kd, pm_fk q b a = some kd ∧ Value.ref (ad x) = pm_vK ad kd (x : Int) ∧ ∀ ty, pm_kt kd ty = true → narrow ty (Value.ref (ad x)) = Value.ref (ad x) ∧ fits ty (Value.ref (ad x)) = true := by
      exact ⟨2, hk0, by show _ = Value.ref (ad ((x : Int).toNat)); rw [Int.toNat_natCast], fun ty h1 => by cases ty <;> first | exact ⟨rfl, rfl⟩ | cases h1⟩
    obtain ⟨ks, hS, hka, hkt, haN, hb12, hlen⟩ := pm_fk_some hkd
    have he := pm_Wd_at k ad h hS (by decide : (0 : Nat) ≠ 6)
    have hset : (pm_Wd k ad h).set q (ad q, .inr (b, (pm_mF ad (h q) 0 ks).set a (Value.ref (ad x)))) = pm_Wd k ad (pm_up h q a (x : Int)) := by
      refine pm_Wd_set k ad hS (by decide : (0 : Nat) ≠ 6) ?_ (fun c1 hc => pm_up_nc _ _ _ _ _ hc)
      show _ = (ad q, Sum.inr (b, pm_mF ad (pm_up h q a (x : Int) q) 0 ks))
      rw [pm_mF_set ad hka (by rw [pm_up_at]; exact hkv) (fun j hj => pm_up_nj _ _ _ _ _ hj)]
    obtain ⟨hn, hf⟩ := hty _ hkt
    simp [pm_side, pm_len] at hs
    obtain ⟨rfl, h3, hfin⟩ := hs
    have hm := h3.1.1.2
    exact va_put hx hb hts (pm_inU b hb12) (pm_tf b) (pm_tf_ok b hb12) (pm_nm b hb12) hown hK hW.1 hW.2.1 hW.2.2 q he (pm_cl b hb12) a haN (hts _ (pm_inG (pm_FL_ok (ow, i, b, a) hm) rfl)) (fun x1 h1 => by rw [← pm_T1 b hb12 a]; exact h1) hfin (pm_tf_ok b hb12 a haN) hn hf (by rw [pm_mF_len, hlen]; exact haN) hd (fun H1 locs1 hP1 hD1 hS1 => X _ _ _ ⟨by rw [← hset]; exact hP1, by rw [← hset]; exact hD1, hS1⟩ hl)
  · rw [if_neg hk0] at hu; cases hu

theorem pm_o30 (G : pm_Gx p s m args c R D k ad A me) (hd : decode me.2.1 pc = .ok (pm_real (30, r, len, z, a, b, i), len)) (hs : pm_side me pc (30, r, len, z, a, b, i) = true) (ht : pm_stp (30, r, len, z, a, b, i) pc lv st h = some nx) (hW : pm_Wo D k ad A s h H locs) (hl : lv_has ls me.2.2.1 (pm_lr ad lv)) (X : pm_Sx p l e R s m args below meth c cells slots Q D k ad A me.2.2.1 nx.1 nx.2.1 nx.2.2.1 nx.2.2.2) : W p l e R s m args below meth c H locs cells slots Q (F0 m pc ls (st.map (pm_vr ad))) := by
  obtain ⟨my, bt, ml, rt, np, ow, sta⟩ := me
  obtain ⟨⟨hx, hb, hml, hown, hts⟩, hK, hE, hA, hR1, hR2⟩ := G
  cases ht
  match r, hd, hs with
  | 0, hd, hs =>
    simp [pm_side, pm_len] at hs
    obtain ⟨rfl, rfl, rfl⟩ := hs
    exact va_gets hx hb hE.1 hW.2.2 hown (hts _ (pm_inG pm_gs0 rfl)) (fun x1 h1 => h1) hd (X _ _ _ hW hl)
  | r + 1, hd, hs =>
    simp [pm_side, pm_len] at hs
    obtain ⟨rfl, rfl, rfl⟩ := hs
    exact va_getsN hx hb hE.1 hW.2.2 hown (va_tabs rfl rfl hE.2.2.2) (fun x1 h1 => h1) hd (X _ _ _ hW hl)

theorem pm_o31 (G : pm_Gx p s m args c R D k ad A me) (hd : decode me.2.1 pc = .ok (pm_real (31, r, len, z, a, b, i), len)) (hs : pm_side me pc (31, r, len, z, a, b, i) = true) (ht : pm_stp (31, r, len, z, a, b, i) pc lv st h = some nx) (hW : pm_Wo D k ad A s h H locs) (hl : lv_has ls me.2.2.1 (pm_lr ad lv)) (X : pm_Sx p l e R s m args below meth c cells slots Q D k ad A me.2.2.1 nx.1 nx.2.1 nx.2.2.1 nx.2.2.2) : W p l e R s m args below meth c H locs cells slots Q (F0 m pc ls (st.map (pm_vr ad))) := by
  obtain ⟨my, bt, ml, rt, np, ow, sta⟩ := me
  obtain ⟨⟨hx, hb, hml, hown, hts⟩, hK, hE, hA, hR1, hR2⟩ := G
  obtain ⟨q, t, rfl, hu⟩ := pm_sR_some ht
  cases hg : pm_ak q with
  | none => rw [hg] at hu; cases hu
  | some g =>
    rw [hg] at hu
    obtain ⟨g1, n⟩ := g
    obtain ⟨xs, hS, hg0⟩ := pm_ak_some hg
    dsimp only [Option.bind_some] at hu
    dsimp only at hS
    split at hu
    · rename_i h5
      cases hu
      simp [pm_side, pm_len] at hs
      subst hs
      have he := pm_Wd_at k ad h hS (by show g1 ≠ 6; omega)
      match g1, h5, hg0, he with
      | 0, _, h0, _ => exact absurd rfl h0
      | 1, _, _, he => exact va_alen hx hb hK hW.1 q 1 he rfl rfl hd (X _ _ _ hW hl)
      | 2, _, _, he => exact va_alen hx hb hK hW.1 q 0 he rfl rfl hd (X _ _ _ hW hl)
      | 3, _, _, he => exact va_alen hx hb hK hW.1 q 3 he rfl rfl hd (X _ _ _ hW hl)
      | 4, _, _, he => exact va_alen hx hb hK hW.1 q 2 he rfl rfl hd (X _ _ _ hW hl)
      | g + 5, h5, _, _ => exact absurd h5 (by omega)
    · cases hu

theorem pm_o32 (G : pm_Gx p s m args c R D k ad A me) (hd : decode me.2.1 pc = .ok (pm_real (32, r, len, z, a, b, i), len)) (hs : pm_side me pc (32, r, len, z, a, b, i) = true) (ht : pm_stp (32, r, len, z, a, b, i) pc lv st h = some nx) (hW : pm_Wo D k ad A s h H locs) (hl : lv_has ls me.2.2.1 (pm_lr ad lv)) (X : pm_Sx p l e R s m args below meth c cells slots Q D k ad A me.2.2.1 nx.1 nx.2.1 nx.2.2.1 nx.2.2.2) : W p l e R s m args below meth c H locs cells slots Q (F0 m pc ls (st.map (pm_vr ad))) := by
  obtain ⟨my, bt, ml, rt, np, ow, sta⟩ := me
  obtain ⟨⟨hx, hb, hml, hown, hts⟩, hK, hE, hA, hR1, hR2⟩ := G
  obtain ⟨j, t, rfl, hu0⟩ := pm_sI_some ht
  obtain ⟨q, u, rfl, hu⟩ := pm_sR_some hu0
  cases hg : pm_ak q with
  | none => rw [hg] at hu; cases hu
  | some g =>
    rw [hg] at hu
    obtain ⟨g1, n⟩ := g
    obtain ⟨xs, hS, hg0⟩ := pm_ak_some hg
    dsimp only [Option.bind_some] at hu
    dsimp only at hS
    simp [pm_side, pm_len] at hs
    subst hs
    split at hu
    · rename_i h1
      obtain ⟨hin, hu⟩ := pm_ix_some hu
      cases hu
      subst h1
      have he := pm_Wd_at k ad h hS (by decide : (1 : Nat) ≠ 6)
      exact va_iald hx hb hK hW.1 q 1 he rfl hin hd (X _ _ _ hW hl)
    · split at hu
      · rename_i h1 h6
        obtain ⟨hin, hu⟩ := pm_ix_some hu
        cases hu
        have hq := pm_S_6 hS h6
        subst hq
        exact va_ti hx hb hE.2.1 hW.2.2 hin rfl hd (X _ _ _ hW hl)
      · cases hu

theorem pm_o33 (G : pm_Gx p s m args c R D k ad A me) (hd : decode me.2.1 pc = .ok (pm_real (33, r, len, z, a, b, i), len)) (hs : pm_side me pc (33, r, len, z, a, b, i) = true) (ht : pm_stp (33, r, len, z, a, b, i) pc lv st h = some nx) (hW : pm_Wo D k ad A s h H locs) (hl : lv_has ls me.2.2.1 (pm_lr ad lv)) (X : pm_Sx p l e R s m args below meth c cells slots Q D k ad A me.2.2.1 nx.1 nx.2.1 nx.2.2.1 nx.2.2.2) : W p l e R s m args below meth c H locs cells slots Q (F0 m pc ls (st.map (pm_vr ad))) := by
  obtain ⟨my, bt, ml, rt, np, ow, sta⟩ := me
  obtain ⟨⟨hx, hb, hml, hown, hts⟩, hK, hE, hA, hR1, hR2⟩ := G
  obtain ⟨j, t, rfl, hu0⟩ := pm_sI_some ht
  obtain ⟨q, u, rfl, hu⟩ := pm_sR_some hu0
  cases hg : pm_ak q with
  | none => rw [hg] at hu; cases hu
  | some g =>
    rw [hg] at hu
    obtain ⟨g1, n⟩ := g
    obtain ⟨xs, hS, hg0⟩ := pm_ak_some hg
    dsimp only [Option.bind_some] at hu
    dsimp only at hS
    simp [pm_side, pm_len] at hs
    subst hs
    split at hu
    · rename_i h1
      obtain ⟨hin, hu⟩ := pm_ix_some hu
      cases hu
      rcases h1 with h1 | h1
      · skip
        subst h1
        have he := pm_Wd_at k ad h hS (by decide : (2 : Nat) ≠ 6)
        exact va_bald hx hb hK hW.1 q 0 he rfl hin hd (X _ _ _ hW hl)
      · skip
        subst h1
        have he := pm_Wd_at k ad h hS (by decide : (3 : Nat) ≠ 6)
        exact va_zald hx hb hK hW.1 q 3 he rfl hin hd (X _ _ _ hW hl)
    · cases hu

theorem pm_o34 (G : pm_Gx p s m args c R D k ad A me) (hd : decode me.2.1 pc = .ok (pm_real (34, r, len, z, a, b, i), len)) (hs : pm_side me pc (34, r, len, z, a, b, i) = true) (ht : pm_stp (34, r, len, z, a, b, i) pc lv st h = some nx) (hW : pm_Wo D k ad A s h H locs) (hl : lv_has ls me.2.2.1 (pm_lr ad lv)) (X : pm_Sx p l e R s m args below meth c cells slots Q D k ad A me.2.2.1 nx.1 nx.2.1 nx.2.2.1 nx.2.2.2) : W p l e R s m args below meth c H locs cells slots Q (F0 m pc ls (st.map (pm_vr ad))) := by
  obtain ⟨my, bt, ml, rt, np, ow, sta⟩ := me
  obtain ⟨⟨hx, hb, hml, hown, hts⟩, hK, hE, hA, hR1, hR2⟩ := G
  obtain ⟨j, t, rfl, hu0⟩ := pm_sI_some ht
  obtain ⟨q, u, rfl, hu⟩ := pm_sR_some hu0
  cases hg : pm_ak q with
  | none => rw [hg] at hu; cases hu
  | some g =>
    rw [hg] at hu
    obtain ⟨g1, n⟩ := g
    obtain ⟨xs, hS, hg0⟩ := pm_ak_some hg
    dsimp only [Option.bind_some] at hu
    dsimp only at hS
    simp [pm_side, pm_len] at hs
    subst hs
    split at hu
    · rename_i h1
      obtain ⟨hin, hu⟩ := pm_ix_some hu
      cases hu
      subst h1
      have he := pm_Wd_at k ad h hS (by decide : (4 : Nat) ≠ 6)
      exact va_lald hx hb hK hW.1 q 2 he rfl hin hd (X _ _ _ hW hl)
    · cases hu

theorem pm_o35 (G : pm_Gx p s m args c R D k ad A me) (hd : decode me.2.1 pc = .ok (pm_real (35, r, len, z, a, b, i), len)) (hs : pm_side me pc (35, r, len, z, a, b, i) = true) (ht : pm_stp (35, r, len, z, a, b, i) pc lv st h = some nx) (hW : pm_Wo D k ad A s h H locs) (hl : lv_has ls me.2.2.1 (pm_lr ad lv)) (X : pm_Sx p l e R s m args below meth c cells slots Q D k ad A me.2.2.1 nx.1 nx.2.1 nx.2.2.1 nx.2.2.2) : W p l e R s m args below meth c H locs cells slots Q (F0 m pc ls (st.map (pm_vr ad))) := by
  obtain ⟨my, bt, ml, rt, np, ow, sta⟩ := me
  obtain ⟨⟨hx, hb, hml, hown, hts⟩, hK, hE, hA, hR1, hR2⟩ := G
  obtain ⟨j, t, rfl, hu0⟩ := pm_sI_some ht
  obtain ⟨q, u, rfl, hu⟩ := pm_sR_some hu0
  cases hg : pm_ak q with
  | none => rw [hg] at hu; cases hu
  | some g =>
    rw [hg] at hu
    obtain ⟨g1, n⟩ := g
    obtain ⟨xs, hS, hg0⟩ := pm_ak_some hg
    dsimp only [Option.bind_some] at hu
    dsimp only at hS
    simp [pm_side, pm_len] at hs
    subst hs
    split at hu
    · rename_i h1
      obtain ⟨hin, hu⟩ := pm_ix_some hu
      cases hu
      subst h1
      have he := pm_Wd_at k ad h hS (by decide : (5 : Nat) ≠ 6)
      exact va_aldq hx hb hK hW.1 q 4 he rfl hin hd (X _ _ _ hW hl)
    · cases hu

theorem pm_o36 (G : pm_Gx p s m args c R D k ad A me) (hd : decode me.2.1 pc = .ok (pm_real (36, r, len, z, a, b, i), len)) (hs : pm_side me pc (36, r, len, z, a, b, i) = true) (ht : pm_stp (36, r, len, z, a, b, i) pc lv st h = some nx) (hW : pm_Wo D k ad A s h H locs) (hl : lv_has ls me.2.2.1 (pm_lr ad lv)) (X : pm_Sx p l e R s m args below meth c cells slots Q D k ad A me.2.2.1 nx.1 nx.2.1 nx.2.2.1 nx.2.2.2) : W p l e R s m args below meth c H locs cells slots Q (F0 m pc ls (st.map (pm_vr ad))) := by
  obtain ⟨my, bt, ml, rt, np, ow, sta⟩ := me
  obtain ⟨⟨hx, hb, hml, hown, hts⟩, hK, hE, hA, hR1, hR2⟩ := G
  obtain ⟨x, t, rfl, hu0⟩ := pm_sI_some ht
  obtain ⟨j, u, rfl, hu1⟩ := pm_sI_some hu0
  obtain ⟨q, w, rfl, hu⟩ := pm_sR_some hu1
  cases hg : pm_ak q with
  | none => rw [hg] at hu; cases hu
  | some g =>
    rw [hg] at hu
    obtain ⟨g1, n⟩ := g
    obtain ⟨xs, hS, hg0⟩ := pm_ak_some hg
    dsimp only [Option.bind_some] at hu
    dsimp only at hS
    simp [pm_side, pm_len] at hs
    subst hs
    split at hu
    · rename_i h1
      obtain ⟨hin, hu⟩ := pm_ix_some hu
      cases hu

      subst h1
      have he := pm_Wd_at k ad h hS (by decide : (1 : Nat) ≠ 6)
      have hset : (pm_Wd k ad h).set q (ad q, .inl (k.2.1, n, .inl (upd (fun i => Int32.ofInt (h q i)) j.toNatClampNeg x))) = pm_Wd k ad (pm_up h q j.toNatClampNeg x.toInt) := pm_Wd_set k ad hS (by decide : (1 : Nat) ≠ 6) (by
        show _ = (ad q, Sum.inl (k.2.1, n, Sum.inl (fun i => Int32.ofInt (pm_up h q j.toNatClampNeg x.toInt q i))))
        rw [pm_ar]) (fun c1 hc => pm_up_nc _ _ _ _ _ hc)
      exact va_iast hx hb hK hW.1 hW.2.1 hW.2.2 q 1 he rfl hin hd (fun H1 locs1 hP1 hD1 hS1 => X _ _ _ ⟨by rw [← hset]; exact hP1, by rw [← hset]; exact hD1, hS1⟩ hl)
    · cases hu

theorem pm_o37 (G : pm_Gx p s m args c R D k ad A me) (hd : decode me.2.1 pc = .ok (pm_real (37, r, len, z, a, b, i), len)) (hs : pm_side me pc (37, r, len, z, a, b, i) = true) (ht : pm_stp (37, r, len, z, a, b, i) pc lv st h = some nx) (hW : pm_Wo D k ad A s h H locs) (hl : lv_has ls me.2.2.1 (pm_lr ad lv)) (X : pm_Sx p l e R s m args below meth c cells slots Q D k ad A me.2.2.1 nx.1 nx.2.1 nx.2.2.1 nx.2.2.2) : W p l e R s m args below meth c H locs cells slots Q (F0 m pc ls (st.map (pm_vr ad))) := by
  obtain ⟨my, bt, ml, rt, np, ow, sta⟩ := me
  obtain ⟨⟨hx, hb, hml, hown, hts⟩, hK, hE, hA, hR1, hR2⟩ := G
  obtain ⟨x, t, rfl, hu0⟩ := pm_sI_some ht
  obtain ⟨j, u, rfl, hu1⟩ := pm_sI_some hu0
  obtain ⟨q, w, rfl, hu⟩ := pm_sR_some hu1
  cases hg : pm_ak q with
  | none => rw [hg] at hu; cases hu
  | some g =>
    rw [hg] at hu
    obtain ⟨g1, n⟩ := g
    obtain ⟨xs, hS, hg0⟩ := pm_ak_some hg
    dsimp only [Option.bind_some] at hu
    dsimp only at hS
    simp [pm_side, pm_len] at hs
    subst hs
    split at hu
    · rename_i h1
      obtain ⟨hin, hu⟩ := pm_ix_some hu
      cases hu
      rcases h1 with ⟨h1, hr⟩ | ⟨h1, hr⟩

      all_goals subst h1
      · have he := pm_Wd_at k ad h hS (by decide : (2 : Nat) ≠ 6)
        have hset : (pm_Wd k ad h).set q (ad q, .inl (k.1, n, .inl (upd (fun i => Int32.ofInt (h q i)) j.toNatClampNeg (vp_nar .byte x)))) = pm_Wd k ad (pm_up h q j.toNatClampNeg x.toInt) := pm_Wd_set k ad hS (by decide : (2 : Nat) ≠ 6) (by
          show _ = (ad q, Sum.inl (k.1, n, Sum.inl (fun i => Int32.ofInt (pm_up h q j.toNatClampNeg x.toInt q i))))
          rw [pm_ar, pm_nb hr]) (fun c1 hc => pm_up_nc _ _ _ _ _ hc)
        exact va_bast hx hb hK hW.1 hW.2.1 hW.2.2 q 0 he rfl hin hd (fun H1 locs1 hP1 hD1 hS1 => X _ _ _ ⟨by rw [← hset]; exact hP1, by rw [← hset]; exact hD1, hS1⟩ hl)
      · have he := pm_Wd_at k ad h hS (by decide : (3 : Nat) ≠ 6)
        have hset : (pm_Wd k ad h).set q (ad q, .inl (k.2.2.2.1, n, .inl (upd (fun i => Int32.ofInt (h q i)) j.toNatClampNeg (vp_nar .boolean x)))) = pm_Wd k ad (pm_up h q j.toNatClampNeg x.toInt) := pm_Wd_set k ad hS (by decide : (3 : Nat) ≠ 6) (by
          show _ = (ad q, Sum.inl (k.2.2.2.1, n, Sum.inl (fun i => Int32.ofInt (pm_up h q j.toNatClampNeg x.toInt q i))))
          rw [pm_ar, pm_nz hr]) (fun c1 hc => pm_up_nc _ _ _ _ _ hc)
        exact va_zast hx hb hK hW.1 hW.2.1 hW.2.2 q 3 he rfl hin hd (fun H1 locs1 hP1 hD1 hS1 => X _ _ _ ⟨by rw [← hset]; exact hP1, by rw [← hset]; exact hD1, hS1⟩ hl)
    · cases hu

theorem pm_o38 (G : pm_Gx p s m args c R D k ad A me) (hd : decode me.2.1 pc = .ok (pm_real (38, r, len, z, a, b, i), len)) (hs : pm_side me pc (38, r, len, z, a, b, i) = true) (ht : pm_stp (38, r, len, z, a, b, i) pc lv st h = some nx) (hW : pm_Wo D k ad A s h H locs) (hl : lv_has ls me.2.2.1 (pm_lr ad lv)) (X : pm_Sx p l e R s m args below meth c cells slots Q D k ad A me.2.2.1 nx.1 nx.2.1 nx.2.2.1 nx.2.2.2) : W p l e R s m args below meth c H locs cells slots Q (F0 m pc ls (st.map (pm_vr ad))) := by
  obtain ⟨my, bt, ml, rt, np, ow, sta⟩ := me
  obtain ⟨⟨hx, hb, hml, hown, hts⟩, hK, hE, hA, hR1, hR2⟩ := G
  obtain ⟨x, t, rfl, hu0⟩ := pm_sL_some ht
  obtain ⟨j, u, rfl, hu1⟩ := pm_sI_some hu0
  obtain ⟨q, w, rfl, hu⟩ := pm_sR_some hu1
  cases hg : pm_ak q with
  | none => rw [hg] at hu; cases hu
  | some g =>
    rw [hg] at hu
    obtain ⟨g1, n⟩ := g
    obtain ⟨xs, hS, hg0⟩ := pm_ak_some hg
    dsimp only [Option.bind_some] at hu
    dsimp only at hS
    simp [pm_side, pm_len] at hs
    subst hs
    split at hu
    · rename_i h1
      obtain ⟨hin, hu⟩ := pm_ix_some hu
      cases hu

      subst h1
      have he := pm_Wd_at k ad h hS (by decide : (4 : Nat) ≠ 6)
      have hset : (pm_Wd k ad h).set q (ad q, .inl (k.2.2.1, n, .inr (.inl (vp_updL (fun i => Int64.ofInt (h q i)) j.toNatClampNeg x)))) = pm_Wd k ad (pm_up h q j.toNatClampNeg x.toInt) := pm_Wd_set k ad hS (by decide : (4 : Nat) ≠ 6) (by
        show _ = (ad q, Sum.inl (k.2.2.1, n, Sum.inr (Sum.inl (fun i => Int64.ofInt (pm_up h q j.toNatClampNeg x.toInt q i)))))
        rw [pm_arL]) (fun c1 hc => pm_up_nc _ _ _ _ _ hc)
      exact va_last hx hb hK hW.1 hW.2.1 hW.2.2 q 2 he rfl hin hd (fun H1 locs1 hP1 hD1 hS1 => X _ _ _ ⟨by rw [← hset]; exact hP1, by rw [← hset]; exact hD1, hS1⟩ hl)
    · cases hu

theorem pm_o45 (G : pm_Gx p s m args c R D k ad A me) (hd : decode me.2.1 pc = .ok (pm_real (45, r, len, z, a, b, i), len)) (hs : pm_side me pc (45, r, len, z, a, b, i) = true) (ht : pm_stp (45, r, len, z, a, b, i) pc lv st h = some nx) (hW : pm_Wo D k ad A s h H locs) (hl : lv_has ls me.2.2.1 (pm_lr ad lv)) (X : pm_Sx p l e R s m args below meth c cells slots Q D k ad A me.2.2.1 nx.1 nx.2.1 nx.2.2.1 nx.2.2.2) : W p l e R s m args below meth c H locs cells slots Q (F0 m pc ls (st.map (pm_vr ad))) := by
  obtain ⟨my, bt, ml, rt, np, ow, sta⟩ := me
  obtain ⟨⟨hx, hb, hml, hown, hts⟩, hK, hE, hA, hR1, hR2⟩ := G
  obtain ⟨nn, t, rfl, hu0⟩ := pm_sI_some ht
  obtain ⟨dp, u, rfl, hu1⟩ := pm_sI_some hu0
  obtain ⟨d, v, rfl, hu2⟩ := pm_sR_some hu1
  obtain ⟨sp, w, rfl, hu3⟩ := pm_sI_some hu2
  obtain ⟨q, rr, rfl, hu⟩ := pm_sR_some hu3
  cases hg : pm_ak q with
  | none => rw [hg] at hu; cases hu
  | some gs =>
    rw [hg] at hu
    cases hg2 : pm_ak d with
    | none => rw [hg2] at hu; cases hu
    | some gd =>
      rw [hg2] at hu
      obtain ⟨g1, n0⟩ := gs
      obtain ⟨g2, n1⟩ := gd
      obtain ⟨xs, hS, hg0⟩ := pm_ak_some hg
      obtain ⟨ys, hS2, hg02⟩ := pm_ak_some hg2
      dsimp only [Option.bind_some] at hu
      dsimp only at hS hS2
      split at hu
      · rename_i hc
        cases hu
        obtain ⟨c1, c2, c3, c4, c5, c6, c7, c8⟩ := hc
        subst c2
        simp [pm_side, pm_len] at hs
        obtain ⟨rfl, hac⟩ := hs
        have hneg : ∀ y : Int32, 0 ≤ y.toInt → ¬ y < 0 := fun y hy hlt => by rw [Int32.lt_iff_toInt_lt, Int32.toInt_zero] at hlt; omega
        have hlink : (Cond.methodLink (pm_R ow) i arraycopyName).before args s = true := by
          simp [pm_AC] at hac
          rcases hac with ⟨rfl, rfl⟩ | ⟨rfl, rfl⟩
          · exact hts _ (pm_inG pm_ac_1 rfl)
          · exact hts _ (pm_inG pm_ac_5 rfl)
        have hloc : ((rr.map (pm_vr ad)).map fun v => v.category).sum + (nativeFrameWords "java/lang/System" "arraycopy" 5 + 11) ≤ R.locals := by
          rw [pm_cat_map, show nativeFrameWords "java/lang/System" "arraycopy" 5 = 7 from by decide +kernel]; omega
        rcases c1 with c1 | c1
        · subst c1
          have he := pm_Wd_at k ad h hS (by decide : (1 : Nat) ≠ 6)
          have he2 := pm_Wd_at k ad h hS2 (by decide : (1 : Nat) ≠ 6)
          have hset : (pm_Wd k ad h).set d (ad d, .inl (k.2.1, n1, .inl (va_cpy (fun i => Int32.ofInt (h q i)) (fun i => Int32.ofInt (h d i)) sp.toNatClampNeg dp.toNatClampNeg nn.toNatClampNeg))) = pm_Wd k ad (pm_cp h q d sp.toNatClampNeg dp.toNatClampNeg nn.toNatClampNeg) := pm_Wd_set k ad hS2 (by decide : (1 : Nat) ≠ 6) (by
            show _ = (ad d, Sum.inl (k.2.1, n1, Sum.inl (fun i => Int32.ofInt (pm_cp h q d sp.toNatClampNeg dp.toNatClampNeg nn.toNatClampNeg d i))))
            congr 5
            funext j
            unfold va_cpy pm_cp
            by_cases hj : dp.toNatClampNeg ≤ j ∧ j < dp.toNatClampNeg + nn.toNatClampNeg
            · rw [if_pos hj, if_pos ⟨rfl, hj⟩]
            · rw [if_neg hj, if_neg (fun e1 => hj e1.2)]) (fun c1 hc => funext fun j => if_neg (fun e1 => hc e1.1))
          exact va_copyi hx hb (hml.trans hl.1.symm) hown hlink (hts _ (pm_inG pm_acn rfl)) (hts _ (pm_inG pm_acs rfl)) (hts _ (pm_inG pm_aci rfl)) hK hW.1 hW.2.1 hW.2.2 q d 1 1 he he2 rfl rfl rfl (hneg _ c5) (hneg _ c4) (hneg _ c3) c6 c7 (fun _ _ => rfl) hR1 hloc hd (fun H1 locs1 hP1 hD1 hS1 => X _ _ _ ⟨by rw [← hset]; exact hP1, by rw [← hset]; exact hD1, hS1⟩ hl)
        · subst c1
          have he := pm_Wd_at k ad h hS (by decide : (4 : Nat) ≠ 6)
          have he2 := pm_Wd_at k ad h hS2 (by decide : (4 : Nat) ≠ 6)
          have hset : (pm_Wd k ad h).set d (ad d, .inl (k.2.2.1, n1, .inr (.inl (va_cpy (fun i => Int64.ofInt (h q i)) (fun i => Int64.ofInt (h d i)) sp.toNatClampNeg dp.toNatClampNeg nn.toNatClampNeg)))) = pm_Wd k ad (pm_cp h q d sp.toNatClampNeg dp.toNatClampNeg nn.toNatClampNeg) := pm_Wd_set k ad hS2 (by decide : (4 : Nat) ≠ 6) (by
            show _ = (ad d, Sum.inl (k.2.2.1, n1, Sum.inr (Sum.inl (fun i => Int64.ofInt (pm_cp h q d sp.toNatClampNeg dp.toNatClampNeg nn.toNatClampNeg d i)))))
            congr 6
            funext j
            unfold va_cpy pm_cp
            by_cases hj : dp.toNatClampNeg ≤ j ∧ j < dp.toNatClampNeg + nn.toNatClampNeg
            · rw [if_pos hj, if_pos ⟨rfl, hj⟩]
            · rw [if_neg hj, if_neg (fun e1 => hj e1.2)]) (fun c1 hc => funext fun j => if_neg (fun e1 => hc e1.1))
          exact va_copyl hx hb (hml.trans hl.1.symm) hown hlink (hts _ (pm_inG pm_acn rfl)) (hts _ (pm_inG pm_acs rfl)) (hts _ (pm_inG pm_aci rfl)) hK hW.1 hW.2.1 hW.2.2 q d 2 2 he he2 rfl rfl rfl (hneg _ c5) (hneg _ c4) (hneg _ c3) c6 c7 (fun _ _ => rfl) hR1 hloc hd (fun H1 locs1 hP1 hD1 hS1 => X _ _ _ ⟨by rw [← hset]; exact hP1, by rw [← hset]; exact hD1, hS1⟩ hl)
      · cases hu

theorem pm_o46 (hcs : cells ≤ R.cells ∧ slots ≤ R.slots) (G : pm_Gx p s m args c R D k ad A me) (hd : decode me.2.1 pc = .ok (pm_real (46, r, len, z, a, b, i), len)) (hs : pm_side me pc (46, r, len, z, a, b, i) = true) (ht : pm_stp (46, r, len, z, a, b, i) pc lv st h = some nx) (hW : pm_Wo D k ad A s h H locs) (hl : lv_has ls me.2.2.1 (pm_lr ad lv)) (X : pm_Sx p l e R s m args below meth c cells slots Q D k ad A me.2.2.1 nx.1 nx.2.1 nx.2.2.1 nx.2.2.2) : W p l e R s m args below meth c H locs cells slots Q (F0 m pc ls (st.map (pm_vr ad))) := by
  obtain ⟨my, bt, ml, rt, np, ow, sta⟩ := me
  obtain ⟨⟨hx, hb, hml, hown, hts⟩, hK, hE, hA, hR1, hR2⟩ := G
  have hrm : ∀ u : List Value, pm_cat u ≤ 8 → ∀ n : Nat, n ≤ 15 → ((u.map (pm_vr ad)).map fun v => v.category).sum + n ≤ R.locals := fun u hu n hn => by rw [pm_cat_map]; omega
  match b, hd, hs, ht with
  | 0, hd, hs, ht =>
    simp [pm_side, pm_len] at hs
    obtain ⟨rfl, hm⟩ := hs
    obtain ⟨y, t, rfl, hu0⟩ := pm_sI_some ht
    obtain ⟨x, u, rfl, hu⟩ := pm_sI_some hu0
    split at hu
    · rename_i hc
      cases hu
      exact va_mmax hx hb (hml.trans hl.1.symm) hown (hts _ (pm_inG (pm_MA_ok (ow, i, 0) hm) rfl)) (hts _ (pm_inG pm_mas_0 rfl)) (hts _ (pm_inG pm_mai rfl)) (hts _ (pm_inG pm_mac_0 rfl)) hR1 (hrm _ hc 13 (by omega)) hcs.1 hcs.2 hd (X _ _ _ hW hl)
    · cases hu
  | 1, hd, hs, ht =>
    simp [pm_side, pm_len] at hs
    obtain ⟨rfl, hm⟩ := hs
    obtain ⟨y, t, rfl, hu0⟩ := pm_sI_some ht
    obtain ⟨x, u, rfl, hu⟩ := pm_sI_some hu0
    split at hu
    · rename_i hc
      cases hu
      exact va_mmin hx hb (hml.trans hl.1.symm) hown (hts _ (pm_inG (pm_MA_ok (ow, i, 1) hm) rfl)) (hts _ (pm_inG pm_mas_1 rfl)) (hts _ (pm_inG pm_mai rfl)) (hts _ (pm_inG pm_mac_1 rfl)) hR1 (hrm _ hc 13 (by omega)) hcs.1 hcs.2 hd (X _ _ _ hW hl)
    · cases hu
  | 2, hd, hs, ht =>
    simp [pm_side, pm_len] at hs
    obtain ⟨rfl, hm⟩ := hs
    obtain ⟨y, t, rfl, hu0⟩ := pm_sL_some ht
    obtain ⟨x, u, rfl, hu⟩ := pm_sL_some hu0
    split at hu
    · rename_i hc
      cases hu
      exact va_mmin_long hx hb (hml.trans hl.1.symm) hown (hts _ (pm_inG (pm_MA_ok (ow, i, 2) hm) rfl)) (hts _ (pm_inG pm_mas_2 rfl)) (hts _ (pm_inG pm_mai rfl)) (hts _ (pm_inG pm_mac_2 rfl)) hR1 (hrm _ hc 15 (by omega)) hcs.1 hcs.2 hd (X _ _ _ hW hl)
    · cases hu
  | b + 3, hd, hs, ht =>
    simp [pm_side, pm_len] at hs
    exact absurd hs.2.2 (by omega)

theorem pm_step1 {i : pm_Ins} (hcs : cells ≤ R.cells ∧ slots ≤ R.slots) (G : pm_Gx p s m args c R D k ad A me) (hd : decode me.2.1 pc = .ok (pm_real i, i.2.2.1)) (hs : pm_side me pc i = true) (ht : pm_stp i pc lv st h = some nx) (hW : pm_Wo D k ad A s h H locs) (hl : lv_has ls me.2.2.1 (pm_lr ad lv)) (X : pm_Sx p l e R s m args below meth c cells slots Q D k ad A me.2.2.1 nx.1 nx.2.1 nx.2.2.1 nx.2.2.2) : W p l e R s m args below meth c H locs cells slots Q (F0 m pc ls (st.map (pm_vr ad))) := by
  obtain ⟨f, r, len, z, a, b, i⟩ := i
  have hf : f < 47 := by
    rcases Nat.lt_or_ge f 47 with q | q
    · exact q
    · exfalso
      unfold pm_stp at ht
      dsimp only at ht
      split at ht <;> first | omega | cases ht
  match f, hf, hd, hs, ht with
  | 0, _, hd, hs, ht => exact pm_o0 G hd hs ht hW hl X
  | 1, _, hd, hs, ht => exact pm_o1 G hd hs ht hW hl X
  | 2, _, hd, hs, ht => exact pm_o2 G hd hs ht hW hl X
  | 3, _, hd, hs, ht => exact pm_o3 G hd hs ht hW hl X
  | 4, _, hd, hs, ht => exact pm_o4 G hd hs ht hW hl X
  | 5, _, hd, hs, ht => exact pm_o5 G hd hs ht hW hl X
  | 6, _, hd, hs, ht => exact pm_o6 G hd hs ht hW hl X
  | 7, _, hd, hs, ht => exact pm_o7 G hd hs ht hW hl X
  | 8, _, hd, hs, ht => exact pm_o8 G hd hs ht hW hl X
  | 9, _, hd, hs, ht => exact pm_o9 G hd hs ht hW hl X
  | 10, _, hd, hs, ht => exact pm_o10 G hd hs ht hW hl X
  | 11, _, hd, hs, ht => exact pm_o11 G hd hs ht hW hl X
  | 12, _, hd, hs, ht => exact pm_o12 G hd hs ht hW hl X
  | 13, _, hd, hs, ht => exact pm_o13 G hd hs ht hW hl X
  | 14, _, hd, hs, ht => exact pm_o14 G hd hs ht hW hl X
  | 15, _, hd, hs, ht => exact pm_o15 G hd hs ht hW hl X
  | 16, _, hd, hs, ht => exact pm_o16 G hd hs ht hW hl X
  | 17, _, hd, hs, ht => exact pm_o17 G hd hs ht hW hl X
  | 18, _, hd, hs, ht => exact pm_o18 G hd hs ht hW hl X
  | 19, _, hd, hs, ht => exact pm_o19 G hd hs ht hW hl X
  | 20, _, hd, hs, ht => exact pm_o20 G hd hs ht hW hl X
  | 21, _, hd, hs, ht => exact pm_o21 G hd hs ht hW hl X
  | 22, _, hd, hs, ht => exact pm_o22 G hd hs ht hW hl X
  | 23, _, hd, hs, ht => exact pm_o23 G hd hs ht hW hl X
  | 24, _, hd, hs, ht => exact pm_o24 G hd hs ht hW hl X
  | 25, _, hd, hs, ht => exact pm_o25 G hd hs ht hW hl X
  | 26, _, hd, hs, ht => exact pm_o26 G hd hs ht hW hl X
  | 27, _, hd, hs, ht => exact pm_o27 G hd hs ht hW hl X
  | 28, _, hd, hs, ht => exact pm_o28 G hd hs ht hW hl X
  | 29, _, hd, hs, ht => exact pm_o29 G hd hs ht hW hl X
  | 30, _, hd, hs, ht => exact pm_o30 G hd hs ht hW hl X
  | 31, _, hd, hs, ht => exact pm_o31 G hd hs ht hW hl X
  | 32, _, hd, hs, ht => exact pm_o32 G hd hs ht hW hl X
  | 33, _, hd, hs, ht => exact pm_o33 G hd hs ht hW hl X
  | 34, _, hd, hs, ht => exact pm_o34 G hd hs ht hW hl X
  | 35, _, hd, hs, ht => exact pm_o35 G hd hs ht hW hl X
  | 36, _, hd, hs, ht => exact pm_o36 G hd hs ht hW hl X
  | 37, _, hd, hs, ht => exact pm_o37 G hd hs ht hW hl X
  | 38, _, hd, hs, ht => exact pm_o38 G hd hs ht hW hl X
  | 39, _, _, _, ht => cases ht
  | 40, _, _, _, ht => cases ht
  | 41, _, _, _, ht => cases ht
  | 42, _, _, _, ht => cases ht
  | 43, _, _, _, ht => cases ht
  | 44, _, _, _, ht => cases ht
  | 45, _, hd, hs, ht => exact pm_o45 G hd hs ht hW hl X
  | 46, _, hd, hs, ht => exact pm_o46 hcs G hd hs ht hW hl X
  | f + 47, hf, _, _, _ => exact absurd hf (by omega)

end
