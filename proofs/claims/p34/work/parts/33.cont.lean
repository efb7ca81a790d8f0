/-! The checker: a contract, out of its paths. -/
noncomputable def ck_wMb (n : Nat) (M : ck_O) : Bool := List.rec (motive := fun _ => Bool) true (fun w _ ih => bif ck_wl n w.2.1.2 then (bif ck_wl n w.2.2.2 then ih else false) else false) M
theorem ck_wMb_ok {n : Nat} : ∀ {M : ck_O}, ck_wMb n M = true → ck_Mw n M
  | [], _ => fun _ h => absurd h List.not_mem_nil
  | w :: t, h => by
    have h0 : (bif ck_wl n w.2.1.2 then (bif ck_wl n w.2.2.2 then ck_wMb n t else false) else false) = true := h
    obtain ⟨h1, h2⟩ := ck_and h0
    obtain ⟨h3, h4⟩ := ck_and h2
    intro q hq
    rcases List.mem_cons.mp hq with rfl | hq
    · exact ⟨h1, h3⟩
    · exact ck_wMb_ok h4 q hq
/-- the rank of a pattern is a number -/
noncomputable def ck_rkb (p : ck_Pt) : Bool := bif ck_wl p.1.1.1 p.2.2 then ck_N p.1.1 (ck_fk (-1) p.2) else false
/-- the way in: windows, locals, all paths from the beginning -/
noncomputable def ck_in0 (tab : List ck_Co) (C : ck_Co) (pats : List ck_Pt) (fuel : Nat) (c : List Nat) : Bool := match C.2.1 with
  | 0 => false
  | d + 1 => match ck_nth pm_M C.1 with
    | none => false
    | some me => bif (bif Nat.ble (ck_cat C.2.2.2.1) me.2.2.1 then ck_wMb C.2.2.1.1 C.2.2.2.2.2 else false) then (match ck_ex tab C pats none fuel d 0 C.1 (C.2.2.1, 0, ck_la C.2.2.2.1 0, []) [] c with
      | none => false
      | some _ => true) else false
/-- all paths from a pattern -/
noncomputable def ck_inP (tab : List ck_Co) (C : ck_Co) (pats : List ck_Pt) (fuel : Nat) (p : ck_Pt) (c : List Nat) : Bool := match C.2.1 with
  | 0 => false
  | d + 1 => bif ck_rkb p then (match ck_ex tab C pats (some p.2) fuel d 0 C.1 p.1 [] c with
    | none => false
    | some _ => true) else false
theorem ck_con {tab : List ck_Co} {C : ck_Co} {pats : List ck_Pt} {fuel : Nat} {c : List Nat} (htab : ∀ Cj ∈ tab, ck_CO Cj) (hE : ck_in0 tab C pats fuel c = true) (hP : ∀ p ∈ pats, ∃ fuel c, ck_inP tab C pats fuel p c = true) : ck_CO C := by
  have htab' : ∀ (j : Nat) (Cj : ck_Co), tab[j]? = some Cj → ck_CO Cj := fun j Cj hj => htab Cj (List.mem_of_getElem? hj)
  unfold ck_in0 at hE
  obtain ⟨k, dep, pre, args, posts, mods⟩ := C
  dsimp only at hE
  cases dep with
  | zero => cases hE
  | succ d =>
    dsimp only at hE
    rw [ck_nth_ok] at hE
    cases hm : pm_M[k]? with
    | none => rw [hm] at hE; cases hE
    | some me =>
      rw [hm] at hE
      dsimp only at hE
      obtain ⟨b1, b2⟩ := ck_and hE
      obtain ⟨b3, b4⟩ := ck_and b1
      have hMw : ck_Mw pre.1 mods := ck_wMb_ok b4
      intro r as h hd hpre
      have hpre0 := hpre r (fun _ _ => rfl)
      refine ⟨⟨me, hm, by rw [ck_sl_len, ck_cat_ok hpre0.2]; exact Nat.le_of_ble_eq_true b3⟩, ?_⟩
      -- the patterns, by their ranks
      have all : ∀ n : Nat, ∀ (j : Nat) (p : ck_Pt), pats[j]? = some p → ∀ (r1 : ck_R) (lv : pm_Lv) (st : List Value) (h' : pm_Hp), ck_dec h' → (∀ r', ck_agr p.1.1.1 r1 r' → ck_agr pre.1 r r' ∧ ck_sat mods h p.1.1 h' r' ∧ ck_ls r' p.1.2.2.1 lv ∧ ck_ss r' p.1.2.2.2 st) → (ck_ev r1 p.2).toNat < n → pm_run (pm_Cd d) k (ck_QC (k, d + 1, pre, args, posts, mods) r h) p.1.2.1 lv st h' := by
        intro n
        induction n with
        | zero => intro j p hj r1 lv st h' hd' hc hn; omega
        | succ n ih =>
          intro j p hj r1 lv st h' hd' hc hn
          obtain ⟨fuel', c', hp⟩ := hP p (List.mem_of_getElem? hj)
          have hp1 : (bif ck_rkb p then (match ck_ex tab (k, d + 1, pre, args, posts, mods) pats (some p.2) fuel' d 0 k p.1 [] c' with
            | none => false
            | some _ => true) else false) = true := hp
          obtain ⟨c1, c2⟩ := ck_and hp1
          obtain ⟨c3, c4⟩ := ck_and c1
          cases hx : ck_ex tab (k, d + 1, pre, args, posts, mods) pats (some p.2) fuel' d 0 k p.1 [] c' with
          | none => rw [hx] at c2; cases c2
          | some c'' =>
            refine ck_ex_ok (z := ck_ev r1 p.2) (dC := d) (rk := some p.2) (rP := r) (h0 := h) htab' hMw ?_ fuel' d 0 k p.1 [] c' c'' [] p.1.2.1 lv st h' hx rfl ⟨rfl, hd', r1, fun r' hr' => ?_⟩
            · intro j' p' hj' r1' lv' st' h'' hd'' hc' hrk
              have hlt := hrk p.2 rfl
              have hp' := hP p' (List.mem_of_getElem? hj')
              obtain ⟨fuel2, cc2, hp2⟩ := hp'
              have hp3 : (bif ck_rkb p' then (match ck_ex tab (k, d + 1, pre, args, posts, mods) pats (some p'.2) fuel2 d 0 k p'.1 [] cc2 with
                | none => false
                | some _ => true) else false) = true := hp2
              have g1 := (ck_and (ck_and hp3).1).2
              have g2 := ck_N_ok (hc' r1' (fun _ _ => rfl)).2.1 _ g1
              rw [ck_ev_fk] at g2
              exact ih j' p' hj' r1' lv' st' h'' hd'' hc' (by omega)
            · obtain ⟨g1, g2, g3, g4⟩ := hc r' hr'
              refine ⟨⟨g1, fun f hf => ?_, trivial⟩, g2, g3, g4⟩
              have e1 : p.2 = f := Option.some.inj hf
              rw [← e1]
              show p.2.1 + ck_lv r' p.2.2 = p.2.1 + ck_lv r1 p.2.2
              rw [ck_wl_ok c3 hr']
      cases hx : ck_ex tab (k, d + 1, pre, args, posts, mods) pats none fuel d 0 k (pre, 0, ck_la args 0, []) [] c with
      | none => rw [hx] at b2; cases b2
      | some c' =>
        refine ck_ex_ok (z := 0) (dC := d) (rk := none) (rP := r) (h0 := h) htab' hMw ?_ fuel d 0 k (pre, 0, ck_la args 0, []) [] c c' [] 0 (lv_args 0 as) [] h hx rfl ⟨rfl, hd, r, fun r' hr' => ?_⟩
        · intro j p hj r1 lv st h' hd' hc _
          exact all ((ck_ev r1 p.2).toNat + 1) j p hj r1 lv st h' hd' hc (by omega)
        · obtain ⟨g1, g2⟩ := hpre r' hr'
          exact ⟨⟨hr', fun f hf => (by cases hf), trivial⟩, ⟨g1.1, g1.2.1, g1.2.2.1, g1.2.2.2, fun c j => Or.inl rfl⟩, ck_la_ok g2, trivial⟩
