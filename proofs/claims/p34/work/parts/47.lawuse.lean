/-! The law's calls as contracts. -/
theorem lw_gen {h : pm_Hp} {S : ck_S} {as : List ck_V} {cas : List Value} {Cx Cm : ck_Co} {cmp : Bool} {c : List Nat} (hs : ck_lw lw_SI lw_M S as Cx Cm cmp c = true) (hCx : ck_CO Cx) (hCm : ck_CO Cm) (hd : ck_dec h) (H : ck_G S.1 (fun r => ck_sa S h r ∧ ck_ss r as cas)) (h1 : Cx.2.1 ≤ 20) (h2 : Cm.2.1 ≤ 20) : pm_Cd 20 Cx.1 (.ref 0 :: cas) h (fun rv h1 => ∃ x : Int32, rv = some (.int x) ∧ pm_Cd 20 Cm.1 (.ref 88 :: cas) h1 (fun rv2 h2 => ck_Inv lw_SI h2 ∧ ∃ z : Int32, rv2 = some (.int z) ∧ (cmp = true → x = z))) := by
  refine pm_Cd_mono _ _ _ _ _ _ ?_ (pm_Cd_le h1 (ck_lw_ok hs hCx hCm hd H))
  intro rv h3 hq
  obtain ⟨x, e, hC⟩ := hq
  exact ⟨x, e, pm_Cd_le h2 hC⟩
theorem lw_any (x : Int32) : ck_lo ≤ x.toInt ∧ x.toInt ≤ ck_hi := by
  rw [ck_lo_eq, ck_hi_eq]
  exact ck_i32 x
theorem lw_u_0 {h : pm_Hp} (hI : ck_Inv lw_SI h) (y0 y1 y2 y3 y4 : Int32) : pm_Cd 20 87 (.ref 0 :: [.int y0, .int y1, .int y2, .int y3, .int y4]) h (fun rv h1 => ∃ x : Int32, rv = some (.int x) ∧ pm_Cd 20 147 (.ref 88 :: [.int y0, .int y1, .int y2, .int y3, .int y4]) h1 (fun rv2 h2 => ck_Inv lw_SI h2 ∧ ∃ z : Int32, rv2 = some (.int z) ∧ (false = true → x = z))) := by
  obtain ⟨hd, S, hS, HG⟩ := hI
  rcases List.mem_cons.mp hS with rfl | hS
  · have G0 : ck_G 10 (fun r => ck_sa lw_SI0 h r) := HG
    have G1 : ck_G 11 (fun r => (ck_sa lw_SI0 h r) ∧ r 10 = y0.toInt) := ck_G_new G0 y0.toInt (fun r hr hv => ⟨hr, hv⟩)
    have G2 : ck_G 12 (fun r => ((ck_sa lw_SI0 h r) ∧ r 10 = y0.toInt) ∧ r 11 = y1.toInt) := ck_G_new G1 y1.toInt (fun r hr hv => ⟨hr, hv⟩)
    have G3 : ck_G 13 (fun r => (((ck_sa lw_SI0 h r) ∧ r 10 = y0.toInt) ∧ r 11 = y1.toInt) ∧ r 12 = y2.toInt) := ck_G_new G2 y2.toInt (fun r hr hv => ⟨hr, hv⟩)
    have G4 : ck_G 14 (fun r => ((((ck_sa lw_SI0 h r) ∧ r 10 = y0.toInt) ∧ r 11 = y1.toInt) ∧ r 12 = y2.toInt) ∧ r 13 = y3.toInt) := ck_G_new G3 y3.toInt (fun r hr hv => ⟨hr, hv⟩)
    have G5 : ck_G 15 (fun r => (((((ck_sa lw_SI0 h r) ∧ r 10 = y0.toInt) ∧ r 11 = y1.toInt) ∧ r 12 = y2.toInt) ∧ r 13 = y3.toInt) ∧ r 14 = y4.toInt) := ck_G_new G4 y4.toInt (fun r hr hv => ⟨hr, hv⟩)
    exact lw_gen (S := lw_S_0_0) lw_t_0_0 ckco_9 ckco_279 hd (ck_G_mono G5 (fun r hr => ⟨⟨(ck_es_cons (p := (10, .negSucc 2147483647, .ofNat 2147483647)) (by show _ ≤ r 10 ∧ r 10 ≤ _; rw [hr.1.1.1.1.2]; exact lw_any y0) (ck_es_cons (p := (11, .negSucc 2147483647, .ofNat 2147483647)) (by show _ ≤ r 11 ∧ r 11 ≤ _; rw [hr.1.1.1.2]; exact lw_any y1) (ck_es_cons (p := (12, .negSucc 2147483647, .ofNat 2147483647)) (by show _ ≤ r 12 ∧ r 12 ≤ _; rw [hr.1.1.2]; exact lw_any y2) (ck_es_cons (p := (13, .negSucc 2147483647, .ofNat 2147483647)) (by show _ ≤ r 13 ∧ r 13 ≤ _; rw [hr.1.2]; exact lw_any y3) (ck_es_cons (p := (14, .negSucc 2147483647, .ofNat 2147483647)) (by show _ ≤ r 14 ∧ r 14 ≤ _; rw [hr.2]; exact lw_any y4) hr.1.1.1.1.1.1))))), hr.1.1.1.1.1.2⟩, ⟨⟨y0, rfl, by rw [ck_ev_o, hr.1.1.1.1.2]⟩, ⟨⟨y1, rfl, by rw [ck_ev_o, hr.1.1.1.2]⟩, ⟨⟨y2, rfl, by rw [ck_ev_o, hr.1.1.2]⟩, ⟨⟨y3, rfl, by rw [ck_ev_o, hr.1.2]⟩, ⟨⟨y4, rfl, by rw [ck_ev_o, hr.2]⟩, trivial⟩⟩⟩⟩⟩⟩)) (by decide) (by decide)
  rcases List.mem_cons.mp hS with rfl | hS
  · have G0 : ck_G 10 (fun r => ck_sa lw_SI1 h r) := HG
    have G1 : ck_G 11 (fun r => (ck_sa lw_SI1 h r) ∧ r 10 = y0.toInt) := ck_G_new G0 y0.toInt (fun r hr hv => ⟨hr, hv⟩)
    have G2 : ck_G 12 (fun r => ((ck_sa lw_SI1 h r) ∧ r 10 = y0.toInt) ∧ r 11 = y1.toInt) := ck_G_new G1 y1.toInt (fun r hr hv => ⟨hr, hv⟩)
    have G3 : ck_G 13 (fun r => (((ck_sa lw_SI1 h r) ∧ r 10 = y0.toInt) ∧ r 11 = y1.toInt) ∧ r 12 = y2.toInt) := ck_G_new G2 y2.toInt (fun r hr hv => ⟨hr, hv⟩)
    have G4 : ck_G 14 (fun r => ((((ck_sa lw_SI1 h r) ∧ r 10 = y0.toInt) ∧ r 11 = y1.toInt) ∧ r 12 = y2.toInt) ∧ r 13 = y3.toInt) := ck_G_new G3 y3.toInt (fun r hr hv => ⟨hr, hv⟩)
    have G5 : ck_G 15 (fun r => (((((ck_sa lw_SI1 h r) ∧ r 10 = y0.toInt) ∧ r 11 = y1.toInt) ∧ r 12 = y2.toInt) ∧ r 13 = y3.toInt) ∧ r 14 = y4.toInt) := ck_G_new G4 y4.toInt (fun r hr hv => ⟨hr, hv⟩)
    exact lw_gen (S := lw_S_0_1) lw_t_0_1 ckco_11 ckco_279 hd (ck_G_mono G5 (fun r hr => ⟨⟨(ck_es_cons (p := (10, .negSucc 2147483647, .ofNat 2147483647)) (by show _ ≤ r 10 ∧ r 10 ≤ _; rw [hr.1.1.1.1.2]; exact lw_any y0) (ck_es_cons (p := (11, .negSucc 2147483647, .ofNat 2147483647)) (by show _ ≤ r 11 ∧ r 11 ≤ _; rw [hr.1.1.1.2]; exact lw_any y1) (ck_es_cons (p := (12, .negSucc 2147483647, .ofNat 2147483647)) (by show _ ≤ r 12 ∧ r 12 ≤ _; rw [hr.1.1.2]; exact lw_any y2) (ck_es_cons (p := (13, .negSucc 2147483647, .ofNat 2147483647)) (by show _ ≤ r 13 ∧ r 13 ≤ _; rw [hr.1.2]; exact lw_any y3) (ck_es_cons (p := (14, .negSucc 2147483647, .ofNat 2147483647)) (by show _ ≤ r 14 ∧ r 14 ≤ _; rw [hr.2]; exact lw_any y4) hr.1.1.1.1.1.1))))), hr.1.1.1.1.1.2⟩, ⟨⟨y0, rfl, by rw [ck_ev_o, hr.1.1.1.1.2]⟩, ⟨⟨y1, rfl, by rw [ck_ev_o, hr.1.1.1.2]⟩, ⟨⟨y2, rfl, by rw [ck_ev_o, hr.1.1.2]⟩, ⟨⟨y3, rfl, by rw [ck_ev_o, hr.1.2]⟩, ⟨⟨y4, rfl, by rw [ck_ev_o, hr.2]⟩, trivial⟩⟩⟩⟩⟩⟩)) (by decide) (by decide)
  exact absurd hS List.not_mem_nil
theorem lw_u_1 {h : pm_Hp} (hI : ck_Inv lw_SI h) (y0 : Int32) : pm_Cd 20 85 (.ref 0 :: [.int y0]) h (fun rv h1 => ∃ x : Int32, rv = some (.int x) ∧ pm_Cd 20 142 (.ref 88 :: [.int y0]) h1 (fun rv2 h2 => ck_Inv lw_SI h2 ∧ ∃ z : Int32, rv2 = some (.int z) ∧ (false = true → x = z))) := by
  obtain ⟨hd, S, hS, HG⟩ := hI
  rcases List.mem_cons.mp hS with rfl | hS
  · have G0 : ck_G 10 (fun r => ck_sa lw_SI0 h r) := HG
    have G1 : ck_G 11 (fun r => (ck_sa lw_SI0 h r) ∧ r 10 = y0.toInt) := ck_G_new G0 y0.toInt (fun r hr hv => ⟨hr, hv⟩)
    exact lw_gen (S := lw_S_1_0) lw_t_1_0 ckco_12 ckco_280 hd (ck_G_mono G1 (fun r hr => ⟨⟨(ck_es_cons (p := (10, .negSucc 2147483647, .ofNat 2147483647)) (by show _ ≤ r 10 ∧ r 10 ≤ _; rw [hr.2]; exact lw_any y0) hr.1.1), hr.1.2⟩, ⟨⟨y0, rfl, by rw [ck_ev_o, hr.2]⟩, trivial⟩⟩)) (by decide) (by decide)
  rcases List.mem_cons.mp hS with rfl | hS
  · have G0 : ck_G 10 (fun r => ck_sa lw_SI1 h r) := HG
    have G1 : ck_G 11 (fun r => (ck_sa lw_SI1 h r) ∧ r 10 = y0.toInt) := ck_G_new G0 y0.toInt (fun r hr hv => ⟨hr, hv⟩)
    exact lw_gen (S := lw_S_1_1) lw_t_1_1 ckco_13 ckco_280 hd (ck_G_mono G1 (fun r hr => ⟨⟨(ck_es_cons (p := (10, .negSucc 2147483647, .ofNat 2147483647)) (by show _ ≤ r 10 ∧ r 10 ≤ _; rw [hr.2]; exact lw_any y0) hr.1.1), hr.1.2⟩, ⟨⟨y0, rfl, by rw [ck_ev_o, hr.2]⟩, trivial⟩⟩)) (by decide) (by decide)
  exact absurd hS List.not_mem_nil
theorem lw_u_2 {h : pm_Hp} (hI : ck_Inv lw_SI h) : pm_Cd 20 108 (.ref 0 :: []) h (fun rv h1 => ∃ x : Int32, rv = some (.int x) ∧ pm_Cd 20 196 (.ref 88 :: []) h1 (fun rv2 h2 => ck_Inv lw_SI h2 ∧ ∃ z : Int32, rv2 = some (.int z) ∧ (false = true → x = z))) := by
  obtain ⟨hd, S, hS, HG⟩ := hI
  rcases List.mem_cons.mp hS with rfl | hS
  · have G0 : ck_G 10 (fun r => ck_sa lw_SI0 h r) := HG
    exact lw_gen (S := lw_S_2_0) lw_t_2_0 ckco_31 ckco_291 hd (ck_G_mono G0 (fun r hr => ⟨⟨hr.1, hr.2⟩, trivial⟩)) (by decide) (by decide)
  rcases List.mem_cons.mp hS with rfl | hS
  · have G0 : ck_G 10 (fun r => ck_sa lw_SI1 h r) := HG
    exact lw_gen (S := lw_S_2_1) lw_t_2_1 ckco_45 ckco_291 hd (ck_G_mono G0 (fun r hr => ⟨⟨hr.1, hr.2⟩, trivial⟩)) (by decide) (by decide)
  exact absurd hS List.not_mem_nil
theorem lw_u_3 {h : pm_Hp} (hI : ck_Inv lw_SI h) (y0 : Int32) : pm_Cd 20 86 (.ref 0 :: [.int y0]) h (fun rv h1 => ∃ x : Int32, rv = some (.int x) ∧ pm_Cd 20 146 (.ref 88 :: [.int y0]) h1 (fun rv2 h2 => ck_Inv lw_SI h2 ∧ ∃ z : Int32, rv2 = some (.int z) ∧ (false = true → x = z))) := by
  obtain ⟨hd, S, hS, HG⟩ := hI
  rcases List.mem_cons.mp hS with rfl | hS
  · have G0 : ck_G 10 (fun r => ck_sa lw_SI0 h r) := HG
    have G1 : ck_G 11 (fun r => (ck_sa lw_SI0 h r) ∧ r 10 = y0.toInt) := ck_G_new G0 y0.toInt (fun r hr hv => ⟨hr, hv⟩)
    exact lw_gen (S := lw_S_3_0) lw_t_3_0 ckco_46 ckco_292 hd (ck_G_mono G1 (fun r hr => ⟨⟨(ck_es_cons (p := (10, .negSucc 2147483647, .ofNat 2147483647)) (by show _ ≤ r 10 ∧ r 10 ≤ _; rw [hr.2]; exact lw_any y0) hr.1.1), hr.1.2⟩, ⟨⟨y0, rfl, by rw [ck_ev_o, hr.2]⟩, trivial⟩⟩)) (by decide) (by decide)
  rcases List.mem_cons.mp hS with rfl | hS
  · have G0 : ck_G 10 (fun r => ck_sa lw_SI1 h r) := HG
    have G1 : ck_G 11 (fun r => (ck_sa lw_SI1 h r) ∧ r 10 = y0.toInt) := ck_G_new G0 y0.toInt (fun r hr hv => ⟨hr, hv⟩)
    exact lw_gen (S := lw_S_3_1) lw_t_3_1 ckco_47 ckco_292 hd (ck_G_mono G1 (fun r hr => ⟨⟨(ck_es_cons (p := (10, .negSucc 2147483647, .ofNat 2147483647)) (by show _ ≤ r 10 ∧ r 10 ≤ _; rw [hr.2]; exact lw_any y0) hr.1.1), hr.1.2⟩, ⟨⟨y0, rfl, by rw [ck_ev_o, hr.2]⟩, trivial⟩⟩)) (by decide) (by decide)
  exact absurd hS List.not_mem_nil
theorem lw_u_4 {h : pm_Hp} (hI : ck_Inv lw_SI h) (y0 y1 : Int32) : pm_Cd 20 125 (.ref 0 :: [.int y0, .int y1]) h (fun rv h1 => ∃ x : Int32, rv = some (.int x) ∧ pm_Cd 20 232 (.ref 88 :: [.int y0, .int y1]) h1 (fun rv2 h2 => ck_Inv lw_SI h2 ∧ ∃ z : Int32, rv2 = some (.int z) ∧ (false = true → x = z))) := by
  obtain ⟨hd, S, hS, HG⟩ := hI
  rcases List.mem_cons.mp hS with rfl | hS
  · have G0 : ck_G 10 (fun r => ck_sa lw_SI0 h r) := HG
    have G1 : ck_G 11 (fun r => (ck_sa lw_SI0 h r) ∧ r 10 = y0.toInt) := ck_G_new G0 y0.toInt (fun r hr hv => ⟨hr, hv⟩)
    have G2 : ck_G 12 (fun r => ((ck_sa lw_SI0 h r) ∧ r 10 = y0.toInt) ∧ r 11 = y1.toInt) := ck_G_new G1 y1.toInt (fun r hr hv => ⟨hr, hv⟩)
    exact lw_gen (S := lw_S_4_0) lw_t_4_0 ckco_48 ckco_293 hd (ck_G_mono G2 (fun r hr => ⟨⟨(ck_es_cons (p := (10, .negSucc 2147483647, .ofNat 2147483647)) (by show _ ≤ r 10 ∧ r 10 ≤ _; rw [hr.1.2]; exact lw_any y0) (ck_es_cons (p := (11, .negSucc 2147483647, .ofNat 2147483647)) (by show _ ≤ r 11 ∧ r 11 ≤ _; rw [hr.2]; exact lw_any y1) hr.1.1.1)), hr.1.1.2⟩, ⟨⟨y0, rfl, by rw [ck_ev_o, hr.1.2]⟩, ⟨⟨y1, rfl, by rw [ck_ev_o, hr.2]⟩, trivial⟩⟩⟩)) (by decide) (by decide)
  rcases List.mem_cons.mp hS with rfl | hS
  · have G0 : ck_G 10 (fun r => ck_sa lw_SI1 h r) := HG
    have G1 : ck_G 11 (fun r => (ck_sa lw_SI1 h r) ∧ r 10 = y0.toInt) := ck_G_new G0 y0.toInt (fun r hr hv => ⟨hr, hv⟩)
    have G2 : ck_G 12 (fun r => ((ck_sa lw_SI1 h r) ∧ r 10 = y0.toInt) ∧ r 11 = y1.toInt) := ck_G_new G1 y1.toInt (fun r hr hv => ⟨hr, hv⟩)
    exact lw_gen (S := lw_S_4_1) lw_t_4_1 ckco_49 ckco_293 hd (ck_G_mono G2 (fun r hr => ⟨⟨(ck_es_cons (p := (10, .negSucc 2147483647, .ofNat 2147483647)) (by show _ ≤ r 10 ∧ r 10 ≤ _; rw [hr.1.2]; exact lw_any y0) (ck_es_cons (p := (11, .negSucc 2147483647, .ofNat 2147483647)) (by show _ ≤ r 11 ∧ r 11 ≤ _; rw [hr.2]; exact lw_any y1) hr.1.1.1)), hr.1.1.2⟩, ⟨⟨y0, rfl, by rw [ck_ev_o, hr.1.2]⟩, ⟨⟨y1, rfl, by rw [ck_ev_o, hr.2]⟩, trivial⟩⟩⟩)) (by decide) (by decide)
  exact absurd hS List.not_mem_nil
theorem lw_u_5 {h : pm_Hp} (hI : ck_Inv lw_SI h) (y0 y1 y2 : Int32) : pm_Cd 20 81 (.ref 0 :: [.int y0, .int y1, .int y2]) h (fun rv h1 => ∃ x : Int32, rv = some (.int x) ∧ pm_Cd 20 133 (.ref 88 :: [.int y0, .int y1, .int y2]) h1 (fun rv2 h2 => ck_Inv lw_SI h2 ∧ ∃ z : Int32, rv2 = some (.int z) ∧ (false = true → x = z))) := by
  obtain ⟨hd, S, hS, HG⟩ := hI
  rcases List.mem_cons.mp hS with rfl | hS
  · have G0 : ck_G 10 (fun r => ck_sa lw_SI0 h r) := HG
    have G1 : ck_G 11 (fun r => (ck_sa lw_SI0 h r) ∧ r 10 = y0.toInt) := ck_G_new G0 y0.toInt (fun r hr hv => ⟨hr, hv⟩)
    have G2 : ck_G 12 (fun r => ((ck_sa lw_SI0 h r) ∧ r 10 = y0.toInt) ∧ r 11 = y1.toInt) := ck_G_new G1 y1.toInt (fun r hr hv => ⟨hr, hv⟩)
    have G3 : ck_G 13 (fun r => (((ck_sa lw_SI0 h r) ∧ r 10 = y0.toInt) ∧ r 11 = y1.toInt) ∧ r 12 = y2.toInt) := ck_G_new G2 y2.toInt (fun r hr hv => ⟨hr, hv⟩)
    exact lw_gen (S := lw_S_5_0) lw_t_5_0 ckco_50 ckco_294 hd (ck_G_mono G3 (fun r hr => ⟨⟨(ck_es_cons (p := (10, .negSucc 2147483647, .ofNat 2147483647)) (by show _ ≤ r 10 ∧ r 10 ≤ _; rw [hr.1.1.2]; exact lw_any y0) (ck_es_cons (p := (11, .negSucc 2147483647, .ofNat 2147483647)) (by show _ ≤ r 11 ∧ r 11 ≤ _; rw [hr.1.2]; exact lw_any y1) (ck_es_cons (p := (12, .negSucc 2147483647, .ofNat 2147483647)) (by show _ ≤ r 12 ∧ r 12 ≤ _; rw [hr.2]; exact lw_any y2) hr.1.1.1.1))), hr.1.1.1.2⟩, ⟨⟨y0, rfl, by rw [ck_ev_o, hr.1.1.2]⟩, ⟨⟨y1, rfl, by rw [ck_ev_o, hr.1.2]⟩, ⟨⟨y2, rfl, by rw [ck_ev_o, hr.2]⟩, trivial⟩⟩⟩⟩)) (by decide) (by decide)
  rcases List.mem_cons.mp hS with rfl | hS
  · have G0 : ck_G 10 (fun r => ck_sa lw_SI1 h r) := HG
    have G1 : ck_G 11 (fun r => (ck_sa lw_SI1 h r) ∧ r 10 = y0.toInt) := ck_G_new G0 y0.toInt (fun r hr hv => ⟨hr, hv⟩)
    have G2 : ck_G 12 (fun r => ((ck_sa lw_SI1 h r) ∧ r 10 = y0.toInt) ∧ r 11 = y1.toInt) := ck_G_new G1 y1.toInt (fun r hr hv => ⟨hr, hv⟩)
    have G3 : ck_G 13 (fun r => (((ck_sa lw_SI1 h r) ∧ r 10 = y0.toInt) ∧ r 11 = y1.toInt) ∧ r 12 = y2.toInt) := ck_G_new G2 y2.toInt (fun r hr hv => ⟨hr, hv⟩)
    exact lw_gen (S := lw_S_5_1) lw_t_5_1 ckco_51 ckco_294 hd (ck_G_mono G3 (fun r hr => ⟨⟨(ck_es_cons (p := (10, .negSucc 2147483647, .ofNat 2147483647)) (by show _ ≤ r 10 ∧ r 10 ≤ _; rw [hr.1.1.2]; exact lw_any y0) (ck_es_cons (p := (11, .negSucc 2147483647, .ofNat 2147483647)) (by show _ ≤ r 11 ∧ r 11 ≤ _; rw [hr.1.2]; exact lw_any y1) (ck_es_cons (p := (12, .negSucc 2147483647, .ofNat 2147483647)) (by show _ ≤ r 12 ∧ r 12 ≤ _; rw [hr.2]; exact lw_any y2) hr.1.1.1.1))), hr.1.1.1.2⟩, ⟨⟨y0, rfl, by rw [ck_ev_o, hr.1.1.2]⟩, ⟨⟨y1, rfl, by rw [ck_ev_o, hr.1.2]⟩, ⟨⟨y2, rfl, by rw [ck_ev_o, hr.2]⟩, trivial⟩⟩⟩⟩)) (by decide) (by decide)
  exact absurd hS List.not_mem_nil
theorem lw_u_6 {h : pm_Hp} (hI : ck_Inv lw_SI h) (y0 : Int32) : pm_Cd 20 119 (.ref 0 :: [.int y0]) h (fun rv h1 => ∃ x : Int32, rv = some (.int x) ∧ pm_Cd 20 220 (.ref 88 :: [.int y0]) h1 (fun rv2 h2 => ck_Inv lw_SI h2 ∧ ∃ z : Int32, rv2 = some (.int z) ∧ (false = true → x = z))) := by
  obtain ⟨hd, S, hS, HG⟩ := hI
  rcases List.mem_cons.mp hS with rfl | hS
  · have G0 : ck_G 10 (fun r => ck_sa lw_SI0 h r) := HG
    have G1 : ck_G 11 (fun r => (ck_sa lw_SI0 h r) ∧ r 10 = y0.toInt) := ck_G_new G0 y0.toInt (fun r hr hv => ⟨hr, hv⟩)
    exact lw_gen (S := lw_S_6_0) lw_t_6_0 ckco_52 ckco_295 hd (ck_G_mono G1 (fun r hr => ⟨⟨(ck_es_cons (p := (10, .negSucc 2147483647, .ofNat 2147483647)) (by show _ ≤ r 10 ∧ r 10 ≤ _; rw [hr.2]; exact lw_any y0) hr.1.1), hr.1.2⟩, ⟨⟨y0, rfl, by rw [ck_ev_o, hr.2]⟩, trivial⟩⟩)) (by decide) (by decide)
  rcases List.mem_cons.mp hS with rfl | hS
  · have G0 : ck_G 10 (fun r => ck_sa lw_SI1 h r) := HG
    have G1 : ck_G 11 (fun r => (ck_sa lw_SI1 h r) ∧ r 10 = y0.toInt) := ck_G_new G0 y0.toInt (fun r hr hv => ⟨hr, hv⟩)
    exact lw_gen (S := lw_S_6_1) lw_t_6_1 ckco_53 ckco_295 hd (ck_G_mono G1 (fun r hr => ⟨⟨(ck_es_cons (p := (10, .negSucc 2147483647, .ofNat 2147483647)) (by show _ ≤ r 10 ∧ r 10 ≤ _; rw [hr.2]; exact lw_any y0) hr.1.1), hr.1.2⟩, ⟨⟨y0, rfl, by rw [ck_ev_o, hr.2]⟩, trivial⟩⟩)) (by decide) (by decide)
  exact absurd hS List.not_mem_nil
theorem lw_u_7 {h : pm_Hp} (hI : ck_Inv lw_SI h) (y0 : Int32) : pm_Cd 20 126 (.ref 0 :: [.int y0]) h (fun rv h1 => ∃ x : Int32, rv = some (.int x) ∧ pm_Cd 20 233 (.ref 88 :: [.int y0]) h1 (fun rv2 h2 => ck_Inv lw_SI h2 ∧ ∃ z : Int32, rv2 = some (.int z) ∧ (false = true → x = z))) := by
  obtain ⟨hd, S, hS, HG⟩ := hI
  rcases List.mem_cons.mp hS with rfl | hS
  · have G0 : ck_G 10 (fun r => ck_sa lw_SI0 h r) := HG
    have G1 : ck_G 11 (fun r => (ck_sa lw_SI0 h r) ∧ r 10 = y0.toInt) := ck_G_new G0 y0.toInt (fun r hr hv => ⟨hr, hv⟩)
    exact lw_gen (S := lw_S_7_0) lw_t_7_0 ckco_62 ckco_303 hd (ck_G_mono G1 (fun r hr => ⟨⟨(ck_es_cons (p := (10, .negSucc 2147483647, .ofNat 2147483647)) (by show _ ≤ r 10 ∧ r 10 ≤ _; rw [hr.2]; exact lw_any y0) hr.1.1), hr.1.2⟩, ⟨⟨y0, rfl, by rw [ck_ev_o, hr.2]⟩, trivial⟩⟩)) (by decide) (by decide)
  rcases List.mem_cons.mp hS with rfl | hS
  · have G0 : ck_G 10 (fun r => ck_sa lw_SI1 h r) := HG
    have G1 : ck_G 11 (fun r => (ck_sa lw_SI1 h r) ∧ r 10 = y0.toInt) := ck_G_new G0 y0.toInt (fun r hr hv => ⟨hr, hv⟩)
    exact lw_gen (S := lw_S_7_1) lw_t_7_1 ckco_67 ckco_303 hd (ck_G_mono G1 (fun r hr => ⟨⟨(ck_es_cons (p := (10, .negSucc 2147483647, .ofNat 2147483647)) (by show _ ≤ r 10 ∧ r 10 ≤ _; rw [hr.2]; exact lw_any y0) hr.1.1), hr.1.2⟩, ⟨⟨y0, rfl, by rw [ck_ev_o, hr.2]⟩, trivial⟩⟩)) (by decide) (by decide)
  exact absurd hS List.not_mem_nil
theorem lw_u_8 {h : pm_Hp} (hI : ck_Inv lw_SI h) (y0 y1 : Int32) : pm_Cd 20 112 (.ref 0 :: [.int y0, .int y1]) h (fun rv h1 => ∃ x : Int32, rv = some (.int x) ∧ pm_Cd 20 208 (.ref 88 :: [.int y0, .int y1]) h1 (fun rv2 h2 => ck_Inv lw_SI h2 ∧ ∃ z : Int32, rv2 = some (.int z) ∧ (false = true → x = z))) := by
  obtain ⟨hd, S, hS, HG⟩ := hI
  rcases List.mem_cons.mp hS with rfl | hS
  · have G0 : ck_G 10 (fun r => ck_sa lw_SI0 h r) := HG
    have G1 : ck_G 11 (fun r => (ck_sa lw_SI0 h r) ∧ r 10 = y0.toInt) := ck_G_new G0 y0.toInt (fun r hr hv => ⟨hr, hv⟩)
    have G2 : ck_G 12 (fun r => ((ck_sa lw_SI0 h r) ∧ r 10 = y0.toInt) ∧ r 11 = y1.toInt) := ck_G_new G1 y1.toInt (fun r hr hv => ⟨hr, hv⟩)
    exact lw_gen (S := lw_S_8_0) lw_t_8_0 ckco_69 ckco_304 hd (ck_G_mono G2 (fun r hr => ⟨⟨(ck_es_cons (p := (10, .negSucc 2147483647, .ofNat 2147483647)) (by show _ ≤ r 10 ∧ r 10 ≤ _; rw [hr.1.2]; exact lw_any y0) (ck_es_cons (p := (11, .negSucc 2147483647, .ofNat 2147483647)) (by show _ ≤ r 11 ∧ r 11 ≤ _; rw [hr.2]; exact lw_any y1) hr.1.1.1)), hr.1.1.2⟩, ⟨⟨y0, rfl, by rw [ck_ev_o, hr.1.2]⟩, ⟨⟨y1, rfl, by rw [ck_ev_o, hr.2]⟩, trivial⟩⟩⟩)) (by decide) (by decide)
  rcases List.mem_cons.mp hS with rfl | hS
  · have G0 : ck_G 10 (fun r => ck_sa lw_SI1 h r) := HG
    have G1 : ck_G 11 (fun r => (ck_sa lw_SI1 h r) ∧ r 10 = y0.toInt) := ck_G_new G0 y0.toInt (fun r hr hv => ⟨hr, hv⟩)
    have G2 : ck_G 12 (fun r => ((ck_sa lw_SI1 h r) ∧ r 10 = y0.toInt) ∧ r 11 = y1.toInt) := ck_G_new G1 y1.toInt (fun r hr hv => ⟨hr, hv⟩)
    exact lw_gen (S := lw_S_8_1) lw_t_8_1 ckco_70 ckco_304 hd (ck_G_mono G2 (fun r hr => ⟨⟨(ck_es_cons (p := (10, .negSucc 2147483647, .ofNat 2147483647)) (by show _ ≤ r 10 ∧ r 10 ≤ _; rw [hr.1.2]; exact lw_any y0) (ck_es_cons (p := (11, .negSucc 2147483647, .ofNat 2147483647)) (by show _ ≤ r 11 ∧ r 11 ≤ _; rw [hr.2]; exact lw_any y1) hr.1.1.1)), hr.1.1.2⟩, ⟨⟨y0, rfl, by rw [ck_ev_o, hr.1.2]⟩, ⟨⟨y1, rfl, by rw [ck_ev_o, hr.2]⟩, trivial⟩⟩⟩)) (by decide) (by decide)
  exact absurd hS List.not_mem_nil
theorem lw_u_9 {h : pm_Hp} (hI : ck_Inv lw_SI h) : pm_Cd 20 120 (.ref 0 :: []) h (fun rv h1 => ∃ x : Int32, rv = some (.int x) ∧ pm_Cd 20 223 (.ref 88 :: []) h1 (fun rv2 h2 => ck_Inv lw_SI h2 ∧ ∃ z : Int32, rv2 = some (.int z) ∧ (false = true → x = z))) := by
  obtain ⟨hd, S, hS, HG⟩ := hI
  rcases List.mem_cons.mp hS with rfl | hS
  · have G0 : ck_G 10 (fun r => ck_sa lw_SI0 h r) := HG
    exact lw_gen (S := lw_S_9_0) lw_t_9_0 ckco_71 ckco_305 hd (ck_G_mono G0 (fun r hr => ⟨⟨hr.1, hr.2⟩, trivial⟩)) (by decide) (by decide)
  rcases List.mem_cons.mp hS with rfl | hS
  · have G0 : ck_G 10 (fun r => ck_sa lw_SI1 h r) := HG
    exact lw_gen (S := lw_S_9_1) lw_t_9_1 ckco_72 ckco_305 hd (ck_G_mono G0 (fun r hr => ⟨⟨hr.1, hr.2⟩, trivial⟩)) (by decide) (by decide)
  exact absurd hS List.not_mem_nil
theorem lw_u_10 {h : pm_Hp} (hI : ck_Inv lw_SI h) : pm_Cd 20 110 (.ref 0 :: []) h (fun rv h1 => ∃ x : Int32, rv = some (.int x) ∧ pm_Cd 20 205 (.ref 88 :: []) h1 (fun rv2 h2 => ck_Inv lw_SI h2 ∧ ∃ z : Int32, rv2 = some (.int z) ∧ (false = true → x = z))) := by
  obtain ⟨hd, S, hS, HG⟩ := hI
  rcases List.mem_cons.mp hS with rfl | hS
  · have G0 : ck_G 10 (fun r => ck_sa lw_SI0 h r) := HG
    exact lw_gen (S := lw_S_10_0) lw_t_10_0 ckco_73 ckco_306 hd (ck_G_mono G0 (fun r hr => ⟨⟨hr.1, hr.2⟩, trivial⟩)) (by decide) (by decide)
  rcases List.mem_cons.mp hS with rfl | hS
  · have G0 : ck_G 10 (fun r => ck_sa lw_SI1 h r) := HG
    exact lw_gen (S := lw_S_10_1) lw_t_10_1 ckco_74 ckco_306 hd (ck_G_mono G0 (fun r hr => ⟨⟨hr.1, hr.2⟩, trivial⟩)) (by decide) (by decide)
  exact absurd hS List.not_mem_nil
theorem lw_u_11 {h : pm_Hp} (hI : ck_Inv lw_SI h) : pm_Cd 20 123 (.ref 0 :: []) h (fun rv h1 => ∃ x : Int32, rv = some (.int x) ∧ pm_Cd 20 228 (.ref 88 :: []) h1 (fun rv2 h2 => ck_Inv lw_SI h2 ∧ ∃ z : Int32, rv2 = some (.int z) ∧ (false = true → x = z))) := by
  obtain ⟨hd, S, hS, HG⟩ := hI
  rcases List.mem_cons.mp hS with rfl | hS
  · have G0 : ck_G 10 (fun r => ck_sa lw_SI0 h r) := HG
    exact lw_gen (S := lw_S_11_0) lw_t_11_0 ckco_75 ckco_307 hd (ck_G_mono G0 (fun r hr => ⟨⟨hr.1, hr.2⟩, trivial⟩)) (by decide) (by decide)
  rcases List.mem_cons.mp hS with rfl | hS
  · have G0 : ck_G 10 (fun r => ck_sa lw_SI1 h r) := HG
    exact lw_gen (S := lw_S_11_1) lw_t_11_1 ckco_76 ckco_307 hd (ck_G_mono G0 (fun r hr => ⟨⟨hr.1, hr.2⟩, trivial⟩)) (by decide) (by decide)
  exact absurd hS List.not_mem_nil
theorem lw_u_12 {h : pm_Hp} (hI : ck_Inv lw_SI h) (y0 : Int32) : pm_Cd 20 124 (.ref 0 :: [.int y0]) h (fun rv h1 => ∃ x : Int32, rv = some (.int x) ∧ pm_Cd 20 229 (.ref 88 :: [.int y0]) h1 (fun rv2 h2 => ck_Inv lw_SI h2 ∧ ∃ z : Int32, rv2 = some (.int z) ∧ (false = true → x = z))) := by
  obtain ⟨hd, S, hS, HG⟩ := hI
  rcases List.mem_cons.mp hS with rfl | hS
  · have G0 : ck_G 10 (fun r => ck_sa lw_SI0 h r) := HG
    have G1 : ck_G 11 (fun r => (ck_sa lw_SI0 h r) ∧ r 10 = y0.toInt) := ck_G_new G0 y0.toInt (fun r hr hv => ⟨hr, hv⟩)
    exact lw_gen (S := lw_S_12_0) lw_t_12_0 ckco_77 ckco_308 hd (ck_G_mono G1 (fun r hr => ⟨⟨(ck_es_cons (p := (10, .negSucc 2147483647, .ofNat 2147483647)) (by show _ ≤ r 10 ∧ r 10 ≤ _; rw [hr.2]; exact lw_any y0) hr.1.1), hr.1.2⟩, ⟨⟨y0, rfl, by rw [ck_ev_o, hr.2]⟩, trivial⟩⟩)) (by decide) (by decide)
  rcases List.mem_cons.mp hS with rfl | hS
  · have G0 : ck_G 10 (fun r => ck_sa lw_SI1 h r) := HG
    have G1 : ck_G 11 (fun r => (ck_sa lw_SI1 h r) ∧ r 10 = y0.toInt) := ck_G_new G0 y0.toInt (fun r hr hv => ⟨hr, hv⟩)
    exact lw_gen (S := lw_S_12_1) lw_t_12_1 ckco_78 ckco_308 hd (ck_G_mono G1 (fun r hr => ⟨⟨(ck_es_cons (p := (10, .negSucc 2147483647, .ofNat 2147483647)) (by show _ ≤ r 10 ∧ r 10 ≤ _; rw [hr.2]; exact lw_any y0) hr.1.1), hr.1.2⟩, ⟨⟨y0, rfl, by rw [ck_ev_o, hr.2]⟩, trivial⟩⟩)) (by decide) (by decide)
  exact absurd hS List.not_mem_nil
theorem lw_u_13 {h : pm_Hp} (hI : ck_Inv lw_SI h) : pm_Cd 20 103 (.ref 0 :: []) h (fun rv h1 => ∃ x : Int32, rv = some (.int x) ∧ pm_Cd 20 189 (.ref 88 :: []) h1 (fun rv2 h2 => ck_Inv lw_SI h2 ∧ ∃ z : Int32, rv2 = some (.int z) ∧ (false = true → x = z))) := by
  obtain ⟨hd, S, hS, HG⟩ := hI
  rcases List.mem_cons.mp hS with rfl | hS
  · have G0 : ck_G 10 (fun r => ck_sa lw_SI0 h r) := HG
    exact lw_gen (S := lw_S_13_0) lw_t_13_0 ckco_79 ckco_309 hd (ck_G_mono G0 (fun r hr => ⟨⟨hr.1, hr.2⟩, trivial⟩)) (by decide) (by decide)
  rcases List.mem_cons.mp hS with rfl | hS
  · have G0 : ck_G 10 (fun r => ck_sa lw_SI1 h r) := HG
    exact lw_gen (S := lw_S_13_1) lw_t_13_1 ckco_80 ckco_309 hd (ck_G_mono G0 (fun r hr => ⟨⟨hr.1, hr.2⟩, trivial⟩)) (by decide) (by decide)
  exact absurd hS List.not_mem_nil
theorem lw_u_14 {h : pm_Hp} (hI : ck_Inv lw_SI h) : pm_Cd 20 109 (.ref 0 :: []) h (fun rv h1 => ∃ x : Int32, rv = some (.int x) ∧ pm_Cd 20 203 (.ref 88 :: []) h1 (fun rv2 h2 => ck_Inv lw_SI h2 ∧ ∃ z : Int32, rv2 = some (.int z) ∧ (false = true → x = z))) := by
  obtain ⟨hd, S, hS, HG⟩ := hI
  rcases List.mem_cons.mp hS with rfl | hS
  · have G0 : ck_G 10 (fun r => ck_sa lw_SI0 h r) := HG
    exact lw_gen (S := lw_S_14_0) lw_t_14_0 ckco_87 ckco_312 hd (ck_G_mono G0 (fun r hr => ⟨⟨hr.1, hr.2⟩, trivial⟩)) (by decide) (by decide)
  rcases List.mem_cons.mp hS with rfl | hS
  · have G0 : ck_G 10 (fun r => ck_sa lw_SI1 h r) := HG
    exact lw_gen (S := lw_S_14_1) lw_t_14_1 ckco_94 ckco_312 hd (ck_G_mono G0 (fun r hr => ⟨⟨hr.1, hr.2⟩, trivial⟩)) (by decide) (by decide)
  exact absurd hS List.not_mem_nil
theorem lw_u_15 {h : pm_Hp} (hI : ck_Inv lw_SI h) (y0 : Int32) : pm_Cd 20 102 (.ref 0 :: [.int y0]) h (fun rv h1 => ∃ x : Int32, rv = some (.int x) ∧ pm_Cd 20 185 (.ref 88 :: [.int y0]) h1 (fun rv2 h2 => ck_Inv lw_SI h2 ∧ ∃ z : Int32, rv2 = some (.int z) ∧ (false = true → x = z))) := by
  obtain ⟨hd, S, hS, HG⟩ := hI
  rcases List.mem_cons.mp hS with rfl | hS
  · have G0 : ck_G 10 (fun r => ck_sa lw_SI0 h r) := HG
    have G1 : ck_G 11 (fun r => (ck_sa lw_SI0 h r) ∧ r 10 = y0.toInt) := ck_G_new G0 y0.toInt (fun r hr hv => ⟨hr, hv⟩)
    exact lw_gen (S := lw_S_15_0) lw_t_15_0 ckco_96 ckco_314 hd (ck_G_mono G1 (fun r hr => ⟨⟨(ck_es_cons (p := (10, .negSucc 2147483647, .ofNat 2147483647)) (by show _ ≤ r 10 ∧ r 10 ≤ _; rw [hr.2]; exact lw_any y0) hr.1.1), hr.1.2⟩, ⟨⟨y0, rfl, by rw [ck_ev_o, hr.2]⟩, trivial⟩⟩)) (by decide) (by decide)
  rcases List.mem_cons.mp hS with rfl | hS
  · have G0 : ck_G 10 (fun r => ck_sa lw_SI1 h r) := HG
    have G1 : ck_G 11 (fun r => (ck_sa lw_SI1 h r) ∧ r 10 = y0.toInt) := ck_G_new G0 y0.toInt (fun r hr hv => ⟨hr, hv⟩)
    exact lw_gen (S := lw_S_15_1) lw_t_15_1 ckco_98 ckco_314 hd (ck_G_mono G1 (fun r hr => ⟨⟨(ck_es_cons (p := (10, .negSucc 2147483647, .ofNat 2147483647)) (by show _ ≤ r 10 ∧ r 10 ≤ _; rw [hr.2]; exact lw_any y0) hr.1.1), hr.1.2⟩, ⟨⟨y0, rfl, by rw [ck_ev_o, hr.2]⟩, trivial⟩⟩)) (by decide) (by decide)
  exact absurd hS List.not_mem_nil
theorem lw_u_16 {h : pm_Hp} (hI : ck_Inv lw_SI h) (y0 : Int32) : pm_Cd 20 127 (.ref 0 :: [.int y0]) h (fun rv h1 => ∃ x : Int32, rv = some (.int x) ∧ pm_Cd 20 234 (.ref 88 :: [.int y0]) h1 (fun rv2 h2 => ck_Inv lw_SI h2 ∧ ∃ z : Int32, rv2 = some (.int z) ∧ (false = true → x = z))) := by
  obtain ⟨hd, S, hS, HG⟩ := hI
  rcases List.mem_cons.mp hS with rfl | hS
  · have G0 : ck_G 10 (fun r => ck_sa lw_SI0 h r) := HG
    have G1 : ck_G 11 (fun r => (ck_sa lw_SI0 h r) ∧ r 10 = y0.toInt) := ck_G_new G0 y0.toInt (fun r hr hv => ⟨hr, hv⟩)
    exact lw_gen (S := lw_S_16_0) lw_t_16_0 ckco_139 ckco_326 hd (ck_G_mono G1 (fun r hr => ⟨⟨(ck_es_cons (p := (10, .negSucc 2147483647, .ofNat 2147483647)) (by show _ ≤ r 10 ∧ r 10 ≤ _; rw [hr.2]; exact lw_any y0) hr.1.1), hr.1.2⟩, ⟨⟨y0, rfl, by rw [ck_ev_o, hr.2]⟩, trivial⟩⟩)) (by decide) (by decide)
  rcases List.mem_cons.mp hS with rfl | hS
  · have G0 : ck_G 10 (fun r => ck_sa lw_SI1 h r) := HG
    have G1 : ck_G 11 (fun r => (ck_sa lw_SI1 h r) ∧ r 10 = y0.toInt) := ck_G_new G0 y0.toInt (fun r hr hv => ⟨hr, hv⟩)
    exact lw_gen (S := lw_S_16_1) lw_t_16_1 ckco_174 ckco_326 hd (ck_G_mono G1 (fun r hr => ⟨⟨(ck_es_cons (p := (10, .negSucc 2147483647, .ofNat 2147483647)) (by show _ ≤ r 10 ∧ r 10 ≤ _; rw [hr.2]; exact lw_any y0) hr.1.1), hr.1.2⟩, ⟨⟨y0, rfl, by rw [ck_ev_o, hr.2]⟩, trivial⟩⟩)) (by decide) (by decide)
  exact absurd hS List.not_mem_nil
theorem lw_u_17 {h : pm_Hp} (hI : ck_Inv lw_SI h) (y0 : Int32) : pm_Cd 20 93 (.ref 0 :: [.int y0]) h (fun rv h1 => ∃ x : Int32, rv = some (.int x) ∧ pm_Cd 20 153 (.ref 88 :: [.int y0]) h1 (fun rv2 h2 => ck_Inv lw_SI h2 ∧ ∃ z : Int32, rv2 = some (.int z) ∧ (false = true → x = z))) := by
  obtain ⟨hd, S, hS, HG⟩ := hI
  rcases List.mem_cons.mp hS with rfl | hS
  · have G0 : ck_G 10 (fun r => ck_sa lw_SI0 h r) := HG
    have G1 : ck_G 11 (fun r => (ck_sa lw_SI0 h r) ∧ r 10 = y0.toInt) := ck_G_new G0 y0.toInt (fun r hr hv => ⟨hr, hv⟩)
    exact lw_gen (S := lw_S_17_0) lw_t_17_0 ckco_180 ckco_327 hd (ck_G_mono G1 (fun r hr => ⟨⟨(ck_es_cons (p := (10, .negSucc 2147483647, .ofNat 2147483647)) (by show _ ≤ r 10 ∧ r 10 ≤ _; rw [hr.2]; exact lw_any y0) hr.1.1), hr.1.2⟩, ⟨⟨y0, rfl, by rw [ck_ev_o, hr.2]⟩, trivial⟩⟩)) (by decide) (by decide)
  rcases List.mem_cons.mp hS with rfl | hS
  · have G0 : ck_G 10 (fun r => ck_sa lw_SI1 h r) := HG
    have G1 : ck_G 11 (fun r => (ck_sa lw_SI1 h r) ∧ r 10 = y0.toInt) := ck_G_new G0 y0.toInt (fun r hr hv => ⟨hr, hv⟩)
    exact lw_gen (S := lw_S_17_1) lw_t_17_1 ckco_181 ckco_327 hd (ck_G_mono G1 (fun r hr => ⟨⟨(ck_es_cons (p := (10, .negSucc 2147483647, .ofNat 2147483647)) (by show _ ≤ r 10 ∧ r 10 ≤ _; rw [hr.2]; exact lw_any y0) hr.1.1), hr.1.2⟩, ⟨⟨y0, rfl, by rw [ck_ev_o, hr.2]⟩, trivial⟩⟩)) (by decide) (by decide)
  exact absurd hS List.not_mem_nil
theorem lw_u_18 {h : pm_Hp} (hI : ck_Inv lw_SI h) (y0 y1 : Int32) : pm_Cd 20 113 (.ref 0 :: [.int y0, .int y1]) h (fun rv h1 => ∃ x : Int32, rv = some (.int x) ∧ pm_Cd 20 210 (.ref 88 :: [.int y0, .int y1]) h1 (fun rv2 h2 => ck_Inv lw_SI h2 ∧ ∃ z : Int32, rv2 = some (.int z) ∧ (false = true → x = z))) := by
  obtain ⟨hd, S, hS, HG⟩ := hI
  rcases List.mem_cons.mp hS with rfl | hS
  · have G0 : ck_G 10 (fun r => ck_sa lw_SI0 h r) := HG
    have G1 : ck_G 11 (fun r => (ck_sa lw_SI0 h r) ∧ r 10 = y0.toInt) := ck_G_new G0 y0.toInt (fun r hr hv => ⟨hr, hv⟩)
    have G2 : ck_G 12 (fun r => ((ck_sa lw_SI0 h r) ∧ r 10 = y0.toInt) ∧ r 11 = y1.toInt) := ck_G_new G1 y1.toInt (fun r hr hv => ⟨hr, hv⟩)
    exact lw_gen (S := lw_S_18_0) lw_t_18_0 ckco_184 ckco_329 hd (ck_G_mono G2 (fun r hr => ⟨⟨(ck_es_cons (p := (10, .negSucc 2147483647, .ofNat 2147483647)) (by show _ ≤ r 10 ∧ r 10 ≤ _; rw [hr.1.2]; exact lw_any y0) (ck_es_cons (p := (11, .negSucc 2147483647, .ofNat 2147483647)) (by show _ ≤ r 11 ∧ r 11 ≤ _; rw [hr.2]; exact lw_any y1) hr.1.1.1)), hr.1.1.2⟩, ⟨⟨y0, rfl, by rw [ck_ev_o, hr.1.2]⟩, ⟨⟨y1, rfl, by rw [ck_ev_o, hr.2]⟩, trivial⟩⟩⟩)) (by decide) (by decide)
  rcases List.mem_cons.mp hS with rfl | hS
  · have G0 : ck_G 10 (fun r => ck_sa lw_SI1 h r) := HG
    have G1 : ck_G 11 (fun r => (ck_sa lw_SI1 h r) ∧ r 10 = y0.toInt) := ck_G_new G0 y0.toInt (fun r hr hv => ⟨hr, hv⟩)
    have G2 : ck_G 12 (fun r => ((ck_sa lw_SI1 h r) ∧ r 10 = y0.toInt) ∧ r 11 = y1.toInt) := ck_G_new G1 y1.toInt (fun r hr hv => ⟨hr, hv⟩)
    exact lw_gen (S := lw_S_18_1) lw_t_18_1 ckco_187 ckco_329 hd (ck_G_mono G2 (fun r hr => ⟨⟨(ck_es_cons (p := (10, .negSucc 2147483647, .ofNat 2147483647)) (by show _ ≤ r 10 ∧ r 10 ≤ _; rw [hr.1.2]; exact lw_any y0) (ck_es_cons (p := (11, .negSucc 2147483647, .ofNat 2147483647)) (by show _ ≤ r 11 ∧ r 11 ≤ _; rw [hr.2]; exact lw_any y1) hr.1.1.1)), hr.1.1.2⟩, ⟨⟨y0, rfl, by rw [ck_ev_o, hr.1.2]⟩, ⟨⟨y1, rfl, by rw [ck_ev_o, hr.2]⟩, trivial⟩⟩⟩)) (by decide) (by decide)
  exact absurd hS List.not_mem_nil
theorem lw_u_19 {h : pm_Hp} (hI : ck_Inv lw_SI h) : pm_Cd 20 117 (.ref 0 :: []) h (fun rv h1 => ∃ x : Int32, rv = some (.int x) ∧ pm_Cd 20 215 (.ref 88 :: []) h1 (fun rv2 h2 => ck_Inv lw_SI h2 ∧ ∃ z : Int32, rv2 = some (.int z) ∧ (false = true → x = z))) := by
  obtain ⟨hd, S, hS, HG⟩ := hI
  rcases List.mem_cons.mp hS with rfl | hS
  · have G0 : ck_G 10 (fun r => ck_sa lw_SI0 h r) := HG
    exact lw_gen (S := lw_S_19_0) lw_t_19_0 ckco_190 ckco_330 hd (ck_G_mono G0 (fun r hr => ⟨⟨hr.1, hr.2⟩, trivial⟩)) (by decide) (by decide)
  rcases List.mem_cons.mp hS with rfl | hS
  · have G0 : ck_G 10 (fun r => ck_sa lw_SI1 h r) := HG
    exact lw_gen (S := lw_S_19_1) lw_t_19_1 ckco_191 ckco_330 hd (ck_G_mono G0 (fun r hr => ⟨⟨hr.1, hr.2⟩, trivial⟩)) (by decide) (by decide)
  exact absurd hS List.not_mem_nil
theorem lw_u_20 {h : pm_Hp} (hI : ck_Inv lw_SI h) (y0 y1 : Int32) : pm_Cd 20 83 (.ref 0 :: [.int y0, .int y1]) h (fun rv h1 => ∃ x : Int32, rv = some (.int x) ∧ pm_Cd 20 135 (.ref 88 :: [.int y0, .int y1]) h1 (fun rv2 h2 => ck_Inv lw_SI h2 ∧ ∃ z : Int32, rv2 = some (.int z) ∧ (false = true → x = z))) := by
  obtain ⟨hd, S, hS, HG⟩ := hI
  rcases List.mem_cons.mp hS with rfl | hS
  · have G0 : ck_G 10 (fun r => ck_sa lw_SI0 h r) := HG
    have G1 : ck_G 11 (fun r => (ck_sa lw_SI0 h r) ∧ r 10 = y0.toInt) := ck_G_new G0 y0.toInt (fun r hr hv => ⟨hr, hv⟩)
    have G2 : ck_G 12 (fun r => ((ck_sa lw_SI0 h r) ∧ r 10 = y0.toInt) ∧ r 11 = y1.toInt) := ck_G_new G1 y1.toInt (fun r hr hv => ⟨hr, hv⟩)
    exact lw_gen (S := lw_S_20_0) lw_t_20_0 ckco_194 ckco_331 hd (ck_G_mono G2 (fun r hr => ⟨⟨(ck_es_cons (p := (10, .negSucc 2147483647, .ofNat 2147483647)) (by show _ ≤ r 10 ∧ r 10 ≤ _; rw [hr.1.2]; exact lw_any y0) (ck_es_cons (p := (11, .negSucc 2147483647, .ofNat 2147483647)) (by show _ ≤ r 11 ∧ r 11 ≤ _; rw [hr.2]; exact lw_any y1) hr.1.1.1)), hr.1.1.2⟩, ⟨⟨y0, rfl, by rw [ck_ev_o, hr.1.2]⟩, ⟨⟨y1, rfl, by rw [ck_ev_o, hr.2]⟩, trivial⟩⟩⟩)) (by decide) (by decide)
  rcases List.mem_cons.mp hS with rfl | hS
  · have G0 : ck_G 10 (fun r => ck_sa lw_SI1 h r) := HG
    have G1 : ck_G 11 (fun r => (ck_sa lw_SI1 h r) ∧ r 10 = y0.toInt) := ck_G_new G0 y0.toInt (fun r hr hv => ⟨hr, hv⟩)
    have G2 : ck_G 12 (fun r => ((ck_sa lw_SI1 h r) ∧ r 10 = y0.toInt) ∧ r 11 = y1.toInt) := ck_G_new G1 y1.toInt (fun r hr hv => ⟨hr, hv⟩)
    exact lw_gen (S := lw_S_20_1) lw_t_20_1 ckco_195 ckco_331 hd (ck_G_mono G2 (fun r hr => ⟨⟨(ck_es_cons (p := (10, .negSucc 2147483647, .ofNat 2147483647)) (by show _ ≤ r 10 ∧ r 10 ≤ _; rw [hr.1.2]; exact lw_any y0) (ck_es_cons (p := (11, .negSucc 2147483647, .ofNat 2147483647)) (by show _ ≤ r 11 ∧ r 11 ≤ _; rw [hr.2]; exact lw_any y1) hr.1.1.1)), hr.1.1.2⟩, ⟨⟨y0, rfl, by rw [ck_ev_o, hr.1.2]⟩, ⟨⟨y1, rfl, by rw [ck_ev_o, hr.2]⟩, trivial⟩⟩⟩)) (by decide) (by decide)
  exact absurd hS List.not_mem_nil
theorem lw_u_21 {h : pm_Hp} (hI : ck_Inv lw_SI h) : pm_Cd 20 122 (.ref 0 :: []) h (fun rv h1 => ∃ x : Int32, rv = some (.int x) ∧ pm_Cd 20 226 (.ref 88 :: []) h1 (fun rv2 h2 => ck_Inv lw_SI h2 ∧ ∃ z : Int32, rv2 = some (.int z) ∧ (false = true → x = z))) := by
  obtain ⟨hd, S, hS, HG⟩ := hI
  rcases List.mem_cons.mp hS with rfl | hS
  · have G0 : ck_G 10 (fun r => ck_sa lw_SI0 h r) := HG
    exact lw_gen (S := lw_S_21_0) lw_t_21_0 ckco_200 ckco_334 hd (ck_G_mono G0 (fun r hr => ⟨⟨hr.1, hr.2⟩, trivial⟩)) (by decide) (by decide)
  rcases List.mem_cons.mp hS with rfl | hS
  · have G0 : ck_G 10 (fun r => ck_sa lw_SI1 h r) := HG
    exact lw_gen (S := lw_S_21_1) lw_t_21_1 ckco_205 ckco_334 hd (ck_G_mono G0 (fun r hr => ⟨⟨hr.1, hr.2⟩, trivial⟩)) (by decide) (by decide)
  exact absurd hS List.not_mem_nil
theorem lw_u_22 {h : pm_Hp} (hI : ck_Inv lw_SI h) (y0 : Int32) : pm_Cd 20 114 (.ref 0 :: [.int y0]) h (fun rv h1 => ∃ x : Int32, rv = some (.int x) ∧ pm_Cd 20 211 (.ref 88 :: [.int y0]) h1 (fun rv2 h2 => ck_Inv lw_SI h2 ∧ ∃ z : Int32, rv2 = some (.int z) ∧ (false = true → x = z))) := by
  obtain ⟨hd, S, hS, HG⟩ := hI
  rcases List.mem_cons.mp hS with rfl | hS
  · have G0 : ck_G 10 (fun r => ck_sa lw_SI0 h r) := HG
    have G1 : ck_G 11 (fun r => (ck_sa lw_SI0 h r) ∧ r 10 = y0.toInt) := ck_G_new G0 y0.toInt (fun r hr hv => ⟨hr, hv⟩)
    exact lw_gen (S := lw_S_22_0) lw_t_22_0 ckco_206 ckco_335 hd (ck_G_mono G1 (fun r hr => ⟨⟨(ck_es_cons (p := (10, .negSucc 2147483647, .ofNat 2147483647)) (by show _ ≤ r 10 ∧ r 10 ≤ _; rw [hr.2]; exact lw_any y0) hr.1.1), hr.1.2⟩, ⟨⟨y0, rfl, by rw [ck_ev_o, hr.2]⟩, trivial⟩⟩)) (by decide) (by decide)
  rcases List.mem_cons.mp hS with rfl | hS
  · have G0 : ck_G 10 (fun r => ck_sa lw_SI1 h r) := HG
    have G1 : ck_G 11 (fun r => (ck_sa lw_SI1 h r) ∧ r 10 = y0.toInt) := ck_G_new G0 y0.toInt (fun r hr hv => ⟨hr, hv⟩)
    exact lw_gen (S := lw_S_22_1) lw_t_22_1 ckco_207 ckco_335 hd (ck_G_mono G1 (fun r hr => ⟨⟨(ck_es_cons (p := (10, .negSucc 2147483647, .ofNat 2147483647)) (by show _ ≤ r 10 ∧ r 10 ≤ _; rw [hr.2]; exact lw_any y0) hr.1.1), hr.1.2⟩, ⟨⟨y0, rfl, by rw [ck_ev_o, hr.2]⟩, trivial⟩⟩)) (by decide) (by decide)
  exact absurd hS List.not_mem_nil
theorem lw_u_23 {h : pm_Hp} (hI : ck_Inv lw_SI h) : pm_Cd 20 84 (.ref 0 :: []) h (fun rv h1 => ∃ x : Int32, rv = some (.int x) ∧ pm_Cd 20 141 (.ref 88 :: []) h1 (fun rv2 h2 => ck_Inv lw_SI h2 ∧ ∃ z : Int32, rv2 = some (.int z) ∧ (false = true → x = z))) := by
  obtain ⟨hd, S, hS, HG⟩ := hI
  rcases List.mem_cons.mp hS with rfl | hS
  · have G0 : ck_G 10 (fun r => ck_sa lw_SI0 h r) := HG
    exact lw_gen (S := lw_S_23_0) lw_t_23_0 ckco_210 ckco_337 hd (ck_G_mono G0 (fun r hr => ⟨⟨hr.1, hr.2⟩, trivial⟩)) (by decide) (by decide)
  rcases List.mem_cons.mp hS with rfl | hS
  · have G0 : ck_G 10 (fun r => ck_sa lw_SI1 h r) := HG
    exact lw_gen (S := lw_S_23_1) lw_t_23_1 ckco_212 ckco_337 hd (ck_G_mono G0 (fun r hr => ⟨⟨hr.1, hr.2⟩, trivial⟩)) (by decide) (by decide)
  exact absurd hS List.not_mem_nil
theorem lw_u_24 {h : pm_Hp} (hI : ck_Inv lw_SI h) (y0 : Int32) : pm_Cd 20 101 (.ref 0 :: [.int y0]) h (fun rv h1 => ∃ x : Int32, rv = some (.int x) ∧ pm_Cd 20 184 (.ref 88 :: [.int y0]) h1 (fun rv2 h2 => ck_Inv lw_SI h2 ∧ ∃ z : Int32, rv2 = some (.int z) ∧ (false = true → x = z))) := by
  obtain ⟨hd, S, hS, HG⟩ := hI
  rcases List.mem_cons.mp hS with rfl | hS
  · have G0 : ck_G 10 (fun r => ck_sa lw_SI0 h r) := HG
    have G1 : ck_G 11 (fun r => (ck_sa lw_SI0 h r) ∧ r 10 = y0.toInt) := ck_G_new G0 y0.toInt (fun r hr hv => ⟨hr, hv⟩)
    exact lw_gen (S := lw_S_24_0) lw_t_24_0 ckco_214 ckco_339 hd (ck_G_mono G1 (fun r hr => ⟨⟨(ck_es_cons (p := (10, .negSucc 2147483647, .ofNat 2147483647)) (by show _ ≤ r 10 ∧ r 10 ≤ _; rw [hr.2]; exact lw_any y0) hr.1.1), hr.1.2⟩, ⟨⟨y0, rfl, by rw [ck_ev_o, hr.2]⟩, trivial⟩⟩)) (by decide) (by decide)
  rcases List.mem_cons.mp hS with rfl | hS
  · have G0 : ck_G 10 (fun r => ck_sa lw_SI1 h r) := HG
    have G1 : ck_G 11 (fun r => (ck_sa lw_SI1 h r) ∧ r 10 = y0.toInt) := ck_G_new G0 y0.toInt (fun r hr hv => ⟨hr, hv⟩)
    exact lw_gen (S := lw_S_24_1) lw_t_24_1 ckco_215 ckco_339 hd (ck_G_mono G1 (fun r hr => ⟨⟨(ck_es_cons (p := (10, .negSucc 2147483647, .ofNat 2147483647)) (by show _ ≤ r 10 ∧ r 10 ≤ _; rw [hr.2]; exact lw_any y0) hr.1.1), hr.1.2⟩, ⟨⟨y0, rfl, by rw [ck_ev_o, hr.2]⟩, trivial⟩⟩)) (by decide) (by decide)
  exact absurd hS List.not_mem_nil
theorem lw_u_25 {h : pm_Hp} (hI : ck_Inv lw_SI h) (y0 y1 : Int32) : pm_Cd 20 94 (.ref 0 :: [.int y0, .int y1]) h (fun rv h1 => ∃ x : Int32, rv = some (.int x) ∧ pm_Cd 20 155 (.ref 88 :: [.int y0, .int y1]) h1 (fun rv2 h2 => ck_Inv lw_SI h2 ∧ ∃ z : Int32, rv2 = some (.int z) ∧ (false = true → x = z))) := by
  obtain ⟨hd, S, hS, HG⟩ := hI
  rcases List.mem_cons.mp hS with rfl | hS
  · have G0 : ck_G 10 (fun r => ck_sa lw_SI0 h r) := HG
    have G1 : ck_G 11 (fun r => (ck_sa lw_SI0 h r) ∧ r 10 = y0.toInt) := ck_G_new G0 y0.toInt (fun r hr hv => ⟨hr, hv⟩)
    have G2 : ck_G 12 (fun r => ((ck_sa lw_SI0 h r) ∧ r 10 = y0.toInt) ∧ r 11 = y1.toInt) := ck_G_new G1 y1.toInt (fun r hr hv => ⟨hr, hv⟩)
    exact lw_gen (S := lw_S_25_0) lw_t_25_0 ckco_216 ckco_340 hd (ck_G_mono G2 (fun r hr => ⟨⟨(ck_es_cons (p := (10, .negSucc 2147483647, .ofNat 2147483647)) (by show _ ≤ r 10 ∧ r 10 ≤ _; rw [hr.1.2]; exact lw_any y0) (ck_es_cons (p := (11, .negSucc 2147483647, .ofNat 2147483647)) (by show _ ≤ r 11 ∧ r 11 ≤ _; rw [hr.2]; exact lw_any y1) hr.1.1.1)), hr.1.1.2⟩, ⟨⟨y0, rfl, by rw [ck_ev_o, hr.1.2]⟩, ⟨⟨y1, rfl, by rw [ck_ev_o, hr.2]⟩, trivial⟩⟩⟩)) (by decide) (by decide)
  rcases List.mem_cons.mp hS with rfl | hS
  · have G0 : ck_G 10 (fun r => ck_sa lw_SI1 h r) := HG
    have G1 : ck_G 11 (fun r => (ck_sa lw_SI1 h r) ∧ r 10 = y0.toInt) := ck_G_new G0 y0.toInt (fun r hr hv => ⟨hr, hv⟩)
    have G2 : ck_G 12 (fun r => ((ck_sa lw_SI1 h r) ∧ r 10 = y0.toInt) ∧ r 11 = y1.toInt) := ck_G_new G1 y1.toInt (fun r hr hv => ⟨hr, hv⟩)
    exact lw_gen (S := lw_S_25_1) lw_t_25_1 ckco_217 ckco_340 hd (ck_G_mono G2 (fun r hr => ⟨⟨(ck_es_cons (p := (10, .negSucc 2147483647, .ofNat 2147483647)) (by show _ ≤ r 10 ∧ r 10 ≤ _; rw [hr.1.2]; exact lw_any y0) (ck_es_cons (p := (11, .negSucc 2147483647, .ofNat 2147483647)) (by show _ ≤ r 11 ∧ r 11 ≤ _; rw [hr.2]; exact lw_any y1) hr.1.1.1)), hr.1.1.2⟩, ⟨⟨y0, rfl, by rw [ck_ev_o, hr.1.2]⟩, ⟨⟨y1, rfl, by rw [ck_ev_o, hr.2]⟩, trivial⟩⟩⟩)) (by decide) (by decide)
  exact absurd hS List.not_mem_nil
theorem lw_u_26 {h : pm_Hp} (hI : ck_Inv lw_SI h) : pm_Cd 20 88 (.ref 0 :: []) h (fun rv h1 => ∃ x : Int32, rv = some (.int x) ∧ pm_Cd 20 148 (.ref 88 :: []) h1 (fun rv2 h2 => ck_Inv lw_SI h2 ∧ ∃ z : Int32, rv2 = some (.int z) ∧ (false = true → x = z))) := by
  obtain ⟨hd, S, hS, HG⟩ := hI
  rcases List.mem_cons.mp hS with rfl | hS
  · have G0 : ck_G 10 (fun r => ck_sa lw_SI0 h r) := HG
    exact lw_gen (S := lw_S_26_0) lw_t_26_0 ckco_234 ckco_341 hd (ck_G_mono G0 (fun r hr => ⟨⟨hr.1, hr.2⟩, trivial⟩)) (by decide) (by decide)
  rcases List.mem_cons.mp hS with rfl | hS
  · have G0 : ck_G 10 (fun r => ck_sa lw_SI1 h r) := HG
    exact lw_gen (S := lw_S_26_1) lw_t_26_1 ckco_251 ckco_341 hd (ck_G_mono G0 (fun r hr => ⟨⟨hr.1, hr.2⟩, trivial⟩)) (by decide) (by decide)
  exact absurd hS List.not_mem_nil
theorem lw_u_27 {h : pm_Hp} (hI : ck_Inv lw_SI h) (y0 : Int32) : pm_Cd 20 82 (.ref 0 :: [.int y0]) h (fun rv h1 => ∃ x : Int32, rv = some (.int x) ∧ pm_Cd 20 134 (.ref 88 :: [.int y0]) h1 (fun rv2 h2 => ck_Inv lw_SI h2 ∧ ∃ z : Int32, rv2 = some (.int z) ∧ (false = true → x = z))) := by
  obtain ⟨hd, S, hS, HG⟩ := hI
  rcases List.mem_cons.mp hS with rfl | hS
  · have G0 : ck_G 10 (fun r => ck_sa lw_SI0 h r) := HG
    have G1 : ck_G 11 (fun r => (ck_sa lw_SI0 h r) ∧ r 10 = y0.toInt) := ck_G_new G0 y0.toInt (fun r hr hv => ⟨hr, hv⟩)
    exact lw_gen (S := lw_S_27_0) lw_t_27_0 ckco_253 ckco_342 hd (ck_G_mono G1 (fun r hr => ⟨⟨(ck_es_cons (p := (10, .negSucc 2147483647, .ofNat 2147483647)) (by show _ ≤ r 10 ∧ r 10 ≤ _; rw [hr.2]; exact lw_any y0) hr.1.1), hr.1.2⟩, ⟨⟨y0, rfl, by rw [ck_ev_o, hr.2]⟩, trivial⟩⟩)) (by decide) (by decide)
  rcases List.mem_cons.mp hS with rfl | hS
  · have G0 : ck_G 10 (fun r => ck_sa lw_SI1 h r) := HG
    have G1 : ck_G 11 (fun r => (ck_sa lw_SI1 h r) ∧ r 10 = y0.toInt) := ck_G_new G0 y0.toInt (fun r hr hv => ⟨hr, hv⟩)
    exact lw_gen (S := lw_S_27_1) lw_t_27_1 ckco_255 ckco_342 hd (ck_G_mono G1 (fun r hr => ⟨⟨(ck_es_cons (p := (10, .negSucc 2147483647, .ofNat 2147483647)) (by show _ ≤ r 10 ∧ r 10 ≤ _; rw [hr.2]; exact lw_any y0) hr.1.1), hr.1.2⟩, ⟨⟨y0, rfl, by rw [ck_ev_o, hr.2]⟩, trivial⟩⟩)) (by decide) (by decide)
  exact absurd hS List.not_mem_nil
theorem lw_u_28 {h : pm_Hp} (hI : ck_Inv lw_SI h) (y0 : Int32) : pm_Cd 20 116 (.ref 0 :: [.int y0]) h (fun rv h1 => ∃ x : Int32, rv = some (.int x) ∧ pm_Cd 20 213 (.ref 88 :: [.int y0]) h1 (fun rv2 h2 => ck_Inv lw_SI h2 ∧ ∃ z : Int32, rv2 = some (.int z) ∧ (false = true → x = z))) := by
  obtain ⟨hd, S, hS, HG⟩ := hI
  rcases List.mem_cons.mp hS with rfl | hS
  · have G0 : ck_G 10 (fun r => ck_sa lw_SI0 h r) := HG
    have G1 : ck_G 11 (fun r => (ck_sa lw_SI0 h r) ∧ r 10 = y0.toInt) := ck_G_new G0 y0.toInt (fun r hr hv => ⟨hr, hv⟩)
    exact lw_gen (S := lw_S_28_0) lw_t_28_0 ckco_258 ckco_344 hd (ck_G_mono G1 (fun r hr => ⟨⟨(ck_es_cons (p := (10, .negSucc 2147483647, .ofNat 2147483647)) (by show _ ≤ r 10 ∧ r 10 ≤ _; rw [hr.2]; exact lw_any y0) hr.1.1), hr.1.2⟩, ⟨⟨y0, rfl, by rw [ck_ev_o, hr.2]⟩, trivial⟩⟩)) (by decide) (by decide)
  rcases List.mem_cons.mp hS with rfl | hS
  · have G0 : ck_G 10 (fun r => ck_sa lw_SI1 h r) := HG
    have G1 : ck_G 11 (fun r => (ck_sa lw_SI1 h r) ∧ r 10 = y0.toInt) := ck_G_new G0 y0.toInt (fun r hr hv => ⟨hr, hv⟩)
    exact lw_gen (S := lw_S_28_1) lw_t_28_1 ckco_260 ckco_344 hd (ck_G_mono G1 (fun r hr => ⟨⟨(ck_es_cons (p := (10, .negSucc 2147483647, .ofNat 2147483647)) (by show _ ≤ r 10 ∧ r 10 ≤ _; rw [hr.2]; exact lw_any y0) hr.1.1), hr.1.2⟩, ⟨⟨y0, rfl, by rw [ck_ev_o, hr.2]⟩, trivial⟩⟩)) (by decide) (by decide)
  exact absurd hS List.not_mem_nil
theorem lw_u_29 {h : pm_Hp} (hI : ck_Inv lw_SI h) (y0 : Int32) : pm_Cd 20 100 (.ref 0 :: [.int y0]) h (fun rv h1 => ∃ x : Int32, rv = some (.int x) ∧ pm_Cd 20 182 (.ref 88 :: [.int y0]) h1 (fun rv2 h2 => ck_Inv lw_SI h2 ∧ ∃ z : Int32, rv2 = some (.int z) ∧ (false = true → x = z))) := by
  obtain ⟨hd, S, hS, HG⟩ := hI
  rcases List.mem_cons.mp hS with rfl | hS
  · have G0 : ck_G 10 (fun r => ck_sa lw_SI0 h r) := HG
    have G1 : ck_G 11 (fun r => (ck_sa lw_SI0 h r) ∧ r 10 = y0.toInt) := ck_G_new G0 y0.toInt (fun r hr hv => ⟨hr, hv⟩)
    exact lw_gen (S := lw_S_29_0) lw_t_29_0 ckco_261 ckco_345 hd (ck_G_mono G1 (fun r hr => ⟨⟨(ck_es_cons (p := (10, .negSucc 2147483647, .ofNat 2147483647)) (by show _ ≤ r 10 ∧ r 10 ≤ _; rw [hr.2]; exact lw_any y0) hr.1.1), hr.1.2⟩, ⟨⟨y0, rfl, by rw [ck_ev_o, hr.2]⟩, trivial⟩⟩)) (by decide) (by decide)
  rcases List.mem_cons.mp hS with rfl | hS
  · have G0 : ck_G 10 (fun r => ck_sa lw_SI1 h r) := HG
    have G1 : ck_G 11 (fun r => (ck_sa lw_SI1 h r) ∧ r 10 = y0.toInt) := ck_G_new G0 y0.toInt (fun r hr hv => ⟨hr, hv⟩)
    exact lw_gen (S := lw_S_29_1) lw_t_29_1 ckco_262 ckco_345 hd (ck_G_mono G1 (fun r hr => ⟨⟨(ck_es_cons (p := (10, .negSucc 2147483647, .ofNat 2147483647)) (by show _ ≤ r 10 ∧ r 10 ≤ _; rw [hr.2]; exact lw_any y0) hr.1.1), hr.1.2⟩, ⟨⟨y0, rfl, by rw [ck_ev_o, hr.2]⟩, trivial⟩⟩)) (by decide) (by decide)
  exact absurd hS List.not_mem_nil
theorem lw_u_30 {h : pm_Hp} (hI : ck_Inv lw_SI h) (y0 y1 y2 : Int32) (hz2 : 0 ≤ y2.toInt ∧ y2.toInt ≤ 1) : pm_Cd 20 111 (.ref 0 :: [.int y0, .int y1, .int y2]) h (fun rv h1 => ∃ x : Int32, rv = some (.int x) ∧ pm_Cd 20 207 (.ref 88 :: [.int y0, .int y1, .int y2]) h1 (fun rv2 h2 => ck_Inv lw_SI h2 ∧ ∃ z : Int32, rv2 = some (.int z) ∧ (false = true → x = z))) := by
  obtain ⟨hd, S, hS, HG⟩ := hI
  rcases List.mem_cons.mp hS with rfl | hS
  · have G0 : ck_G 10 (fun r => ck_sa lw_SI0 h r) := HG
    have G1 : ck_G 11 (fun r => (ck_sa lw_SI0 h r) ∧ r 10 = y0.toInt) := ck_G_new G0 y0.toInt (fun r hr hv => ⟨hr, hv⟩)
    have G2 : ck_G 12 (fun r => ((ck_sa lw_SI0 h r) ∧ r 10 = y0.toInt) ∧ r 11 = y1.toInt) := ck_G_new G1 y1.toInt (fun r hr hv => ⟨hr, hv⟩)
    have G3 : ck_G 13 (fun r => (((ck_sa lw_SI0 h r) ∧ r 10 = y0.toInt) ∧ r 11 = y1.toInt) ∧ r 12 = y2.toInt) := ck_G_new G2 y2.toInt (fun r hr hv => ⟨hr, hv⟩)
    exact lw_gen (S := lw_S_30_0) lw_t_30_0 ckco_264 ckco_346 hd (ck_G_mono G3 (fun r hr => ⟨⟨(ck_es_cons (p := (10, .negSucc 2147483647, .ofNat 2147483647)) (by show _ ≤ r 10 ∧ r 10 ≤ _; rw [hr.1.1.2]; exact lw_any y0) (ck_es_cons (p := (11, .negSucc 2147483647, .ofNat 2147483647)) (by show _ ≤ r 11 ∧ r 11 ≤ _; rw [hr.1.2]; exact lw_any y1) (ck_es_cons (p := (12, .ofNat 0, .ofNat 1)) (by show _ ≤ r 12 ∧ r 12 ≤ _; rw [hr.2]; exact hz2) hr.1.1.1.1))), hr.1.1.1.2⟩, ⟨⟨y0, rfl, by rw [ck_ev_o, hr.1.1.2]⟩, ⟨⟨y1, rfl, by rw [ck_ev_o, hr.1.2]⟩, ⟨⟨y2, rfl, by rw [ck_ev_o, hr.2]⟩, trivial⟩⟩⟩⟩)) (by decide) (by decide)
  rcases List.mem_cons.mp hS with rfl | hS
  · have G0 : ck_G 10 (fun r => ck_sa lw_SI1 h r) := HG
    have G1 : ck_G 11 (fun r => (ck_sa lw_SI1 h r) ∧ r 10 = y0.toInt) := ck_G_new G0 y0.toInt (fun r hr hv => ⟨hr, hv⟩)
    have G2 : ck_G 12 (fun r => ((ck_sa lw_SI1 h r) ∧ r 10 = y0.toInt) ∧ r 11 = y1.toInt) := ck_G_new G1 y1.toInt (fun r hr hv => ⟨hr, hv⟩)
    have G3 : ck_G 13 (fun r => (((ck_sa lw_SI1 h r) ∧ r 10 = y0.toInt) ∧ r 11 = y1.toInt) ∧ r 12 = y2.toInt) := ck_G_new G2 y2.toInt (fun r hr hv => ⟨hr, hv⟩)
    exact lw_gen (S := lw_S_30_1) lw_t_30_1 ckco_265 ckco_346 hd (ck_G_mono G3 (fun r hr => ⟨⟨(ck_es_cons (p := (10, .negSucc 2147483647, .ofNat 2147483647)) (by show _ ≤ r 10 ∧ r 10 ≤ _; rw [hr.1.1.2]; exact lw_any y0) (ck_es_cons (p := (11, .negSucc 2147483647, .ofNat 2147483647)) (by show _ ≤ r 11 ∧ r 11 ≤ _; rw [hr.1.2]; exact lw_any y1) (ck_es_cons (p := (12, .ofNat 0, .ofNat 1)) (by show _ ≤ r 12 ∧ r 12 ≤ _; rw [hr.2]; exact hz2) hr.1.1.1.1))), hr.1.1.1.2⟩, ⟨⟨y0, rfl, by rw [ck_ev_o, hr.1.1.2]⟩, ⟨⟨y1, rfl, by rw [ck_ev_o, hr.1.2]⟩, ⟨⟨y2, rfl, by rw [ck_ev_o, hr.2]⟩, trivial⟩⟩⟩⟩)) (by decide) (by decide)
  exact absurd hS List.not_mem_nil
theorem lw_u_31 {h : pm_Hp} (hI : ck_Inv lw_SI h) (y0 : Int32) : pm_Cd 20 121 (.ref 0 :: [.int y0]) h (fun rv h1 => ∃ x : Int32, rv = some (.int x) ∧ pm_Cd 20 225 (.ref 88 :: [.int y0]) h1 (fun rv2 h2 => ck_Inv lw_SI h2 ∧ ∃ z : Int32, rv2 = some (.int z) ∧ (false = true → x = z))) := by
  obtain ⟨hd, S, hS, HG⟩ := hI
  rcases List.mem_cons.mp hS with rfl | hS
  · have G0 : ck_G 10 (fun r => ck_sa lw_SI0 h r) := HG
    have G1 : ck_G 11 (fun r => (ck_sa lw_SI0 h r) ∧ r 10 = y0.toInt) := ck_G_new G0 y0.toInt (fun r hr hv => ⟨hr, hv⟩)
    exact lw_gen (S := lw_S_31_0) lw_t_31_0 ckco_266 ckco_347 hd (ck_G_mono G1 (fun r hr => ⟨⟨(ck_es_cons (p := (10, .negSucc 2147483647, .ofNat 2147483647)) (by show _ ≤ r 10 ∧ r 10 ≤ _; rw [hr.2]; exact lw_any y0) hr.1.1), hr.1.2⟩, ⟨⟨y0, rfl, by rw [ck_ev_o, hr.2]⟩, trivial⟩⟩)) (by decide) (by decide)
  rcases List.mem_cons.mp hS with rfl | hS
  · have G0 : ck_G 10 (fun r => ck_sa lw_SI1 h r) := HG
    have G1 : ck_G 11 (fun r => (ck_sa lw_SI1 h r) ∧ r 10 = y0.toInt) := ck_G_new G0 y0.toInt (fun r hr hv => ⟨hr, hv⟩)
    exact lw_gen (S := lw_S_31_1) lw_t_31_1 ckco_267 ckco_347 hd (ck_G_mono G1 (fun r hr => ⟨⟨(ck_es_cons (p := (10, .negSucc 2147483647, .ofNat 2147483647)) (by show _ ≤ r 10 ∧ r 10 ≤ _; rw [hr.2]; exact lw_any y0) hr.1.1), hr.1.2⟩, ⟨⟨y0, rfl, by rw [ck_ev_o, hr.2]⟩, trivial⟩⟩)) (by decide) (by decide)
  exact absurd hS List.not_mem_nil
theorem lw_u_32 {h : pm_Hp} (hI : ck_Inv lw_SI h) (y0 : Int32) : pm_Cd 20 98 (.ref 0 :: [.int y0]) h (fun rv h1 => ∃ x : Int32, rv = some (.int x) ∧ pm_Cd 20 175 (.ref 88 :: [.int y0]) h1 (fun rv2 h2 => ck_Inv lw_SI h2 ∧ ∃ z : Int32, rv2 = some (.int z) ∧ (true = true → x = z))) := by
  obtain ⟨hd, S, hS, HG⟩ := hI
  rcases List.mem_cons.mp hS with rfl | hS
  · have G0 : ck_G 10 (fun r => ck_sa lw_SI0 h r) := HG
    have G1 : ck_G 11 (fun r => (ck_sa lw_SI0 h r) ∧ r 10 = y0.toInt) := ck_G_new G0 y0.toInt (fun r hr hv => ⟨hr, hv⟩)
    exact lw_gen (S := lw_S_32_0) lw_t_32_0 ckco_268 ckco_348 hd (ck_G_mono G1 (fun r hr => ⟨⟨(ck_es_cons (p := (10, .negSucc 2147483647, .ofNat 2147483647)) (by show _ ≤ r 10 ∧ r 10 ≤ _; rw [hr.2]; exact lw_any y0) hr.1.1), hr.1.2⟩, ⟨⟨y0, rfl, by rw [ck_ev_o, hr.2]⟩, trivial⟩⟩)) (by decide) (by decide)
  rcases List.mem_cons.mp hS with rfl | hS
  · have G0 : ck_G 10 (fun r => ck_sa lw_SI1 h r) := HG
    have G1 : ck_G 11 (fun r => (ck_sa lw_SI1 h r) ∧ r 10 = y0.toInt) := ck_G_new G0 y0.toInt (fun r hr hv => ⟨hr, hv⟩)
    exact lw_gen (S := lw_S_32_1) lw_t_32_1 ckco_269 ckco_348 hd (ck_G_mono G1 (fun r hr => ⟨⟨(ck_es_cons (p := (10, .negSucc 2147483647, .ofNat 2147483647)) (by show _ ≤ r 10 ∧ r 10 ≤ _; rw [hr.2]; exact lw_any y0) hr.1.1), hr.1.2⟩, ⟨⟨y0, rfl, by rw [ck_ev_o, hr.2]⟩, trivial⟩⟩)) (by decide) (by decide)
  exact absurd hS List.not_mem_nil
theorem lw_u_33 {h : pm_Hp} (hI : ck_Inv lw_SI h) (y0 : Int32) : pm_Cd 20 105 (.ref 0 :: [.int y0]) h (fun rv h1 => ∃ x : Int32, rv = some (.int x) ∧ pm_Cd 20 192 (.ref 88 :: [.int y0]) h1 (fun rv2 h2 => ck_Inv lw_SI h2 ∧ ∃ z : Int32, rv2 = some (.int z) ∧ (false = true → x = z))) := by
  obtain ⟨hd, S, hS, HG⟩ := hI
  rcases List.mem_cons.mp hS with rfl | hS
  · have G0 : ck_G 10 (fun r => ck_sa lw_SI0 h r) := HG
    have G1 : ck_G 11 (fun r => (ck_sa lw_SI0 h r) ∧ r 10 = y0.toInt) := ck_G_new G0 y0.toInt (fun r hr hv => ⟨hr, hv⟩)
    exact lw_gen (S := lw_S_33_0) lw_t_33_0 ckco_271 ckco_350 hd (ck_G_mono G1 (fun r hr => ⟨⟨(ck_es_cons (p := (10, .negSucc 2147483647, .ofNat 2147483647)) (by show _ ≤ r 10 ∧ r 10 ≤ _; rw [hr.2]; exact lw_any y0) hr.1.1), hr.1.2⟩, ⟨⟨y0, rfl, by rw [ck_ev_o, hr.2]⟩, trivial⟩⟩)) (by decide) (by decide)
  rcases List.mem_cons.mp hS with rfl | hS
  · have G0 : ck_G 10 (fun r => ck_sa lw_SI1 h r) := HG
    have G1 : ck_G 11 (fun r => (ck_sa lw_SI1 h r) ∧ r 10 = y0.toInt) := ck_G_new G0 y0.toInt (fun r hr hv => ⟨hr, hv⟩)
    exact lw_gen (S := lw_S_33_1) lw_t_33_1 ckco_272 ckco_350 hd (ck_G_mono G1 (fun r hr => ⟨⟨(ck_es_cons (p := (10, .negSucc 2147483647, .ofNat 2147483647)) (by show _ ≤ r 10 ∧ r 10 ≤ _; rw [hr.2]; exact lw_any y0) hr.1.1), hr.1.2⟩, ⟨⟨y0, rfl, by rw [ck_ev_o, hr.2]⟩, trivial⟩⟩)) (by decide) (by decide)
  exact absurd hS List.not_mem_nil
theorem lw_u_34 {h : pm_Hp} (hI : ck_Inv lw_SI h) (y0 : Int32) : pm_Cd 20 95 (.ref 0 :: [.int y0]) h (fun rv h1 => ∃ x : Int32, rv = some (.int x) ∧ pm_Cd 20 156 (.ref 88 :: [.int y0]) h1 (fun rv2 h2 => ck_Inv lw_SI h2 ∧ ∃ z : Int32, rv2 = some (.int z) ∧ (false = true → x = z))) := by
  obtain ⟨hd, S, hS, HG⟩ := hI
  rcases List.mem_cons.mp hS with rfl | hS
  · have G0 : ck_G 10 (fun r => ck_sa lw_SI0 h r) := HG
    have G1 : ck_G 11 (fun r => (ck_sa lw_SI0 h r) ∧ r 10 = y0.toInt) := ck_G_new G0 y0.toInt (fun r hr hv => ⟨hr, hv⟩)
    exact lw_gen (S := lw_S_34_0) lw_t_34_0 ckco_273 ckco_351 hd (ck_G_mono G1 (fun r hr => ⟨⟨(ck_es_cons (p := (10, .negSucc 2147483647, .ofNat 2147483647)) (by show _ ≤ r 10 ∧ r 10 ≤ _; rw [hr.2]; exact lw_any y0) hr.1.1), hr.1.2⟩, ⟨⟨y0, rfl, by rw [ck_ev_o, hr.2]⟩, trivial⟩⟩)) (by decide) (by decide)
  rcases List.mem_cons.mp hS with rfl | hS
  · have G0 : ck_G 10 (fun r => ck_sa lw_SI1 h r) := HG
    have G1 : ck_G 11 (fun r => (ck_sa lw_SI1 h r) ∧ r 10 = y0.toInt) := ck_G_new G0 y0.toInt (fun r hr hv => ⟨hr, hv⟩)
    exact lw_gen (S := lw_S_34_1) lw_t_34_1 ckco_274 ckco_351 hd (ck_G_mono G1 (fun r hr => ⟨⟨(ck_es_cons (p := (10, .negSucc 2147483647, .ofNat 2147483647)) (by show _ ≤ r 10 ∧ r 10 ≤ _; rw [hr.2]; exact lw_any y0) hr.1.1), hr.1.2⟩, ⟨⟨y0, rfl, by rw [ck_ev_o, hr.2]⟩, trivial⟩⟩)) (by decide) (by decide)
  exact absurd hS List.not_mem_nil
theorem lw_u_35 {h : pm_Hp} (hI : ck_Inv lw_SI h) (y0 : Int32) : pm_Cd 20 80 (.ref 0 :: [.int y0]) h (fun rv h1 => ∃ x : Int32, rv = some (.int x) ∧ pm_Cd 20 131 (.ref 88 :: [.int y0]) h1 (fun rv2 h2 => ck_Inv lw_SI h2 ∧ ∃ z : Int32, rv2 = some (.int z) ∧ (false = true → x = z))) := by
  obtain ⟨hd, S, hS, HG⟩ := hI
  rcases List.mem_cons.mp hS with rfl | hS
  · have G0 : ck_G 10 (fun r => ck_sa lw_SI0 h r) := HG
    have G1 : ck_G 11 (fun r => (ck_sa lw_SI0 h r) ∧ r 10 = y0.toInt) := ck_G_new G0 y0.toInt (fun r hr hv => ⟨hr, hv⟩)
    exact lw_gen (S := lw_S_35_0) lw_t_35_0 ckco_275 ckco_352 hd (ck_G_mono G1 (fun r hr => ⟨⟨(ck_es_cons (p := (10, .negSucc 2147483647, .ofNat 2147483647)) (by show _ ≤ r 10 ∧ r 10 ≤ _; rw [hr.2]; exact lw_any y0) hr.1.1), hr.1.2⟩, ⟨⟨y0, rfl, by rw [ck_ev_o, hr.2]⟩, trivial⟩⟩)) (by decide) (by decide)
  rcases List.mem_cons.mp hS with rfl | hS
  · have G0 : ck_G 10 (fun r => ck_sa lw_SI1 h r) := HG
    have G1 : ck_G 11 (fun r => (ck_sa lw_SI1 h r) ∧ r 10 = y0.toInt) := ck_G_new G0 y0.toInt (fun r hr hv => ⟨hr, hv⟩)
    exact lw_gen (S := lw_S_35_1) lw_t_35_1 ckco_276 ckco_352 hd (ck_G_mono G1 (fun r hr => ⟨⟨(ck_es_cons (p := (10, .negSucc 2147483647, .ofNat 2147483647)) (by show _ ≤ r 10 ∧ r 10 ≤ _; rw [hr.2]; exact lw_any y0) hr.1.1), hr.1.2⟩, ⟨⟨y0, rfl, by rw [ck_ev_o, hr.2]⟩, trivial⟩⟩)) (by decide) (by decide)
  exact absurd hS List.not_mem_nil
theorem lw_u_36 {h : pm_Hp} (hI : ck_Inv lw_SI h) (y0 : Int32) : pm_Cd 20 79 (.ref 0 :: [.int y0]) h (fun rv h1 => ∃ x : Int32, rv = some (.int x) ∧ pm_Cd 20 128 (.ref 88 :: [.int y0]) h1 (fun rv2 h2 => ck_Inv lw_SI h2 ∧ ∃ z : Int32, rv2 = some (.int z) ∧ (false = true → x = z))) := by
  obtain ⟨hd, S, hS, HG⟩ := hI
  rcases List.mem_cons.mp hS with rfl | hS
  · have G0 : ck_G 10 (fun r => ck_sa lw_SI0 h r) := HG
    have G1 : ck_G 11 (fun r => (ck_sa lw_SI0 h r) ∧ r 10 = y0.toInt) := ck_G_new G0 y0.toInt (fun r hr hv => ⟨hr, hv⟩)
    exact lw_gen (S := lw_S_36_0) lw_t_36_0 ckco_277 ckco_353 hd (ck_G_mono G1 (fun r hr => ⟨⟨(ck_es_cons (p := (10, .negSucc 2147483647, .ofNat 2147483647)) (by show _ ≤ r 10 ∧ r 10 ≤ _; rw [hr.2]; exact lw_any y0) hr.1.1), hr.1.2⟩, ⟨⟨y0, rfl, by rw [ck_ev_o, hr.2]⟩, trivial⟩⟩)) (by decide) (by decide)
  rcases List.mem_cons.mp hS with rfl | hS
  · have G0 : ck_G 10 (fun r => ck_sa lw_SI1 h r) := HG
    have G1 : ck_G 11 (fun r => (ck_sa lw_SI1 h r) ∧ r 10 = y0.toInt) := ck_G_new G0 y0.toInt (fun r hr hv => ⟨hr, hv⟩)
    exact lw_gen (S := lw_S_36_1) lw_t_36_1 ckco_278 ckco_353 hd (ck_G_mono G1 (fun r hr => ⟨⟨(ck_es_cons (p := (10, .negSucc 2147483647, .ofNat 2147483647)) (by show _ ≤ r 10 ∧ r 10 ≤ _; rw [hr.2]; exact lw_any y0) hr.1.1), hr.1.2⟩, ⟨⟨y0, rfl, by rw [ck_ev_o, hr.2]⟩, trivial⟩⟩)) (by decide) (by decide)
  exact absurd hS List.not_mem_nil
