/-! Contracts checked, 1. -/
def ckpt_44 : List ck_Pt := [(((3, [(0, .ofNat 0, .ofNat 1600), (1, .ofNat 0, .ofNat 1600), (2, .ofNat 0, .ofNat 24)], [], [(3, (.ofNat 1, []), (.ofNat 1, [])), (24, (.ofNat 0, []), (.ofNat 0, [(2, .ofNat 1)])), (2, (.ofNat 1, []), (.ofNat 18, []))], []), 41, [(0, (2, (.ofNat 2, []))), (4, (0, (.ofNat 0, []))), (5, (0, (.ofNat 0, [(1, .ofNat 1)])))], []), (.ofNat 10000000, [(1, .negSucc 0)])), (((3, [(0, .ofNat 0, .ofNat 1600), (1, .ofNat 0, .ofNat 1600), (2, .ofNat 0, .ofNat 24)], [], [(3, (.ofNat 1, []), (.ofNat 1, [])), (24, (.ofNat 0, []), (.ofNat 0, [(2, .ofNat 1)])), (2, (.ofNat 1, []), (.ofNat 18, []))], [(0, (.ofNat 0, []), (.ofNat 0, [])), (2, (.ofNat 0, []), (.ofNat 0, []))]), 41, [(0, (2, (.ofNat 2, []))), (4, (0, (.ofNat 1, []))), (5, (0, (.ofNat 0, [(1, .ofNat 1)])))], []), (.ofNat 10000000, [(1, .negSucc 0)]))]
def cktb_44 : List ck_Co := [ckcn_33, ckcn_18, ckcn_36, ckcn_38, ckcn_40, ckcn_42, ckcn_43]
def ckce_44_0 : List Nat := [0, 5, 3, 0, 0, 1, 3, 0, 0, 0, 1, 3, 2, 0, 0, 0, 24, 3, 1, 2, 0, 0, 0, 1, 0, 2, 0, 5, 0, 4, 2, 0, 3, 0, 1, 0, 2, 0, 0, 0, 0, 0, 5, 2, 1, 3, 0, 1, 0, 2, 0, 0, 0, 0]
def ckce_44_1 : List Nat := [0, 3, 0, 3, 4, 0, 1, 0, 1, 0, 2, 0, 5, 4, 0, 1, 0, 1, 0, 2]
def ckce_44_2 : List Nat := [0, 3, 0, 3, 3, 2, 0, 0, 3, 4, 1, 1, 0, 1, 0, 2, 0, 2, 4, 0, 1, 0, 1, 0, 2, 0, 6, 0, 3, 3, 2, 0, 0, 3, 4, 1, 1, 0, 1, 0, 2, 0, 2, 4, 0, 1, 0, 1, 0, 2, 0, 4, 0, 7, 0, 9, 2, 0, 3, 0, 1, 0, 2, 2, 1, 1, 2, 0, 1, 2, 2, 0, 16, 2, 0, 3, 0, 1, 0, 2, 2, 1, 1, 2, 0, 1, 2, 2, 0, 1, 3, 3, 0, 0, 8, 2, 0, 3, 0, 1, 0, 2, 2, 1, 1, 2, 0, 1, 2, 2, 0, 12, 0, 2, 1, 1, 3, 4, 0, 1, 1, 3, 6, 0, 3, 1, 2, 0, 1, 7, 2, 0, 1, 6, 2, 0, 4, 0, 7, 2, 0, 3, 0, 1, 0, 2, 2, 1, 1, 2, 0, 1, 2, 2, 0, 9, 2, 1, 3, 0, 1, 0, 2, 2, 1, 1, 2, 0, 1, 2, 2, 0, 7, 0, 8, 2, 0, 3, 0, 1, 0, 2, 2, 1, 1, 2, 0, 1, 2, 2, 0, 15, 2, 0, 3, 0, 1, 0, 2, 2, 1, 1, 2, 0, 1, 2, 2, 0, 1, 3, 4, 0, 0, 8, 2, 0, 3, 0, 1, 0, 2, 2, 1, 1, 2, 0, 1, 2, 2, 0, 12, 0, 2, 1, 1, 3, 4, 0, 1, 1, 3, 6, 0, 3, 1, 2, 0, 1, 8, 2, 0, 1, 7, 2, 0, 4, 0, 7, 2, 0, 3, 0, 1, 0, 2, 2, 1, 1, 2, 0, 1, 2, 2, 0, 9, 2, 1, 3, 0, 1, 0, 2, 2, 1, 1, 2, 0, 1, 2, 2, 0, 7, 0, 8, 2, 0, 3, 0, 1, 0, 2, 2, 1, 1, 2, 0, 1, 2, 2, 0, 15, 2, 0, 3, 0, 1, 0, 2, 2, 1, 1, 2, 0, 1, 2, 2, 0, 1, 3, 5, 0, 0, 8, 1, 1, 24, 0, 0, 2, 0, 3, 0, 1, 0, 2, 2, 1, 1, 2, 0, 1, 5, 2, 0, 12, 0, 2, 1, 1, 3, 4, 0, 1, 1, 3, 6, 0, 3, 1, 2, 0, 1, 8, 2, 0, 1, 7, 2, 0, 4, 0, 7, 1, 1, 24, 0, 0, 2, 0, 3, 0, 1, 0, 2, 2, 1, 1, 2, 0, 1, 10, 2, 0, 9, 1, 1, 24, 0, 0, 2, 1, 3, 0, 1, 0, 2, 2, 1, 1, 2, 0, 1, 10, 2, 0, 22, 1, 1, 24, 0, 0, 2, 0, 3, 0, 1, 0, 2, 2, 1, 1, 2, 0, 1, 8, 2, 0, 7, 0, 9, 2, 0, 3, 0, 1, 0, 2, 2, 1, 1, 2, 0, 1, 2, 2, 0, 16, 2, 0, 3, 0, 1, 0, 2, 2, 1, 1, 2, 0, 1, 2, 2, 0, 7, 0, 11, 0, 14, 2, 0, 3, 0, 1, 0, 2, 2, 1, 1, 2, 0, 1, 2, 2, 0, 21, 2, 0, 3, 0, 1, 0, 2, 2, 1, 1, 2, 0, 1, 2, 2, 0, 17, 1, 1, 3, 4, 0, 1, 1, 3, 6, 0, 3, 1, 2, 0, 1, 6, 2, 0, 1, 5, 2, 0, 4, 0, 15, 2, 0, 3, 0, 1, 0, 2, 2, 1, 1, 2, 0, 1, 2, 2, 0, 19, 0, 5, 0, 28, 2, 0, 3, 0, 1, 0, 2, 2, 1, 1, 2, 0, 1, 2, 2, 0, 5, 0, 2, 1, 1, 3, 6, 0, 3, 1, 2, 0, 1, 10, 2, 0, 1, 5, 2, 0, 4, 0, 13, 2, 0, 3, 0, 1, 0, 2, 2, 1, 1, 2, 0, 1, 2, 2, 0, 26, 0, 2, 1, 1, 3, 6, 0, 3, 1, 2, 0, 1, 13, 2, 0, 1, 5, 2, 0, 4, 0, 7, 2, 0, 3, 0, 1, 0, 2, 2, 1, 1, 2, 0, 1, 2, 2, 0, 9, 2, 1, 3, 0, 1, 0, 2, 2, 1, 1, 2, 0, 1, 2, 2, 0, 22, 2, 0, 3, 0, 1, 0, 2, 2, 1, 1, 2, 0, 1, 2, 2, 0, 28, 2, 0, 3, 0, 1, 0, 2, 2, 1, 1, 2, 0, 1, 2, 2, 0, 28, 2, 0, 3, 0, 1, 0, 2, 2, 1, 1, 2, 0, 1, 2, 2, 0, 1, 3, 6, 0, 0, 8, 2, 0, 3, 0, 1, 0, 2, 2, 1, 1, 2, 0, 1, 2, 2, 0, 12, 0, 2, 1, 1, 3, 4, 0, 1, 1, 3, 6, 0, 3, 1, 2, 0, 1, 6, 2, 0, 1, 5, 2, 0, 4, 0, 7, 2, 0, 3, 0, 1, 0, 2, 2, 1, 1, 2, 0, 1, 2, 2, 0, 9, 2, 1, 3, 0, 1, 0, 2, 2, 1, 1, 2, 0, 1, 2, 2, 0, 22, 2, 0, 3, 0, 1, 0, 2, 2, 1, 1, 2, 0, 1, 2, 2]
set_option maxRecDepth 1000000 in
theorem ckie_44 : ck_in0 cktb_44 ckcn_44 ckpt_44 4000 ckce_44_0 = true := by decide +kernel
set_option maxRecDepth 1000000 in
theorem ckip_44_0 : ∀ p, ckpt_44[0]? = some p → ck_inP cktb_44 ckcn_44 ckpt_44 4000 p ckce_44_1 = true := by
  intro p hp
  cases hp
  decide +kernel
set_option maxRecDepth 1000000 in
theorem ckip_44_1 : ∀ p, ckpt_44[1]? = some p → ck_inP cktb_44 ckcn_44 ckpt_44 4000 p ckce_44_2 = true := by
  intro p hp
  cases hp
  decide +kernel
theorem ckco_44 : ck_CO ckcn_44 := ck_con (tab := cktb_44) (pats := ckpt_44) (List.forall_mem_cons.mpr ⟨ckco_33, (List.forall_mem_cons.mpr ⟨ckco_18, (List.forall_mem_cons.mpr ⟨ckco_36, (List.forall_mem_cons.mpr ⟨ckco_38, (List.forall_mem_cons.mpr ⟨ckco_40, (List.forall_mem_cons.mpr ⟨ckco_42, (List.forall_mem_cons.mpr ⟨ckco_43, (fun _ h => absurd h List.not_mem_nil)⟩)⟩)⟩)⟩)⟩)⟩)⟩) ckie_44 (List.forall_mem_cons.mpr ⟨⟨4000, ckce_44_1, ckip_44_0 _ rfl⟩, (List.forall_mem_cons.mpr ⟨⟨4000, ckce_44_2, ckip_44_1 _ rfl⟩, (fun _ h => absurd h List.not_mem_nil)⟩)⟩)
def ckpt_45 : List ck_Pt := []
def cktb_45 : List ck_Co := [ckcn_44, ckcn_30]
def ckce_45_0 : List Nat := [0, 8, 3, 0, 1, 0, 1, 3, 2, 0, 2, 4, 0, 3, 0, 1, 0, 2, 0, 1, 1, 2, 0, 1, 2, 2, 0, 25, 3, 1, 0, 0, 97, 4, 1, 4, 0, 1, 0, 2, 0, 1, 1, 2, 0, 1, 2, 2, 0, 1, 4, 2]
set_option maxRecDepth 1000000 in
theorem ckie_45 : ck_in0 cktb_45 ckcn_45 ckpt_45 4000 ckce_45_0 = true := by decide +kernel
theorem ckco_45 : ck_CO ckcn_45 := ck_con (tab := cktb_45) (pats := ckpt_45) (List.forall_mem_cons.mpr ⟨ckco_44, (List.forall_mem_cons.mpr ⟨ckco_30, (fun _ h => absurd h List.not_mem_nil)⟩)⟩) ckie_45 (fun _ h => absurd h List.not_mem_nil)
def ckpt_46 : List ck_Pt := []
def cktb_46 : List ck_Co := []
def ckce_46_0 : List Nat := [0, 2, 0, 3, 0, 1, 4, 0, 4, 0, 1, 0, 2, 0, 1, 1, 2, 0, 1, 2, 2, 0, 1, 3, 2, 0, 5, 4, 1, 5, 0, 1, 0, 2, 0, 1, 1, 2, 0, 1, 2, 2, 0, 1, 3, 2, 0, 1, 4, 2, 0, 4, 4, 1, 5, 0, 1, 0, 2, 0, 1, 1, 2, 0, 1, 2, 2, 0, 1, 3, 2, 0, 1, 4, 2]
set_option maxRecDepth 1000000 in
theorem ckie_46 : ck_in0 cktb_46 ckcn_46 ckpt_46 4000 ckce_46_0 = true := by decide +kernel
theorem ckco_46 : ck_CO ckcn_46 := ck_con (tab := cktb_46) (pats := ckpt_46) (fun _ h => absurd h List.not_mem_nil) ckie_46 (fun _ h => absurd h List.not_mem_nil)
def ckpt_47 : List ck_Pt := []
def cktb_47 : List ck_Co := []
def ckce_47_0 : List Nat := [0, 2, 0, 3, 0, 1, 4, 0, 4, 0, 1, 0, 2, 0, 1, 1, 2, 0, 1, 2, 2, 0, 1, 3, 2, 0, 5, 4, 1, 5, 0, 1, 0, 2, 0, 1, 1, 2, 0, 1, 2, 2, 0, 1, 3, 2, 0, 1, 4, 2, 0, 4, 4, 1, 5, 0, 1, 0, 2, 0, 1, 1, 2, 0, 1, 2, 2, 0, 1, 3, 2, 0, 1, 4, 2]
set_option maxRecDepth 1000000 in
theorem ckie_47 : ck_in0 cktb_47 ckcn_47 ckpt_47 4000 ckce_47_0 = true := by decide +kernel
theorem ckco_47 : ck_CO ckcn_47 := ck_con (tab := cktb_47) (pats := ckpt_47) (fun _ h => absurd h List.not_mem_nil) ckie_47 (fun _ h => absurd h List.not_mem_nil)
def ckpt_48 : List ck_Pt := []
def cktb_48 : List ck_Co := []
def ckce_48_0 : List Nat := [0, 6, 0, 4, 4, 0, 6, 0, 1, 0, 2, 0, 1, 1, 2, 0, 1, 2, 2, 0, 1, 3, 2, 0, 1, 4, 2, 1999999, 0, 0, 4, 0, 4, 4, 0, 6, 0, 1, 0, 2, 0, 1, 1, 2, 0, 1, 2, 2, 0, 1, 3, 2, 0, 1, 4, 2, 1999999, 0, 0, 8, 0, 4, 4, 0, 6, 0, 1, 0, 2, 0, 1, 1, 2, 0, 1, 2, 2, 0, 1, 3, 2, 0, 1, 4, 2, 1999999, 0, 0, 3, 0, 4, 4, 0, 6, 0, 1, 0, 2, 0, 1, 1, 2, 0, 1, 2, 2, 0, 1, 3, 2, 0, 1, 4, 2, 1999999, 0, 0, 14, 4, 0, 6, 0, 1, 0, 2, 0, 1, 1, 2, 0, 1, 2, 2, 0, 1, 3, 2, 0, 1, 4, 2, 0, 1, 6, 2]
set_option maxRecDepth 1000000 in
theorem ckie_48 : ck_in0 cktb_48 ckcn_48 ckpt_48 4000 ckce_48_0 = true := by decide +kernel
theorem ckco_48 : ck_CO ckcn_48 := ck_con (tab := cktb_48) (pats := ckpt_48) (fun _ h => absurd h List.not_mem_nil) ckie_48 (fun _ h => absurd h List.not_mem_nil)
def ckpt_49 : List ck_Pt := []
def cktb_49 : List ck_Co := []
def ckce_49_0 : List Nat := [0, 6, 0, 4, 4, 0, 6, 0, 1, 0, 2, 0, 1, 1, 2, 0, 1, 2, 2, 0, 1, 3, 2, 0, 1, 4, 2, 1999999, 0, 0, 4, 0, 4, 4, 0, 6, 0, 1, 0, 2, 0, 1, 1, 2, 0, 1, 2, 2, 0, 1, 3, 2, 0, 1, 4, 2, 1999999, 0, 0, 8, 0, 4, 4, 0, 6, 0, 1, 0, 2, 0, 1, 1, 2, 0, 1, 2, 2, 0, 1, 3, 2, 0, 1, 4, 2, 1999999, 0, 0, 3, 0, 4, 4, 0, 6, 0, 1, 0, 2, 0, 1, 1, 2, 0, 1, 2, 2, 0, 1, 3, 2, 0, 1, 4, 2, 1999999, 0, 0, 14, 4, 0, 6, 0, 1, 0, 2, 0, 1, 1, 2, 0, 1, 2, 2, 0, 1, 3, 2, 0, 1, 4, 2, 0, 1, 6, 2]
set_option maxRecDepth 1000000 in
theorem ckie_49 : ck_in0 cktb_49 ckcn_49 ckpt_49 4000 ckce_49_0 = true := by decide +kernel
theorem ckco_49 : ck_CO ckcn_49 := ck_con (tab := cktb_49) (pats := ckpt_49) (fun _ h => absurd h List.not_mem_nil) ckie_49 (fun _ h => absurd h List.not_mem_nil)
def ckpt_50 : List ck_Pt := []
def cktb_50 : List ck_Co := []
def ckce_50_0 : List Nat := [0, 6, 0, 4, 4, 0, 7, 0, 1, 0, 2, 0, 1, 1, 2, 0, 1, 2, 2, 0, 1, 3, 2, 0, 1, 4, 2, 0, 1, 5, 2, 1999999, 0, 0, 4, 0, 4, 4, 0, 7, 0, 1, 0, 2, 0, 1, 1, 2, 0, 1, 2, 2, 0, 1, 3, 2, 0, 1, 4, 2, 0, 1, 5, 2, 1999999, 0, 0, 10, 0, 4, 4, 0, 7, 0, 1, 0, 2, 0, 1, 1, 2, 0, 1, 2, 2, 0, 1, 3, 2, 0, 1, 4, 2, 0, 1, 5, 2, 1999999, 0, 0, 4, 0, 4, 4, 0, 7, 0, 1, 0, 2, 0, 1, 1, 2, 0, 1, 2, 2, 0, 1, 3, 2, 0, 1, 4, 2, 0, 1, 5, 2, 1999999, 0, 0, 8, 0, 4, 4, 0, 7, 0, 1, 0, 2, 0, 1, 1, 2, 0, 1, 2, 2, 0, 1, 3, 2, 0, 1, 4, 2, 0, 1, 5, 2, 1999999, 0, 0, 3, 0, 4, 4, 0, 7, 0, 1, 0, 2, 0, 1, 1, 2, 0, 1, 2, 2, 0, 1, 3, 2, 0, 1, 4, 2, 0, 1, 5, 2, 1999999, 0, 0, 17, 4, 0, 7, 0, 1, 0, 2, 0, 1, 1, 2, 0, 1, 2, 2, 0, 1, 3, 2, 0, 1, 4, 2, 0, 1, 5, 2, 0, 1, 7, 2]
set_option maxRecDepth 1000000 in
theorem ckie_50 : ck_in0 cktb_50 ckcn_50 ckpt_50 4000 ckce_50_0 = true := by decide +kernel
theorem ckco_50 : ck_CO ckcn_50 := ck_con (tab := cktb_50) (pats := ckpt_50) (fun _ h => absurd h List.not_mem_nil) ckie_50 (fun _ h => absurd h List.not_mem_nil)
def ckpt_51 : List ck_Pt := []
def cktb_51 : List ck_Co := []
def ckce_51_0 : List Nat := [0, 6, 0, 4, 4, 0, 7, 0, 1, 0, 2, 0, 1, 1, 2, 0, 1, 2, 2, 0, 1, 3, 2, 0, 1, 4, 2, 0, 1, 5, 2, 1999999, 0, 0, 4, 0, 4, 4, 0, 7, 0, 1, 0, 2, 0, 1, 1, 2, 0, 1, 2, 2, 0, 1, 3, 2, 0, 1, 4, 2, 0, 1, 5, 2, 1999999, 0, 0, 10, 0, 4, 4, 0, 7, 0, 1, 0, 2, 0, 1, 1, 2, 0, 1, 2, 2, 0, 1, 3, 2, 0, 1, 4, 2, 0, 1, 5, 2, 1999999, 0, 0, 4, 0, 4, 4, 0, 7, 0, 1, 0, 2, 0, 1, 1, 2, 0, 1, 2, 2, 0, 1, 3, 2, 0, 1, 4, 2, 0, 1, 5, 2, 1999999, 0, 0, 8, 0, 4, 4, 0, 7, 0, 1, 0, 2, 0, 1, 1, 2, 0, 1, 2, 2, 0, 1, 3, 2, 0, 1, 4, 2, 0, 1, 5, 2, 1999999, 0, 0, 3, 0, 4, 4, 0, 7, 0, 1, 0, 2, 0, 1, 1, 2, 0, 1, 2, 2, 0, 1, 3, 2, 0, 1, 4, 2, 0, 1, 5, 2, 1999999, 0, 0, 17, 4, 0, 7, 0, 1, 0, 2, 0, 1, 1, 2, 0, 1, 2, 2, 0, 1, 3, 2, 0, 1, 4, 2, 0, 1, 5, 2, 0, 1, 7, 2]
set_option maxRecDepth 1000000 in
theorem ckie_51 : ck_in0 cktb_51 ckcn_51 ckpt_51 4000 ckce_51_0 = true := by decide +kernel
theorem ckco_51 : ck_CO ckcn_51 := ck_con (tab := cktb_51) (pats := ckpt_51) (fun _ h => absurd h List.not_mem_nil) ckie_51 (fun _ h => absurd h List.not_mem_nil)
def ckpt_52 : List ck_Pt := []
def cktb_52 : List ck_Co := []
def ckce_52_0 : List Nat := [0, 6, 0, 4, 4, 0, 4, 0, 1, 0, 2, 0, 1, 1, 2, 0, 1, 2, 2, 0, 1, 3, 2, 0, 4, 0, 4, 4, 0, 4, 0, 1, 0, 2, 0, 1, 1, 2, 0, 1, 2, 2, 0, 1, 3, 2, 0, 14, 0, 7, 0, 6, 4, 1, 5, 0, 1, 0, 2, 0, 1, 1, 2, 0, 1, 2, 2, 0, 1, 3, 2, 0, 1, 7, 2, 0, 11, 4, 1, 5, 0, 1, 0, 2, 0, 1, 1, 2, 0, 1, 2, 2, 0, 1, 3, 2, 0, 1, 8, 2, 0, 8, 4, 1, 5, 0, 1, 0, 2, 0, 1, 1, 2, 0, 1, 2, 2, 0, 1, 3, 2, 0, 1, 5, 2]
set_option maxRecDepth 1000000 in
theorem ckie_52 : ck_in0 cktb_52 ckcn_52 ckpt_52 4000 ckce_52_0 = true := by decide +kernel
theorem ckco_52 : ck_CO ckcn_52 := ck_con (tab := cktb_52) (pats := ckpt_52) (fun _ h => absurd h List.not_mem_nil) ckie_52 (fun _ h => absurd h List.not_mem_nil)
def ckpt_53 : List ck_Pt := []
def cktb_53 : List ck_Co := []
def ckce_53_0 : List Nat := [0, 6, 0, 4, 4, 0, 4, 0, 1, 0, 2, 0, 1, 1, 2, 0, 1, 2, 2, 0, 1, 3, 2, 0, 4, 0, 4, 4, 0, 4, 0, 1, 0, 2, 0, 1, 1, 2, 0, 1, 2, 2, 0, 1, 3, 2, 0, 14, 0, 7, 0, 6, 4, 1, 5, 0, 1, 0, 2, 0, 1, 1, 2, 0, 1, 2, 2, 0, 1, 3, 2, 0, 1, 7, 2, 0, 11, 4, 1, 5, 0, 1, 0, 2, 0, 1, 1, 2, 0, 1, 2, 2, 0, 1, 3, 2, 0, 1, 8, 2, 0, 8, 4, 1, 5, 0, 1, 0, 2, 0, 1, 1, 2, 0, 1, 2, 2, 0, 1, 3, 2, 0, 1, 5, 2]
set_option maxRecDepth 1000000 in
theorem ckie_53 : ck_in0 cktb_53 ckcn_53 ckpt_53 4000 ckce_53_0 = true := by decide +kernel
theorem ckco_53 : ck_CO ckcn_53 := ck_con (tab := cktb_53) (pats := ckpt_53) (fun _ h => absurd h List.not_mem_nil) ckie_53 (fun _ h => absurd h List.not_mem_nil)
def ckpt_54 : List ck_Pt := [(((4, [(0, .ofNat 1, .ofNat 6), (1, .ofNat 0, .ofNat 255), (2, .ofNat 0, .ofNat 1), (3, .ofNat 0, .ofNat 16)], [], [], []), 11, [(0, (2, (.ofNat 55, []))), (1, (0, (.ofNat 0, [(0, .ofNat 1)]))), (2, (0, (.ofNat 0, [(1, .ofNat 1)]))), (3, (0, (.ofNat 0, [(2, .ofNat 1)]))), (4, (0, (.negSucc 7, [(0, .ofNat 8)]))), (5, (0, (.ofNat 0, [(3, .ofNat 1)])))], []), (.ofNat 10000000, [(3, .negSucc 0)]))]
def cktb_54 : List ck_Co := []
def ckce_54_0 : List Nat := [0, 8, 2, 0, 4, 0, 1, 0, 2, 0, 1, 1, 2, 0, 1, 2, 2, 0, 0]
def ckce_54_1 : List Nat := [0, 3, 4, 0, 3, 0, 1, 0, 2, 0, 1, 1, 2, 0, 1, 2, 2, 0, 3, 0, 4, 0, 15, 2, 0, 4, 0, 1, 0, 2, 0, 1, 1, 2, 0, 1, 2, 2, 2, 1, 3, 2, 0, 18, 2, 0, 4, 0, 1, 0, 2, 0, 1, 1, 2, 0, 1, 2, 2, 2, 1, 3, 2, 0, 6, 0, 4, 0, 15, 2, 0, 4, 0, 1, 0, 2, 0, 1, 1, 2, 0, 1, 2, 2, 2, 1, 3, 2, 0, 18, 2, 0, 4, 0, 1, 0, 2, 0, 1, 1, 2, 0, 1, 2, 2, 2, 1, 3, 2, 0, 5, 0, 18, 2, 0, 4, 0, 1, 0, 2, 0, 1, 1, 2, 0, 1, 2, 2, 2, 1, 3, 2, 0, 21, 2, 0, 4, 0, 1, 0, 2, 0, 1, 1, 2, 0, 1, 2, 2, 2, 1, 3, 2]
set_option maxRecDepth 1000000 in
theorem ckie_54 : ck_in0 cktb_54 ckcn_54 ckpt_54 4000 ckce_54_0 = true := by decide +kernel
set_option maxRecDepth 1000000 in
theorem ckip_54_0 : ∀ p, ckpt_54[0]? = some p → ck_inP cktb_54 ckcn_54 ckpt_54 4000 p ckce_54_1 = true := by
  intro p hp
  cases hp
  decide +kernel
theorem ckco_54 : ck_CO ckcn_54 := ck_con (tab := cktb_54) (pats := ckpt_54) (fun _ h => absurd h List.not_mem_nil) ckie_54 (List.forall_mem_cons.mpr ⟨⟨4000, ckce_54_1, ckip_54_0 _ rfl⟩, (fun _ h => absurd h List.not_mem_nil)⟩)
def ckpt_55 : List ck_Pt := [(((7, [(0, .ofNat 0, .ofNat 23), (1, .ofNat 1, .ofNat 6), (2, .ofNat 1, .ofNat 4), (3, .ofNat 0, .ofNat 15), (4, .negSucc 9223372036854775807, .ofNat 9223372036854775807), (5, .negSucc 49, .ofNat 2), (6, .negSucc 9223372036854775807, .ofNat 9223372036854775807)], [], [(56, (.ofNat 0, [(1, .ofNat 16), (3, .ofNat 1)]), (.ofNat 0, [(6, .ofNat 1)])), (26, (.negSucc 0, [(2, .ofNat 1)]), (.ofNat 0, [(3, .ofNat 1)])), (25, (.ofNat 0, []), (.ofNat 0, [(2, .ofNat 1)]))], []), 39, [(0, (2, (.ofNat 55, []))), (1, (2, (.ofNat 18, []))), (2, (0, (.ofNat 0, [(0, .ofNat 1)]))), (3, (0, (.ofNat 0, [(1, .ofNat 1)]))), (5, (1, (.ofNat 0, [(4, .ofNat 1)]))), (7, (0, (.ofNat 0, [(5, .ofNat 1)])))], []), (.ofNat 10000000001000000000, [(5, .ofNat 1000000000000)])), (((10, [(0, .ofNat 0, .ofNat 23), (1, .ofNat 1, .ofNat 6), (2, .ofNat 1, .ofNat 4), (3, .ofNat 0, .ofNat 15), (4, .negSucc 9223372036854775807, .ofNat 9223372036854775807), (5, .ofNat 0, .ofNat 2), (6, .negSucc 9223372036854775807, .ofNat 9223372036854775807), (7, .ofNat 0, .ofNat 15), (8, .negSucc 9223372036854775807, .ofNat 9223372036854775807), (9, .ofNat 1, .ofNat 6)], [], [(26, (.ofNat 0, [(0, .ofNat 4), (5, .ofNat 1)]), (.ofNat 0, [(7, .ofNat 1)])), (56, (.ofNat 0, [(1, .ofNat 16), (3, .ofNat 1)]), (.ofNat 0, [(6, .ofNat 1)])), (26, (.negSucc 0, [(2, .ofNat 1)]), (.ofNat 0, [(3, .ofNat 1)])), (25, (.ofNat 0, []), (.ofNat 0, [(2, .ofNat 1)]))], []), 70, [(0, (2, (.ofNat 55, []))), (1, (2, (.ofNat 18, []))), (2, (0, (.ofNat 0, [(0, .ofNat 1)]))), (3, (0, (.ofNat 0, [(1, .ofNat 1)]))), (5, (1, (.ofNat 0, [(4, .ofNat 1)]))), (7, (0, (.ofNat 0, [(5, .ofNat 1)]))), (8, (0, (.ofNat 0, [(7, .ofNat 1)]))), (9, (1, (.ofNat 0, [(8, .ofNat 1)]))), (11, (0, (.ofNat 0, [(9, .ofNat 1)])))], []), (.ofNat 10000000000010000000, [(5, .ofNat 1000000000000), (9, .negSucc 0)]))]
def cktb_55 : List ck_Co := []
def ckce_55_0 : List Nat := [1, 0, 0, 1, 0, 2, 0, 27, 2, 0, 7, 0, 1, 0, 2, 0, 1, 1, 2, 0, 1, 2, 2, 0, 1, 3, 2, 0, 1, 4, 2, 3, 1, 2, 2, 0, 1, 4, 2, 0, 27, 1, 1, 26, 1, 1, 2, 2, 1, 1, 56, 0, 2, 1, 32, 6, 2, 2, 0, 7, 0, 1, 0, 2, 0, 1, 1, 2, 0, 1, 2, 2, 0, 1, 6, 2, 0, 1, 5, 2, 3, 1, 3, 2, 0, 1, 7, 2]
def ckce_55_1 : List Nat := [0, 2, 0, 1, 4, 0, 4, 0, 1, 0, 2, 0, 1, 1, 2, 0, 1, 2, 2, 0, 1, 4, 2, 0, 3, 0, 14, 2, 1, 10, 0, 1, 0, 2, 0, 1, 1, 2, 0, 1, 2, 2, 0, 1, 3, 2, 0, 1, 4, 2, 0, 1, 5, 2, 0, 1, 6, 2, 0, 1, 7, 2, 0, 0, 2, 0, 0, 2, 4, 0, 4, 0, 1, 0, 2, 0, 1, 1, 2, 0, 1, 2, 2, 0, 1, 4, 2, 0, 14, 2, 1, 10, 0, 1, 0, 2, 0, 1, 1, 2, 0, 1, 2, 2, 0, 1, 3, 2, 0, 1, 4, 2, 0, 1, 5, 2, 0, 1, 6, 2, 0, 1, 7, 2, 0, 0, 2, 0]
def ckce_55_2 : List Nat := [0, 3, 0, 4, 2, 0, 7, 0, 1, 0, 2, 0, 1, 1, 2, 0, 1, 2, 2, 0, 1, 3, 2, 0, 1, 8, 2, 1, 1, 5, 2, 0, 1, 6, 2, 0, 11, 0, 18, 2, 1, 10, 0, 1, 0, 2, 0, 1, 1, 2, 0, 1, 2, 2, 0, 1, 3, 2, 0, 1, 4, 2, 0, 1, 5, 2, 0, 1, 6, 2, 0, 1, 7, 2, 0, 1, 15, 2, 2, 1, 9, 2, 0, 3, 2, 1, 10, 0, 1, 0, 2, 0, 1, 1, 2, 0, 1, 2, 2, 0, 1, 3, 2, 0, 1, 4, 2, 0, 1, 5, 2, 0, 1, 6, 2, 0, 1, 7, 2, 0, 1, 8, 2, 2, 1, 9, 2, 0, 18, 2, 1, 10, 0, 1, 0, 2, 0, 1, 1, 2, 0, 1, 2, 2, 0, 1, 3, 2, 0, 1, 4, 2, 0, 1, 5, 2, 0, 1, 6, 2, 0, 1, 7, 2, 0, 1, 15, 2, 2, 1, 9, 2]
set_option maxRecDepth 1000000 in
theorem ckie_55 : ck_in0 cktb_55 ckcn_55 ckpt_55 4000 ckce_55_0 = true := by decide +kernel
set_option maxRecDepth 1000000 in
theorem ckip_55_0 : ∀ p, ckpt_55[0]? = some p → ck_inP cktb_55 ckcn_55 ckpt_55 4000 p ckce_55_1 = true := by
  intro p hp
  cases hp
  decide +kernel
set_option maxRecDepth 1000000 in
theorem ckip_55_1 : ∀ p, ckpt_55[1]? = some p → ck_inP cktb_55 ckcn_55 ckpt_55 4000 p ckce_55_2 = true := by
  intro p hp
  cases hp
  decide +kernel
theorem ckco_55 : ck_CO ckcn_55 := ck_con (tab := cktb_55) (pats := ckpt_55) (fun _ h => absurd h List.not_mem_nil) ckie_55 (List.forall_mem_cons.mpr ⟨⟨4000, ckce_55_1, ckip_55_0 _ rfl⟩, (List.forall_mem_cons.mpr ⟨⟨4000, ckce_55_2, ckip_55_1 _ rfl⟩, (fun _ h => absurd h List.not_mem_nil)⟩)⟩)
def ckpt_56 : List ck_Pt := [(((5, [(0, .ofNat 1, .ofNat 6), (1, .ofNat 0, .ofNat 255), (2, .ofNat 0, .ofNat 1), (3, .ofNat 0, .ofNat 1), (4, .ofNat 0, .ofNat 6)], [], [], [(0, (.ofNat 0, []), (.ofNat 0, []))]), 14, [(0, (2, (.ofNat 55, []))), (1, (2, (.ofNat 18, []))), (2, (0, (.ofNat 0, [(0, .ofNat 1)]))), (5, (0, (.ofNat 0, [(3, .ofNat 1)]))), (6, (0, (.ofNat 0, [(4, .ofNat 1)])))], []), (.ofNat 10000000001000000000001000000000, [(4, .negSucc 999999999999999999999999)])), (((7, [(0, .ofNat 1, .ofNat 6), (1, .ofNat 0, .ofNat 255), (2, .ofNat 0, .ofNat 1), (3, .ofNat 0, .ofNat 8), (4, .ofNat 0, .ofNat 8), (5, .ofNat 0, .ofNat 5), (6, .ofNat 0, .ofNat 1)], [], [(18, (.ofNat 6, []), (.ofNat 0, [(3, .ofNat 1)]))], [(0, (.ofNat 0, []), (.ofNat 0, []))]), 36, [(0, (2, (.ofNat 55, []))), (1, (2, (.ofNat 18, []))), (2, (0, (.ofNat 0, [(0, .ofNat 1)]))), (6, (0, (.ofNat 0, [(5, .ofNat 1)]))), (5, (0, (.ofNat 0, [(6, .ofNat 1)]))), (7, (0, (.negSucc 0, [(3, .ofNat 1), (4, .negSucc 0)])))], []), (.ofNat 10000000000009999999001000000000, [(3, .ofNat 1000000000000), (4, .negSucc 999999999999), (5, .negSucc 999999999999999999999999)])), (((11, [(0, .ofNat 1, .ofNat 6), (1, .ofNat 0, .ofNat 255), (2, .ofNat 0, .ofNat 1), (3, .ofNat 1, .ofNat 8), (4, .ofNat 0, .ofNat 7), (5, .ofNat 0, .ofNat 5), (6, .negSucc 9223372036854775807, .ofNat 9223372036854775807), (7, .ofNat 0, .ofNat 24), (8, .ofNat 0, .ofNat 24), (9, .negSucc 9223372036854775807, .ofNat 9223372036854775807), (10, .ofNat 0, .ofNat 1)], [([(3, .ofNat 1), (4, .negSucc 0)], .ofNat 1, .ofNat 8)], [(24, (.negSucc 0, [(3, .ofNat 1), (4, .negSucc 0)]), (.ofNat 0, [(8, .ofNat 1)])), (56, (.ofNat 7, [(0, .ofNat 16), (3, .ofNat 1), (4, .negSucc 0)]), (.ofNat 0, [(9, .ofNat 1)])), (18, (.ofNat 6, []), (.ofNat 0, [(3, .ofNat 1)]))], [(0, (.ofNat 0, []), (.ofNat 0, []))]), 71, [(0, (2, (.ofNat 55, []))), (1, (2, (.ofNat 18, []))), (2, (0, (.ofNat 0, [(0, .ofNat 1)]))), (6, (0, (.ofNat 0, [(5, .ofNat 1)]))), (5, (0, (.ofNat 0, [(10, .ofNat 1)]))), (7, (0, (.negSucc 0, [(3, .ofNat 1), (4, .negSucc 0)]))), (8, (0, (.ofNat 7, [(0, .ofNat 16), (3, .ofNat 1), (4, .negSucc 0)]))), (9, (1, (.ofNat 0, [(6, .ofNat 1)]))), (11, (0, (.ofNat 0, [(7, .ofNat 1)])))], []), (.ofNat 10000000000009999999000010000000, [(3, .ofNat 1000000000000), (4, .negSucc 999999999999), (5, .negSucc 999999999999999999999999), (7, .negSucc 0)]))]
def cktb_56 : List ck_Co := [ckcn_54, ckcn_55]
def ckce_56_0 : List Nat := [0, 4, 3, 0, 3, 0, 1, 0, 2, 0, 1, 1, 2, 0, 1, 2, 2, 0, 4, 2, 0, 5, 0, 1, 0, 2, 0, 1, 1, 2, 0, 1, 2, 2, 2, 0, 0, 0]
def ckce_56_1 : List Nat := [0, 3, 4, 0, 3, 0, 1, 0, 2, 0, 1, 1, 2, 0, 1, 2, 2, 0, 2, 4, 0, 3, 0, 1, 0, 2, 0, 1, 1, 2, 0, 1, 2, 2, 0, 7, 2, 1, 7, 0, 1, 0, 2, 0, 1, 1, 2, 0, 1, 2, 2, 0, 1, 5, 2, 0, 0, 0, 1, 4, 2, 0, 0]
def ckce_56_2 : List Nat := [0, 2, 0, 2, 2, 0, 5, 0, 1, 0, 2, 0, 1, 1, 2, 0, 1, 2, 2, 0, 1, 6, 2, 2, 1, 5, 2, 0, 18, 2, 2, 11, 0, 1, 0, 2, 0, 1, 1, 2, 0, 1, 2, 2, 0, 1, 3, 2, 0, 1, 4, 2, 0, 1, 5, 2, 0, 1, 7, 2, 0, 1, 8, 2, 0, 1, 8, 2, 0, 1, 7, 2, 0, 1, 6, 2]
def ckce_56_3 : List Nat := [0, 8, 0, 7, 0, 12, 2, 1, 7, 0, 1, 0, 2, 0, 1, 1, 2, 0, 1, 2, 2, 0, 1, 3, 2, 2, 1, 4, 2, 0, 1, 5, 2, 0, 1, 12, 2, 0, 11, 2, 1, 7, 0, 1, 0, 2, 0, 1, 1, 2, 0, 1, 2, 2, 0, 1, 3, 2, 2, 1, 4, 2, 0, 1, 5, 2, 0, 1, 12, 2, 0, 12, 2, 1, 7, 0, 1, 0, 2, 0, 1, 1, 2, 0, 1, 2, 2, 0, 1, 3, 2, 2, 1, 4, 2, 0, 1, 5, 2, 0, 1, 12, 2, 0, 5, 1, 2, 0, 0, 0, 3, 1, 3, 0, 1, 7, 2, 0, 1, 0, 2, 0, 1, 12, 2, 0, 4, 2, 2, 11, 0, 1, 0, 2, 0, 1, 1, 2, 0, 1, 2, 2, 0, 1, 3, 2, 0, 1, 4, 2, 0, 1, 5, 2, 0, 1, 14, 2, 2, 1, 7, 2, 0, 1, 8, 2, 0, 1, 9, 2, 0, 1, 10, 2, 0, 4, 2, 2, 11, 0, 1, 0, 2, 0, 1, 1, 2, 0, 1, 2, 2, 0, 1, 3, 2, 0, 1, 4, 2, 0, 1, 5, 2, 0, 1, 13, 2, 2, 1, 7, 2, 0, 1, 8, 2, 0, 1, 9, 2, 0, 1, 10, 2]
set_option maxRecDepth 1000000 in
theorem ckie_56 : ck_in0 cktb_56 ckcn_56 ckpt_56 4000 ckce_56_0 = true := by decide +kernel
set_option maxRecDepth 1000000 in
theorem ckip_56_0 : ∀ p, ckpt_56[0]? = some p → ck_inP cktb_56 ckcn_56 ckpt_56 4000 p ckce_56_1 = true := by
  intro p hp
  cases hp
  decide +kernel
set_option maxRecDepth 1000000 in
theorem ckip_56_1 : ∀ p, ckpt_56[1]? = some p → ck_inP cktb_56 ckcn_56 ckpt_56 4000 p ckce_56_2 = true := by
  intro p hp
  cases hp
  decide +kernel
set_option maxRecDepth 1000000 in
theorem ckip_56_2 : ∀ p, ckpt_56[2]? = some p → ck_inP cktb_56 ckcn_56 ckpt_56 4000 p ckce_56_3 = true := by
  intro p hp
  cases hp
  decide +kernel
theorem ckco_56 : ck_CO ckcn_56 := ck_con (tab := cktb_56) (pats := ckpt_56) (List.forall_mem_cons.mpr ⟨ckco_54, (List.forall_mem_cons.mpr ⟨ckco_55, (fun _ h => absurd h List.not_mem_nil)⟩)⟩) ckie_56 (List.forall_mem_cons.mpr ⟨⟨4000, ckce_56_1, ckip_56_0 _ rfl⟩, (List.forall_mem_cons.mpr ⟨⟨4000, ckce_56_2, ckip_56_1 _ rfl⟩, (List.forall_mem_cons.mpr ⟨⟨4000, ckce_56_3, ckip_56_2 _ rfl⟩, (fun _ h => absurd h List.not_mem_nil)⟩)⟩)⟩)
def ckpt_57 : List ck_Pt := [(((2, [(0, .ofNat 0, .ofNat 6), (1, .ofNat 0, .ofNat 6)], [], [], [(0, (.ofNat 0, []), (.ofNat 0, []))]), 3, [(0, (2, (.ofNat 55, []))), (1, (2, (.ofNat 18, []))), (2, (2, (.ofNat 39, []))), (3, (0, (.ofNat 0, [(0, .ofNat 1)]))), (4, (0, (.ofNat 0, [(1, .ofNat 1)])))], []), (.ofNat 10000000, [(1, .negSucc 0)]))]
def cktb_57 : List ck_Co := [ckcn_56]
def ckce_57_0 : List Nat := [0, 2, 2, 0, 2, 0, 1, 0, 2, 0, 0]
def ckce_57_1 : List Nat := [0, 3, 4, 0, 1, 0, 1, 0, 2, 0, 11, 3, 0, 3, 2, 1, 1, 2, 0, 1, 3, 2, 0, 0, 0, 2, 2, 0, 2, 0, 1, 0, 2, 2, 1, 1, 2]
set_option maxRecDepth 1000000 in
theorem ckie_57 : ck_in0 cktb_57 ckcn_57 ckpt_57 4000 ckce_57_0 = true := by decide +kernel
set_option maxRecDepth 1000000 in
theorem ckip_57_0 : ∀ p, ckpt_57[0]? = some p → ck_inP cktb_57 ckcn_57 ckpt_57 4000 p ckce_57_1 = true := by
  intro p hp
  cases hp
  decide +kernel
theorem ckco_57 : ck_CO ckcn_57 := ck_con (tab := cktb_57) (pats := ckpt_57) (List.forall_mem_cons.mpr ⟨ckco_56, (fun _ h => absurd h List.not_mem_nil)⟩) ckie_57 (List.forall_mem_cons.mpr ⟨⟨4000, ckce_57_1, ckip_57_0 _ rfl⟩, (fun _ h => absurd h List.not_mem_nil)⟩)
def ckpt_58 : List ck_Pt := [(((6, [(0, .ofNat 0, .ofNat 5), (1, .ofNat 1, .ofNat 6), (2, .ofNat 1, .ofNat 8), (3, .ofNat 0, .ofNat 8), (4, .ofNat 1, .ofNat 256), (5, .ofNat 2, .ofNat 7)], [([(0, .ofNat 1), (1, .negSucc 0)], .negSucc 5, .negSucc 0)], [(18, (.ofNat 0, []), (.ofNat 0, [(3, .ofNat 1)])), (18, (.ofNat 6, []), (.ofNat 0, [(2, .ofNat 1)])), (18, (.ofNat 12, []), (.ofNat 0, [(1, .ofNat 1)]))], [(0, (.ofNat 0, []), (.ofNat 0, []))]), 66, [(0, (2, (.ofNat 55, []))), (1, (2, (.ofNat 18, []))), (3, (0, (.negSucc 0, [(4, .ofNat 1)]))), (4, (0, (.ofNat 0, [(5, .ofNat 1)])))], []), (.ofNat 10000000, [(5, .negSucc 0)]))]
def cktb_58 : List ck_Co := [ckcn_56]
def ckce_58_0 : List Nat := [0, 4, 0, 1, 4, 0, 1, 0, 1, 0, 2, 0, 3, 0, 14, 3, 0, 3, 2, 1, 0, 2, 1, 1, 4, 2, 2, 0, 0, 20, 2, 0, 6, 0, 1, 0, 2, 0, 1, 1, 2, 0, 1, 2, 2, 0, 1, 3, 2, 0, 1, 4, 2, 4, 1, 0, 2, 0, 1, 4, 0, 1, 0, 1, 0, 2]
def ckce_58_1 : List Nat := [0, 4, 0, 12, 4, 1, 3, 0, 1, 0, 2, 0, 1, 8, 2, 0, 1, 2, 2, 0, 5, 3, 0, 3, 0, 1, 5, 2, 1, 1, 4, 2, 0, 0, 0, 2, 2, 0, 6, 0, 1, 0, 2, 0, 1, 1, 2, 0, 1, 2, 2, 0, 1, 3, 2, 0, 1, 4, 2, 2, 1, 5, 2]
set_option maxRecDepth 1000000 in
theorem ckie_58 : ck_in0 cktb_58 ckcn_58 ckpt_58 4000 ckce_58_0 = true := by decide +kernel
set_option maxRecDepth 1000000 in
theorem ckip_58_0 : ∀ p, ckpt_58[0]? = some p → ck_inP cktb_58 ckcn_58 ckpt_58 4000 p ckce_58_1 = true := by
  intro p hp
  cases hp
  decide +kernel
theorem ckco_58 : ck_CO ckcn_58 := ck_con (tab := cktb_58) (pats := ckpt_58) (List.forall_mem_cons.mpr ⟨ckco_56, (fun _ h => absurd h List.not_mem_nil)⟩) ckie_58 (List.forall_mem_cons.mpr ⟨⟨4000, ckce_58_1, ckip_58_0 _ rfl⟩, (fun _ h => absurd h List.not_mem_nil)⟩)
def ckpt_59 : List ck_Pt := [(((1, [(0, .ofNat 1, .ofNat 40)], [], [], [(4, (.ofNat 0, []), (.ofNat 40, []))]), 2, [(0, (2, (.ofNat 38, []))), (1, (0, (.ofNat 0, [(0, .ofNat 1)])))], []), (.ofNat 10000000, [(0, .negSucc 0)]))]
def cktb_59 : List ck_Co := []
def ckce_59_0 : List Nat := [0, 2, 2, 0, 1, 2, 0]
def ckce_59_1 : List Nat := [0, 3, 0, 3, 4, 0, 0, 1, 2, 4, 0, 1, 0, 2, 0, 40, 1, 3, 4, 1, 1, 0, 2, 0, 2, 2, 0, 1, 2, 1, 0, 2, 0, 40, 1, 3, 4, 1, 1, 0, 2, 0, 2, 2, 0, 1, 2, 1, 0, 2]
set_option maxRecDepth 1000000 in
theorem ckie_59 : ck_in0 cktb_59 ckcn_59 ckpt_59 4000 ckce_59_0 = true := by decide +kernel
set_option maxRecDepth 1000000 in
theorem ckip_59_0 : ∀ p, ckpt_59[0]? = some p → ck_inP cktb_59 ckcn_59 ckpt_59 4000 p ckce_59_1 = true := by
  intro p hp
  cases hp
  decide +kernel
theorem ckco_59 : ck_CO ckcn_59 := ck_con (tab := cktb_59) (pats := ckpt_59) (fun _ h => absurd h List.not_mem_nil) ckie_59 (List.forall_mem_cons.mpr ⟨⟨4000, ckce_59_1, ckip_59_0 _ rfl⟩, (fun _ h => absurd h List.not_mem_nil)⟩)
def ckpt_60 : List ck_Pt := []
def cktb_60 : List ck_Co := [ckcn_59]
def ckce_60_0 : List Nat := [0, 4, 0, 24, 1, 1, 38, 14, 0, 1, 3, 4, 0, 1, 2, 2, 0, 6, 4, 0, 4, 0, 1, 0, 2, 0, 1, 1, 2, 0, 1, 2, 2, 2, 1, 2, 2, 0, 1, 3, 0, 0, 0, 24, 1, 1, 38, 14, 0, 1, 3, 4, 78, 0, 0, 6, 4, 0, 4, 0, 1, 0, 2, 0, 1, 1, 2, 78, 0, 80, 0]
set_option maxRecDepth 1000000 in
theorem ckie_60 : ck_in0 cktb_60 ckcn_60 ckpt_60 4000 ckce_60_0 = true := by decide +kernel
theorem ckco_60 : ck_CO ckcn_60 := ck_con (tab := cktb_60) (pats := ckpt_60) (List.forall_mem_cons.mpr ⟨ckco_59, (fun _ h => absurd h List.not_mem_nil)⟩) ckie_60 (fun _ h => absurd h List.not_mem_nil)
def ckpt_61 : List ck_Pt := []
def cktb_61 : List ck_Co := []
def ckce_61_0 : List Nat := [0, 5, 1, 1, 38, 14, 0, 1, 2, 4, 0, 1, 0, 2, 0, 33, 4, 0, 2, 2, 1, 0, 2, 0, 1, 1, 2, 0, 12, 0, 21, 4, 0, 2, 2, 1, 0, 2, 0, 1, 1, 2, 0, 17, 4, 0, 2, 2, 1, 0, 2, 0, 1, 1, 2, 0, 1, 4, 1, 0]
set_option maxRecDepth 1000000 in
theorem ckie_61 : ck_in0 cktb_61 ckcn_61 ckpt_61 4000 ckce_61_0 = true := by decide +kernel
theorem ckco_61 : ck_CO ckcn_61 := ck_con (tab := cktb_61) (pats := ckpt_61) (fun _ h => absurd h List.not_mem_nil) ckie_61 (fun _ h => absurd h List.not_mem_nil)
def ckpt_62 : List ck_Pt := []
def cktb_62 : List ck_Co := [ckcn_57, ckcn_58, ckcn_60, ckcn_61]
def ckce_62_0 : List Nat := [0, 6, 0, 4, 4, 0, 4, 0, 1, 0, 2, 0, 1, 1, 2, 0, 1, 2, 2, 0, 1, 3, 2, 0, 4, 0, 4, 4, 0, 4, 0, 1, 0, 2, 0, 1, 1, 2, 0, 1, 2, 2, 0, 1, 3, 2, 0, 16, 3, 0, 1, 0, 1, 5, 2, 0, 7, 3, 1, 1, 0, 1, 5, 2, 0, 7, 4, 0, 4, 0, 1, 0, 2, 0, 1, 1, 2, 0, 1, 2, 2, 0, 1, 3, 2, 0, 6, 0, 10, 3, 2, 2, 0, 1, 5, 2, 0, 1, 0, 2, 0, 1, 3, 3, 0, 0, 5, 4, 1, 8, 0, 1, 0, 2, 0, 1, 1, 2, 0, 1, 2, 2, 0, 1, 3, 2, 0, 1, 14, 2, 0, 1, 4, 2, 0, 1, 7, 2, 0, 1, 11, 2, 0, 5, 4, 1, 8, 0, 1, 0, 2, 0, 1, 1, 2, 0, 1, 2, 2, 0, 1, 3, 2, 0, 1, 12, 2, 0, 1, 4, 2, 0, 1, 7, 2, 0, 1, 11, 2, 0, 1, 4, 0, 4, 0, 1, 0, 2, 0, 1, 1, 2, 0, 1, 2, 2, 0, 1, 3, 2]
set_option maxRecDepth 1000000 in
theorem ckie_62 : ck_in0 cktb_62 ckcn_62 ckpt_62 4000 ckce_62_0 = true := by decide +kernel
theorem ckco_62 : ck_CO ckcn_62 := ck_con (tab := cktb_62) (pats := ckpt_62) (List.forall_mem_cons.mpr ⟨ckco_57, (List.forall_mem_cons.mpr ⟨ckco_58, (List.forall_mem_cons.mpr ⟨ckco_60, (List.forall_mem_cons.mpr ⟨ckco_61, (fun _ h => absurd h List.not_mem_nil)⟩)⟩)⟩)⟩) ckie_62 (fun _ h => absurd h List.not_mem_nil)
def ckpt_63 : List ck_Pt := [(((7, [(0, .ofNat 0, .ofNat 23), (1, .ofNat 1, .ofNat 6), (2, .ofNat 1, .ofNat 4), (3, .ofNat 0, .ofNat 15), (4, .negSucc 9223372036854775807, .ofNat 9223372036854775807), (5, .negSucc 49, .ofNat 2), (6, .negSucc 9223372036854775807, .ofNat 9223372036854775807)], [], [(56, (.ofNat 0, [(1, .ofNat 16), (3, .ofNat 1)]), (.ofNat 0, [(6, .ofNat 1)])), (36, (.negSucc 0, [(2, .ofNat 1)]), (.ofNat 0, [(3, .ofNat 1)])), (35, (.ofNat 0, []), (.ofNat 0, [(2, .ofNat 1)]))], []), 39, [(0, (2, (.ofNat 55, []))), (1, (2, (.ofNat 28, []))), (2, (0, (.ofNat 0, [(0, .ofNat 1)]))), (3, (0, (.ofNat 0, [(1, .ofNat 1)]))), (5, (1, (.ofNat 0, [(4, .ofNat 1)]))), (7, (0, (.ofNat 0, [(5, .ofNat 1)])))], []), (.ofNat 10000000001000000000, [(5, .ofNat 1000000000000)])), (((10, [(0, .ofNat 0, .ofNat 23), (1, .ofNat 1, .ofNat 6), (2, .ofNat 1, .ofNat 4), (3, .ofNat 0, .ofNat 15), (4, .negSucc 9223372036854775807, .ofNat 9223372036854775807), (5, .ofNat 0, .ofNat 2), (6, .negSucc 9223372036854775807, .ofNat 9223372036854775807), (7, .ofNat 0, .ofNat 15), (8, .negSucc 9223372036854775807, .ofNat 9223372036854775807), (9, .ofNat 1, .ofNat 6)], [], [(36, (.ofNat 0, [(0, .ofNat 4), (5, .ofNat 1)]), (.ofNat 0, [(7, .ofNat 1)])), (56, (.ofNat 0, [(1, .ofNat 16), (3, .ofNat 1)]), (.ofNat 0, [(6, .ofNat 1)])), (36, (.negSucc 0, [(2, .ofNat 1)]), (.ofNat 0, [(3, .ofNat 1)])), (35, (.ofNat 0, []), (.ofNat 0, [(2, .ofNat 1)]))], []), 70, [(0, (2, (.ofNat 55, []))), (1, (2, (.ofNat 28, []))), (2, (0, (.ofNat 0, [(0, .ofNat 1)]))), (3, (0, (.ofNat 0, [(1, .ofNat 1)]))), (5, (1, (.ofNat 0, [(4, .ofNat 1)]))), (7, (0, (.ofNat 0, [(5, .ofNat 1)]))), (8, (0, (.ofNat 0, [(7, .ofNat 1)]))), (9, (1, (.ofNat 0, [(8, .ofNat 1)]))), (11, (0, (.ofNat 0, [(9, .ofNat 1)])))], []), (.ofNat 10000000000010000000, [(5, .ofNat 1000000000000), (9, .negSucc 0)]))]
def cktb_63 : List ck_Co := []
def ckce_63_0 : List Nat := [1, 0, 0, 1, 0, 2, 0, 27, 2, 0, 7, 0, 1, 0, 2, 0, 1, 1, 2, 0, 1, 2, 2, 0, 1, 3, 2, 0, 1, 4, 2, 3, 1, 2, 2, 0, 1, 4, 2, 0, 27, 1, 1, 36, 1, 1, 2, 2, 1, 1, 56, 0, 2, 1, 32, 6, 2, 2, 0, 7, 0, 1, 0, 2, 0, 1, 1, 2, 0, 1, 2, 2, 0, 1, 6, 2, 0, 1, 5, 2, 3, 1, 3, 2, 0, 1, 7, 2]
def ckce_63_1 : List Nat := [0, 2, 0, 1, 4, 0, 4, 0, 1, 0, 2, 0, 1, 1, 2, 0, 1, 2, 2, 0, 1, 4, 2, 0, 3, 0, 14, 2, 1, 10, 0, 1, 0, 2, 0, 1, 1, 2, 0, 1, 2, 2, 0, 1, 3, 2, 0, 1, 4, 2, 0, 1, 5, 2, 0, 1, 6, 2, 0, 1, 7, 2, 0, 0, 2, 0, 0, 2, 4, 0, 4, 0, 1, 0, 2, 0, 1, 1, 2, 0, 1, 2, 2, 0, 1, 4, 2, 0, 14, 2, 1, 10, 0, 1, 0, 2, 0, 1, 1, 2, 0, 1, 2, 2, 0, 1, 3, 2, 0, 1, 4, 2, 0, 1, 5, 2, 0, 1, 6, 2, 0, 1, 7, 2, 0, 0, 2, 0]
def ckce_63_2 : List Nat := [0, 3, 0, 4, 2, 0, 7, 0, 1, 0, 2, 0, 1, 1, 2, 0, 1, 2, 2, 0, 1, 3, 2, 0, 1, 8, 2, 1, 1, 5, 2, 0, 1, 6, 2, 0, 11, 0, 18, 2, 1, 10, 0, 1, 0, 2, 0, 1, 1, 2, 0, 1, 2, 2, 0, 1, 3, 2, 0, 1, 4, 2, 0, 1, 5, 2, 0, 1, 6, 2, 0, 1, 7, 2, 0, 1, 15, 2, 2, 1, 9, 2, 0, 3, 2, 1, 10, 0, 1, 0, 2, 0, 1, 1, 2, 0, 1, 2, 2, 0, 1, 3, 2, 0, 1, 4, 2, 0, 1, 5, 2, 0, 1, 6, 2, 0, 1, 7, 2, 0, 1, 8, 2, 2, 1, 9, 2, 0, 18, 2, 1, 10, 0, 1, 0, 2, 0, 1, 1, 2, 0, 1, 2, 2, 0, 1, 3, 2, 0, 1, 4, 2, 0, 1, 5, 2, 0, 1, 6, 2, 0, 1, 7, 2, 0, 1, 15, 2, 2, 1, 9, 2]
set_option maxRecDepth 1000000 in
theorem ckie_63 : ck_in0 cktb_63 ckcn_63 ckpt_63 4000 ckce_63_0 = true := by decide +kernel
set_option maxRecDepth 1000000 in
theorem ckip_63_0 : ∀ p, ckpt_63[0]? = some p → ck_inP cktb_63 ckcn_63 ckpt_63 4000 p ckce_63_1 = true := by
  intro p hp
  cases hp
  decide +kernel
set_option maxRecDepth 1000000 in
theorem ckip_63_1 : ∀ p, ckpt_63[1]? = some p → ck_inP cktb_63 ckcn_63 ckpt_63 4000 p ckce_63_2 = true := by
  intro p hp
  cases hp
  decide +kernel
theorem ckco_63 : ck_CO ckcn_63 := ck_con (tab := cktb_63) (pats := ckpt_63) (fun _ h => absurd h List.not_mem_nil) ckie_63 (List.forall_mem_cons.mpr ⟨⟨4000, ckce_63_1, ckip_63_0 _ rfl⟩, (List.forall_mem_cons.mpr ⟨⟨4000, ckce_63_2, ckip_63_1 _ rfl⟩, (fun _ h => absurd h List.not_mem_nil)⟩)⟩)
def ckpt_64 : List ck_Pt := [(((5, [(0, .ofNat 1, .ofNat 6), (1, .ofNat 0, .ofNat 255), (2, .ofNat 0, .ofNat 1), (3, .ofNat 0, .ofNat 1), (4, .ofNat 0, .ofNat 6)], [], [], [(1, (.ofNat 0, []), (.ofNat 0, []))]), 14, [(0, (2, (.ofNat 55, []))), (1, (2, (.ofNat 28, []))), (2, (0, (.ofNat 0, [(0, .ofNat 1)]))), (5, (0, (.ofNat 0, [(3, .ofNat 1)]))), (6, (0, (.ofNat 0, [(4, .ofNat 1)])))], []), (.ofNat 10000000001000000000001000000000, [(4, .negSucc 999999999999999999999999)])), (((7, [(0, .ofNat 1, .ofNat 6), (1, .ofNat 0, .ofNat 255), (2, .ofNat 0, .ofNat 1), (3, .ofNat 0, .ofNat 8), (4, .ofNat 0, .ofNat 8), (5, .ofNat 0, .ofNat 5), (6, .ofNat 0, .ofNat 1)], [], [(28, (.ofNat 6, []), (.ofNat 0, [(3, .ofNat 1)]))], [(1, (.ofNat 0, []), (.ofNat 0, []))]), 36, [(0, (2, (.ofNat 55, []))), (1, (2, (.ofNat 28, []))), (2, (0, (.ofNat 0, [(0, .ofNat 1)]))), (6, (0, (.ofNat 0, [(5, .ofNat 1)]))), (5, (0, (.ofNat 0, [(6, .ofNat 1)]))), (7, (0, (.negSucc 0, [(3, .ofNat 1), (4, .negSucc 0)])))], []), (.ofNat 10000000000009999999001000000000, [(3, .ofNat 1000000000000), (4, .negSucc 999999999999), (5, .negSucc 999999999999999999999999)])), (((11, [(0, .ofNat 1, .ofNat 6), (1, .ofNat 0, .ofNat 255), (2, .ofNat 0, .ofNat 1), (3, .ofNat 1, .ofNat 8), (4, .ofNat 0, .ofNat 7), (5, .ofNat 0, .ofNat 5), (6, .negSucc 9223372036854775807, .ofNat 9223372036854775807), (7, .ofNat 0, .ofNat 24), (8, .ofNat 0, .ofNat 24), (9, .negSucc 9223372036854775807, .ofNat 9223372036854775807), (10, .ofNat 0, .ofNat 1)], [([(3, .ofNat 1), (4, .negSucc 0)], .ofNat 1, .ofNat 8)], [(34, (.negSucc 0, [(3, .ofNat 1), (4, .negSucc 0)]), (.ofNat 0, [(8, .ofNat 1)])), (56, (.ofNat 7, [(0, .ofNat 16), (3, .ofNat 1), (4, .negSucc 0)]), (.ofNat 0, [(9, .ofNat 1)])), (28, (.ofNat 6, []), (.ofNat 0, [(3, .ofNat 1)]))], [(1, (.ofNat 0, []), (.ofNat 0, []))]), 71, [(0, (2, (.ofNat 55, []))), (1, (2, (.ofNat 28, []))), (2, (0, (.ofNat 0, [(0, .ofNat 1)]))), (6, (0, (.ofNat 0, [(5, .ofNat 1)]))), (5, (0, (.ofNat 0, [(10, .ofNat 1)]))), (7, (0, (.negSucc 0, [(3, .ofNat 1), (4, .negSucc 0)]))), (8, (0, (.ofNat 7, [(0, .ofNat 16), (3, .ofNat 1), (4, .negSucc 0)]))), (9, (1, (.ofNat 0, [(6, .ofNat 1)]))), (11, (0, (.ofNat 0, [(7, .ofNat 1)])))], []), (.ofNat 10000000000009999999000010000000, [(3, .ofNat 1000000000000), (4, .negSucc 999999999999), (5, .negSucc 999999999999999999999999), (7, .negSucc 0)]))]
def cktb_64 : List ck_Co := [ckcn_54, ckcn_63]
def ckce_64_0 : List Nat := [0, 4, 3, 0, 3, 0, 1, 0, 2, 0, 1, 1, 2, 0, 1, 2, 2, 0, 4, 2, 0, 5, 0, 1, 0, 2, 0, 1, 1, 2, 0, 1, 2, 2, 2, 0, 0, 0]
def ckce_64_1 : List Nat := [0, 3, 4, 0, 3, 0, 1, 0, 2, 0, 1, 1, 2, 0, 1, 2, 2, 0, 2, 4, 0, 3, 0, 1, 0, 2, 0, 1, 1, 2, 0, 1, 2, 2, 0, 7, 2, 1, 7, 0, 1, 0, 2, 0, 1, 1, 2, 0, 1, 2, 2, 0, 1, 5, 2, 0, 0, 0, 1, 4, 2, 0, 0]
def ckce_64_2 : List Nat := [0, 2, 0, 2, 2, 0, 5, 0, 1, 0, 2, 0, 1, 1, 2, 0, 1, 2, 2, 0, 1, 6, 2, 2, 1, 5, 2, 0, 18, 2, 2, 11, 0, 1, 0, 2, 0, 1, 1, 2, 0, 1, 2, 2, 0, 1, 3, 2, 0, 1, 4, 2, 0, 1, 5, 2, 0, 1, 7, 2, 0, 1, 8, 2, 0, 1, 8, 2, 0, 1, 7, 2, 0, 1, 6, 2]
def ckce_64_3 : List Nat := [0, 8, 0, 7, 0, 12, 2, 1, 7, 0, 1, 0, 2, 0, 1, 1, 2, 0, 1, 2, 2, 0, 1, 3, 2, 2, 1, 4, 2, 0, 1, 5, 2, 0, 1, 12, 2, 0, 11, 2, 1, 7, 0, 1, 0, 2, 0, 1, 1, 2, 0, 1, 2, 2, 0, 1, 3, 2, 2, 1, 4, 2, 0, 1, 5, 2, 0, 1, 12, 2, 0, 12, 2, 1, 7, 0, 1, 0, 2, 0, 1, 1, 2, 0, 1, 2, 2, 0, 1, 3, 2, 2, 1, 4, 2, 0, 1, 5, 2, 0, 1, 12, 2, 0, 5, 1, 2, 1, 0, 0, 3, 1, 3, 0, 1, 7, 2, 0, 1, 0, 2, 0, 1, 12, 2, 0, 4, 2, 2, 11, 0, 1, 0, 2, 0, 1, 1, 2, 0, 1, 2, 2, 0, 1, 3, 2, 0, 1, 4, 2, 0, 1, 5, 2, 0, 1, 14, 2, 2, 1, 7, 2, 0, 1, 8, 2, 0, 1, 9, 2, 0, 1, 10, 2, 0, 4, 2, 2, 11, 0, 1, 0, 2, 0, 1, 1, 2, 0, 1, 2, 2, 0, 1, 3, 2, 0, 1, 4, 2, 0, 1, 5, 2, 0, 1, 13, 2, 2, 1, 7, 2, 0, 1, 8, 2, 0, 1, 9, 2, 0, 1, 10, 2]
set_option maxRecDepth 1000000 in
theorem ckie_64 : ck_in0 cktb_64 ckcn_64 ckpt_64 4000 ckce_64_0 = true := by decide +kernel
set_option maxRecDepth 1000000 in
theorem ckip_64_0 : ∀ p, ckpt_64[0]? = some p → ck_inP cktb_64 ckcn_64 ckpt_64 4000 p ckce_64_1 = true := by
  intro p hp
  cases hp
  decide +kernel
set_option maxRecDepth 1000000 in
theorem ckip_64_1 : ∀ p, ckpt_64[1]? = some p → ck_inP cktb_64 ckcn_64 ckpt_64 4000 p ckce_64_2 = true := by
  intro p hp
  cases hp
  decide +kernel
set_option maxRecDepth 1000000 in
theorem ckip_64_2 : ∀ p, ckpt_64[2]? = some p → ck_inP cktb_64 ckcn_64 ckpt_64 4000 p ckce_64_3 = true := by
  intro p hp
  cases hp
  decide +kernel
theorem ckco_64 : ck_CO ckcn_64 := ck_con (tab := cktb_64) (pats := ckpt_64) (List.forall_mem_cons.mpr ⟨ckco_54, (List.forall_mem_cons.mpr ⟨ckco_63, (fun _ h => absurd h List.not_mem_nil)⟩)⟩) ckie_64 (List.forall_mem_cons.mpr ⟨⟨4000, ckce_64_1, ckip_64_0 _ rfl⟩, (List.forall_mem_cons.mpr ⟨⟨4000, ckce_64_2, ckip_64_1 _ rfl⟩, (List.forall_mem_cons.mpr ⟨⟨4000, ckce_64_3, ckip_64_2 _ rfl⟩, (fun _ h => absurd h List.not_mem_nil)⟩)⟩)⟩)
def ckpt_65 : List ck_Pt := [(((2, [(0, .ofNat 0, .ofNat 6), (1, .ofNat 0, .ofNat 6)], [], [], [(1, (.ofNat 0, []), (.ofNat 0, []))]), 3, [(0, (2, (.ofNat 55, []))), (1, (2, (.ofNat 28, []))), (2, (2, (.ofNat 39, []))), (3, (0, (.ofNat 0, [(0, .ofNat 1)]))), (4, (0, (.ofNat 0, [(1, .ofNat 1)])))], []), (.ofNat 10000000, [(1, .negSucc 0)]))]
def cktb_65 : List ck_Co := [ckcn_64]
def ckce_65_0 : List Nat := [0, 2, 2, 0, 2, 0, 1, 0, 2, 0, 0]
def ckce_65_1 : List Nat := [0, 3, 4, 0, 1, 0, 1, 0, 2, 0, 11, 3, 0, 3, 2, 1, 1, 2, 0, 1, 3, 2, 0, 0, 0, 2, 2, 0, 2, 0, 1, 0, 2, 2, 1, 1, 2]
set_option maxRecDepth 1000000 in
theorem ckie_65 : ck_in0 cktb_65 ckcn_65 ckpt_65 4000 ckce_65_0 = true := by decide +kernel
set_option maxRecDepth 1000000 in
theorem ckip_65_0 : ∀ p, ckpt_65[0]? = some p → ck_inP cktb_65 ckcn_65 ckpt_65 4000 p ckce_65_1 = true := by
  intro p hp
  cases hp
  decide +kernel
theorem ckco_65 : ck_CO ckcn_65 := ck_con (tab := cktb_65) (pats := ckpt_65) (List.forall_mem_cons.mpr ⟨ckco_64, (fun _ h => absurd h List.not_mem_nil)⟩) ckie_65 (List.forall_mem_cons.mpr ⟨⟨4000, ckce_65_1, ckip_65_0 _ rfl⟩, (fun _ h => absurd h List.not_mem_nil)⟩)
def ckpt_66 : List ck_Pt := [(((6, [(0, .ofNat 0, .ofNat 5), (1, .ofNat 1, .ofNat 6), (2, .ofNat 1, .ofNat 8), (3, .ofNat 0, .ofNat 8), (4, .ofNat 1, .ofNat 256), (5, .ofNat 2, .ofNat 7)], [([(0, .ofNat 1), (1, .negSucc 0)], .negSucc 5, .negSucc 0)], [(28, (.ofNat 0, []), (.ofNat 0, [(3, .ofNat 1)])), (28, (.ofNat 6, []), (.ofNat 0, [(2, .ofNat 1)])), (28, (.ofNat 12, []), (.ofNat 0, [(1, .ofNat 1)]))], [(1, (.ofNat 0, []), (.ofNat 0, []))]), 66, [(0, (2, (.ofNat 55, []))), (1, (2, (.ofNat 28, []))), (3, (0, (.negSucc 0, [(4, .ofNat 1)]))), (4, (0, (.ofNat 0, [(5, .ofNat 1)])))], []), (.ofNat 10000000, [(5, .negSucc 0)]))]
def cktb_66 : List ck_Co := [ckcn_64]
def ckce_66_0 : List Nat := [0, 4, 0, 1, 4, 0, 1, 0, 1, 0, 2, 0, 3, 0, 14, 3, 0, 3, 2, 1, 0, 2, 1, 1, 4, 2, 2, 0, 0, 20, 2, 0, 6, 0, 1, 0, 2, 0, 1, 1, 2, 0, 1, 2, 2, 0, 1, 3, 2, 0, 1, 4, 2, 4, 1, 0, 2, 0, 1, 4, 0, 1, 0, 1, 0, 2]
def ckce_66_1 : List Nat := [0, 4, 0, 12, 4, 1, 3, 0, 1, 0, 2, 0, 1, 8, 2, 0, 1, 2, 2, 0, 5, 3, 0, 3, 0, 1, 5, 2, 1, 1, 4, 2, 0, 0, 0, 2, 2, 0, 6, 0, 1, 0, 2, 0, 1, 1, 2, 0, 1, 2, 2, 0, 1, 3, 2, 0, 1, 4, 2, 2, 1, 5, 2]
set_option maxRecDepth 1000000 in
theorem ckie_66 : ck_in0 cktb_66 ckcn_66 ckpt_66 4000 ckce_66_0 = true := by decide +kernel
set_option maxRecDepth 1000000 in
theorem ckip_66_0 : ∀ p, ckpt_66[0]? = some p → ck_inP cktb_66 ckcn_66 ckpt_66 4000 p ckce_66_1 = true := by
  intro p hp
  cases hp
  decide +kernel
theorem ckco_66 : ck_CO ckcn_66 := ck_con (tab := cktb_66) (pats := ckpt_66) (List.forall_mem_cons.mpr ⟨ckco_64, (fun _ h => absurd h List.not_mem_nil)⟩) ckie_66 (List.forall_mem_cons.mpr ⟨⟨4000, ckce_66_1, ckip_66_0 _ rfl⟩, (fun _ h => absurd h List.not_mem_nil)⟩)
def ckpt_67 : List ck_Pt := []
def cktb_67 : List ck_Co := [ckcn_65, ckcn_66, ckcn_60, ckcn_61]
def ckce_67_0 : List Nat := [0, 6, 0, 4, 4, 0, 4, 0, 1, 0, 2, 0, 1, 1, 2, 0, 1, 2, 2, 0, 1, 3, 2, 0, 4, 0, 4, 4, 0, 4, 0, 1, 0, 2, 0, 1, 1, 2, 0, 1, 2, 2, 0, 1, 3, 2, 0, 16, 3, 0, 1, 0, 1, 5, 2, 0, 7, 3, 1, 1, 0, 1, 5, 2, 0, 7, 4, 0, 4, 0, 1, 0, 2, 0, 1, 1, 2, 0, 1, 2, 2, 0, 1, 3, 2, 0, 6, 0, 10, 3, 2, 2, 0, 1, 5, 2, 0, 1, 0, 2, 0, 1, 3, 3, 0, 0, 5, 4, 1, 8, 0, 1, 0, 2, 0, 1, 1, 2, 0, 1, 2, 2, 0, 1, 3, 2, 0, 1, 14, 2, 0, 1, 4, 2, 0, 1, 7, 2, 0, 1, 11, 2, 0, 5, 4, 1, 8, 0, 1, 0, 2, 0, 1, 1, 2, 0, 1, 2, 2, 0, 1, 3, 2, 0, 1, 12, 2, 0, 1, 4, 2, 0, 1, 7, 2, 0, 1, 11, 2, 0, 1, 4, 0, 4, 0, 1, 0, 2, 0, 1, 1, 2, 0, 1, 2, 2, 0, 1, 3, 2]
set_option maxRecDepth 1000000 in
theorem ckie_67 : ck_in0 cktb_67 ckcn_67 ckpt_67 4000 ckce_67_0 = true := by decide +kernel
theorem ckco_67 : ck_CO ckcn_67 := ck_con (tab := cktb_67) (pats := ckpt_67) (List.forall_mem_cons.mpr ⟨ckco_65, (List.forall_mem_cons.mpr ⟨ckco_66, (List.forall_mem_cons.mpr ⟨ckco_60, (List.forall_mem_cons.mpr ⟨ckco_61, (fun _ h => absurd h List.not_mem_nil)⟩)⟩)⟩)⟩) ckie_67 (fun _ h => absurd h List.not_mem_nil)
def ckpt_68 : List ck_Pt := []
def cktb_68 : List ck_Co := [ckcn_59]
def ckce_68_0 : List Nat := [0, 4, 0, 24, 1, 1, 38, 14, 0, 1, 3, 4, 0, 1, 3, 2, 0, 6, 4, 0, 5, 0, 1, 0, 2, 0, 1, 1, 2, 0, 1, 2, 2, 0, 1, 3, 2, 2, 1, 3, 2, 0, 1, 3, 0, 0, 0, 24, 1, 1, 38, 14, 0, 1, 3, 4, 78, 0, 0, 6, 4, 0, 5, 0, 1, 0, 2, 0, 1, 1, 2, 0, 1, 2, 2, 78, 0, 80, 0]
set_option maxRecDepth 1000000 in
theorem ckie_68 : ck_in0 cktb_68 ckcn_68 ckpt_68 4000 ckce_68_0 = true := by decide +kernel
theorem ckco_68 : ck_CO ckcn_68 := ck_con (tab := cktb_68) (pats := ckpt_68) (List.forall_mem_cons.mpr ⟨ckco_59, (fun _ h => absurd h List.not_mem_nil)⟩) ckie_68 (fun _ h => absurd h List.not_mem_nil)
def ckpt_69 : List ck_Pt := []
def cktb_69 : List ck_Co := [ckcn_68, ckcn_61]
def ckce_69_0 : List Nat := [0, 9, 0, 7, 4, 0, 5, 0, 1, 0, 2, 0, 1, 1, 2, 0, 1, 2, 2, 0, 1, 3, 2, 0, 1, 4, 2, 0, 4, 0, 7, 4, 0, 5, 0, 1, 0, 2, 0, 1, 1, 2, 0, 1, 2, 2, 0, 1, 3, 2, 0, 1, 4, 2, 0, 9, 0, 4, 4, 0, 5, 0, 1, 0, 2, 0, 1, 1, 2, 0, 1, 2, 2, 0, 1, 3, 2, 0, 1, 4, 2, 0, 8, 0, 4, 4, 0, 5, 0, 1, 0, 2, 0, 1, 1, 2, 0, 1, 2, 2, 0, 1, 3, 2, 0, 1, 4, 2, 0, 3, 0, 4, 4, 0, 5, 0, 1, 0, 2, 0, 1, 1, 2, 0, 1, 2, 2, 0, 1, 3, 2, 0, 1, 4, 2, 0, 14, 0, 7, 0, 19, 3, 0, 3, 0, 1, 0, 2, 0, 1, 7, 2, 0, 1, 1, 2, 0, 1, 3, 1, 0, 0, 3, 4, 1, 7, 0, 1, 0, 2, 0, 1, 1, 2, 0, 1, 2, 2, 0, 1, 3, 2, 0, 1, 4, 2, 0, 1, 9, 2, 0, 1, 11, 2, 0, 3, 4, 1, 7, 0, 1, 0, 2, 0, 1, 1, 2, 0, 1, 2, 2, 0, 1, 3, 2, 0, 1, 4, 2, 0, 1, 9, 2, 0, 1, 11, 2, 0, 24, 3, 0, 3, 0, 1, 0, 2, 0, 1, 7, 2, 0, 1, 1, 2, 0, 1, 3, 1, 0, 0, 3, 4, 1, 7, 0, 1, 0, 2, 0, 1, 1, 2, 0, 1, 2, 2, 0, 1, 3, 2, 0, 1, 4, 2, 0, 1, 10, 2, 0, 1, 12, 2, 0, 3, 4, 1, 7, 0, 1, 0, 2, 0, 1, 1, 2, 0, 1, 2, 2, 0, 1, 3, 2, 0, 1, 4, 2, 0, 1, 10, 2, 0, 1, 12, 2, 0, 21, 3, 0, 3, 0, 1, 0, 2, 0, 1, 7, 2, 0, 1, 1, 2, 0, 1, 3, 1, 0, 0, 3, 4, 1, 7, 0, 1, 0, 2, 0, 1, 1, 2, 0, 1, 2, 2, 0, 1, 3, 2, 0, 1, 4, 2, 0, 1, 7, 2, 0, 1, 9, 2, 0, 3, 4, 1, 7, 0, 1, 0, 2, 0, 1, 1, 2, 0, 1, 2, 2, 0, 1, 3, 2, 0, 1, 4, 2, 0, 1, 7, 2, 0, 1, 9, 2]
set_option maxRecDepth 1000000 in
theorem ckie_69 : ck_in0 cktb_69 ckcn_69 ckpt_69 4000 ckce_69_0 = true := by decide +kernel
theorem ckco_69 : ck_CO ckcn_69 := ck_con (tab := cktb_69) (pats := ckpt_69) (List.forall_mem_cons.mpr ⟨ckco_68, (List.forall_mem_cons.mpr ⟨ckco_61, (fun _ h => absurd h List.not_mem_nil)⟩)⟩) ckie_69 (fun _ h => absurd h List.not_mem_nil)
def ckpt_70 : List ck_Pt := []
def cktb_70 : List ck_Co := [ckcn_68, ckcn_61]
def ckce_70_0 : List Nat := [0, 9, 0, 7, 4, 0, 5, 0, 1, 0, 2, 0, 1, 1, 2, 0, 1, 2, 2, 0, 1, 3, 2, 0, 1, 4, 2, 0, 4, 0, 7, 4, 0, 5, 0, 1, 0, 2, 0, 1, 1, 2, 0, 1, 2, 2, 0, 1, 3, 2, 0, 1, 4, 2, 0, 9, 0, 4, 4, 0, 5, 0, 1, 0, 2, 0, 1, 1, 2, 0, 1, 2, 2, 0, 1, 3, 2, 0, 1, 4, 2, 0, 8, 0, 4, 4, 0, 5, 0, 1, 0, 2, 0, 1, 1, 2, 0, 1, 2, 2, 0, 1, 3, 2, 0, 1, 4, 2, 0, 3, 0, 4, 4, 0, 5, 0, 1, 0, 2, 0, 1, 1, 2, 0, 1, 2, 2, 0, 1, 3, 2, 0, 1, 4, 2, 0, 14, 0, 7, 0, 19, 3, 0, 3, 0, 1, 0, 2, 0, 1, 7, 2, 0, 1, 1, 2, 0, 1, 3, 1, 0, 0, 3, 4, 1, 7, 0, 1, 0, 2, 0, 1, 1, 2, 0, 1, 2, 2, 0, 1, 3, 2, 0, 1, 4, 2, 0, 1, 9, 2, 0, 1, 11, 2, 0, 3, 4, 1, 7, 0, 1, 0, 2, 0, 1, 1, 2, 0, 1, 2, 2, 0, 1, 3, 2, 0, 1, 4, 2, 0, 1, 9, 2, 0, 1, 11, 2, 0, 24, 3, 0, 3, 0, 1, 0, 2, 0, 1, 7, 2, 0, 1, 1, 2, 0, 1, 3, 1, 0, 0, 3, 4, 1, 7, 0, 1, 0, 2, 0, 1, 1, 2, 0, 1, 2, 2, 0, 1, 3, 2, 0, 1, 4, 2, 0, 1, 10, 2, 0, 1, 12, 2, 0, 3, 4, 1, 7, 0, 1, 0, 2, 0, 1, 1, 2, 0, 1, 2, 2, 0, 1, 3, 2, 0, 1, 4, 2, 0, 1, 10, 2, 0, 1, 12, 2, 0, 21, 3, 0, 3, 0, 1, 0, 2, 0, 1, 7, 2, 0, 1, 1, 2, 0, 1, 3, 1, 0, 0, 3, 4, 1, 7, 0, 1, 0, 2, 0, 1, 1, 2, 0, 1, 2, 2, 0, 1, 3, 2, 0, 1, 4, 2, 0, 1, 7, 2, 0, 1, 9, 2, 0, 3, 4, 1, 7, 0, 1, 0, 2, 0, 1, 1, 2, 0, 1, 2, 2, 0, 1, 3, 2, 0, 1, 4, 2, 0, 1, 7, 2, 0, 1, 9, 2]
set_option maxRecDepth 1000000 in
theorem ckie_70 : ck_in0 cktb_70 ckcn_70 ckpt_70 4000 ckce_70_0 = true := by decide +kernel
theorem ckco_70 : ck_CO ckcn_70 := ck_con (tab := cktb_70) (pats := ckpt_70) (List.forall_mem_cons.mpr ⟨ckco_68, (List.forall_mem_cons.mpr ⟨ckco_61, (fun _ h => absurd h List.not_mem_nil)⟩)⟩) ckie_70 (fun _ h => absurd h List.not_mem_nil)
def ckpt_71 : List ck_Pt := []
def cktb_71 : List ck_Co := []
def ckce_71_0 : List Nat := [0, 6, 0, 12, 0, 9, 4, 0, 4, 0, 1, 0, 2, 0, 1, 1, 2, 0, 1, 2, 2, 1, 1, 3, 2, 0, 16, 4, 0, 4, 0, 1, 0, 2, 0, 1, 1, 2, 0, 1, 2, 2, 1, 1, 3, 2, 0, 2, 4, 1, 3, 0, 1, 0, 2, 0, 1, 1, 2, 0, 1, 2, 2]
set_option maxRecDepth 1000000 in
theorem ckie_71 : ck_in0 cktb_71 ckcn_71 ckpt_71 4000 ckce_71_0 = true := by decide +kernel
theorem ckco_71 : ck_CO ckcn_71 := ck_con (tab := cktb_71) (pats := ckpt_71) (fun _ h => absurd h List.not_mem_nil) ckie_71 (fun _ h => absurd h List.not_mem_nil)
def ckpt_72 : List ck_Pt := []
def cktb_72 : List ck_Co := []
def ckce_72_0 : List Nat := [0, 6, 0, 12, 0, 9, 4, 0, 4, 0, 1, 0, 2, 0, 1, 1, 2, 0, 1, 2, 2, 1, 1, 3, 2, 0, 16, 4, 0, 4, 0, 1, 0, 2, 0, 1, 1, 2, 0, 1, 2, 2, 1, 1, 3, 2, 0, 2, 4, 1, 3, 0, 1, 0, 2, 0, 1, 1, 2, 0, 1, 2, 2]
set_option maxRecDepth 1000000 in
theorem ckie_72 : ck_in0 cktb_72 ckcn_72 ckpt_72 4000 ckce_72_0 = true := by decide +kernel
theorem ckco_72 : ck_CO ckcn_72 := ck_con (tab := cktb_72) (pats := ckpt_72) (fun _ h => absurd h List.not_mem_nil) ckie_72 (fun _ h => absurd h List.not_mem_nil)
def ckpt_73 : List ck_Pt := []
def cktb_73 : List ck_Co := [ckcn_61]
def ckce_73_0 : List Nat := [0, 2, 3, 0, 0, 4, 0, 5, 0, 1, 0, 2, 0, 1, 1, 2, 0, 1, 2, 2, 0, 1, 3, 2, 0, 1, 4, 2, 4, 1, 3, 0, 1, 0, 2, 0, 1, 1, 2, 0, 1, 2, 2]
set_option maxRecDepth 1000000 in
theorem ckie_73 : ck_in0 cktb_73 ckcn_73 ckpt_73 4000 ckce_73_0 = true := by decide +kernel
theorem ckco_73 : ck_CO ckcn_73 := ck_con (tab := cktb_73) (pats := ckpt_73) (List.forall_mem_cons.mpr ⟨ckco_61, (fun _ h => absurd h List.not_mem_nil)⟩) ckie_73 (fun _ h => absurd h List.not_mem_nil)
def ckpt_74 : List ck_Pt := []
def cktb_74 : List ck_Co := [ckcn_61]
def ckce_74_0 : List Nat := [0, 2, 3, 0, 0, 4, 0, 5, 0, 1, 0, 2, 0, 1, 1, 2, 0, 1, 2, 2, 0, 1, 3, 2, 0, 1, 4, 2, 4, 1, 3, 0, 1, 0, 2, 0, 1, 1, 2, 0, 1, 2, 2]
set_option maxRecDepth 1000000 in
theorem ckie_74 : ck_in0 cktb_74 ckcn_74 ckpt_74 4000 ckce_74_0 = true := by decide +kernel
theorem ckco_74 : ck_CO ckcn_74 := ck_con (tab := cktb_74) (pats := ckpt_74) (List.forall_mem_cons.mpr ⟨ckco_61, (fun _ h => absurd h List.not_mem_nil)⟩) ckie_74 (fun _ h => absurd h List.not_mem_nil)
def ckpt_75 : List ck_Pt := []
def cktb_75 : List ck_Co := [ckcn_30]
def ckce_75_0 : List Nat := [0, 13, 3, 0, 0, 0, 11, 4, 0, 4, 0, 1, 0, 2, 0, 1, 1, 2, 0, 1, 2, 2, 0, 1, 3, 2]
set_option maxRecDepth 1000000 in
theorem ckie_75 : ck_in0 cktb_75 ckcn_75 ckpt_75 4000 ckce_75_0 = true := by decide +kernel
theorem ckco_75 : ck_CO ckcn_75 := ck_con (tab := cktb_75) (pats := ckpt_75) (List.forall_mem_cons.mpr ⟨ckco_30, (fun _ h => absurd h List.not_mem_nil)⟩) ckie_75 (fun _ h => absurd h List.not_mem_nil)
def ckpt_76 : List ck_Pt := []
def cktb_76 : List ck_Co := [ckcn_30]
def ckce_76_0 : List Nat := [0, 13, 3, 0, 0, 0, 11, 4, 0, 4, 0, 1, 0, 2, 0, 1, 1, 2, 0, 1, 2, 2, 0, 1, 3, 2]
set_option maxRecDepth 1000000 in
theorem ckie_76 : ck_in0 cktb_76 ckcn_76 ckpt_76 4000 ckce_76_0 = true := by decide +kernel
theorem ckco_76 : ck_CO ckcn_76 := ck_con (tab := cktb_76) (pats := ckpt_76) (List.forall_mem_cons.mpr ⟨ckco_30, (fun _ h => absurd h List.not_mem_nil)⟩) ckie_76 (fun _ h => absurd h List.not_mem_nil)
def ckpt_77 : List ck_Pt := []
def cktb_77 : List ck_Co := []
def ckce_77_0 : List Nat := [0, 2, 0, 1, 4, 0, 4, 0, 1, 0, 2, 0, 1, 1, 2, 0, 1, 2, 2, 0, 1, 3, 2, 0, 5, 0, 1, 4, 0, 4, 0, 1, 0, 2, 0, 1, 1, 2, 0, 1, 2, 2, 0, 1, 3, 2, 0, 6, 4, 1, 6, 0, 1, 0, 2, 0, 1, 1, 2, 0, 1, 2, 2, 0, 1, 3, 2, 0, 1, 5, 2, 0, 1, 4, 2]
set_option maxRecDepth 1000000 in
theorem ckie_77 : ck_in0 cktb_77 ckcn_77 ckpt_77 4000 ckce_77_0 = true := by decide +kernel
theorem ckco_77 : ck_CO ckcn_77 := ck_con (tab := cktb_77) (pats := ckpt_77) (fun _ h => absurd h List.not_mem_nil) ckie_77 (fun _ h => absurd h List.not_mem_nil)
def ckpt_78 : List ck_Pt := []
def cktb_78 : List ck_Co := []
def ckce_78_0 : List Nat := [0, 2, 0, 1, 4, 0, 4, 0, 1, 0, 2, 0, 1, 1, 2, 0, 1, 2, 2, 0, 1, 3, 2, 0, 5, 0, 1, 4, 0, 4, 0, 1, 0, 2, 0, 1, 1, 2, 0, 1, 2, 2, 0, 1, 3, 2, 0, 6, 4, 1, 6, 0, 1, 0, 2, 0, 1, 1, 2, 0, 1, 2, 2, 0, 1, 3, 2, 0, 1, 5, 2, 0, 1, 4, 2]
set_option maxRecDepth 1000000 in
theorem ckie_78 : ck_in0 cktb_78 ckcn_78 ckpt_78 4000 ckce_78_0 = true := by decide +kernel
theorem ckco_78 : ck_CO ckcn_78 := ck_con (tab := cktb_78) (pats := ckpt_78) (fun _ h => absurd h List.not_mem_nil) ckie_78 (fun _ h => absurd h List.not_mem_nil)
def ckpt_79 : List ck_Pt := []
def cktb_79 : List ck_Co := [ckcn_57, ckcn_58]
def ckce_79_0 : List Nat := [0, 12, 3, 0, 1, 0, 1, 3, 2, 0, 7, 3, 1, 1, 0, 1, 3, 2, 0, 1, 4, 0, 3, 0, 1, 0, 2, 0, 1, 1, 2, 0, 1, 2, 2, 0, 1, 4, 1, 6, 0, 1, 0, 2, 0, 1, 1, 2, 0, 1, 2, 2, 0, 1, 4, 2, 0, 1, 5, 2, 0, 1, 3, 2]
set_option maxRecDepth 1000000 in
theorem ckie_79 : ck_in0 cktb_79 ckcn_79 ckpt_79 4000 ckce_79_0 = true := by decide +kernel
theorem ckco_79 : ck_CO ckcn_79 := ck_con (tab := cktb_79) (pats := ckpt_79) (List.forall_mem_cons.mpr ⟨ckco_57, (List.forall_mem_cons.mpr ⟨ckco_58, (fun _ h => absurd h List.not_mem_nil)⟩)⟩) ckie_79 (fun _ h => absurd h List.not_mem_nil)
def ckpt_80 : List ck_Pt := []
def cktb_80 : List ck_Co := [ckcn_65, ckcn_66]
def ckce_80_0 : List Nat := [0, 12, 3, 0, 1, 0, 1, 3, 2, 0, 7, 3, 1, 1, 0, 1, 3, 2, 0, 1, 4, 0, 3, 0, 1, 0, 2, 0, 1, 1, 2, 0, 1, 2, 2, 0, 1, 4, 1, 6, 0, 1, 0, 2, 0, 1, 1, 2, 0, 1, 2, 2, 0, 1, 4, 2, 0, 1, 5, 2, 0, 1, 3, 2]
set_option maxRecDepth 1000000 in
theorem ckie_80 : ck_in0 cktb_80 ckcn_80 ckpt_80 4000 ckce_80_0 = true := by decide +kernel
theorem ckco_80 : ck_CO ckcn_80 := ck_con (tab := cktb_80) (pats := ckpt_80) (List.forall_mem_cons.mpr ⟨ckco_65, (List.forall_mem_cons.mpr ⟨ckco_66, (fun _ h => absurd h List.not_mem_nil)⟩)⟩) ckie_80 (fun _ h => absurd h List.not_mem_nil)
def ckpt_81 : List ck_Pt := []
def cktb_81 : List ck_Co := []
def ckce_81_0 : List Nat := [0, 29, 4, 0, 4, 0, 1, 0, 2, 0, 1, 1, 2, 0, 1, 2, 2, 0, 1, 5, 2]
set_option maxRecDepth 1000000 in
theorem ckie_81 : ck_in0 cktb_81 ckcn_81 ckpt_81 4000 ckce_81_0 = true := by decide +kernel
theorem ckco_81 : ck_CO ckcn_81 := ck_con (tab := cktb_81) (pats := ckpt_81) (fun _ h => absurd h List.not_mem_nil) ckie_81 (fun _ h => absurd h List.not_mem_nil)
def ckpt_82 : List ck_Pt := [(((7, [(0, .ofNat 0, .ofNat 23), (1, .ofNat 0, .ofNat 6), (2, .ofNat 0, .ofNat 6), (3, .ofNat 0, .ofNat 15), (4, .ofNat 4, .ofNat 4), (5, .ofNat 1, .ofNat 7), (6, .negSucc 9223372036854775807, .ofNat 2147483647)], [], [(25, (.ofNat 0, [(0, .ofNat 1)]), (.ofNat 0, [(4, .ofNat 1)])), (26, (.ofNat 2, [(0, .ofNat 4)]), (.ofNat 0, [(3, .ofNat 1)]))], []), 58, [(0, (2, (.ofNat 58, []))), (1, (2, (.ofNat 18, []))), (2, (0, (.ofNat 0, [(0, .ofNat 1)]))), (3, (0, (.ofNat 2, []))), (4, (0, (.ofNat 0, [(1, .ofNat 1)]))), (5, (0, (.ofNat 0, [(2, .ofNat 1)]))), (6, (0, (.ofNat 0, [(3, .ofNat 1)]))), (7, (1, (.ofNat 0, [(6, .ofNat 1)]))), (9, (0, (.ofNat 0, [(5, .ofNat 1)])))], []), (.ofNat 10000000, [(5, .negSucc 0)]))]
def cktb_82 : List ck_Co := [ckcn_81]
def ckce_82_0 : List Nat := [0, 17, 0, 12, 4, 0, 4, 0, 1, 0, 2, 0, 1, 1, 2, 0, 1, 2, 2, 0, 1, 5, 2, 0, 9, 2, 0, 7, 0, 1, 0, 2, 0, 1, 1, 2, 0, 1, 2, 2, 0, 1, 3, 2, 0, 1, 4, 2, 2, 1, 1, 2, 0, 0]
def ckce_82_1 : List Nat := [0, 3, 0, 2, 4, 0, 4, 0, 1, 0, 2, 0, 1, 1, 2, 0, 1, 2, 2, 0, 1, 7, 2, 0, 17, 0, 3, 2, 0, 7, 0, 1, 0, 2, 0, 1, 1, 2, 0, 1, 2, 2, 0, 1, 3, 2, 0, 1, 4, 2, 2, 1, 5, 2, 0, 1, 6, 2, 0, 3, 2, 0, 7, 0, 1, 0, 2, 0, 1, 1, 2, 0, 1, 2, 2, 0, 1, 3, 2, 0, 1, 4, 2, 2, 1, 5, 2, 0, 1, 6, 2, 0, 11, 3, 0, 3, 0, 1, 0, 2, 0, 1, 5, 2, 0, 1, 2, 2, 0, 5, 0, 3, 2, 0, 7, 0, 1, 0, 2, 0, 1, 1, 2, 0, 1, 2, 2, 0, 1, 3, 2, 0, 1, 4, 2, 2, 1, 5, 2, 2000000000, 0, 0, 3, 2, 0, 7, 0, 1, 0, 2, 0, 1, 1, 2, 0, 1, 2, 2, 0, 1, 3, 2, 0, 1, 4, 2, 2, 1, 5, 2, 0, 1, 10, 2]
set_option maxRecDepth 1000000 in
theorem ckie_82 : ck_in0 cktb_82 ckcn_82 ckpt_82 4000 ckce_82_0 = true := by decide +kernel
set_option maxRecDepth 1000000 in
theorem ckip_82_0 : ∀ p, ckpt_82[0]? = some p → ck_inP cktb_82 ckcn_82 ckpt_82 4000 p ckce_82_1 = true := by
  intro p hp
  cases hp
  decide +kernel
theorem ckco_82 : ck_CO ckcn_82 := ck_con (tab := cktb_82) (pats := ckpt_82) (List.forall_mem_cons.mpr ⟨ckco_81, (fun _ h => absurd h List.not_mem_nil)⟩) ckie_82 (List.forall_mem_cons.mpr ⟨⟨4000, ckce_82_1, ckip_82_0 _ rfl⟩, (fun _ h => absurd h List.not_mem_nil)⟩)
def ckpt_83 : List ck_Pt := [(((7, [(0, .ofNat 0, .ofNat 23), (1, .ofNat 0, .ofNat 6), (2, .ofNat 0, .ofNat 6), (3, .ofNat 0, .ofNat 15), (4, .ofNat 3, .ofNat 4), (5, .ofNat 1, .ofNat 7), (6, .negSucc 9223372036854775807, .ofNat 2147483647)], [], [(25, (.ofNat 0, [(0, .ofNat 1)]), (.ofNat 0, [(4, .ofNat 1)])), (26, (.ofNat 1, [(0, .ofNat 4)]), (.ofNat 0, [(3, .ofNat 1)]))], []), 58, [(0, (2, (.ofNat 58, []))), (1, (2, (.ofNat 18, []))), (2, (0, (.ofNat 0, [(0, .ofNat 1)]))), (3, (0, (.ofNat 1, []))), (4, (0, (.ofNat 0, [(1, .ofNat 1)]))), (5, (0, (.ofNat 0, [(2, .ofNat 1)]))), (6, (0, (.ofNat 0, [(3, .ofNat 1)]))), (7, (1, (.ofNat 0, [(6, .ofNat 1)]))), (9, (0, (.ofNat 0, [(5, .ofNat 1)])))], []), (.ofNat 10000000, [(5, .negSucc 0)]))]
def cktb_83 : List ck_Co := [ckcn_82]
def ckce_83_0 : List Nat := [0, 17, 0, 12, 4, 0, 4, 0, 1, 0, 2, 0, 1, 1, 2, 0, 1, 2, 2, 0, 1, 5, 2, 0, 9, 2, 0, 7, 0, 1, 0, 2, 0, 1, 1, 2, 0, 1, 2, 2, 0, 1, 3, 2, 0, 1, 4, 2, 2, 1, 1, 2, 0, 0]
def ckce_83_1 : List Nat := [0, 3, 0, 2, 4, 0, 4, 0, 1, 0, 2, 0, 1, 1, 2, 0, 1, 2, 2, 0, 1, 7, 2, 0, 17, 0, 3, 2, 0, 7, 0, 1, 0, 2, 0, 1, 1, 2, 0, 1, 2, 2, 0, 1, 3, 2, 0, 1, 4, 2, 2, 1, 5, 2, 0, 1, 6, 2, 0, 3, 2, 0, 7, 0, 1, 0, 2, 0, 1, 1, 2, 0, 1, 2, 2, 0, 1, 3, 2, 0, 1, 4, 2, 2, 1, 5, 2, 0, 1, 6, 2, 0, 11, 3, 0, 3, 0, 1, 0, 2, 0, 1, 5, 2, 0, 1, 2, 2, 0, 5, 0, 3, 2, 0, 7, 0, 1, 0, 2, 0, 1, 1, 2, 0, 1, 2, 2, 0, 1, 3, 2, 0, 1, 4, 2, 2, 1, 5, 2, 2000000000, 0, 0, 3, 2, 0, 7, 0, 1, 0, 2, 0, 1, 1, 2, 0, 1, 2, 2, 0, 1, 3, 2, 0, 1, 4, 2, 2, 1, 5, 2, 0, 1, 10, 2]
set_option maxRecDepth 1000000 in
theorem ckie_83 : ck_in0 cktb_83 ckcn_83 ckpt_83 4000 ckce_83_0 = true := by decide +kernel
set_option maxRecDepth 1000000 in
theorem ckip_83_0 : ∀ p, ckpt_83[0]? = some p → ck_inP cktb_83 ckcn_83 ckpt_83 4000 p ckce_83_1 = true := by
  intro p hp
  cases hp
  decide +kernel
theorem ckco_83 : ck_CO ckcn_83 := ck_con (tab := cktb_83) (pats := ckpt_83) (List.forall_mem_cons.mpr ⟨ckco_82, (fun _ h => absurd h List.not_mem_nil)⟩) ckie_83 (List.forall_mem_cons.mpr ⟨⟨4000, ckce_83_1, ckip_83_0 _ rfl⟩, (fun _ h => absurd h List.not_mem_nil)⟩)
def ckpt_84 : List ck_Pt := [(((7, [(0, .ofNat 0, .ofNat 23), (1, .ofNat 0, .ofNat 6), (2, .ofNat 0, .ofNat 6), (3, .ofNat 0, .ofNat 15), (4, .ofNat 2, .ofNat 4), (5, .ofNat 1, .ofNat 7), (6, .negSucc 9223372036854775807, .ofNat 2147483647)], [], [(25, (.ofNat 0, [(0, .ofNat 1)]), (.ofNat 0, [(4, .ofNat 1)])), (26, (.ofNat 0, [(0, .ofNat 4)]), (.ofNat 0, [(3, .ofNat 1)]))], []), 58, [(0, (2, (.ofNat 58, []))), (1, (2, (.ofNat 18, []))), (2, (0, (.ofNat 0, [(0, .ofNat 1)]))), (3, (0, (.ofNat 0, []))), (4, (0, (.ofNat 0, [(1, .ofNat 1)]))), (5, (0, (.ofNat 0, [(2, .ofNat 1)]))), (6, (0, (.ofNat 0, [(3, .ofNat 1)]))), (7, (1, (.ofNat 0, [(6, .ofNat 1)]))), (9, (0, (.ofNat 0, [(5, .ofNat 1)])))], []), (.ofNat 10000000, [(5, .negSucc 0)]))]
def cktb_84 : List ck_Co := [ckcn_83]
def ckce_84_0 : List Nat := [0, 17, 0, 12, 4, 0, 4, 0, 1, 0, 2, 0, 1, 1, 2, 0, 1, 2, 2, 0, 1, 5, 2, 0, 9, 2, 0, 7, 0, 1, 0, 2, 0, 1, 1, 2, 0, 1, 2, 2, 0, 1, 3, 2, 0, 1, 4, 2, 2, 1, 1, 2, 0, 0]
def ckce_84_1 : List Nat := [0, 3, 0, 2, 4, 0, 4, 0, 1, 0, 2, 0, 1, 1, 2, 0, 1, 2, 2, 0, 1, 7, 2, 0, 17, 0, 3, 2, 0, 7, 0, 1, 0, 2, 0, 1, 1, 2, 0, 1, 2, 2, 0, 1, 3, 2, 0, 1, 4, 2, 2, 1, 5, 2, 0, 1, 6, 2, 0, 3, 2, 0, 7, 0, 1, 0, 2, 0, 1, 1, 2, 0, 1, 2, 2, 0, 1, 3, 2, 0, 1, 4, 2, 2, 1, 5, 2, 0, 1, 6, 2, 0, 11, 3, 0, 3, 0, 1, 0, 2, 0, 1, 5, 2, 0, 1, 2, 2, 0, 5, 0, 3, 2, 0, 7, 0, 1, 0, 2, 0, 1, 1, 2, 0, 1, 2, 2, 0, 1, 3, 2, 0, 1, 4, 2, 2, 1, 5, 2, 2000000000, 0, 0, 3, 2, 0, 7, 0, 1, 0, 2, 0, 1, 1, 2, 0, 1, 2, 2, 0, 1, 3, 2, 0, 1, 4, 2, 2, 1, 5, 2, 0, 1, 10, 2]
set_option maxRecDepth 1000000 in
theorem ckie_84 : ck_in0 cktb_84 ckcn_84 ckpt_84 4000 ckce_84_0 = true := by decide +kernel
set_option maxRecDepth 1000000 in
theorem ckip_84_0 : ∀ p, ckpt_84[0]? = some p → ck_inP cktb_84 ckcn_84 ckpt_84 4000 p ckce_84_1 = true := by
  intro p hp
  cases hp
  decide +kernel
theorem ckco_84 : ck_CO ckcn_84 := ck_con (tab := cktb_84) (pats := ckpt_84) (List.forall_mem_cons.mpr ⟨ckco_83, (fun _ h => absurd h List.not_mem_nil)⟩) ckie_84 (List.forall_mem_cons.mpr ⟨⟨4000, ckce_84_1, ckip_84_0 _ rfl⟩, (fun _ h => absurd h List.not_mem_nil)⟩)
def ckpt_85 : List ck_Pt := [(((2, [(0, .ofNat 1, .ofNat 6), (1, .negSucc 0, .ofNat 5)], [], [], []), 4, [(0, (2, (.ofNat 58, []))), (1, (2, (.ofNat 18, []))), (2, (0, (.ofNat 0, [(0, .ofNat 1)]))), (3, (0, (.ofNat 0, [(1, .ofNat 1)])))], []), (.ofNat 10000000001000000000001000000000, [(1, .ofNat 1000000000000000000000000)])), (((4, [(0, .ofNat 1, .ofNat 6), (1, .ofNat 0, .ofNat 8), (2, .ofNat 0, .ofNat 5), (3, .ofNat 16, .ofNat 656)], [], [], []), 22, [(0, (2, (.ofNat 58, []))), (1, (2, (.ofNat 18, []))), (2, (0, (.ofNat 0, [(0, .ofNat 1)]))), (3, (0, (.ofNat 0, [(2, .ofNat 1)]))), (4, (0, (.ofNat 0, [(3, .ofNat 1)]))), (5, (0, (.ofNat 0, [(1, .ofNat 1)])))], []), (.ofNat 10000000000020000000001000000000, [(1, .negSucc 999999999999), (2, .ofNat 1000000000000000000000000)])), (((5, [(0, .ofNat 1, .ofNat 6), (1, .ofNat 0, .ofNat 8), (2, .ofNat 0, .ofNat 5), (3, .ofNat 16, .ofNat 656), (4, .ofNat 0, .ofNat 8)], [], [(18, (.ofNat 6, []), (.ofNat 0, [(4, .ofNat 1)]))], []), 76, [(0, (2, (.ofNat 58, []))), (1, (2, (.ofNat 18, []))), (2, (0, (.ofNat 0, [(0, .ofNat 1)]))), (3, (0, (.ofNat 0, [(2, .ofNat 1)]))), (4, (0, (.ofNat 0, [(3, .ofNat 1)]))), (5, (0, (.negSucc 0, [(1, .ofNat 1)])))], []), (.ofNat 10000000000009999999001000000000, [(1, .ofNat 1000000000000), (2, .ofNat 1000000000000000000000000)])), (((8, [(0, .ofNat 1, .ofNat 6), (1, .ofNat 1, .ofNat 8), (2, .ofNat 0, .ofNat 5), (3, .ofNat 16, .ofNat 656), (4, .ofNat 0, .ofNat 24), (5, .ofNat 0, .ofNat 8), (6, .negSucc 9223372036854775807, .ofNat 9223372036854775807), (7, .ofNat 0, .ofNat 24)], [], [(24, (.negSucc 0, [(1, .ofNat 1)]), (.ofNat 0, [(7, .ofNat 1)])), (18, (.ofNat 6, []), (.ofNat 0, [(5, .ofNat 1)]))], []), 93, [(0, (2, (.ofNat 58, []))), (1, (2, (.ofNat 18, []))), (2, (0, (.ofNat 0, [(0, .ofNat 1)]))), (3, (0, (.ofNat 0, [(2, .ofNat 1)]))), (4, (0, (.ofNat 0, [(3, .ofNat 1)]))), (5, (0, (.negSucc 0, [(1, .ofNat 1)]))), (6, (1, (.ofNat 0, [(6, .ofNat 1)]))), (8, (0, (.ofNat 0, [(4, .ofNat 1)])))], []), (.ofNat 10000000000009999999000010000000, [(1, .ofNat 1000000000000), (2, .ofNat 1000000000000000000000000), (4, .negSucc 0)]))]
def cktb_85 : List ck_Co := [ckcn_84]
def ckce_85_0 : List Nat := [0, 4, 2, 0, 2, 0, 1, 0, 2, 1, 1, 0, 2]
def ckce_85_1 : List Nat := [0, 2, 4, 0, 1, 0, 1, 0, 2, 0, 10, 2, 1, 4, 0, 1, 0, 2, 0, 0, 0, 1, 1, 2, 0, 2, 0, 32, 1, 224]
def ckce_85_2 : List Nat := [0, 3, 0, 5, 2, 2, 5, 0, 1, 0, 2, 0, 1, 4, 2, 0, 1, 2, 2, 0, 1, 3, 2, 0, 1, 4, 2, 0, 10, 0, 4, 2, 1, 4, 0, 1, 0, 2, 2, 1, 1, 2, 0, 1, 2, 2, 0, 1, 3, 2, 0, 6, 0, 4, 2, 1, 4, 0, 1, 0, 2, 2, 1, 1, 2, 0, 1, 2, 2, 0, 1, 3, 2, 0, 5, 2, 1, 4, 0, 1, 0, 2, 2, 1, 1, 2, 0, 1, 2, 2, 0, 1, 3, 2]
def ckce_85_3 : List Nat := [0, 2, 0, 2, 2, 0, 2, 0, 1, 0, 2, 1, 1, 2, 2, 0, 7, 2, 3, 8, 0, 1, 0, 2, 0, 1, 1, 2, 0, 1, 2, 2, 0, 1, 3, 2, 0, 1, 5, 2, 0, 1, 4, 2, 0, 0, 0, 1, 5, 2]
def ckce_85_4 : List Nat := [0, 8, 0, 10, 0, 4, 2, 2, 5, 0, 1, 0, 2, 1, 1, 1, 2, 0, 1, 2, 2, 0, 1, 3, 2, 0, 1, 5, 2, 0, 4, 2, 2, 5, 0, 1, 0, 2, 1, 1, 1, 2, 0, 1, 2, 2, 0, 1, 3, 2, 0, 1, 5, 2, 0, 7, 3, 0, 3, 0, 1, 4, 2, 0, 1, 2, 2, 0, 1, 0, 2, 0, 5, 2, 3, 8, 0, 1, 0, 2, 0, 1, 1, 2, 0, 1, 2, 2, 0, 1, 3, 2, 2, 1, 4, 2, 0, 1, 5, 2, 0, 1, 10, 2, 0, 1, 7, 2]
set_option maxRecDepth 1000000 in
theorem ckie_85 : ck_in0 cktb_85 ckcn_85 ckpt_85 4000 ckce_85_0 = true := by decide +kernel
set_option maxRecDepth 1000000 in
theorem ckip_85_0 : ∀ p, ckpt_85[0]? = some p → ck_inP cktb_85 ckcn_85 ckpt_85 4000 p ckce_85_1 = true := by
  intro p hp
  cases hp
  decide +kernel
set_option maxRecDepth 1000000 in
theorem ckip_85_1 : ∀ p, ckpt_85[1]? = some p → ck_inP cktb_85 ckcn_85 ckpt_85 4000 p ckce_85_2 = true := by
  intro p hp
  cases hp
  decide +kernel
set_option maxRecDepth 1000000 in
theorem ckip_85_2 : ∀ p, ckpt_85[2]? = some p → ck_inP cktb_85 ckcn_85 ckpt_85 4000 p ckce_85_3 = true := by
  intro p hp
  cases hp
  decide +kernel
set_option maxRecDepth 1000000 in
theorem ckip_85_3 : ∀ p, ckpt_85[3]? = some p → ck_inP cktb_85 ckcn_85 ckpt_85 4000 p ckce_85_4 = true := by
  intro p hp
  cases hp
  decide +kernel
theorem ckco_85 : ck_CO ckcn_85 := ck_con (tab := cktb_85) (pats := ckpt_85) (List.forall_mem_cons.mpr ⟨ckco_84, (fun _ h => absurd h List.not_mem_nil)⟩) ckie_85 (List.forall_mem_cons.mpr ⟨⟨4000, ckce_85_1, ckip_85_0 _ rfl⟩, (List.forall_mem_cons.mpr ⟨⟨4000, ckce_85_2, ckip_85_1 _ rfl⟩, (List.forall_mem_cons.mpr ⟨⟨4000, ckce_85_3, ckip_85_2 _ rfl⟩, (List.forall_mem_cons.mpr ⟨⟨4000, ckce_85_4, ckip_85_3 _ rfl⟩, (fun _ h => absurd h List.not_mem_nil)⟩)⟩)⟩)⟩)
def ckpt_86 : List ck_Pt := [(((2, [(0, .ofNat 0, .ofNat 6), (1, .ofNat 0, .ofNat 6)], [], [], []), 3, [(0, (2, (.ofNat 58, []))), (1, (2, (.ofNat 18, []))), (2, (2, (.ofNat 39, []))), (3, (0, (.ofNat 0, [(0, .ofNat 1)]))), (4, (0, (.ofNat 0, [(1, .ofNat 1)])))], []), (.ofNat 20000000, [(1, .negSucc 0)])), (((3, [(0, .ofNat 0, .ofNat 6), (1, .ofNat 0, .ofNat 6), (2, .ofNat 0, .ofNat 6)], [], [(58, (.ofNat 1, []), (.ofNat 0, [(1, .ofNat 1)]))], []), 42, [(0, (2, (.ofNat 58, []))), (1, (2, (.ofNat 18, []))), (2, (2, (.ofNat 39, []))), (3, (0, (.ofNat 0, [(0, .ofNat 1)]))), (5, (0, (.ofNat 0, [(2, .ofNat 1)])))], []), (.ofNat 10000000, [(2, .negSucc 0)]))]
def cktb_86 : List ck_Co := [ckcn_85]
def ckce_86_0 : List Nat := [0, 2, 2, 0, 2, 0, 1, 0, 2, 0, 0]
def ckce_86_1 : List Nat := [0, 4, 0, 2, 2, 1, 3, 0, 1, 0, 2, 0, 1, 2, 2, 0, 1, 1, 2, 0, 3, 0, 2, 2, 1, 3, 0, 1, 0, 2, 0, 1, 2, 2, 0, 1, 1, 2, 0, 8, 0, 2, 2, 1, 3, 0, 1, 0, 2, 0, 1, 2, 2, 0, 1, 1, 2, 0, 2, 2, 0, 2, 0, 1, 0, 2, 2, 1, 1, 2]
def ckce_86_2 : List Nat := [0, 3, 0, 5, 0, 1, 4, 0, 1, 0, 1, 0, 2, 0, 3, 0, 1, 4, 0, 1, 0, 1, 0, 2, 0, 9, 4, 1, 4, 0, 1, 0, 2, 0, 1, 4, 2, 0, 1, 3, 2, 0, 1, 0, 2, 0, 12, 3, 0, 1, 2, 1, 2, 2, 0, 2, 2, 1, 3, 0, 1, 0, 2, 0, 1, 1, 2, 2, 1, 2, 2]
set_option maxRecDepth 1000000 in
theorem ckie_86 : ck_in0 cktb_86 ckcn_86 ckpt_86 4000 ckce_86_0 = true := by decide +kernel
set_option maxRecDepth 1000000 in
theorem ckip_86_0 : ∀ p, ckpt_86[0]? = some p → ck_inP cktb_86 ckcn_86 ckpt_86 4000 p ckce_86_1 = true := by
  intro p hp
  cases hp
  decide +kernel
set_option maxRecDepth 1000000 in
theorem ckip_86_1 : ∀ p, ckpt_86[1]? = some p → ck_inP cktb_86 ckcn_86 ckpt_86 4000 p ckce_86_2 = true := by
  intro p hp
  cases hp
  decide +kernel
theorem ckco_86 : ck_CO ckcn_86 := ck_con (tab := cktb_86) (pats := ckpt_86) (List.forall_mem_cons.mpr ⟨ckco_85, (fun _ h => absurd h List.not_mem_nil)⟩) ckie_86 (List.forall_mem_cons.mpr ⟨⟨4000, ckce_86_1, ckip_86_0 _ rfl⟩, (List.forall_mem_cons.mpr ⟨⟨4000, ckce_86_2, ckip_86_1 _ rfl⟩, (fun _ h => absurd h List.not_mem_nil)⟩)⟩)
def ckpt_87 : List ck_Pt := []
def cktb_87 : List ck_Co := [ckcn_86]
def ckce_87_0 : List Nat := [0, 10, 3, 0, 1, 0, 1, 3, 2, 4, 0, 3, 0, 1, 0, 2, 0, 1, 1, 2, 0, 1, 2, 2, 4, 1, 7, 0, 1, 0, 2, 0, 1, 1, 2, 0, 1, 2, 2, 0, 1, 4, 2, 0, 1, 5, 2, 0, 1, 3, 2, 0, 1, 6, 2]
set_option maxRecDepth 1000000 in
theorem ckie_87 : ck_in0 cktb_87 ckcn_87 ckpt_87 4000 ckce_87_0 = true := by decide +kernel
theorem ckco_87 : ck_CO ckcn_87 := ck_con (tab := cktb_87) (pats := ckpt_87) (List.forall_mem_cons.mpr ⟨ckco_86, (fun _ h => absurd h List.not_mem_nil)⟩) ckie_87 (fun _ h => absurd h List.not_mem_nil)
def ckpt_88 : List ck_Pt := []
def cktb_88 : List ck_Co := []
def ckce_88_0 : List Nat := [0, 29, 4, 0, 4, 0, 1, 0, 2, 0, 1, 1, 2, 0, 1, 2, 2, 0, 1, 5, 2]
set_option maxRecDepth 1000000 in
theorem ckie_88 : ck_in0 cktb_88 ckcn_88 ckpt_88 4000 ckce_88_0 = true := by decide +kernel
theorem ckco_88 : ck_CO ckcn_88 := ck_con (tab := cktb_88) (pats := ckpt_88) (fun _ h => absurd h List.not_mem_nil) ckie_88 (fun _ h => absurd h List.not_mem_nil)
def ckpt_89 : List ck_Pt := [(((7, [(0, .ofNat 0, .ofNat 23), (1, .ofNat 0, .ofNat 6), (2, .ofNat 0, .ofNat 6), (3, .ofNat 0, .ofNat 15), (4, .ofNat 4, .ofNat 4), (5, .ofNat 1, .ofNat 7), (6, .negSucc 9223372036854775807, .ofNat 2147483647)], [], [(35, (.ofNat 0, [(0, .ofNat 1)]), (.ofNat 0, [(4, .ofNat 1)])), (36, (.ofNat 2, [(0, .ofNat 4)]), (.ofNat 0, [(3, .ofNat 1)]))], []), 58, [(0, (2, (.ofNat 58, []))), (1, (2, (.ofNat 28, []))), (2, (0, (.ofNat 0, [(0, .ofNat 1)]))), (3, (0, (.ofNat 2, []))), (4, (0, (.ofNat 0, [(1, .ofNat 1)]))), (5, (0, (.ofNat 0, [(2, .ofNat 1)]))), (6, (0, (.ofNat 0, [(3, .ofNat 1)]))), (7, (1, (.ofNat 0, [(6, .ofNat 1)]))), (9, (0, (.ofNat 0, [(5, .ofNat 1)])))], []), (.ofNat 10000000, [(5, .negSucc 0)]))]
def cktb_89 : List ck_Co := [ckcn_88]
def ckce_89_0 : List Nat := [0, 17, 0, 12, 4, 0, 4, 0, 1, 0, 2, 0, 1, 1, 2, 0, 1, 2, 2, 0, 1, 5, 2, 0, 9, 2, 0, 7, 0, 1, 0, 2, 0, 1, 1, 2, 0, 1, 2, 2, 0, 1, 3, 2, 0, 1, 4, 2, 2, 1, 1, 2, 0, 0]
def ckce_89_1 : List Nat := [0, 3, 0, 2, 4, 0, 4, 0, 1, 0, 2, 0, 1, 1, 2, 0, 1, 2, 2, 0, 1, 7, 2, 0, 17, 0, 3, 2, 0, 7, 0, 1, 0, 2, 0, 1, 1, 2, 0, 1, 2, 2, 0, 1, 3, 2, 0, 1, 4, 2, 2, 1, 5, 2, 0, 1, 6, 2, 0, 3, 2, 0, 7, 0, 1, 0, 2, 0, 1, 1, 2, 0, 1, 2, 2, 0, 1, 3, 2, 0, 1, 4, 2, 2, 1, 5, 2, 0, 1, 6, 2, 0, 11, 3, 0, 3, 0, 1, 0, 2, 0, 1, 5, 2, 0, 1, 2, 2, 0, 5, 0, 3, 2, 0, 7, 0, 1, 0, 2, 0, 1, 1, 2, 0, 1, 2, 2, 0, 1, 3, 2, 0, 1, 4, 2, 2, 1, 5, 2, 2000000000, 0, 0, 3, 2, 0, 7, 0, 1, 0, 2, 0, 1, 1, 2, 0, 1, 2, 2, 0, 1, 3, 2, 0, 1, 4, 2, 2, 1, 5, 2, 0, 1, 10, 2]
set_option maxRecDepth 1000000 in
theorem ckie_89 : ck_in0 cktb_89 ckcn_89 ckpt_89 4000 ckce_89_0 = true := by decide +kernel
set_option maxRecDepth 1000000 in
theorem ckip_89_0 : ∀ p, ckpt_89[0]? = some p → ck_inP cktb_89 ckcn_89 ckpt_89 4000 p ckce_89_1 = true := by
  intro p hp
  cases hp
  decide +kernel
theorem ckco_89 : ck_CO ckcn_89 := ck_con (tab := cktb_89) (pats := ckpt_89) (List.forall_mem_cons.mpr ⟨ckco_88, (fun _ h => absurd h List.not_mem_nil)⟩) ckie_89 (List.forall_mem_cons.mpr ⟨⟨4000, ckce_89_1, ckip_89_0 _ rfl⟩, (fun _ h => absurd h List.not_mem_nil)⟩)
def ckpt_90 : List ck_Pt := [(((7, [(0, .ofNat 0, .ofNat 23), (1, .ofNat 0, .ofNat 6), (2, .ofNat 0, .ofNat 6), (3, .ofNat 0, .ofNat 15), (4, .ofNat 3, .ofNat 4), (5, .ofNat 1, .ofNat 7), (6, .negSucc 9223372036854775807, .ofNat 2147483647)], [], [(35, (.ofNat 0, [(0, .ofNat 1)]), (.ofNat 0, [(4, .ofNat 1)])), (36, (.ofNat 1, [(0, .ofNat 4)]), (.ofNat 0, [(3, .ofNat 1)]))], []), 58, [(0, (2, (.ofNat 58, []))), (1, (2, (.ofNat 28, []))), (2, (0, (.ofNat 0, [(0, .ofNat 1)]))), (3, (0, (.ofNat 1, []))), (4, (0, (.ofNat 0, [(1, .ofNat 1)]))), (5, (0, (.ofNat 0, [(2, .ofNat 1)]))), (6, (0, (.ofNat 0, [(3, .ofNat 1)]))), (7, (1, (.ofNat 0, [(6, .ofNat 1)]))), (9, (0, (.ofNat 0, [(5, .ofNat 1)])))], []), (.ofNat 10000000, [(5, .negSucc 0)]))]
def cktb_90 : List ck_Co := [ckcn_89]
def ckce_90_0 : List Nat := [0, 17, 0, 12, 4, 0, 4, 0, 1, 0, 2, 0, 1, 1, 2, 0, 1, 2, 2, 0, 1, 5, 2, 0, 9, 2, 0, 7, 0, 1, 0, 2, 0, 1, 1, 2, 0, 1, 2, 2, 0, 1, 3, 2, 0, 1, 4, 2, 2, 1, 1, 2, 0, 0]
def ckce_90_1 : List Nat := [0, 3, 0, 2, 4, 0, 4, 0, 1, 0, 2, 0, 1, 1, 2, 0, 1, 2, 2, 0, 1, 7, 2, 0, 17, 0, 3, 2, 0, 7, 0, 1, 0, 2, 0, 1, 1, 2, 0, 1, 2, 2, 0, 1, 3, 2, 0, 1, 4, 2, 2, 1, 5, 2, 0, 1, 6, 2, 0, 3, 2, 0, 7, 0, 1, 0, 2, 0, 1, 1, 2, 0, 1, 2, 2, 0, 1, 3, 2, 0, 1, 4, 2, 2, 1, 5, 2, 0, 1, 6, 2, 0, 11, 3, 0, 3, 0, 1, 0, 2, 0, 1, 5, 2, 0, 1, 2, 2, 0, 5, 0, 3, 2, 0, 7, 0, 1, 0, 2, 0, 1, 1, 2, 0, 1, 2, 2, 0, 1, 3, 2, 0, 1, 4, 2, 2, 1, 5, 2, 2000000000, 0, 0, 3, 2, 0, 7, 0, 1, 0, 2, 0, 1, 1, 2, 0, 1, 2, 2, 0, 1, 3, 2, 0, 1, 4, 2, 2, 1, 5, 2, 0, 1, 10, 2]
set_option maxRecDepth 1000000 in
theorem ckie_90 : ck_in0 cktb_90 ckcn_90 ckpt_90 4000 ckce_90_0 = true := by decide +kernel
set_option maxRecDepth 1000000 in
theorem ckip_90_0 : ∀ p, ckpt_90[0]? = some p → ck_inP cktb_90 ckcn_90 ckpt_90 4000 p ckce_90_1 = true := by
  intro p hp
  cases hp
  decide +kernel
theorem ckco_90 : ck_CO ckcn_90 := ck_con (tab := cktb_90) (pats := ckpt_90) (List.forall_mem_cons.mpr ⟨ckco_89, (fun _ h => absurd h List.not_mem_nil)⟩) ckie_90 (List.forall_mem_cons.mpr ⟨⟨4000, ckce_90_1, ckip_90_0 _ rfl⟩, (fun _ h => absurd h List.not_mem_nil)⟩)
def ckpt_91 : List ck_Pt := [(((7, [(0, .ofNat 0, .ofNat 23), (1, .ofNat 0, .ofNat 6), (2, .ofNat 0, .ofNat 6), (3, .ofNat 0, .ofNat 15), (4, .ofNat 2, .ofNat 4), (5, .ofNat 1, .ofNat 7), (6, .negSucc 9223372036854775807, .ofNat 2147483647)], [], [(35, (.ofNat 0, [(0, .ofNat 1)]), (.ofNat 0, [(4, .ofNat 1)])), (36, (.ofNat 0, [(0, .ofNat 4)]), (.ofNat 0, [(3, .ofNat 1)]))], []), 58, [(0, (2, (.ofNat 58, []))), (1, (2, (.ofNat 28, []))), (2, (0, (.ofNat 0, [(0, .ofNat 1)]))), (3, (0, (.ofNat 0, []))), (4, (0, (.ofNat 0, [(1, .ofNat 1)]))), (5, (0, (.ofNat 0, [(2, .ofNat 1)]))), (6, (0, (.ofNat 0, [(3, .ofNat 1)]))), (7, (1, (.ofNat 0, [(6, .ofNat 1)]))), (9, (0, (.ofNat 0, [(5, .ofNat 1)])))], []), (.ofNat 10000000, [(5, .negSucc 0)]))]
def cktb_91 : List ck_Co := [ckcn_90]
def ckce_91_0 : List Nat := [0, 17, 0, 12, 4, 0, 4, 0, 1, 0, 2, 0, 1, 1, 2, 0, 1, 2, 2, 0, 1, 5, 2, 0, 9, 2, 0, 7, 0, 1, 0, 2, 0, 1, 1, 2, 0, 1, 2, 2, 0, 1, 3, 2, 0, 1, 4, 2, 2, 1, 1, 2, 0, 0]
def ckce_91_1 : List Nat := [0, 3, 0, 2, 4, 0, 4, 0, 1, 0, 2, 0, 1, 1, 2, 0, 1, 2, 2, 0, 1, 7, 2, 0, 17, 0, 3, 2, 0, 7, 0, 1, 0, 2, 0, 1, 1, 2, 0, 1, 2, 2, 0, 1, 3, 2, 0, 1, 4, 2, 2, 1, 5, 2, 0, 1, 6, 2, 0, 3, 2, 0, 7, 0, 1, 0, 2, 0, 1, 1, 2, 0, 1, 2, 2, 0, 1, 3, 2, 0, 1, 4, 2, 2, 1, 5, 2, 0, 1, 6, 2, 0, 11, 3, 0, 3, 0, 1, 0, 2, 0, 1, 5, 2, 0, 1, 2, 2, 0, 5, 0, 3, 2, 0, 7, 0, 1, 0, 2, 0, 1, 1, 2, 0, 1, 2, 2, 0, 1, 3, 2, 0, 1, 4, 2, 2, 1, 5, 2, 2000000000, 0, 0, 3, 2, 0, 7, 0, 1, 0, 2, 0, 1, 1, 2, 0, 1, 2, 2, 0, 1, 3, 2, 0, 1, 4, 2, 2, 1, 5, 2, 0, 1, 10, 2]
set_option maxRecDepth 1000000 in
theorem ckie_91 : ck_in0 cktb_91 ckcn_91 ckpt_91 4000 ckce_91_0 = true := by decide +kernel
set_option maxRecDepth 1000000 in
theorem ckip_91_0 : ∀ p, ckpt_91[0]? = some p → ck_inP cktb_91 ckcn_91 ckpt_91 4000 p ckce_91_1 = true := by
  intro p hp
  cases hp
  decide +kernel
theorem ckco_91 : ck_CO ckcn_91 := ck_con (tab := cktb_91) (pats := ckpt_91) (List.forall_mem_cons.mpr ⟨ckco_90, (fun _ h => absurd h List.not_mem_nil)⟩) ckie_91 (List.forall_mem_cons.mpr ⟨⟨4000, ckce_91_1, ckip_91_0 _ rfl⟩, (fun _ h => absurd h List.not_mem_nil)⟩)
def ckpt_92 : List ck_Pt := [(((2, [(0, .ofNat 1, .ofNat 6), (1, .negSucc 0, .ofNat 5)], [], [], []), 4, [(0, (2, (.ofNat 58, []))), (1, (2, (.ofNat 28, []))), (2, (0, (.ofNat 0, [(0, .ofNat 1)]))), (3, (0, (.ofNat 0, [(1, .ofNat 1)])))], []), (.ofNat 10000000001000000000001000000000, [(1, .ofNat 1000000000000000000000000)])), (((4, [(0, .ofNat 1, .ofNat 6), (1, .ofNat 0, .ofNat 8), (2, .ofNat 0, .ofNat 5), (3, .ofNat 16, .ofNat 656)], [], [], []), 22, [(0, (2, (.ofNat 58, []))), (1, (2, (.ofNat 28, []))), (2, (0, (.ofNat 0, [(0, .ofNat 1)]))), (3, (0, (.ofNat 0, [(2, .ofNat 1)]))), (4, (0, (.ofNat 0, [(3, .ofNat 1)]))), (5, (0, (.ofNat 0, [(1, .ofNat 1)])))], []), (.ofNat 10000000000020000000001000000000, [(1, .negSucc 999999999999), (2, .ofNat 1000000000000000000000000)])), (((5, [(0, .ofNat 1, .ofNat 6), (1, .ofNat 0, .ofNat 8), (2, .ofNat 0, .ofNat 5), (3, .ofNat 16, .ofNat 656), (4, .ofNat 0, .ofNat 8)], [], [(28, (.ofNat 6, []), (.ofNat 0, [(4, .ofNat 1)]))], []), 76, [(0, (2, (.ofNat 58, []))), (1, (2, (.ofNat 28, []))), (2, (0, (.ofNat 0, [(0, .ofNat 1)]))), (3, (0, (.ofNat 0, [(2, .ofNat 1)]))), (4, (0, (.ofNat 0, [(3, .ofNat 1)]))), (5, (0, (.negSucc 0, [(1, .ofNat 1)])))], []), (.ofNat 10000000000009999999001000000000, [(1, .ofNat 1000000000000), (2, .ofNat 1000000000000000000000000)])), (((8, [(0, .ofNat 1, .ofNat 6), (1, .ofNat 1, .ofNat 8), (2, .ofNat 0, .ofNat 5), (3, .ofNat 16, .ofNat 656), (4, .ofNat 0, .ofNat 24), (5, .ofNat 0, .ofNat 8), (6, .negSucc 9223372036854775807, .ofNat 9223372036854775807), (7, .ofNat 0, .ofNat 24)], [], [(34, (.negSucc 0, [(1, .ofNat 1)]), (.ofNat 0, [(7, .ofNat 1)])), (28, (.ofNat 6, []), (.ofNat 0, [(5, .ofNat 1)]))], []), 93, [(0, (2, (.ofNat 58, []))), (1, (2, (.ofNat 28, []))), (2, (0, (.ofNat 0, [(0, .ofNat 1)]))), (3, (0, (.ofNat 0, [(2, .ofNat 1)]))), (4, (0, (.ofNat 0, [(3, .ofNat 1)]))), (5, (0, (.negSucc 0, [(1, .ofNat 1)]))), (6, (1, (.ofNat 0, [(6, .ofNat 1)]))), (8, (0, (.ofNat 0, [(4, .ofNat 1)])))], []), (.ofNat 10000000000009999999000010000000, [(1, .ofNat 1000000000000), (2, .ofNat 1000000000000000000000000), (4, .negSucc 0)]))]
def cktb_92 : List ck_Co := [ckcn_91]
def ckce_92_0 : List Nat := [0, 4, 2, 0, 2, 0, 1, 0, 2, 1, 1, 0, 2]
def ckce_92_1 : List Nat := [0, 2, 4, 0, 1, 0, 1, 0, 2, 0, 10, 2, 1, 4, 0, 1, 0, 2, 0, 0, 0, 1, 1, 2, 0, 2, 0, 32, 1, 224]
def ckce_92_2 : List Nat := [0, 3, 0, 5, 2, 2, 5, 0, 1, 0, 2, 0, 1, 4, 2, 0, 1, 2, 2, 0, 1, 3, 2, 0, 1, 4, 2, 0, 10, 0, 4, 2, 1, 4, 0, 1, 0, 2, 2, 1, 1, 2, 0, 1, 2, 2, 0, 1, 3, 2, 0, 6, 0, 4, 2, 1, 4, 0, 1, 0, 2, 2, 1, 1, 2, 0, 1, 2, 2, 0, 1, 3, 2, 0, 5, 2, 1, 4, 0, 1, 0, 2, 2, 1, 1, 2, 0, 1, 2, 2, 0, 1, 3, 2]
def ckce_92_3 : List Nat := [0, 2, 0, 2, 2, 0, 2, 0, 1, 0, 2, 1, 1, 2, 2, 0, 7, 2, 3, 8, 0, 1, 0, 2, 0, 1, 1, 2, 0, 1, 2, 2, 0, 1, 3, 2, 0, 1, 5, 2, 0, 1, 4, 2, 0, 0, 0, 1, 5, 2]
def ckce_92_4 : List Nat := [0, 8, 0, 10, 0, 4, 2, 2, 5, 0, 1, 0, 2, 1, 1, 1, 2, 0, 1, 2, 2, 0, 1, 3, 2, 0, 1, 5, 2, 0, 4, 2, 2, 5, 0, 1, 0, 2, 1, 1, 1, 2, 0, 1, 2, 2, 0, 1, 3, 2, 0, 1, 5, 2, 0, 7, 3, 0, 3, 0, 1, 4, 2, 0, 1, 2, 2, 0, 1, 0, 2, 0, 5, 2, 3, 8, 0, 1, 0, 2, 0, 1, 1, 2, 0, 1, 2, 2, 0, 1, 3, 2, 2, 1, 4, 2, 0, 1, 5, 2, 0, 1, 10, 2, 0, 1, 7, 2]
set_option maxRecDepth 1000000 in
theorem ckie_92 : ck_in0 cktb_92 ckcn_92 ckpt_92 4000 ckce_92_0 = true := by decide +kernel
set_option maxRecDepth 1000000 in
theorem ckip_92_0 : ∀ p, ckpt_92[0]? = some p → ck_inP cktb_92 ckcn_92 ckpt_92 4000 p ckce_92_1 = true := by
  intro p hp
  cases hp
  decide +kernel
set_option maxRecDepth 1000000 in
theorem ckip_92_1 : ∀ p, ckpt_92[1]? = some p → ck_inP cktb_92 ckcn_92 ckpt_92 4000 p ckce_92_2 = true := by
  intro p hp
  cases hp
  decide +kernel
set_option maxRecDepth 1000000 in
theorem ckip_92_2 : ∀ p, ckpt_92[2]? = some p → ck_inP cktb_92 ckcn_92 ckpt_92 4000 p ckce_92_3 = true := by
  intro p hp
  cases hp
  decide +kernel
set_option maxRecDepth 1000000 in
theorem ckip_92_3 : ∀ p, ckpt_92[3]? = some p → ck_inP cktb_92 ckcn_92 ckpt_92 4000 p ckce_92_4 = true := by
  intro p hp
  cases hp
  decide +kernel
theorem ckco_92 : ck_CO ckcn_92 := ck_con (tab := cktb_92) (pats := ckpt_92) (List.forall_mem_cons.mpr ⟨ckco_91, (fun _ h => absurd h List.not_mem_nil)⟩) ckie_92 (List.forall_mem_cons.mpr ⟨⟨4000, ckce_92_1, ckip_92_0 _ rfl⟩, (List.forall_mem_cons.mpr ⟨⟨4000, ckce_92_2, ckip_92_1 _ rfl⟩, (List.forall_mem_cons.mpr ⟨⟨4000, ckce_92_3, ckip_92_2 _ rfl⟩, (List.forall_mem_cons.mpr ⟨⟨4000, ckce_92_4, ckip_92_3 _ rfl⟩, (fun _ h => absurd h List.not_mem_nil)⟩)⟩)⟩)⟩)
def ckpt_93 : List ck_Pt := [(((2, [(0, .ofNat 0, .ofNat 6), (1, .ofNat 0, .ofNat 6)], [], [], []), 3, [(0, (2, (.ofNat 58, []))), (1, (2, (.ofNat 28, []))), (2, (2, (.ofNat 39, []))), (3, (0, (.ofNat 0, [(0, .ofNat 1)]))), (4, (0, (.ofNat 0, [(1, .ofNat 1)])))], []), (.ofNat 20000000, [(1, .negSucc 0)])), (((3, [(0, .ofNat 0, .ofNat 6), (1, .ofNat 0, .ofNat 6), (2, .ofNat 0, .ofNat 6)], [], [(58, (.ofNat 1, []), (.ofNat 0, [(1, .ofNat 1)]))], []), 42, [(0, (2, (.ofNat 58, []))), (1, (2, (.ofNat 28, []))), (2, (2, (.ofNat 39, []))), (3, (0, (.ofNat 0, [(0, .ofNat 1)]))), (5, (0, (.ofNat 0, [(2, .ofNat 1)])))], []), (.ofNat 10000000, [(2, .negSucc 0)]))]
def cktb_93 : List ck_Co := [ckcn_92]
def ckce_93_0 : List Nat := [0, 2, 2, 0, 2, 0, 1, 0, 2, 0, 0]
def ckce_93_1 : List Nat := [0, 4, 0, 2, 2, 1, 3, 0, 1, 0, 2, 0, 1, 2, 2, 0, 1, 1, 2, 0, 3, 0, 2, 2, 1, 3, 0, 1, 0, 2, 0, 1, 2, 2, 0, 1, 1, 2, 0, 8, 0, 2, 2, 1, 3, 0, 1, 0, 2, 0, 1, 2, 2, 0, 1, 1, 2, 0, 2, 2, 0, 2, 0, 1, 0, 2, 2, 1, 1, 2]
def ckce_93_2 : List Nat := [0, 3, 0, 5, 0, 1, 4, 0, 1, 0, 1, 0, 2, 0, 3, 0, 1, 4, 0, 1, 0, 1, 0, 2, 0, 9, 4, 1, 4, 0, 1, 0, 2, 0, 1, 4, 2, 0, 1, 3, 2, 0, 1, 0, 2, 0, 12, 3, 0, 1, 2, 1, 2, 2, 0, 2, 2, 1, 3, 0, 1, 0, 2, 0, 1, 1, 2, 2, 1, 2, 2]
set_option maxRecDepth 1000000 in
theorem ckie_93 : ck_in0 cktb_93 ckcn_93 ckpt_93 4000 ckce_93_0 = true := by decide +kernel
set_option maxRecDepth 1000000 in
theorem ckip_93_0 : ∀ p, ckpt_93[0]? = some p → ck_inP cktb_93 ckcn_93 ckpt_93 4000 p ckce_93_1 = true := by
  intro p hp
  cases hp
  decide +kernel
set_option maxRecDepth 1000000 in
theorem ckip_93_1 : ∀ p, ckpt_93[1]? = some p → ck_inP cktb_93 ckcn_93 ckpt_93 4000 p ckce_93_2 = true := by
  intro p hp
  cases hp
  decide +kernel
theorem ckco_93 : ck_CO ckcn_93 := ck_con (tab := cktb_93) (pats := ckpt_93) (List.forall_mem_cons.mpr ⟨ckco_92, (fun _ h => absurd h List.not_mem_nil)⟩) ckie_93 (List.forall_mem_cons.mpr ⟨⟨4000, ckce_93_1, ckip_93_0 _ rfl⟩, (List.forall_mem_cons.mpr ⟨⟨4000, ckce_93_2, ckip_93_1 _ rfl⟩, (fun _ h => absurd h List.not_mem_nil)⟩)⟩)
def ckpt_94 : List ck_Pt := []
def cktb_94 : List ck_Co := [ckcn_93]
def ckce_94_0 : List Nat := [0, 10, 3, 0, 1, 0, 1, 3, 2, 4, 0, 3, 0, 1, 0, 2, 0, 1, 1, 2, 0, 1, 2, 2, 4, 1, 7, 0, 1, 0, 2, 0, 1, 1, 2, 0, 1, 2, 2, 0, 1, 4, 2, 0, 1, 5, 2, 0, 1, 3, 2, 0, 1, 6, 2]
set_option maxRecDepth 1000000 in
theorem ckie_94 : ck_in0 cktb_94 ckcn_94 ckpt_94 4000 ckce_94_0 = true := by decide +kernel
theorem ckco_94 : ck_CO ckcn_94 := ck_con (tab := cktb_94) (pats := ckpt_94) (List.forall_mem_cons.mpr ⟨ckco_93, (fun _ h => absurd h List.not_mem_nil)⟩) ckie_94 (fun _ h => absurd h List.not_mem_nil)
def ckpt_95 : List ck_Pt := [(((4, [(0, .ofNat 0, .ofNat 6), (1, .ofNat 0, .ofNat 2), (2, .negSucc 2147483647, .ofNat 2147483647), (3, .ofNat 0, .ofNat 6)], [], [], []), 6, [(0, (2, (.ofNat 18, []))), (1, (2, (.ofNat 39, []))), (2, (0, (.ofNat 0, [(0, .ofNat 1)]))), (3, (0, (.ofNat 0, [(1, .ofNat 1)]))), (4, (0, (.ofNat 0, [(2, .ofNat 1)]))), (5, (0, (.ofNat 0, [(3, .ofNat 1)])))], []), (.ofNat 10000000, [(3, .negSucc 0)]))]
def cktb_95 : List ck_Co := []
def ckce_95_0 : List Nat := [0, 4, 2, 0, 4, 0, 1, 0, 2, 0, 1, 1, 2, 0, 0, 0, 0]
def ckce_95_1 : List Nat := [0, 3, 0, 1, 4, 0, 3, 0, 1, 0, 2, 0, 1, 1, 2, 0, 1, 2, 2, 0, 4, 0, 25, 2, 0, 4, 0, 1, 0, 2, 0, 1, 1, 2, 0, 1, 6, 2, 2, 1, 3, 2, 0, 42, 2, 0, 4, 0, 1, 0, 2, 0, 1, 1, 2, 0, 1, 8, 2, 2, 1, 3, 2]
set_option maxRecDepth 1000000 in
theorem ckie_95 : ck_in0 cktb_95 ckcn_95 ckpt_95 4000 ckce_95_0 = true := by decide +kernel
set_option maxRecDepth 1000000 in
theorem ckip_95_0 : ∀ p, ckpt_95[0]? = some p → ck_inP cktb_95 ckcn_95 ckpt_95 4000 p ckce_95_1 = true := by
  intro p hp
  cases hp
  decide +kernel
theorem ckco_95 : ck_CO ckcn_95 := ck_con (tab := cktb_95) (pats := ckpt_95) (fun _ h => absurd h List.not_mem_nil) ckie_95 (List.forall_mem_cons.mpr ⟨⟨4000, ckce_95_1, ckip_95_0 _ rfl⟩, (fun _ h => absurd h List.not_mem_nil)⟩)
def ckpt_96 : List ck_Pt := []
def cktb_96 : List ck_Co := [ckcn_95]
def ckce_96_0 : List Nat := [0, 4, 0, 4, 4, 0, 5, 0, 1, 0, 2, 0, 1, 1, 2, 0, 1, 2, 2, 0, 1, 3, 2, 1999999, 0, 0, 3, 0, 4, 4, 0, 5, 0, 1, 0, 2, 0, 1, 1, 2, 0, 1, 2, 2, 0, 1, 3, 2, 1999999, 0, 0, 13, 3, 0, 2, 0, 1, 4, 2, 0, 1, 0, 2, 0, 1, 4, 0, 5, 0, 1, 0, 2, 0, 1, 1, 2, 0, 1, 2, 2, 0, 1, 3, 2, 0, 1, 5, 2]
set_option maxRecDepth 1000000 in
theorem ckie_96 : ck_in0 cktb_96 ckcn_96 ckpt_96 4000 ckce_96_0 = true := by decide +kernel
theorem ckco_96 : ck_CO ckcn_96 := ck_con (tab := cktb_96) (pats := ckpt_96) (List.forall_mem_cons.mpr ⟨ckco_95, (fun _ h => absurd h List.not_mem_nil)⟩) ckie_96 (fun _ h => absurd h List.not_mem_nil)
def ckpt_97 : List ck_Pt := [(((4, [(0, .ofNat 0, .ofNat 6), (1, .ofNat 0, .ofNat 2), (2, .negSucc 2147483647, .ofNat 2147483647), (3, .ofNat 0, .ofNat 6)], [], [], []), 6, [(0, (2, (.ofNat 28, []))), (1, (2, (.ofNat 39, []))), (2, (0, (.ofNat 0, [(0, .ofNat 1)]))), (3, (0, (.ofNat 0, [(1, .ofNat 1)]))), (4, (0, (.ofNat 0, [(2, .ofNat 1)]))), (5, (0, (.ofNat 0, [(3, .ofNat 1)])))], []), (.ofNat 10000000, [(3, .negSucc 0)]))]
def cktb_97 : List ck_Co := []
def ckce_97_0 : List Nat := [0, 4, 2, 0, 4, 0, 1, 0, 2, 0, 1, 1, 2, 0, 0, 0, 0]
def ckce_97_1 : List Nat := [0, 3, 0, 1, 4, 0, 3, 0, 1, 0, 2, 0, 1, 1, 2, 0, 1, 2, 2, 0, 4, 0, 25, 2, 0, 4, 0, 1, 0, 2, 0, 1, 1, 2, 0, 1, 6, 2, 2, 1, 3, 2, 0, 42, 2, 0, 4, 0, 1, 0, 2, 0, 1, 1, 2, 0, 1, 8, 2, 2, 1, 3, 2]
set_option maxRecDepth 1000000 in
theorem ckie_97 : ck_in0 cktb_97 ckcn_97 ckpt_97 4000 ckce_97_0 = true := by decide +kernel
set_option maxRecDepth 1000000 in
theorem ckip_97_0 : ∀ p, ckpt_97[0]? = some p → ck_inP cktb_97 ckcn_97 ckpt_97 4000 p ckce_97_1 = true := by
  intro p hp
  cases hp
  decide +kernel
theorem ckco_97 : ck_CO ckcn_97 := ck_con (tab := cktb_97) (pats := ckpt_97) (fun _ h => absurd h List.not_mem_nil) ckie_97 (List.forall_mem_cons.mpr ⟨⟨4000, ckce_97_1, ckip_97_0 _ rfl⟩, (fun _ h => absurd h List.not_mem_nil)⟩)
def ckpt_98 : List ck_Pt := []
def cktb_98 : List ck_Co := [ckcn_97]
def ckce_98_0 : List Nat := [0, 4, 0, 4, 4, 0, 5, 0, 1, 0, 2, 0, 1, 1, 2, 0, 1, 2, 2, 0, 1, 3, 2, 1999999, 0, 0, 3, 0, 4, 4, 0, 5, 0, 1, 0, 2, 0, 1, 1, 2, 0, 1, 2, 2, 0, 1, 3, 2, 1999999, 0, 0, 13, 3, 0, 2, 0, 1, 4, 2, 0, 1, 0, 2, 0, 1, 4, 0, 5, 0, 1, 0, 2, 0, 1, 1, 2, 0, 1, 2, 2, 0, 1, 3, 2, 0, 1, 5, 2]
set_option maxRecDepth 1000000 in
theorem ckie_98 : ck_in0 cktb_98 ckcn_98 ckpt_98 4000 ckce_98_0 = true := by decide +kernel
theorem ckco_98 : ck_CO ckcn_98 := ck_con (tab := cktb_98) (pats := ckpt_98) (List.forall_mem_cons.mpr ⟨ckco_97, (fun _ h => absurd h List.not_mem_nil)⟩) ckie_98 (fun _ h => absurd h List.not_mem_nil)
def ckpt_99 : List ck_Pt := [(((3, [(0, .ofNat 0, .ofNat 6), (1, .negSucc 2147483647, .ofNat 2147483647), (2, .ofNat 0, .ofNat 3)], [], [(74, (.ofNat 0, []), (.ofNat 0, [(1, .ofNat 1)])), (70, (.ofNat 8, []), (.ofNat 0, [(1, .ofNat 1)])), (72, (.ofNat 0, []), (.ofNat 0, [(0, .ofNat 1)])), (70, (.ofNat 9, []), (.ofNat 0, [(0, .ofNat 1)])), (71, (.ofNat 0, []), (.negSucc 0, [])), (70, (.ofNat 0, []), (.ofNat 1, []))], []), 34, [(0, (2, (.ofNat 70, []))), (1, (2, (.ofNat 18, []))), (2, (2, (.ofNat 39, []))), (3, (0, (.ofNat 0, [(2, .ofNat 1)])))], []), (.ofNat 10000000, [(2, .negSucc 0)]))]
def cktb_99 : List ck_Co := [ckcn_95]
def ckce_99_0 : List Nat := [0, 22, 2, 0, 3, 0, 1, 0, 2, 0, 1, 1, 2, 0, 0]
def ckce_99_1 : List Nat := [0, 3, 4, 0, 0, 0, 8, 3, 0, 2, 0, 1, 0, 2, 0, 1, 2, 2, 0, 3, 2, 0, 3, 0, 1, 0, 2, 0, 1, 1, 2, 2, 1, 2, 2]
set_option maxRecDepth 1000000 in
theorem ckie_99 : ck_in0 cktb_99 ckcn_99 ckpt_99 4000 ckce_99_0 = true := by decide +kernel
set_option maxRecDepth 1000000 in
theorem ckip_99_0 : ∀ p, ckpt_99[0]? = some p → ck_inP cktb_99 ckcn_99 ckpt_99 4000 p ckce_99_1 = true := by
  intro p hp
  cases hp
  decide +kernel
theorem ckco_99 : ck_CO ckcn_99 := ck_con (tab := cktb_99) (pats := ckpt_99) (List.forall_mem_cons.mpr ⟨ckco_95, (fun _ h => absurd h List.not_mem_nil)⟩) ckie_99 (List.forall_mem_cons.mpr ⟨⟨4000, ckce_99_1, ckip_99_0 _ rfl⟩, (fun _ h => absurd h List.not_mem_nil)⟩)
def ckpt_100 : List ck_Pt := [(((8, [(0, .ofNat 0, .ofNat 7), (1, .ofNat 1, .ofNat 2999), (2, .ofNat 0, .ofNat 2998), (3, .ofNat 0, .ofNat 5), (4, .negSucc 2147483647, .ofNat 2147483647), (5, .negSucc 2147483647, .ofNat 2147483647), (6, .negSucc 0, .ofNat 7), (7, .ofNat 0, .ofNat 3)], [([(1, .ofNat 1), (2, .negSucc 0)], .ofNat 1, .ofNat 2999)], [(74, (.ofNat 0, [(1, .ofNat 1)]), (.ofNat 0, [(5, .ofNat 1)])), (74, (.negSucc 0, [(1, .ofNat 1), (2, .negSucc 0)]), (.ofNat 0, [(4, .ofNat 1)])), (72, (.ofNat 0, [(1, .ofNat 1)]), (.ofNat 1, [(3, .ofNat 1)])), (71, (.ofNat 0, [(1, .ofNat 1)]), (.negSucc 0, [(1, .ofNat 1), (2, .negSucc 0)])), (70, (.ofNat 0, []), (.ofNat 0, [(1, .ofNat 1)])), (72, (.negSucc 0, [(1, .ofNat 1), (2, .negSucc 0)]), (.ofNat 0, [(3, .ofNat 1)]))], [(6, (.ofNat 0, []), (.ofNat 0, [(1, .ofNat 1)]))]), 73, [(0, (2, (.ofNat 70, []))), (1, (2, (.ofNat 18, []))), (2, (0, (.negSucc 0, [(1, .ofNat 1), (2, .negSucc 0)]))), (3, (0, (.ofNat 0, [(0, .ofNat 1)]))), (4, (0, (.ofNat 0, [(6, .ofNat 1)]))), (5, (0, (.ofNat 0, [(7, .ofNat 1)])))], []), (.ofNat 10000000, [(7, .negSucc 0)]))]
def cktb_100 : List ck_Co := []
def ckce_100_0 : List Nat := [0, 5, 0, 34, 2, 0, 8, 0, 1, 0, 2, 0, 1, 1, 2, 0, 1, 2, 2, 0, 1, 3, 2, 0, 1, 4, 2, 0, 1, 6, 2, 1, 0, 0, 0, 0, 40, 2, 0, 8, 0, 1, 0, 2, 0, 1, 1, 2, 0, 1, 2, 2, 0, 1, 3, 2, 0, 1, 4, 2, 0, 1, 7, 2, 0, 1, 5, 2, 0, 0]
def ckce_100_1 : List Nat := [0, 3, 1, 3, 6, 0, 1, 1, 2, 0, 6, 4, 0, 4, 0, 1, 0, 2, 0, 1, 1, 2, 0, 1, 2, 2, 0, 1, 3, 2, 0, 33, 0, 19, 2, 0, 8, 0, 1, 0, 2, 0, 1, 1, 2, 0, 1, 2, 2, 0, 1, 3, 2, 0, 1, 4, 2, 0, 1, 5, 2, 0, 1, 6, 2, 2, 1, 7, 2, 0, 7, 2, 0, 8, 0, 1, 0, 2, 0, 1, 1, 2, 0, 1, 2, 2, 0, 1, 3, 2, 0, 1, 4, 2, 0, 1, 5, 2, 0, 1, 6, 2, 2, 1, 7, 2]
set_option maxRecDepth 1000000 in
theorem ckie_100 : ck_in0 cktb_100 ckcn_100 ckpt_100 4000 ckce_100_0 = true := by decide +kernel
set_option maxRecDepth 1000000 in
theorem ckip_100_0 : ∀ p, ckpt_100[0]? = some p → ck_inP cktb_100 ckcn_100 ckpt_100 4000 p ckce_100_1 = true := by
  intro p hp
  cases hp
  decide +kernel
theorem ckco_100 : ck_CO ckcn_100 := ck_con (tab := cktb_100) (pats := ckpt_100) (fun _ h => absurd h List.not_mem_nil) ckie_100 (List.forall_mem_cons.mpr ⟨⟨4000, ckce_100_1, ckip_100_0 _ rfl⟩, (fun _ h => absurd h List.not_mem_nil)⟩)
def ckpt_101 : List ck_Pt := [(((3, [(0, .ofNat 0, .ofNat 5), (1, .ofNat 0, .ofNat 7), (2, .ofNat 0, .ofNat 16)], [], [], []), 2, [(0, (2, (.ofNat 55, []))), (1, (0, (.ofNat 0, [(0, .ofNat 1)]))), (2, (0, (.ofNat 0, [(1, .ofNat 1)]))), (3, (0, (.ofNat 0, [(2, .ofNat 1)])))], []), (.ofNat 10000000, [(2, .negSucc 0)]))]
def cktb_101 : List ck_Co := []
def ckce_101_0 : List Nat := [0, 2, 2, 0, 3, 0, 1, 0, 2, 0, 1, 1, 2, 0, 0]
def ckce_101_1 : List Nat := [0, 3, 4, 0, 2, 0, 1, 0, 2, 0, 1, 1, 2, 0, 24, 2, 0, 3, 0, 1, 0, 2, 0, 1, 1, 2, 2, 1, 2, 2]
set_option maxRecDepth 1000000 in
theorem ckie_101 : ck_in0 cktb_101 ckcn_101 ckpt_101 4000 ckce_101_0 = true := by decide +kernel
set_option maxRecDepth 1000000 in
theorem ckip_101_0 : ∀ p, ckpt_101[0]? = some p → ck_inP cktb_101 ckcn_101 ckpt_101 4000 p ckce_101_1 = true := by
  intro p hp
  cases hp
  decide +kernel
theorem ckco_101 : ck_CO ckcn_101 := ck_con (tab := cktb_101) (pats := ckpt_101) (fun _ h => absurd h List.not_mem_nil) ckie_101 (List.forall_mem_cons.mpr ⟨⟨4000, ckce_101_1, ckip_101_0 _ rfl⟩, (fun _ h => absurd h List.not_mem_nil)⟩)
def ckpt_102 : List ck_Pt := []
def cktb_102 : List ck_Co := []
def ckce_102_0 : List Nat := [0, 6, 4, 0, 3, 0, 1, 0, 2, 0, 1, 1, 2, 0, 0]
set_option maxRecDepth 1000000 in
theorem ckie_102 : ck_in0 cktb_102 ckcn_102 ckpt_102 4000 ckce_102_0 = true := by decide +kernel
theorem ckco_102 : ck_CO ckcn_102 := ck_con (tab := cktb_102) (pats := ckpt_102) (fun _ h => absurd h List.not_mem_nil) ckie_102 (fun _ h => absurd h List.not_mem_nil)
def ckpt_103 : List ck_Pt := [(((7, [(0, .ofNat 1, .ofNat 3000), (1, .ofNat 0, .ofNat 2999), (2, .ofNat 5, .ofNat 6), (3, .negSucc 2147483647, .ofNat 2147483647), (4, .ofNat 0, .ofNat 15), (5, .ofNat 0, .ofNat 100000), (6, .ofNat 0, .ofNat 8)], [([(0, .ofNat 1), (1, .negSucc 0)], .ofNat 1, .ofNat 3000), ([(0, .ofNat 1), (5, .ofNat 1)], .ofNat 0, .ofNat 3000)], [(70, (.ofNat 10, []), (.ofNat 0, [(3, .ofNat 1)])), (70, (.ofNat 0, []), (.ofNat 0, [(0, .ofNat 1), (5, .ofNat 1)])), (72, (.negSucc 0, [(0, .ofNat 1), (1, .negSucc 0)]), (.ofNat 0, [(2, .ofNat 1)]))], [(0, (.ofNat 0, []), (.ofNat 0, [])), (6, (.ofNat 0, []), (.ofNat 0, [(0, .ofNat 1), (5, .ofNat 1)]))]), 36, [(0, (2, (.ofNat 70, []))), (1, (2, (.ofNat 18, []))), (2, (2, (.ofNat 55, []))), (3, (0, (.negSucc 0, [(0, .ofNat 1), (1, .negSucc 0)]))), (4, (0, (.ofNat 0, [(2, .ofNat 1)]))), (5, (0, (.ofNat 0, []))), (6, (0, (.negSucc 0, [(4, .ofNat 1)]))), (7, (0, (.ofNat 0, [(6, .ofNat 1)])))], []), (.ofNat 10000000, [(6, .negSucc 0)])), (((8, [(0, .ofNat 1, .ofNat 3000), (1, .ofNat 0, .ofNat 2999), (2, .ofNat 5, .ofNat 5), (3, .negSucc 2147483647, .ofNat 2147483647), (4, .ofNat 0, .ofNat 15), (5, .ofNat 0, .ofNat 100000), (6, .negSucc 2147483647, .ofNat 2147483647), (7, .ofNat 0, .ofNat 8)], [([(0, .ofNat 1), (1, .negSucc 0)], .ofNat 1, .ofNat 3000), ([(0, .ofNat 1), (5, .ofNat 1)], .ofNat 0, .ofNat 3000)], [(70, (.ofNat 10, []), (.ofNat 0, [(3, .ofNat 1)])), (70, (.ofNat 0, []), (.ofNat 0, [(0, .ofNat 1), (5, .ofNat 1)])), (72, (.negSucc 0, [(0, .ofNat 1), (1, .negSucc 0)]), (.ofNat 0, [(2, .ofNat 1)]))], [(0, (.ofNat 0, []), (.ofNat 0, [])), (6, (.ofNat 0, []), (.ofNat 0, [(0, .ofNat 1), (5, .ofNat 1)]))]), 36, [(0, (2, (.ofNat 70, []))), (1, (2, (.ofNat 18, []))), (2, (2, (.ofNat 55, []))), (3, (0, (.negSucc 0, [(0, .ofNat 1), (1, .negSucc 0)]))), (4, (0, (.ofNat 0, [(2, .ofNat 1)]))), (5, (0, (.ofNat 0, [(6, .ofNat 1)]))), (6, (0, (.negSucc 0, [(4, .ofNat 1)]))), (7, (0, (.ofNat 0, [(7, .ofNat 1)])))], []), (.ofNat 10000000, [(7, .negSucc 0)]))]
def cktb_103 : List ck_Co := [ckcn_58, ckcn_100, ckcn_102]
def ckce_103_0 : List Nat := [0, 8, 3, 0, 1, 0, 1, 2, 2, 0, 14, 2, 0, 7, 0, 1, 0, 2, 0, 1, 1, 2, 0, 1, 2, 2, 0, 1, 3, 2, 0, 1, 5, 2, 0, 0, 0, 0, 0, 14, 2, 1, 8, 0, 1, 0, 2, 0, 1, 1, 2, 0, 1, 2, 2, 0, 1, 5, 2, 0, 1, 7, 2, 0, 0, 0, 1, 3, 2, 0, 0]
def ckce_103_1 : List Nat := [0, 4, 4, 0, 4, 0, 1, 0, 2, 0, 1, 1, 2, 0, 1, 2, 2, 0, 1, 5, 2, 0, 3, 4, 0, 4, 0, 1, 0, 2, 0, 1, 1, 2, 0, 1, 2, 2, 0, 1, 5, 2, 0, 3, 0, 8, 2, 0, 7, 0, 1, 0, 2, 0, 1, 1, 2, 0, 1, 2, 2, 0, 1, 3, 2, 0, 1, 4, 2, 0, 1, 5, 2, 2, 1, 6, 2, 0, 3, 0, 2, 2, 0, 7, 0, 1, 0, 2, 0, 1, 1, 2, 0, 1, 2, 2, 0, 1, 3, 2, 0, 1, 4, 2, 0, 1, 5, 2, 2, 1, 6, 2, 0, 8, 2, 0, 7, 0, 1, 0, 2, 0, 1, 1, 2, 0, 1, 2, 2, 0, 1, 3, 2, 0, 1, 4, 2, 0, 1, 5, 2, 2, 1, 6, 2]
def ckce_103_2 : List Nat := [0, 4, 4, 0, 4, 0, 1, 0, 2, 0, 1, 1, 2, 0, 1, 2, 2, 0, 1, 5, 2, 0, 3, 4, 0, 4, 0, 1, 0, 2, 0, 1, 1, 2, 0, 1, 2, 2, 0, 1, 5, 2, 0, 3, 0, 6, 0, 2, 2, 1, 8, 0, 1, 0, 2, 0, 1, 1, 2, 0, 1, 2, 2, 0, 1, 3, 2, 0, 1, 4, 2, 0, 1, 5, 2, 0, 1, 6, 2, 2, 1, 7, 2, 0, 4, 0, 4, 3, 1, 4, 0, 1, 7, 2, 0, 2, 0, 2, 5, 2, 0, 2, 1, 2, 5, 2, 0, 1, 2, 2, 0, 5, 3, 2, 2, 0, 1, 7, 2, 2, 2, 0, 2, 5, 2, 0, 2, 2, 1, 8, 0, 1, 0, 2, 0, 1, 1, 2, 0, 1, 2, 2, 0, 1, 3, 2, 0, 1, 4, 2, 2, 1, 5, 2, 0, 1, 6, 2, 2, 1, 7, 2, 0, 6, 2, 1, 8, 0, 1, 0, 2, 0, 1, 1, 2, 0, 1, 2, 2, 0, 1, 3, 2, 0, 1, 4, 2, 0, 1, 5, 2, 0, 1, 6, 2, 2, 1, 7, 2, 0, 3, 0, 2, 2, 1, 8, 0, 1, 0, 2, 0, 1, 1, 2, 0, 1, 2, 2, 0, 1, 3, 2, 0, 1, 4, 2, 0, 1, 5, 2, 0, 1, 6, 2, 2, 1, 7, 2, 0, 6, 0, 2, 2, 1, 8, 0, 1, 0, 2, 0, 1, 1, 2, 0, 1, 2, 2, 0, 1, 3, 2, 0, 1, 4, 2, 0, 1, 5, 2, 0, 1, 6, 2, 2, 1, 7, 2, 0, 4, 0, 4, 3, 1, 4, 0, 1, 7, 2, 0, 2, 0, 2, 5, 2, 0, 2, 1, 2, 5, 2, 0, 1, 2, 2, 0, 5, 3, 2, 2, 0, 1, 7, 2, 2, 2, 0, 2, 5, 2, 0, 2, 2, 1, 8, 0, 1, 0, 2, 0, 1, 1, 2, 0, 1, 2, 2, 0, 1, 3, 2, 0, 1, 4, 2, 2, 1, 5, 2, 0, 1, 6, 2, 2, 1, 7, 2, 0, 6, 2, 1, 8, 0, 1, 0, 2, 0, 1, 1, 2, 0, 1, 2, 2, 0, 1, 3, 2, 0, 1, 4, 2, 0, 1, 5, 2, 0, 1, 6, 2, 2, 1, 7, 2]
set_option maxRecDepth 1000000 in
theorem ckie_103 : ck_in0 cktb_103 ckcn_103 ckpt_103 4000 ckce_103_0 = true := by decide +kernel
set_option maxRecDepth 1000000 in
theorem ckip_103_0 : ∀ p, ckpt_103[0]? = some p → ck_inP cktb_103 ckcn_103 ckpt_103 4000 p ckce_103_1 = true := by
  intro p hp
  cases hp
  decide +kernel
set_option maxRecDepth 1000000 in
theorem ckip_103_1 : ∀ p, ckpt_103[1]? = some p → ck_inP cktb_103 ckcn_103 ckpt_103 4000 p ckce_103_2 = true := by
  intro p hp
  cases hp
  decide +kernel
theorem ckco_103 : ck_CO ckcn_103 := ck_con (tab := cktb_103) (pats := ckpt_103) (List.forall_mem_cons.mpr ⟨ckco_58, (List.forall_mem_cons.mpr ⟨ckco_100, (List.forall_mem_cons.mpr ⟨ckco_102, (fun _ h => absurd h List.not_mem_nil)⟩)⟩)⟩) ckie_103 (List.forall_mem_cons.mpr ⟨⟨4000, ckce_103_1, ckip_103_0 _ rfl⟩, (List.forall_mem_cons.mpr ⟨⟨4000, ckce_103_2, ckip_103_1 _ rfl⟩, (fun _ h => absurd h List.not_mem_nil)⟩)⟩)
def ckpt_104 : List ck_Pt := []
def cktb_104 : List ck_Co := [ckcn_101, ckcn_103]
def ckce_104_0 : List Nat := [0, 6, 4, 0, 4, 0, 1, 0, 2, 0, 1, 1, 2, 0, 1, 2, 2, 0, 0, 0, 3, 3, 0, 2, 0, 1, 2, 2, 0, 1, 0, 2, 0, 7, 3, 1, 3, 0, 1, 1, 2, 0, 0, 2, 1, 2, 2, 4, 0, 4, 0, 1, 0, 2, 0, 1, 1, 2, 0, 1, 2, 2, 0, 1, 4, 2]
set_option maxRecDepth 1000000 in
theorem ckie_104 : ck_in0 cktb_104 ckcn_104 ckpt_104 4000 ckce_104_0 = true := by decide +kernel
theorem ckco_104 : ck_CO ckcn_104 := ck_con (tab := cktb_104) (pats := ckpt_104) (List.forall_mem_cons.mpr ⟨ckco_101, (List.forall_mem_cons.mpr ⟨ckco_103, (fun _ h => absurd h List.not_mem_nil)⟩)⟩) ckie_104 (fun _ h => absurd h List.not_mem_nil)
def ckpt_105 : List ck_Pt := [(((7, [(0, .ofNat 1, .ofNat 3000), (1, .ofNat 0, .ofNat 2999), (2, .ofNat 4, .ofNat 6), (3, .negSucc 2147483647, .ofNat 2147483647), (4, .ofNat 0, .ofNat 15), (5, .ofNat 0, .ofNat 100000), (6, .ofNat 0, .ofNat 8)], [([(0, .ofNat 1), (1, .negSucc 0)], .ofNat 1, .ofNat 3000), ([(0, .ofNat 1), (5, .ofNat 1)], .ofNat 0, .ofNat 3000)], [(70, (.ofNat 10, []), (.ofNat 0, [(3, .ofNat 1)])), (70, (.ofNat 0, []), (.ofNat 0, [(0, .ofNat 1), (5, .ofNat 1)])), (72, (.negSucc 0, [(0, .ofNat 1), (1, .negSucc 0)]), (.ofNat 0, [(2, .ofNat 1)]))], [(0, (.ofNat 0, []), (.ofNat 0, [])), (6, (.ofNat 0, []), (.ofNat 0, [(0, .ofNat 1), (5, .ofNat 1)]))]), 36, [(0, (2, (.ofNat 70, []))), (1, (2, (.ofNat 18, []))), (2, (2, (.ofNat 55, []))), (3, (0, (.negSucc 0, [(0, .ofNat 1), (1, .negSucc 0)]))), (4, (0, (.ofNat 0, [(2, .ofNat 1)]))), (5, (0, (.ofNat 0, []))), (6, (0, (.negSucc 0, [(4, .ofNat 1)]))), (7, (0, (.ofNat 0, [(6, .ofNat 1)])))], []), (.ofNat 10000000, [(6, .negSucc 0)])), (((8, [(0, .ofNat 1, .ofNat 3000), (1, .ofNat 0, .ofNat 2999), (2, .ofNat 4, .ofNat 5), (3, .negSucc 2147483647, .ofNat 2147483647), (4, .ofNat 0, .ofNat 15), (5, .ofNat 0, .ofNat 100000), (6, .negSucc 2147483647, .ofNat 2147483647), (7, .ofNat 0, .ofNat 8)], [([(0, .ofNat 1), (1, .negSucc 0)], .ofNat 1, .ofNat 3000), ([(0, .ofNat 1), (5, .ofNat 1)], .ofNat 0, .ofNat 3000)], [(70, (.ofNat 10, []), (.ofNat 0, [(3, .ofNat 1)])), (70, (.ofNat 0, []), (.ofNat 0, [(0, .ofNat 1), (5, .ofNat 1)])), (72, (.negSucc 0, [(0, .ofNat 1), (1, .negSucc 0)]), (.ofNat 0, [(2, .ofNat 1)]))], [(0, (.ofNat 0, []), (.ofNat 0, [])), (6, (.ofNat 0, []), (.ofNat 0, [(0, .ofNat 1), (5, .ofNat 1)]))]), 36, [(0, (2, (.ofNat 70, []))), (1, (2, (.ofNat 18, []))), (2, (2, (.ofNat 55, []))), (3, (0, (.negSucc 0, [(0, .ofNat 1), (1, .negSucc 0)]))), (4, (0, (.ofNat 0, [(2, .ofNat 1)]))), (5, (0, (.ofNat 0, [(6, .ofNat 1)]))), (6, (0, (.negSucc 0, [(4, .ofNat 1)]))), (7, (0, (.ofNat 0, [(7, .ofNat 1)])))], []), (.ofNat 10000000, [(7, .negSucc 0)]))]
def cktb_105 : List ck_Co := [ckcn_58, ckcn_100, ckcn_104]
def ckce_105_0 : List Nat := [0, 8, 3, 0, 1, 0, 1, 2, 2, 0, 14, 2, 0, 7, 0, 1, 0, 2, 0, 1, 1, 2, 0, 1, 2, 2, 0, 1, 3, 2, 0, 1, 5, 2, 0, 0, 0, 0, 0, 14, 2, 1, 8, 0, 1, 0, 2, 0, 1, 1, 2, 0, 1, 2, 2, 0, 1, 5, 2, 0, 1, 7, 2, 0, 0, 0, 1, 3, 2, 0, 0]
def ckce_105_1 : List Nat := [0, 4, 4, 0, 4, 0, 1, 0, 2, 0, 1, 1, 2, 0, 1, 2, 2, 0, 1, 5, 2, 0, 3, 4, 0, 4, 0, 1, 0, 2, 0, 1, 1, 2, 0, 1, 2, 2, 0, 1, 5, 2, 0, 3, 0, 8, 2, 0, 7, 0, 1, 0, 2, 0, 1, 1, 2, 0, 1, 2, 2, 0, 1, 3, 2, 0, 1, 4, 2, 0, 1, 5, 2, 2, 1, 6, 2, 0, 3, 0, 2, 2, 0, 7, 0, 1, 0, 2, 0, 1, 1, 2, 0, 1, 2, 2, 0, 1, 3, 2, 0, 1, 4, 2, 0, 1, 5, 2, 2, 1, 6, 2, 0, 8, 2, 0, 7, 0, 1, 0, 2, 0, 1, 1, 2, 0, 1, 2, 2, 0, 1, 3, 2, 0, 1, 4, 2, 0, 1, 5, 2, 2, 1, 6, 2]
def ckce_105_2 : List Nat := [0, 4, 4, 0, 4, 0, 1, 0, 2, 0, 1, 1, 2, 0, 1, 2, 2, 0, 1, 5, 2, 0, 3, 4, 0, 4, 0, 1, 0, 2, 0, 1, 1, 2, 0, 1, 2, 2, 0, 1, 5, 2, 0, 3, 0, 6, 0, 2, 2, 1, 8, 0, 1, 0, 2, 0, 1, 1, 2, 0, 1, 2, 2, 0, 1, 3, 2, 0, 1, 4, 2, 0, 1, 5, 2, 0, 1, 6, 2, 2, 1, 7, 2, 0, 4, 0, 4, 3, 1, 4, 0, 1, 7, 2, 0, 2, 0, 2, 5, 2, 0, 2, 1, 2, 5, 2, 0, 1, 2, 2, 0, 5, 3, 2, 3, 0, 1, 7, 2, 2, 2, 0, 2, 5, 2, 0, 1, 2, 2, 0, 2, 2, 1, 8, 0, 1, 0, 2, 0, 1, 1, 2, 0, 1, 2, 2, 0, 1, 3, 2, 0, 1, 4, 2, 2, 2, 5, 2, 12, 2, 0, 1, 6, 2, 2, 1, 7, 2, 0, 6, 2, 1, 8, 0, 1, 0, 2, 0, 1, 1, 2, 0, 1, 2, 2, 0, 1, 3, 2, 0, 1, 4, 2, 0, 1, 5, 2, 0, 1, 6, 2, 2, 1, 7, 2, 0, 3, 0, 2, 2, 1, 8, 0, 1, 0, 2, 0, 1, 1, 2, 0, 1, 2, 2, 0, 1, 3, 2, 0, 1, 4, 2, 0, 1, 5, 2, 0, 1, 6, 2, 2, 1, 7, 2, 0, 6, 0, 2, 2, 1, 8, 0, 1, 0, 2, 0, 1, 1, 2, 0, 1, 2, 2, 0, 1, 3, 2, 0, 1, 4, 2, 0, 1, 5, 2, 0, 1, 6, 2, 2, 1, 7, 2, 0, 4, 0, 4, 3, 1, 4, 0, 1, 7, 2, 0, 2, 0, 2, 5, 2, 0, 2, 1, 2, 5, 2, 0, 1, 2, 2, 0, 5, 3, 2, 3, 0, 1, 7, 2, 2, 2, 0, 2, 5, 2, 0, 1, 2, 2, 0, 2, 2, 1, 8, 0, 1, 0, 2, 0, 1, 1, 2, 0, 1, 2, 2, 0, 1, 3, 2, 0, 1, 4, 2, 2, 2, 5, 2, 12, 2, 0, 1, 6, 2, 2, 1, 7, 2, 0, 6, 2, 1, 8, 0, 1, 0, 2, 0, 1, 1, 2, 0, 1, 2, 2, 0, 1, 3, 2, 0, 1, 4, 2, 0, 1, 5, 2, 0, 1, 6, 2, 2, 1, 7, 2]
set_option maxRecDepth 1000000 in
theorem ckie_105 : ck_in0 cktb_105 ckcn_105 ckpt_105 4000 ckce_105_0 = true := by decide +kernel
set_option maxRecDepth 1000000 in
theorem ckip_105_0 : ∀ p, ckpt_105[0]? = some p → ck_inP cktb_105 ckcn_105 ckpt_105 4000 p ckce_105_1 = true := by
  intro p hp
  cases hp
  decide +kernel
set_option maxRecDepth 1000000 in
theorem ckip_105_1 : ∀ p, ckpt_105[1]? = some p → ck_inP cktb_105 ckcn_105 ckpt_105 4000 p ckce_105_2 = true := by
  intro p hp
  cases hp
  decide +kernel
theorem ckco_105 : ck_CO ckcn_105 := ck_con (tab := cktb_105) (pats := ckpt_105) (List.forall_mem_cons.mpr ⟨ckco_58, (List.forall_mem_cons.mpr ⟨ckco_100, (List.forall_mem_cons.mpr ⟨ckco_104, (fun _ h => absurd h List.not_mem_nil)⟩)⟩)⟩) ckie_105 (List.forall_mem_cons.mpr ⟨⟨4000, ckce_105_1, ckip_105_0 _ rfl⟩, (List.forall_mem_cons.mpr ⟨⟨4000, ckce_105_2, ckip_105_1 _ rfl⟩, (fun _ h => absurd h List.not_mem_nil)⟩)⟩)
def ckpt_106 : List ck_Pt := []
def cktb_106 : List ck_Co := [ckcn_101, ckcn_105]
def ckce_106_0 : List Nat := [0, 6, 4, 0, 4, 0, 1, 0, 2, 0, 1, 1, 2, 0, 1, 2, 2, 0, 0, 0, 3, 3, 0, 2, 0, 1, 2, 2, 0, 1, 0, 2, 0, 7, 3, 1, 3, 0, 1, 1, 2, 0, 0, 2, 1, 2, 2, 4, 0, 4, 0, 1, 0, 2, 0, 1, 1, 2, 0, 1, 2, 2, 0, 1, 4, 2]
set_option maxRecDepth 1000000 in
theorem ckie_106 : ck_in0 cktb_106 ckcn_106 ckpt_106 4000 ckce_106_0 = true := by decide +kernel
theorem ckco_106 : ck_CO ckcn_106 := ck_con (tab := cktb_106) (pats := ckpt_106) (List.forall_mem_cons.mpr ⟨ckco_101, (List.forall_mem_cons.mpr ⟨ckco_105, (fun _ h => absurd h List.not_mem_nil)⟩)⟩) ckie_106 (fun _ h => absurd h List.not_mem_nil)
def ckpt_107 : List ck_Pt := [(((7, [(0, .ofNat 1, .ofNat 3000), (1, .ofNat 0, .ofNat 2999), (2, .ofNat 3, .ofNat 6), (3, .negSucc 2147483647, .ofNat 2147483647), (4, .ofNat 0, .ofNat 15), (5, .ofNat 0, .ofNat 100000), (6, .ofNat 0, .ofNat 8)], [([(0, .ofNat 1), (1, .negSucc 0)], .ofNat 1, .ofNat 3000), ([(0, .ofNat 1), (5, .ofNat 1)], .ofNat 0, .ofNat 3000)], [(70, (.ofNat 10, []), (.ofNat 0, [(3, .ofNat 1)])), (70, (.ofNat 0, []), (.ofNat 0, [(0, .ofNat 1), (5, .ofNat 1)])), (72, (.negSucc 0, [(0, .ofNat 1), (1, .negSucc 0)]), (.ofNat 0, [(2, .ofNat 1)]))], [(0, (.ofNat 0, []), (.ofNat 0, [])), (6, (.ofNat 0, []), (.ofNat 0, [(0, .ofNat 1), (5, .ofNat 1)]))]), 36, [(0, (2, (.ofNat 70, []))), (1, (2, (.ofNat 18, []))), (2, (2, (.ofNat 55, []))), (3, (0, (.negSucc 0, [(0, .ofNat 1), (1, .negSucc 0)]))), (4, (0, (.ofNat 0, [(2, .ofNat 1)]))), (5, (0, (.ofNat 0, []))), (6, (0, (.negSucc 0, [(4, .ofNat 1)]))), (7, (0, (.ofNat 0, [(6, .ofNat 1)])))], []), (.ofNat 10000000, [(6, .negSucc 0)])), (((8, [(0, .ofNat 1, .ofNat 3000), (1, .ofNat 0, .ofNat 2999), (2, .ofNat 3, .ofNat 5), (3, .negSucc 2147483647, .ofNat 2147483647), (4, .ofNat 0, .ofNat 15), (5, .ofNat 0, .ofNat 100000), (6, .negSucc 2147483647, .ofNat 2147483647), (7, .ofNat 0, .ofNat 8)], [([(0, .ofNat 1), (1, .negSucc 0)], .ofNat 1, .ofNat 3000), ([(0, .ofNat 1), (5, .ofNat 1)], .ofNat 0, .ofNat 3000)], [(70, (.ofNat 10, []), (.ofNat 0, [(3, .ofNat 1)])), (70, (.ofNat 0, []), (.ofNat 0, [(0, .ofNat 1), (5, .ofNat 1)])), (72, (.negSucc 0, [(0, .ofNat 1), (1, .negSucc 0)]), (.ofNat 0, [(2, .ofNat 1)]))], [(0, (.ofNat 0, []), (.ofNat 0, [])), (6, (.ofNat 0, []), (.ofNat 0, [(0, .ofNat 1), (5, .ofNat 1)]))]), 36, [(0, (2, (.ofNat 70, []))), (1, (2, (.ofNat 18, []))), (2, (2, (.ofNat 55, []))), (3, (0, (.negSucc 0, [(0, .ofNat 1), (1, .negSucc 0)]))), (4, (0, (.ofNat 0, [(2, .ofNat 1)]))), (5, (0, (.ofNat 0, [(6, .ofNat 1)]))), (6, (0, (.negSucc 0, [(4, .ofNat 1)]))), (7, (0, (.ofNat 0, [(7, .ofNat 1)])))], []), (.ofNat 10000000, [(7, .negSucc 0)]))]
def cktb_107 : List ck_Co := [ckcn_58, ckcn_100, ckcn_106]
def ckce_107_0 : List Nat := [0, 8, 3, 0, 1, 0, 1, 2, 2, 0, 14, 2, 0, 7, 0, 1, 0, 2, 0, 1, 1, 2, 0, 1, 2, 2, 0, 1, 3, 2, 0, 1, 5, 2, 0, 0, 0, 0, 0, 14, 2, 1, 8, 0, 1, 0, 2, 0, 1, 1, 2, 0, 1, 2, 2, 0, 1, 5, 2, 0, 1, 7, 2, 0, 0, 0, 1, 3, 2, 0, 0]
def ckce_107_1 : List Nat := [0, 4, 4, 0, 4, 0, 1, 0, 2, 0, 1, 1, 2, 0, 1, 2, 2, 0, 1, 5, 2, 0, 3, 4, 0, 4, 0, 1, 0, 2, 0, 1, 1, 2, 0, 1, 2, 2, 0, 1, 5, 2, 0, 3, 0, 8, 2, 0, 7, 0, 1, 0, 2, 0, 1, 1, 2, 0, 1, 2, 2, 0, 1, 3, 2, 0, 1, 4, 2, 0, 1, 5, 2, 2, 1, 6, 2, 0, 3, 0, 2, 2, 0, 7, 0, 1, 0, 2, 0, 1, 1, 2, 0, 1, 2, 2, 0, 1, 3, 2, 0, 1, 4, 2, 0, 1, 5, 2, 2, 1, 6, 2, 0, 8, 2, 0, 7, 0, 1, 0, 2, 0, 1, 1, 2, 0, 1, 2, 2, 0, 1, 3, 2, 0, 1, 4, 2, 0, 1, 5, 2, 2, 1, 6, 2]
def ckce_107_2 : List Nat := [0, 4, 4, 0, 4, 0, 1, 0, 2, 0, 1, 1, 2, 0, 1, 2, 2, 0, 1, 5, 2, 0, 3, 4, 0, 4, 0, 1, 0, 2, 0, 1, 1, 2, 0, 1, 2, 2, 0, 1, 5, 2, 0, 3, 0, 6, 0, 2, 2, 1, 8, 0, 1, 0, 2, 0, 1, 1, 2, 0, 1, 2, 2, 0, 1, 3, 2, 0, 1, 4, 2, 0, 1, 5, 2, 0, 1, 6, 2, 2, 1, 7, 2, 0, 4, 0, 4, 3, 1, 4, 0, 1, 7, 2, 0, 2, 0, 2, 5, 2, 0, 2, 1, 2, 5, 2, 0, 1, 2, 2, 0, 5, 3, 2, 3, 0, 1, 7, 2, 2, 2, 0, 2, 5, 2, 0, 1, 2, 2, 0, 2, 2, 1, 8, 0, 1, 0, 2, 0, 1, 1, 2, 0, 1, 2, 2, 0, 1, 3, 2, 0, 1, 4, 2, 2, 2, 5, 2, 12, 2, 0, 1, 6, 2, 2, 1, 7, 2, 0, 6, 2, 1, 8, 0, 1, 0, 2, 0, 1, 1, 2, 0, 1, 2, 2, 0, 1, 3, 2, 0, 1, 4, 2, 0, 1, 5, 2, 0, 1, 6, 2, 2, 1, 7, 2, 0, 3, 0, 2, 2, 1, 8, 0, 1, 0, 2, 0, 1, 1, 2, 0, 1, 2, 2, 0, 1, 3, 2, 0, 1, 4, 2, 0, 1, 5, 2, 0, 1, 6, 2, 2, 1, 7, 2, 0, 6, 0, 2, 2, 1, 8, 0, 1, 0, 2, 0, 1, 1, 2, 0, 1, 2, 2, 0, 1, 3, 2, 0, 1, 4, 2, 0, 1, 5, 2, 0, 1, 6, 2, 2, 1, 7, 2, 0, 4, 0, 4, 3, 1, 4, 0, 1, 7, 2, 0, 2, 0, 2, 5, 2, 0, 2, 1, 2, 5, 2, 0, 1, 2, 2, 0, 5, 3, 2, 3, 0, 1, 7, 2, 2, 2, 0, 2, 5, 2, 0, 1, 2, 2, 0, 2, 2, 1, 8, 0, 1, 0, 2, 0, 1, 1, 2, 0, 1, 2, 2, 0, 1, 3, 2, 0, 1, 4, 2, 2, 2, 5, 2, 12, 2, 0, 1, 6, 2, 2, 1, 7, 2, 0, 6, 2, 1, 8, 0, 1, 0, 2, 0, 1, 1, 2, 0, 1, 2, 2, 0, 1, 3, 2, 0, 1, 4, 2, 0, 1, 5, 2, 0, 1, 6, 2, 2, 1, 7, 2]
set_option maxRecDepth 1000000 in
theorem ckie_107 : ck_in0 cktb_107 ckcn_107 ckpt_107 4000 ckce_107_0 = true := by decide +kernel
set_option maxRecDepth 1000000 in
theorem ckip_107_0 : ∀ p, ckpt_107[0]? = some p → ck_inP cktb_107 ckcn_107 ckpt_107 4000 p ckce_107_1 = true := by
  intro p hp
  cases hp
  decide +kernel
set_option maxRecDepth 1000000 in
theorem ckip_107_1 : ∀ p, ckpt_107[1]? = some p → ck_inP cktb_107 ckcn_107 ckpt_107 4000 p ckce_107_2 = true := by
  intro p hp
  cases hp
  decide +kernel
theorem ckco_107 : ck_CO ckcn_107 := ck_con (tab := cktb_107) (pats := ckpt_107) (List.forall_mem_cons.mpr ⟨ckco_58, (List.forall_mem_cons.mpr ⟨ckco_100, (List.forall_mem_cons.mpr ⟨ckco_106, (fun _ h => absurd h List.not_mem_nil)⟩)⟩)⟩) ckie_107 (List.forall_mem_cons.mpr ⟨⟨4000, ckce_107_1, ckip_107_0 _ rfl⟩, (List.forall_mem_cons.mpr ⟨⟨4000, ckce_107_2, ckip_107_1 _ rfl⟩, (fun _ h => absurd h List.not_mem_nil)⟩)⟩)
def ckpt_108 : List ck_Pt := []
def cktb_108 : List ck_Co := [ckcn_101, ckcn_107]
def ckce_108_0 : List Nat := [0, 6, 4, 0, 4, 0, 1, 0, 2, 0, 1, 1, 2, 0, 1, 2, 2, 0, 0, 0, 3, 3, 0, 2, 0, 1, 2, 2, 0, 1, 0, 2, 0, 7, 3, 1, 3, 0, 1, 1, 2, 0, 0, 2, 1, 2, 2, 4, 0, 4, 0, 1, 0, 2, 0, 1, 1, 2, 0, 1, 2, 2, 0, 1, 4, 2]
set_option maxRecDepth 1000000 in
theorem ckie_108 : ck_in0 cktb_108 ckcn_108 ckpt_108 4000 ckce_108_0 = true := by decide +kernel
theorem ckco_108 : ck_CO ckcn_108 := ck_con (tab := cktb_108) (pats := ckpt_108) (List.forall_mem_cons.mpr ⟨ckco_101, (List.forall_mem_cons.mpr ⟨ckco_107, (fun _ h => absurd h List.not_mem_nil)⟩)⟩) ckie_108 (fun _ h => absurd h List.not_mem_nil)
def ckpt_109 : List ck_Pt := [(((7, [(0, .ofNat 1, .ofNat 3000), (1, .ofNat 0, .ofNat 2999), (2, .ofNat 2, .ofNat 6), (3, .negSucc 2147483647, .ofNat 2147483647), (4, .ofNat 0, .ofNat 15), (5, .ofNat 0, .ofNat 100000), (6, .ofNat 0, .ofNat 8)], [([(0, .ofNat 1), (1, .negSucc 0)], .ofNat 1, .ofNat 3000), ([(0, .ofNat 1), (5, .ofNat 1)], .ofNat 0, .ofNat 3000)], [(70, (.ofNat 10, []), (.ofNat 0, [(3, .ofNat 1)])), (70, (.ofNat 0, []), (.ofNat 0, [(0, .ofNat 1), (5, .ofNat 1)])), (72, (.negSucc 0, [(0, .ofNat 1), (1, .negSucc 0)]), (.ofNat 0, [(2, .ofNat 1)]))], [(0, (.ofNat 0, []), (.ofNat 0, [])), (6, (.ofNat 0, []), (.ofNat 0, [(0, .ofNat 1), (5, .ofNat 1)]))]), 36, [(0, (2, (.ofNat 70, []))), (1, (2, (.ofNat 18, []))), (2, (2, (.ofNat 55, []))), (3, (0, (.negSucc 0, [(0, .ofNat 1), (1, .negSucc 0)]))), (4, (0, (.ofNat 0, [(2, .ofNat 1)]))), (5, (0, (.ofNat 0, []))), (6, (0, (.negSucc 0, [(4, .ofNat 1)]))), (7, (0, (.ofNat 0, [(6, .ofNat 1)])))], []), (.ofNat 10000000, [(6, .negSucc 0)])), (((8, [(0, .ofNat 1, .ofNat 3000), (1, .ofNat 0, .ofNat 2999), (2, .ofNat 2, .ofNat 5), (3, .negSucc 2147483647, .ofNat 2147483647), (4, .ofNat 0, .ofNat 15), (5, .ofNat 0, .ofNat 100000), (6, .negSucc 2147483647, .ofNat 2147483647), (7, .ofNat 0, .ofNat 8)], [([(0, .ofNat 1), (1, .negSucc 0)], .ofNat 1, .ofNat 3000), ([(0, .ofNat 1), (5, .ofNat 1)], .ofNat 0, .ofNat 3000)], [(70, (.ofNat 10, []), (.ofNat 0, [(3, .ofNat 1)])), (70, (.ofNat 0, []), (.ofNat 0, [(0, .ofNat 1), (5, .ofNat 1)])), (72, (.negSucc 0, [(0, .ofNat 1), (1, .negSucc 0)]), (.ofNat 0, [(2, .ofNat 1)]))], [(0, (.ofNat 0, []), (.ofNat 0, [])), (6, (.ofNat 0, []), (.ofNat 0, [(0, .ofNat 1), (5, .ofNat 1)]))]), 36, [(0, (2, (.ofNat 70, []))), (1, (2, (.ofNat 18, []))), (2, (2, (.ofNat 55, []))), (3, (0, (.negSucc 0, [(0, .ofNat 1), (1, .negSucc 0)]))), (4, (0, (.ofNat 0, [(2, .ofNat 1)]))), (5, (0, (.ofNat 0, [(6, .ofNat 1)]))), (6, (0, (.negSucc 0, [(4, .ofNat 1)]))), (7, (0, (.ofNat 0, [(7, .ofNat 1)])))], []), (.ofNat 10000000, [(7, .negSucc 0)]))]
def cktb_109 : List ck_Co := [ckcn_58, ckcn_100, ckcn_108]
def ckce_109_0 : List Nat := [0, 8, 3, 0, 1, 0, 1, 2, 2, 0, 14, 2, 0, 7, 0, 1, 0, 2, 0, 1, 1, 2, 0, 1, 2, 2, 0, 1, 3, 2, 0, 1, 5, 2, 0, 0, 0, 0, 0, 14, 2, 1, 8, 0, 1, 0, 2, 0, 1, 1, 2, 0, 1, 2, 2, 0, 1, 5, 2, 0, 1, 7, 2, 0, 0, 0, 1, 3, 2, 0, 0]
def ckce_109_1 : List Nat := [0, 4, 4, 0, 4, 0, 1, 0, 2, 0, 1, 1, 2, 0, 1, 2, 2, 0, 1, 5, 2, 0, 3, 4, 0, 4, 0, 1, 0, 2, 0, 1, 1, 2, 0, 1, 2, 2, 0, 1, 5, 2, 0, 3, 0, 8, 2, 0, 7, 0, 1, 0, 2, 0, 1, 1, 2, 0, 1, 2, 2, 0, 1, 3, 2, 0, 1, 4, 2, 0, 1, 5, 2, 2, 1, 6, 2, 0, 3, 0, 2, 2, 0, 7, 0, 1, 0, 2, 0, 1, 1, 2, 0, 1, 2, 2, 0, 1, 3, 2, 0, 1, 4, 2, 0, 1, 5, 2, 2, 1, 6, 2, 0, 8, 2, 0, 7, 0, 1, 0, 2, 0, 1, 1, 2, 0, 1, 2, 2, 0, 1, 3, 2, 0, 1, 4, 2, 0, 1, 5, 2, 2, 1, 6, 2]
def ckce_109_2 : List Nat := [0, 4, 4, 0, 4, 0, 1, 0, 2, 0, 1, 1, 2, 0, 1, 2, 2, 0, 1, 5, 2, 0, 3, 4, 0, 4, 0, 1, 0, 2, 0, 1, 1, 2, 0, 1, 2, 2, 0, 1, 5, 2, 0, 3, 0, 6, 0, 2, 2, 1, 8, 0, 1, 0, 2, 0, 1, 1, 2, 0, 1, 2, 2, 0, 1, 3, 2, 0, 1, 4, 2, 0, 1, 5, 2, 0, 1, 6, 2, 2, 1, 7, 2, 0, 4, 0, 4, 3, 1, 4, 0, 1, 7, 2, 0, 2, 0, 2, 5, 2, 0, 2, 1, 2, 5, 2, 0, 1, 2, 2, 0, 5, 3, 2, 3, 0, 1, 7, 2, 2, 2, 0, 2, 5, 2, 0, 1, 2, 2, 0, 2, 2, 1, 8, 0, 1, 0, 2, 0, 1, 1, 2, 0, 1, 2, 2, 0, 1, 3, 2, 0, 1, 4, 2, 2, 2, 5, 2, 12, 2, 0, 1, 6, 2, 2, 1, 7, 2, 0, 6, 2, 1, 8, 0, 1, 0, 2, 0, 1, 1, 2, 0, 1, 2, 2, 0, 1, 3, 2, 0, 1, 4, 2, 0, 1, 5, 2, 0, 1, 6, 2, 2, 1, 7, 2, 0, 3, 0, 2, 2, 1, 8, 0, 1, 0, 2, 0, 1, 1, 2, 0, 1, 2, 2, 0, 1, 3, 2, 0, 1, 4, 2, 0, 1, 5, 2, 0, 1, 6, 2, 2, 1, 7, 2, 0, 6, 0, 2, 2, 1, 8, 0, 1, 0, 2, 0, 1, 1, 2, 0, 1, 2, 2, 0, 1, 3, 2, 0, 1, 4, 2, 0, 1, 5, 2, 0, 1, 6, 2, 2, 1, 7, 2, 0, 4, 0, 4, 3, 1, 4, 0, 1, 7, 2, 0, 2, 0, 2, 5, 2, 0, 2, 1, 2, 5, 2, 0, 1, 2, 2, 0, 5, 3, 2, 3, 0, 1, 7, 2, 2, 2, 0, 2, 5, 2, 0, 1, 2, 2, 0, 2, 2, 1, 8, 0, 1, 0, 2, 0, 1, 1, 2, 0, 1, 2, 2, 0, 1, 3, 2, 0, 1, 4, 2, 2, 2, 5, 2, 12, 2, 0, 1, 6, 2, 2, 1, 7, 2, 0, 6, 2, 1, 8, 0, 1, 0, 2, 0, 1, 1, 2, 0, 1, 2, 2, 0, 1, 3, 2, 0, 1, 4, 2, 0, 1, 5, 2, 0, 1, 6, 2, 2, 1, 7, 2]
set_option maxRecDepth 1000000 in
theorem ckie_109 : ck_in0 cktb_109 ckcn_109 ckpt_109 4000 ckce_109_0 = true := by decide +kernel
set_option maxRecDepth 1000000 in
theorem ckip_109_0 : ∀ p, ckpt_109[0]? = some p → ck_inP cktb_109 ckcn_109 ckpt_109 4000 p ckce_109_1 = true := by
  intro p hp
  cases hp
  decide +kernel
set_option maxRecDepth 1000000 in
theorem ckip_109_1 : ∀ p, ckpt_109[1]? = some p → ck_inP cktb_109 ckcn_109 ckpt_109 4000 p ckce_109_2 = true := by
  intro p hp
  cases hp
  decide +kernel
theorem ckco_109 : ck_CO ckcn_109 := ck_con (tab := cktb_109) (pats := ckpt_109) (List.forall_mem_cons.mpr ⟨ckco_58, (List.forall_mem_cons.mpr ⟨ckco_100, (List.forall_mem_cons.mpr ⟨ckco_108, (fun _ h => absurd h List.not_mem_nil)⟩)⟩)⟩) ckie_109 (List.forall_mem_cons.mpr ⟨⟨4000, ckce_109_1, ckip_109_0 _ rfl⟩, (List.forall_mem_cons.mpr ⟨⟨4000, ckce_109_2, ckip_109_1 _ rfl⟩, (fun _ h => absurd h List.not_mem_nil)⟩)⟩)
def ckpt_110 : List ck_Pt := []
def cktb_110 : List ck_Co := [ckcn_101, ckcn_109]
def ckce_110_0 : List Nat := [0, 6, 4, 0, 4, 0, 1, 0, 2, 0, 1, 1, 2, 0, 1, 2, 2, 0, 0, 0, 3, 3, 0, 2, 0, 1, 2, 2, 0, 1, 0, 2, 0, 7, 3, 1, 3, 0, 1, 1, 2, 0, 0, 2, 1, 2, 2, 4, 0, 4, 0, 1, 0, 2, 0, 1, 1, 2, 0, 1, 2, 2, 0, 1, 4, 2]
set_option maxRecDepth 1000000 in
theorem ckie_110 : ck_in0 cktb_110 ckcn_110 ckpt_110 4000 ckce_110_0 = true := by decide +kernel
theorem ckco_110 : ck_CO ckcn_110 := ck_con (tab := cktb_110) (pats := ckpt_110) (List.forall_mem_cons.mpr ⟨ckco_101, (List.forall_mem_cons.mpr ⟨ckco_109, (fun _ h => absurd h List.not_mem_nil)⟩)⟩) ckie_110 (fun _ h => absurd h List.not_mem_nil)
def ckpt_111 : List ck_Pt := [(((7, [(0, .ofNat 1, .ofNat 3000), (1, .ofNat 0, .ofNat 2999), (2, .ofNat 1, .ofNat 6), (3, .negSucc 2147483647, .ofNat 2147483647), (4, .ofNat 0, .ofNat 15), (5, .ofNat 0, .ofNat 100000), (6, .ofNat 0, .ofNat 8)], [([(0, .ofNat 1), (1, .negSucc 0)], .ofNat 1, .ofNat 3000), ([(0, .ofNat 1), (5, .ofNat 1)], .ofNat 0, .ofNat 3000)], [(70, (.ofNat 10, []), (.ofNat 0, [(3, .ofNat 1)])), (70, (.ofNat 0, []), (.ofNat 0, [(0, .ofNat 1), (5, .ofNat 1)])), (72, (.negSucc 0, [(0, .ofNat 1), (1, .negSucc 0)]), (.ofNat 0, [(2, .ofNat 1)]))], [(0, (.ofNat 0, []), (.ofNat 0, [])), (6, (.ofNat 0, []), (.ofNat 0, [(0, .ofNat 1), (5, .ofNat 1)]))]), 36, [(0, (2, (.ofNat 70, []))), (1, (2, (.ofNat 18, []))), (2, (2, (.ofNat 55, []))), (3, (0, (.negSucc 0, [(0, .ofNat 1), (1, .negSucc 0)]))), (4, (0, (.ofNat 0, [(2, .ofNat 1)]))), (5, (0, (.ofNat 0, []))), (6, (0, (.negSucc 0, [(4, .ofNat 1)]))), (7, (0, (.ofNat 0, [(6, .ofNat 1)])))], []), (.ofNat 10000000, [(6, .negSucc 0)])), (((8, [(0, .ofNat 1, .ofNat 3000), (1, .ofNat 0, .ofNat 2999), (2, .ofNat 1, .ofNat 5), (3, .negSucc 2147483647, .ofNat 2147483647), (4, .ofNat 0, .ofNat 15), (5, .ofNat 0, .ofNat 100000), (6, .negSucc 2147483647, .ofNat 2147483647), (7, .ofNat 0, .ofNat 8)], [([(0, .ofNat 1), (1, .negSucc 0)], .ofNat 1, .ofNat 3000), ([(0, .ofNat 1), (5, .ofNat 1)], .ofNat 0, .ofNat 3000)], [(70, (.ofNat 10, []), (.ofNat 0, [(3, .ofNat 1)])), (70, (.ofNat 0, []), (.ofNat 0, [(0, .ofNat 1), (5, .ofNat 1)])), (72, (.negSucc 0, [(0, .ofNat 1), (1, .negSucc 0)]), (.ofNat 0, [(2, .ofNat 1)]))], [(0, (.ofNat 0, []), (.ofNat 0, [])), (6, (.ofNat 0, []), (.ofNat 0, [(0, .ofNat 1), (5, .ofNat 1)]))]), 36, [(0, (2, (.ofNat 70, []))), (1, (2, (.ofNat 18, []))), (2, (2, (.ofNat 55, []))), (3, (0, (.negSucc 0, [(0, .ofNat 1), (1, .negSucc 0)]))), (4, (0, (.ofNat 0, [(2, .ofNat 1)]))), (5, (0, (.ofNat 0, [(6, .ofNat 1)]))), (6, (0, (.negSucc 0, [(4, .ofNat 1)]))), (7, (0, (.ofNat 0, [(7, .ofNat 1)])))], []), (.ofNat 10000000, [(7, .negSucc 0)]))]
def cktb_111 : List ck_Co := [ckcn_58, ckcn_100, ckcn_110]
def ckce_111_0 : List Nat := [0, 8, 3, 0, 1, 0, 1, 2, 2, 0, 14, 2, 0, 7, 0, 1, 0, 2, 0, 1, 1, 2, 0, 1, 2, 2, 0, 1, 3, 2, 0, 1, 5, 2, 0, 0, 0, 0, 0, 14, 2, 1, 8, 0, 1, 0, 2, 0, 1, 1, 2, 0, 1, 2, 2, 0, 1, 5, 2, 0, 1, 7, 2, 0, 0, 0, 1, 3, 2, 0, 0]
def ckce_111_1 : List Nat := [0, 4, 4, 0, 4, 0, 1, 0, 2, 0, 1, 1, 2, 0, 1, 2, 2, 0, 1, 5, 2, 0, 3, 4, 0, 4, 0, 1, 0, 2, 0, 1, 1, 2, 0, 1, 2, 2, 0, 1, 5, 2, 0, 3, 0, 8, 2, 0, 7, 0, 1, 0, 2, 0, 1, 1, 2, 0, 1, 2, 2, 0, 1, 3, 2, 0, 1, 4, 2, 0, 1, 5, 2, 2, 1, 6, 2, 0, 3, 0, 2, 2, 0, 7, 0, 1, 0, 2, 0, 1, 1, 2, 0, 1, 2, 2, 0, 1, 3, 2, 0, 1, 4, 2, 0, 1, 5, 2, 2, 1, 6, 2, 0, 8, 2, 0, 7, 0, 1, 0, 2, 0, 1, 1, 2, 0, 1, 2, 2, 0, 1, 3, 2, 0, 1, 4, 2, 0, 1, 5, 2, 2, 1, 6, 2]
def ckce_111_2 : List Nat := [0, 4, 4, 0, 4, 0, 1, 0, 2, 0, 1, 1, 2, 0, 1, 2, 2, 0, 1, 5, 2, 0, 3, 4, 0, 4, 0, 1, 0, 2, 0, 1, 1, 2, 0, 1, 2, 2, 0, 1, 5, 2, 0, 3, 0, 6, 0, 2, 2, 1, 8, 0, 1, 0, 2, 0, 1, 1, 2, 0, 1, 2, 2, 0, 1, 3, 2, 0, 1, 4, 2, 0, 1, 5, 2, 0, 1, 6, 2, 2, 1, 7, 2, 0, 4, 0, 4, 3, 1, 4, 0, 1, 7, 2, 0, 2, 0, 2, 5, 2, 0, 2, 1, 2, 5, 2, 0, 1, 2, 2, 0, 5, 3, 2, 3, 0, 1, 7, 2, 2, 2, 0, 2, 5, 2, 0, 1, 2, 2, 0, 2, 2, 1, 8, 0, 1, 0, 2, 0, 1, 1, 2, 0, 1, 2, 2, 0, 1, 3, 2, 0, 1, 4, 2, 2, 2, 5, 2, 12, 2, 0, 1, 6, 2, 2, 1, 7, 2, 0, 6, 2, 1, 8, 0, 1, 0, 2, 0, 1, 1, 2, 0, 1, 2, 2, 0, 1, 3, 2, 0, 1, 4, 2, 0, 1, 5, 2, 0, 1, 6, 2, 2, 1, 7, 2, 0, 3, 0, 2, 2, 1, 8, 0, 1, 0, 2, 0, 1, 1, 2, 0, 1, 2, 2, 0, 1, 3, 2, 0, 1, 4, 2, 0, 1, 5, 2, 0, 1, 6, 2, 2, 1, 7, 2, 0, 6, 0, 2, 2, 1, 8, 0, 1, 0, 2, 0, 1, 1, 2, 0, 1, 2, 2, 0, 1, 3, 2, 0, 1, 4, 2, 0, 1, 5, 2, 0, 1, 6, 2, 2, 1, 7, 2, 0, 4, 0, 4, 3, 1, 4, 0, 1, 7, 2, 0, 2, 0, 2, 5, 2, 0, 2, 1, 2, 5, 2, 0, 1, 2, 2, 0, 5, 3, 2, 3, 0, 1, 7, 2, 2, 2, 0, 2, 5, 2, 0, 1, 2, 2, 0, 2, 2, 1, 8, 0, 1, 0, 2, 0, 1, 1, 2, 0, 1, 2, 2, 0, 1, 3, 2, 0, 1, 4, 2, 2, 2, 5, 2, 12, 2, 0, 1, 6, 2, 2, 1, 7, 2, 0, 6, 2, 1, 8, 0, 1, 0, 2, 0, 1, 1, 2, 0, 1, 2, 2, 0, 1, 3, 2, 0, 1, 4, 2, 0, 1, 5, 2, 0, 1, 6, 2, 2, 1, 7, 2]
set_option maxRecDepth 1000000 in
theorem ckie_111 : ck_in0 cktb_111 ckcn_111 ckpt_111 4000 ckce_111_0 = true := by decide +kernel
set_option maxRecDepth 1000000 in
theorem ckip_111_0 : ∀ p, ckpt_111[0]? = some p → ck_inP cktb_111 ckcn_111 ckpt_111 4000 p ckce_111_1 = true := by
  intro p hp
  cases hp
  decide +kernel
set_option maxRecDepth 1000000 in
theorem ckip_111_1 : ∀ p, ckpt_111[1]? = some p → ck_inP cktb_111 ckcn_111 ckpt_111 4000 p ckce_111_2 = true := by
  intro p hp
  cases hp
  decide +kernel
theorem ckco_111 : ck_CO ckcn_111 := ck_con (tab := cktb_111) (pats := ckpt_111) (List.forall_mem_cons.mpr ⟨ckco_58, (List.forall_mem_cons.mpr ⟨ckco_100, (List.forall_mem_cons.mpr ⟨ckco_110, (fun _ h => absurd h List.not_mem_nil)⟩)⟩)⟩) ckie_111 (List.forall_mem_cons.mpr ⟨⟨4000, ckce_111_1, ckip_111_0 _ rfl⟩, (List.forall_mem_cons.mpr ⟨⟨4000, ckce_111_2, ckip_111_1 _ rfl⟩, (fun _ h => absurd h List.not_mem_nil)⟩)⟩)
def ckpt_112 : List ck_Pt := []
def cktb_112 : List ck_Co := [ckcn_101, ckcn_111]
def ckce_112_0 : List Nat := [0, 6, 4, 0, 4, 0, 1, 0, 2, 0, 1, 1, 2, 0, 1, 2, 2, 0, 0, 0, 3, 3, 0, 2, 0, 1, 2, 2, 0, 1, 0, 2, 0, 7, 3, 1, 3, 0, 1, 1, 2, 0, 0, 2, 1, 2, 2, 4, 0, 4, 0, 1, 0, 2, 0, 1, 1, 2, 0, 1, 2, 2, 0, 1, 4, 2]
set_option maxRecDepth 1000000 in
theorem ckie_112 : ck_in0 cktb_112 ckcn_112 ckpt_112 4000 ckce_112_0 = true := by decide +kernel
theorem ckco_112 : ck_CO ckcn_112 := ck_con (tab := cktb_112) (pats := ckpt_112) (List.forall_mem_cons.mpr ⟨ckco_101, (List.forall_mem_cons.mpr ⟨ckco_111, (fun _ h => absurd h List.not_mem_nil)⟩)⟩) ckie_112 (fun _ h => absurd h List.not_mem_nil)
def ckpt_113 : List ck_Pt := [(((7, [(0, .ofNat 1, .ofNat 3000), (1, .ofNat 0, .ofNat 2999), (2, .ofNat 0, .ofNat 6), (3, .negSucc 2147483647, .ofNat 2147483647), (4, .ofNat 0, .ofNat 15), (5, .ofNat 0, .ofNat 100000), (6, .ofNat 0, .ofNat 8)], [([(0, .ofNat 1), (1, .negSucc 0)], .ofNat 1, .ofNat 3000), ([(0, .ofNat 1), (5, .ofNat 1)], .ofNat 0, .ofNat 3000)], [(70, (.ofNat 10, []), (.ofNat 0, [(3, .ofNat 1)])), (70, (.ofNat 0, []), (.ofNat 0, [(0, .ofNat 1), (5, .ofNat 1)])), (72, (.negSucc 0, [(0, .ofNat 1), (1, .negSucc 0)]), (.ofNat 0, [(2, .ofNat 1)]))], [(0, (.ofNat 0, []), (.ofNat 0, [])), (6, (.ofNat 0, []), (.ofNat 0, [(0, .ofNat 1), (5, .ofNat 1)]))]), 36, [(0, (2, (.ofNat 70, []))), (1, (2, (.ofNat 18, []))), (2, (2, (.ofNat 55, []))), (3, (0, (.negSucc 0, [(0, .ofNat 1), (1, .negSucc 0)]))), (4, (0, (.ofNat 0, [(2, .ofNat 1)]))), (5, (0, (.ofNat 0, []))), (6, (0, (.negSucc 0, [(4, .ofNat 1)]))), (7, (0, (.ofNat 0, [(6, .ofNat 1)])))], []), (.ofNat 10000000, [(6, .negSucc 0)])), (((8, [(0, .ofNat 1, .ofNat 3000), (1, .ofNat 0, .ofNat 2999), (2, .ofNat 0, .ofNat 5), (3, .negSucc 2147483647, .ofNat 2147483647), (4, .ofNat 0, .ofNat 15), (5, .ofNat 0, .ofNat 100000), (6, .negSucc 2147483647, .ofNat 2147483647), (7, .ofNat 0, .ofNat 8)], [([(0, .ofNat 1), (1, .negSucc 0)], .ofNat 1, .ofNat 3000), ([(0, .ofNat 1), (5, .ofNat 1)], .ofNat 0, .ofNat 3000)], [(70, (.ofNat 10, []), (.ofNat 0, [(3, .ofNat 1)])), (70, (.ofNat 0, []), (.ofNat 0, [(0, .ofNat 1), (5, .ofNat 1)])), (72, (.negSucc 0, [(0, .ofNat 1), (1, .negSucc 0)]), (.ofNat 0, [(2, .ofNat 1)]))], [(0, (.ofNat 0, []), (.ofNat 0, [])), (6, (.ofNat 0, []), (.ofNat 0, [(0, .ofNat 1), (5, .ofNat 1)]))]), 36, [(0, (2, (.ofNat 70, []))), (1, (2, (.ofNat 18, []))), (2, (2, (.ofNat 55, []))), (3, (0, (.negSucc 0, [(0, .ofNat 1), (1, .negSucc 0)]))), (4, (0, (.ofNat 0, [(2, .ofNat 1)]))), (5, (0, (.ofNat 0, [(6, .ofNat 1)]))), (6, (0, (.negSucc 0, [(4, .ofNat 1)]))), (7, (0, (.ofNat 0, [(7, .ofNat 1)])))], []), (.ofNat 10000000, [(7, .negSucc 0)]))]
def cktb_113 : List ck_Co := [ckcn_58, ckcn_100, ckcn_112]
def ckce_113_0 : List Nat := [0, 8, 3, 0, 1, 0, 1, 2, 2, 0, 14, 2, 0, 7, 0, 1, 0, 2, 0, 1, 1, 2, 0, 1, 2, 2, 0, 1, 3, 2, 0, 1, 5, 2, 0, 0, 0, 0, 0, 14, 2, 1, 8, 0, 1, 0, 2, 0, 1, 1, 2, 0, 1, 2, 2, 0, 1, 5, 2, 0, 1, 7, 2, 0, 0, 0, 1, 3, 2, 0, 0]
def ckce_113_1 : List Nat := [0, 4, 4, 0, 4, 0, 1, 0, 2, 0, 1, 1, 2, 0, 1, 2, 2, 0, 1, 5, 2, 0, 3, 4, 0, 4, 0, 1, 0, 2, 0, 1, 1, 2, 0, 1, 2, 2, 0, 1, 5, 2, 0, 3, 0, 8, 2, 0, 7, 0, 1, 0, 2, 0, 1, 1, 2, 0, 1, 2, 2, 0, 1, 3, 2, 0, 1, 4, 2, 0, 1, 5, 2, 2, 1, 6, 2, 0, 3, 0, 2, 2, 0, 7, 0, 1, 0, 2, 0, 1, 1, 2, 0, 1, 2, 2, 0, 1, 3, 2, 0, 1, 4, 2, 0, 1, 5, 2, 2, 1, 6, 2, 0, 8, 2, 0, 7, 0, 1, 0, 2, 0, 1, 1, 2, 0, 1, 2, 2, 0, 1, 3, 2, 0, 1, 4, 2, 0, 1, 5, 2, 2, 1, 6, 2]
def ckce_113_2 : List Nat := [0, 4, 4, 0, 4, 0, 1, 0, 2, 0, 1, 1, 2, 0, 1, 2, 2, 0, 1, 5, 2, 0, 3, 4, 0, 4, 0, 1, 0, 2, 0, 1, 1, 2, 0, 1, 2, 2, 0, 1, 5, 2, 0, 3, 0, 6, 0, 2, 2, 1, 8, 0, 1, 0, 2, 0, 1, 1, 2, 0, 1, 2, 2, 0, 1, 3, 2, 0, 1, 4, 2, 0, 1, 5, 2, 0, 1, 6, 2, 2, 1, 7, 2, 0, 4, 0, 4, 3, 1, 4, 0, 1, 7, 2, 0, 2, 0, 2, 5, 2, 0, 2, 1, 2, 5, 2, 0, 1, 2, 2, 0, 5, 3, 2, 3, 0, 1, 7, 2, 2, 2, 0, 2, 5, 2, 0, 1, 2, 2, 0, 2, 2, 1, 8, 0, 1, 0, 2, 0, 1, 1, 2, 0, 1, 2, 2, 0, 1, 3, 2, 0, 1, 4, 2, 2, 2, 5, 2, 12, 2, 0, 1, 6, 2, 2, 1, 7, 2, 0, 6, 2, 1, 8, 0, 1, 0, 2, 0, 1, 1, 2, 0, 1, 2, 2, 0, 1, 3, 2, 0, 1, 4, 2, 0, 1, 5, 2, 0, 1, 6, 2, 2, 1, 7, 2, 0, 3, 0, 2, 2, 1, 8, 0, 1, 0, 2, 0, 1, 1, 2, 0, 1, 2, 2, 0, 1, 3, 2, 0, 1, 4, 2, 0, 1, 5, 2, 0, 1, 6, 2, 2, 1, 7, 2, 0, 6, 0, 2, 2, 1, 8, 0, 1, 0, 2, 0, 1, 1, 2, 0, 1, 2, 2, 0, 1, 3, 2, 0, 1, 4, 2, 0, 1, 5, 2, 0, 1, 6, 2, 2, 1, 7, 2, 0, 4, 0, 4, 3, 1, 4, 0, 1, 7, 2, 0, 2, 0, 2, 5, 2, 0, 2, 1, 2, 5, 2, 0, 1, 2, 2, 0, 5, 3, 2, 3, 0, 1, 7, 2, 2, 2, 0, 2, 5, 2, 0, 1, 2, 2, 0, 2, 2, 1, 8, 0, 1, 0, 2, 0, 1, 1, 2, 0, 1, 2, 2, 0, 1, 3, 2, 0, 1, 4, 2, 2, 2, 5, 2, 12, 2, 0, 1, 6, 2, 2, 1, 7, 2, 0, 6, 2, 1, 8, 0, 1, 0, 2, 0, 1, 1, 2, 0, 1, 2, 2, 0, 1, 3, 2, 0, 1, 4, 2, 0, 1, 5, 2, 0, 1, 6, 2, 2, 1, 7, 2]
set_option maxRecDepth 1000000 in
theorem ckie_113 : ck_in0 cktb_113 ckcn_113 ckpt_113 4000 ckce_113_0 = true := by decide +kernel
set_option maxRecDepth 1000000 in
theorem ckip_113_0 : ∀ p, ckpt_113[0]? = some p → ck_inP cktb_113 ckcn_113 ckpt_113 4000 p ckce_113_1 = true := by
  intro p hp
  cases hp
  decide +kernel
set_option maxRecDepth 1000000 in
theorem ckip_113_1 : ∀ p, ckpt_113[1]? = some p → ck_inP cktb_113 ckcn_113 ckpt_113 4000 p ckce_113_2 = true := by
  intro p hp
  cases hp
  decide +kernel
theorem ckco_113 : ck_CO ckcn_113 := ck_con (tab := cktb_113) (pats := ckpt_113) (List.forall_mem_cons.mpr ⟨ckco_58, (List.forall_mem_cons.mpr ⟨ckco_100, (List.forall_mem_cons.mpr ⟨ckco_112, (fun _ h => absurd h List.not_mem_nil)⟩)⟩)⟩) ckie_113 (List.forall_mem_cons.mpr ⟨⟨4000, ckce_113_1, ckip_113_0 _ rfl⟩, (List.forall_mem_cons.mpr ⟨⟨4000, ckce_113_2, ckip_113_1 _ rfl⟩, (fun _ h => absurd h List.not_mem_nil)⟩)⟩)
def ckpt_114 : List ck_Pt := [(((4, [(0, .ofNat 0, .ofNat 6), (1, .ofNat 0, .ofNat 3000), (2, .negSucc 2147483647, .ofNat 2147483647), (3, .ofNat 0, .ofNat 6)], [], [(70, (.ofNat 0, []), (.ofNat 0, [(1, .ofNat 1)]))], [(6, (.ofNat 0, []), (.ofNat 0, [(1, .ofNat 1)])), (0, (.ofNat 0, []), (.ofNat 0, []))]), 6, [(0, (2, (.ofNat 70, []))), (1, (2, (.ofNat 18, []))), (2, (2, (.ofNat 55, []))), (3, (2, (.ofNat 39, []))), (4, (0, (.ofNat 0, [(0, .ofNat 1)]))), (5, (0, (.ofNat 0, []))), (6, (0, (.ofNat 0, [(2, .ofNat 1)]))), (7, (0, (.ofNat 0, [(3, .ofNat 1)])))], []), (.ofNat 10000000, [(3, .negSucc 0)]))]
def cktb_114 : List ck_Co := [ckcn_99, ckcn_57, ckcn_113]
def ckce_114_0 : List Nat := [0, 4, 2, 0, 4, 0, 1, 0, 2, 0, 1, 1, 2, 0, 0, 0, 0]
def ckce_114_1 : List Nat := [0, 3, 0, 3, 0, 22, 3, 0, 0, 0, 4, 3, 1, 1, 0, 1, 0, 2, 0, 4, 1, 1, 72, 0, 0, 3, 2, 3, 2, 0, 0, 0, 0, 1, 6, 2, 0, 4, 4, 0, 3, 0, 1, 0, 2, 0, 1, 1, 2, 2, 1, 7, 2, 0, 4, 4, 0, 3, 0, 1, 0, 2, 0, 1, 1, 2, 2, 1, 7, 2, 0, 3, 4, 0, 3, 0, 1, 0, 2, 0, 1, 1, 2, 0, 0, 0, 4, 0, 22, 3, 0, 0, 0, 4, 3, 1, 1, 0, 1, 0, 2, 0, 4, 1, 1, 72, 0, 0, 3, 2, 3, 2, 0, 0, 0, 0, 1, 7, 2, 0, 4, 4, 0, 3, 0, 1, 0, 2, 0, 1, 1, 2, 2, 1, 8, 2, 0, 4, 4, 0, 3, 0, 1, 0, 2, 0, 1, 1, 2, 2, 1, 8, 2, 0, 3, 4, 0, 3, 0, 1, 0, 2, 0, 1, 1, 2, 0, 0, 0, 4, 0, 22, 3, 0, 0, 0, 4, 3, 1, 1, 0, 1, 0, 2, 0, 4, 1, 1, 72, 0, 0, 3, 2, 3, 2, 0, 0, 0, 0, 1, 8, 2, 0, 4, 4, 0, 3, 0, 1, 0, 2, 0, 1, 1, 2, 2, 1, 9, 2, 0, 4, 4, 0, 3, 0, 1, 0, 2, 0, 1, 1, 2, 2, 1, 9, 2, 0, 3, 4, 0, 3, 0, 1, 0, 2, 0, 1, 1, 2, 0, 0, 0, 4, 0, 22, 3, 0, 0, 0, 4, 3, 1, 1, 0, 1, 0, 2, 0, 4, 1, 1, 72, 0, 0, 3, 2, 3, 2, 0, 0, 0, 0, 1, 9, 2, 0, 4, 4, 0, 3, 0, 1, 0, 2, 0, 1, 1, 2, 2, 1, 10, 2, 0, 4, 4, 0, 3, 0, 1, 0, 2, 0, 1, 1, 2, 2, 1, 10, 2, 0, 3, 4, 0, 3, 0, 1, 0, 2, 0, 1, 1, 2, 0, 0, 4, 0, 3, 0, 1, 0, 2, 0, 1, 1, 2, 0, 1, 1, 2, 0, 10, 2, 0, 4, 0, 1, 0, 2, 0, 1, 1, 2, 0, 1, 6, 2, 2, 1, 3, 2]
set_option maxRecDepth 1000000 in
theorem ckie_114 : ck_in0 cktb_114 ckcn_114 ckpt_114 4000 ckce_114_0 = true := by decide +kernel
set_option maxRecDepth 1000000 in
theorem ckip_114_0 : ∀ p, ckpt_114[0]? = some p → ck_inP cktb_114 ckcn_114 ckpt_114 4000 p ckce_114_1 = true := by
  intro p hp
  cases hp
  decide +kernel
theorem ckco_114 : ck_CO ckcn_114 := ck_con (tab := cktb_114) (pats := ckpt_114) (List.forall_mem_cons.mpr ⟨ckco_99, (List.forall_mem_cons.mpr ⟨ckco_57, (List.forall_mem_cons.mpr ⟨ckco_113, (fun _ h => absurd h List.not_mem_nil)⟩)⟩)⟩) ckie_114 (List.forall_mem_cons.mpr ⟨⟨4000, ckce_114_1, ckip_114_0 _ rfl⟩, (fun _ h => absurd h List.not_mem_nil)⟩)
def ckpt_115 : List ck_Pt := [(((3, [(0, .ofNat 0, .ofNat 6), (1, .negSucc 2147483647, .ofNat 2147483647), (2, .ofNat 0, .ofNat 3)], [], [(69, (.ofNat 0, []), (.ofNat 0, [(1, .ofNat 1)])), (65, (.ofNat 8, []), (.ofNat 0, [(1, .ofNat 1)])), (67, (.ofNat 0, []), (.ofNat 0, [(0, .ofNat 1)])), (65, (.ofNat 9, []), (.ofNat 0, [(0, .ofNat 1)])), (66, (.ofNat 0, []), (.negSucc 0, [])), (65, (.ofNat 0, []), (.ofNat 1, []))], []), 34, [(0, (2, (.ofNat 65, []))), (1, (2, (.ofNat 18, []))), (2, (2, (.ofNat 39, []))), (3, (0, (.ofNat 0, [(2, .ofNat 1)])))], []), (.ofNat 10000000, [(2, .negSucc 0)]))]
def cktb_115 : List ck_Co := [ckcn_95]
def ckce_115_0 : List Nat := [0, 22, 2, 0, 3, 0, 1, 0, 2, 0, 1, 1, 2, 0, 0]
def ckce_115_1 : List Nat := [0, 3, 4, 0, 0, 0, 8, 3, 0, 2, 0, 1, 0, 2, 0, 1, 2, 2, 0, 3, 2, 0, 3, 0, 1, 0, 2, 0, 1, 1, 2, 2, 1, 2, 2]
set_option maxRecDepth 1000000 in
theorem ckie_115 : ck_in0 cktb_115 ckcn_115 ckpt_115 4000 ckce_115_0 = true := by decide +kernel
set_option maxRecDepth 1000000 in
theorem ckip_115_0 : ∀ p, ckpt_115[0]? = some p → ck_inP cktb_115 ckcn_115 ckpt_115 4000 p ckce_115_1 = true := by
  intro p hp
  cases hp
  decide +kernel
theorem ckco_115 : ck_CO ckcn_115 := ck_con (tab := cktb_115) (pats := ckpt_115) (List.forall_mem_cons.mpr ⟨ckco_95, (fun _ h => absurd h List.not_mem_nil)⟩) ckie_115 (List.forall_mem_cons.mpr ⟨⟨4000, ckce_115_1, ckip_115_0 _ rfl⟩, (fun _ h => absurd h List.not_mem_nil)⟩)
def ckpt_116 : List ck_Pt := [(((8, [(0, .ofNat 0, .ofNat 7), (1, .ofNat 1, .ofNat 2999), (2, .ofNat 0, .ofNat 2998), (3, .ofNat 0, .ofNat 5), (4, .negSucc 2147483647, .ofNat 2147483647), (5, .negSucc 2147483647, .ofNat 2147483647), (6, .negSucc 0, .ofNat 7), (7, .ofNat 0, .ofNat 3)], [([(1, .ofNat 1), (2, .negSucc 0)], .ofNat 1, .ofNat 2999)], [(69, (.ofNat 0, [(1, .ofNat 1)]), (.ofNat 0, [(5, .ofNat 1)])), (69, (.negSucc 0, [(1, .ofNat 1), (2, .negSucc 0)]), (.ofNat 0, [(4, .ofNat 1)])), (67, (.ofNat 0, [(1, .ofNat 1)]), (.ofNat 1, [(3, .ofNat 1)])), (66, (.ofNat 0, [(1, .ofNat 1)]), (.negSucc 0, [(1, .ofNat 1), (2, .negSucc 0)])), (65, (.ofNat 0, []), (.ofNat 0, [(1, .ofNat 1)])), (67, (.negSucc 0, [(1, .ofNat 1), (2, .negSucc 0)]), (.ofNat 0, [(3, .ofNat 1)]))], [(5, (.ofNat 0, []), (.ofNat 0, [(1, .ofNat 1)]))]), 73, [(0, (2, (.ofNat 65, []))), (1, (2, (.ofNat 18, []))), (2, (0, (.negSucc 0, [(1, .ofNat 1), (2, .negSucc 0)]))), (3, (0, (.ofNat 0, [(0, .ofNat 1)]))), (4, (0, (.ofNat 0, [(6, .ofNat 1)]))), (5, (0, (.ofNat 0, [(7, .ofNat 1)])))], []), (.ofNat 10000000, [(7, .negSucc 0)]))]
def cktb_116 : List ck_Co := []
def ckce_116_0 : List Nat := [0, 5, 0, 34, 2, 0, 8, 0, 1, 0, 2, 0, 1, 1, 2, 0, 1, 2, 2, 0, 1, 3, 2, 0, 1, 4, 2, 0, 1, 6, 2, 1, 0, 0, 0, 0, 40, 2, 0, 8, 0, 1, 0, 2, 0, 1, 1, 2, 0, 1, 2, 2, 0, 1, 3, 2, 0, 1, 4, 2, 0, 1, 7, 2, 0, 1, 5, 2, 0, 0]
def ckce_116_1 : List Nat := [0, 3, 1, 3, 5, 0, 1, 1, 2, 0, 6, 4, 0, 4, 0, 1, 0, 2, 0, 1, 1, 2, 0, 1, 2, 2, 0, 1, 3, 2, 0, 33, 0, 19, 2, 0, 8, 0, 1, 0, 2, 0, 1, 1, 2, 0, 1, 2, 2, 0, 1, 3, 2, 0, 1, 4, 2, 0, 1, 5, 2, 0, 1, 6, 2, 2, 1, 7, 2, 0, 7, 2, 0, 8, 0, 1, 0, 2, 0, 1, 1, 2, 0, 1, 2, 2, 0, 1, 3, 2, 0, 1, 4, 2, 0, 1, 5, 2, 0, 1, 6, 2, 2, 1, 7, 2]
set_option maxRecDepth 1000000 in
theorem ckie_116 : ck_in0 cktb_116 ckcn_116 ckpt_116 4000 ckce_116_0 = true := by decide +kernel
set_option maxRecDepth 1000000 in
theorem ckip_116_0 : ∀ p, ckpt_116[0]? = some p → ck_inP cktb_116 ckcn_116 ckpt_116 4000 p ckce_116_1 = true := by
  intro p hp
  cases hp
  decide +kernel
theorem ckco_116 : ck_CO ckcn_116 := ck_con (tab := cktb_116) (pats := ckpt_116) (fun _ h => absurd h List.not_mem_nil) ckie_116 (List.forall_mem_cons.mpr ⟨⟨4000, ckce_116_1, ckip_116_0 _ rfl⟩, (fun _ h => absurd h List.not_mem_nil)⟩)
def ckpt_117 : List ck_Pt := []
def cktb_117 : List ck_Co := []
def ckce_117_0 : List Nat := [0, 6, 4, 0, 3, 0, 1, 0, 2, 0, 1, 1, 2, 0, 0]
set_option maxRecDepth 1000000 in
theorem ckie_117 : ck_in0 cktb_117 ckcn_117 ckpt_117 4000 ckce_117_0 = true := by decide +kernel
theorem ckco_117 : ck_CO ckcn_117 := ck_con (tab := cktb_117) (pats := ckpt_117) (fun _ h => absurd h List.not_mem_nil) ckie_117 (fun _ h => absurd h List.not_mem_nil)
def ckpt_118 : List ck_Pt := [(((7, [(0, .ofNat 1, .ofNat 3000), (1, .ofNat 0, .ofNat 2999), (2, .ofNat 5, .ofNat 6), (3, .negSucc 2147483647, .ofNat 2147483647), (4, .ofNat 0, .ofNat 15), (5, .ofNat 0, .ofNat 100000), (6, .ofNat 0, .ofNat 8)], [([(0, .ofNat 1), (1, .negSucc 0)], .ofNat 1, .ofNat 3000), ([(0, .ofNat 1), (5, .ofNat 1)], .ofNat 0, .ofNat 3000)], [(65, (.ofNat 10, []), (.ofNat 0, [(3, .ofNat 1)])), (65, (.ofNat 0, []), (.ofNat 0, [(0, .ofNat 1), (5, .ofNat 1)])), (67, (.negSucc 0, [(0, .ofNat 1), (1, .negSucc 0)]), (.ofNat 0, [(2, .ofNat 1)]))], [(0, (.ofNat 0, []), (.ofNat 0, [])), (5, (.ofNat 0, []), (.ofNat 0, [(0, .ofNat 1), (5, .ofNat 1)]))]), 36, [(0, (2, (.ofNat 65, []))), (1, (2, (.ofNat 18, []))), (2, (2, (.ofNat 55, []))), (3, (0, (.negSucc 0, [(0, .ofNat 1), (1, .negSucc 0)]))), (4, (0, (.ofNat 0, [(2, .ofNat 1)]))), (5, (0, (.ofNat 0, []))), (6, (0, (.negSucc 0, [(4, .ofNat 1)]))), (7, (0, (.ofNat 0, [(6, .ofNat 1)])))], []), (.ofNat 10000000, [(6, .negSucc 0)])), (((8, [(0, .ofNat 1, .ofNat 3000), (1, .ofNat 0, .ofNat 2999), (2, .ofNat 5, .ofNat 5), (3, .negSucc 2147483647, .ofNat 2147483647), (4, .ofNat 0, .ofNat 15), (5, .ofNat 0, .ofNat 100000), (6, .negSucc 2147483647, .ofNat 2147483647), (7, .ofNat 0, .ofNat 8)], [([(0, .ofNat 1), (1, .negSucc 0)], .ofNat 1, .ofNat 3000), ([(0, .ofNat 1), (5, .ofNat 1)], .ofNat 0, .ofNat 3000)], [(65, (.ofNat 10, []), (.ofNat 0, [(3, .ofNat 1)])), (65, (.ofNat 0, []), (.ofNat 0, [(0, .ofNat 1), (5, .ofNat 1)])), (67, (.negSucc 0, [(0, .ofNat 1), (1, .negSucc 0)]), (.ofNat 0, [(2, .ofNat 1)]))], [(0, (.ofNat 0, []), (.ofNat 0, [])), (5, (.ofNat 0, []), (.ofNat 0, [(0, .ofNat 1), (5, .ofNat 1)]))]), 36, [(0, (2, (.ofNat 65, []))), (1, (2, (.ofNat 18, []))), (2, (2, (.ofNat 55, []))), (3, (0, (.negSucc 0, [(0, .ofNat 1), (1, .negSucc 0)]))), (4, (0, (.ofNat 0, [(2, .ofNat 1)]))), (5, (0, (.ofNat 0, [(6, .ofNat 1)]))), (6, (0, (.negSucc 0, [(4, .ofNat 1)]))), (7, (0, (.ofNat 0, [(7, .ofNat 1)])))], []), (.ofNat 10000000, [(7, .negSucc 0)]))]
def cktb_118 : List ck_Co := [ckcn_58, ckcn_116, ckcn_117]
def ckce_118_0 : List Nat := [0, 8, 3, 0, 1, 0, 1, 2, 2, 0, 14, 2, 0, 7, 0, 1, 0, 2, 0, 1, 1, 2, 0, 1, 2, 2, 0, 1, 3, 2, 0, 1, 5, 2, 0, 0, 0, 0, 0, 14, 2, 1, 8, 0, 1, 0, 2, 0, 1, 1, 2, 0, 1, 2, 2, 0, 1, 5, 2, 0, 1, 7, 2, 0, 0, 0, 1, 3, 2, 0, 0]
def ckce_118_1 : List Nat := [0, 4, 4, 0, 4, 0, 1, 0, 2, 0, 1, 1, 2, 0, 1, 2, 2, 0, 1, 5, 2, 0, 3, 4, 0, 4, 0, 1, 0, 2, 0, 1, 1, 2, 0, 1, 2, 2, 0, 1, 5, 2, 0, 3, 0, 8, 2, 0, 7, 0, 1, 0, 2, 0, 1, 1, 2, 0, 1, 2, 2, 0, 1, 3, 2, 0, 1, 4, 2, 0, 1, 5, 2, 2, 1, 6, 2, 0, 3, 0, 2, 2, 0, 7, 0, 1, 0, 2, 0, 1, 1, 2, 0, 1, 2, 2, 0, 1, 3, 2, 0, 1, 4, 2, 0, 1, 5, 2, 2, 1, 6, 2, 0, 8, 2, 0, 7, 0, 1, 0, 2, 0, 1, 1, 2, 0, 1, 2, 2, 0, 1, 3, 2, 0, 1, 4, 2, 0, 1, 5, 2, 2, 1, 6, 2]
def ckce_118_2 : List Nat := [0, 4, 4, 0, 4, 0, 1, 0, 2, 0, 1, 1, 2, 0, 1, 2, 2, 0, 1, 5, 2, 0, 3, 4, 0, 4, 0, 1, 0, 2, 0, 1, 1, 2, 0, 1, 2, 2, 0, 1, 5, 2, 0, 3, 0, 6, 0, 2, 2, 1, 8, 0, 1, 0, 2, 0, 1, 1, 2, 0, 1, 2, 2, 0, 1, 3, 2, 0, 1, 4, 2, 0, 1, 5, 2, 0, 1, 6, 2, 2, 1, 7, 2, 0, 4, 0, 4, 3, 1, 4, 0, 1, 7, 2, 0, 2, 0, 2, 5, 2, 0, 2, 1, 2, 5, 2, 0, 1, 2, 2, 0, 5, 3, 2, 2, 0, 1, 7, 2, 2, 2, 0, 2, 5, 2, 0, 2, 2, 1, 8, 0, 1, 0, 2, 0, 1, 1, 2, 0, 1, 2, 2, 0, 1, 3, 2, 0, 1, 4, 2, 2, 1, 5, 2, 0, 1, 6, 2, 2, 1, 7, 2, 0, 6, 2, 1, 8, 0, 1, 0, 2, 0, 1, 1, 2, 0, 1, 2, 2, 0, 1, 3, 2, 0, 1, 4, 2, 0, 1, 5, 2, 0, 1, 6, 2, 2, 1, 7, 2, 0, 3, 0, 2, 2, 1, 8, 0, 1, 0, 2, 0, 1, 1, 2, 0, 1, 2, 2, 0, 1, 3, 2, 0, 1, 4, 2, 0, 1, 5, 2, 0, 1, 6, 2, 2, 1, 7, 2, 0, 6, 0, 2, 2, 1, 8, 0, 1, 0, 2, 0, 1, 1, 2, 0, 1, 2, 2, 0, 1, 3, 2, 0, 1, 4, 2, 0, 1, 5, 2, 0, 1, 6, 2, 2, 1, 7, 2, 0, 4, 0, 4, 3, 1, 4, 0, 1, 7, 2, 0, 2, 0, 2, 5, 2, 0, 2, 1, 2, 5, 2, 0, 1, 2, 2, 0, 5, 3, 2, 2, 0, 1, 7, 2, 2, 2, 0, 2, 5, 2, 0, 2, 2, 1, 8, 0, 1, 0, 2, 0, 1, 1, 2, 0, 1, 2, 2, 0, 1, 3, 2, 0, 1, 4, 2, 2, 1, 5, 2, 0, 1, 6, 2, 2, 1, 7, 2, 0, 6, 2, 1, 8, 0, 1, 0, 2, 0, 1, 1, 2, 0, 1, 2, 2, 0, 1, 3, 2, 0, 1, 4, 2, 0, 1, 5, 2, 0, 1, 6, 2, 2, 1, 7, 2]
set_option maxRecDepth 1000000 in
theorem ckie_118 : ck_in0 cktb_118 ckcn_118 ckpt_118 4000 ckce_118_0 = true := by decide +kernel
set_option maxRecDepth 1000000 in
theorem ckip_118_0 : ∀ p, ckpt_118[0]? = some p → ck_inP cktb_118 ckcn_118 ckpt_118 4000 p ckce_118_1 = true := by
  intro p hp
  cases hp
  decide +kernel
set_option maxRecDepth 1000000 in
theorem ckip_118_1 : ∀ p, ckpt_118[1]? = some p → ck_inP cktb_118 ckcn_118 ckpt_118 4000 p ckce_118_2 = true := by
  intro p hp
  cases hp
  decide +kernel
theorem ckco_118 : ck_CO ckcn_118 := ck_con (tab := cktb_118) (pats := ckpt_118) (List.forall_mem_cons.mpr ⟨ckco_58, (List.forall_mem_cons.mpr ⟨ckco_116, (List.forall_mem_cons.mpr ⟨ckco_117, (fun _ h => absurd h List.not_mem_nil)⟩)⟩)⟩) ckie_118 (List.forall_mem_cons.mpr ⟨⟨4000, ckce_118_1, ckip_118_0 _ rfl⟩, (List.forall_mem_cons.mpr ⟨⟨4000, ckce_118_2, ckip_118_1 _ rfl⟩, (fun _ h => absurd h List.not_mem_nil)⟩)⟩)
def ckpt_119 : List ck_Pt := []
def cktb_119 : List ck_Co := [ckcn_101, ckcn_118]
def ckce_119_0 : List Nat := [0, 6, 4, 0, 4, 0, 1, 0, 2, 0, 1, 1, 2, 0, 1, 2, 2, 0, 0, 0, 3, 3, 0, 2, 0, 1, 2, 2, 0, 1, 0, 2, 0, 7, 3, 1, 3, 0, 1, 1, 2, 0, 0, 2, 1, 2, 2, 4, 0, 4, 0, 1, 0, 2, 0, 1, 1, 2, 0, 1, 2, 2, 0, 1, 4, 2]
set_option maxRecDepth 1000000 in
theorem ckie_119 : ck_in0 cktb_119 ckcn_119 ckpt_119 4000 ckce_119_0 = true := by decide +kernel
theorem ckco_119 : ck_CO ckcn_119 := ck_con (tab := cktb_119) (pats := ckpt_119) (List.forall_mem_cons.mpr ⟨ckco_101, (List.forall_mem_cons.mpr ⟨ckco_118, (fun _ h => absurd h List.not_mem_nil)⟩)⟩) ckie_119 (fun _ h => absurd h List.not_mem_nil)
def ckpt_120 : List ck_Pt := [(((7, [(0, .ofNat 1, .ofNat 3000), (1, .ofNat 0, .ofNat 2999), (2, .ofNat 4, .ofNat 6), (3, .negSucc 2147483647, .ofNat 2147483647), (4, .ofNat 0, .ofNat 15), (5, .ofNat 0, .ofNat 100000), (6, .ofNat 0, .ofNat 8)], [([(0, .ofNat 1), (1, .negSucc 0)], .ofNat 1, .ofNat 3000), ([(0, .ofNat 1), (5, .ofNat 1)], .ofNat 0, .ofNat 3000)], [(65, (.ofNat 10, []), (.ofNat 0, [(3, .ofNat 1)])), (65, (.ofNat 0, []), (.ofNat 0, [(0, .ofNat 1), (5, .ofNat 1)])), (67, (.negSucc 0, [(0, .ofNat 1), (1, .negSucc 0)]), (.ofNat 0, [(2, .ofNat 1)]))], [(0, (.ofNat 0, []), (.ofNat 0, [])), (5, (.ofNat 0, []), (.ofNat 0, [(0, .ofNat 1), (5, .ofNat 1)]))]), 36, [(0, (2, (.ofNat 65, []))), (1, (2, (.ofNat 18, []))), (2, (2, (.ofNat 55, []))), (3, (0, (.negSucc 0, [(0, .ofNat 1), (1, .negSucc 0)]))), (4, (0, (.ofNat 0, [(2, .ofNat 1)]))), (5, (0, (.ofNat 0, []))), (6, (0, (.negSucc 0, [(4, .ofNat 1)]))), (7, (0, (.ofNat 0, [(6, .ofNat 1)])))], []), (.ofNat 10000000, [(6, .negSucc 0)])), (((8, [(0, .ofNat 1, .ofNat 3000), (1, .ofNat 0, .ofNat 2999), (2, .ofNat 4, .ofNat 5), (3, .negSucc 2147483647, .ofNat 2147483647), (4, .ofNat 0, .ofNat 15), (5, .ofNat 0, .ofNat 100000), (6, .negSucc 2147483647, .ofNat 2147483647), (7, .ofNat 0, .ofNat 8)], [([(0, .ofNat 1), (1, .negSucc 0)], .ofNat 1, .ofNat 3000), ([(0, .ofNat 1), (5, .ofNat 1)], .ofNat 0, .ofNat 3000)], [(65, (.ofNat 10, []), (.ofNat 0, [(3, .ofNat 1)])), (65, (.ofNat 0, []), (.ofNat 0, [(0, .ofNat 1), (5, .ofNat 1)])), (67, (.negSucc 0, [(0, .ofNat 1), (1, .negSucc 0)]), (.ofNat 0, [(2, .ofNat 1)]))], [(0, (.ofNat 0, []), (.ofNat 0, [])), (5, (.ofNat 0, []), (.ofNat 0, [(0, .ofNat 1), (5, .ofNat 1)]))]), 36, [(0, (2, (.ofNat 65, []))), (1, (2, (.ofNat 18, []))), (2, (2, (.ofNat 55, []))), (3, (0, (.negSucc 0, [(0, .ofNat 1), (1, .negSucc 0)]))), (4, (0, (.ofNat 0, [(2, .ofNat 1)]))), (5, (0, (.ofNat 0, [(6, .ofNat 1)]))), (6, (0, (.negSucc 0, [(4, .ofNat 1)]))), (7, (0, (.ofNat 0, [(7, .ofNat 1)])))], []), (.ofNat 10000000, [(7, .negSucc 0)]))]
def cktb_120 : List ck_Co := [ckcn_58, ckcn_116, ckcn_119]
def ckce_120_0 : List Nat := [0, 8, 3, 0, 1, 0, 1, 2, 2, 0, 14, 2, 0, 7, 0, 1, 0, 2, 0, 1, 1, 2, 0, 1, 2, 2, 0, 1, 3, 2, 0, 1, 5, 2, 0, 0, 0, 0, 0, 14, 2, 1, 8, 0, 1, 0, 2, 0, 1, 1, 2, 0, 1, 2, 2, 0, 1, 5, 2, 0, 1, 7, 2, 0, 0, 0, 1, 3, 2, 0, 0]
def ckce_120_1 : List Nat := [0, 4, 4, 0, 4, 0, 1, 0, 2, 0, 1, 1, 2, 0, 1, 2, 2, 0, 1, 5, 2, 0, 3, 4, 0, 4, 0, 1, 0, 2, 0, 1, 1, 2, 0, 1, 2, 2, 0, 1, 5, 2, 0, 3, 0, 8, 2, 0, 7, 0, 1, 0, 2, 0, 1, 1, 2, 0, 1, 2, 2, 0, 1, 3, 2, 0, 1, 4, 2, 0, 1, 5, 2, 2, 1, 6, 2, 0, 3, 0, 2, 2, 0, 7, 0, 1, 0, 2, 0, 1, 1, 2, 0, 1, 2, 2, 0, 1, 3, 2, 0, 1, 4, 2, 0, 1, 5, 2, 2, 1, 6, 2, 0, 8, 2, 0, 7, 0, 1, 0, 2, 0, 1, 1, 2, 0, 1, 2, 2, 0, 1, 3, 2, 0, 1, 4, 2, 0, 1, 5, 2, 2, 1, 6, 2]
def ckce_120_2 : List Nat := [0, 4, 4, 0, 4, 0, 1, 0, 2, 0, 1, 1, 2, 0, 1, 2, 2, 0, 1, 5, 2, 0, 3, 4, 0, 4, 0, 1, 0, 2, 0, 1, 1, 2, 0, 1, 2, 2, 0, 1, 5, 2, 0, 3, 0, 6, 0, 2, 2, 1, 8, 0, 1, 0, 2, 0, 1, 1, 2, 0, 1, 2, 2, 0, 1, 3, 2, 0, 1, 4, 2, 0, 1, 5, 2, 0, 1, 6, 2, 2, 1, 7, 2, 0, 4, 0, 4, 3, 1, 4, 0, 1, 7, 2, 0, 2, 0, 2, 5, 2, 0, 2, 1, 2, 5, 2, 0, 1, 2, 2, 0, 5, 3, 2, 3, 0, 1, 7, 2, 2, 2, 0, 2, 5, 2, 0, 1, 2, 2, 0, 2, 2, 1, 8, 0, 1, 0, 2, 0, 1, 1, 2, 0, 1, 2, 2, 0, 1, 3, 2, 0, 1, 4, 2, 2, 2, 5, 2, 12, 2, 0, 1, 6, 2, 2, 1, 7, 2, 0, 6, 2, 1, 8, 0, 1, 0, 2, 0, 1, 1, 2, 0, 1, 2, 2, 0, 1, 3, 2, 0, 1, 4, 2, 0, 1, 5, 2, 0, 1, 6, 2, 2, 1, 7, 2, 0, 3, 0, 2, 2, 1, 8, 0, 1, 0, 2, 0, 1, 1, 2, 0, 1, 2, 2, 0, 1, 3, 2, 0, 1, 4, 2, 0, 1, 5, 2, 0, 1, 6, 2, 2, 1, 7, 2, 0, 6, 0, 2, 2, 1, 8, 0, 1, 0, 2, 0, 1, 1, 2, 0, 1, 2, 2, 0, 1, 3, 2, 0, 1, 4, 2, 0, 1, 5, 2, 0, 1, 6, 2, 2, 1, 7, 2, 0, 4, 0, 4, 3, 1, 4, 0, 1, 7, 2, 0, 2, 0, 2, 5, 2, 0, 2, 1, 2, 5, 2, 0, 1, 2, 2, 0, 5, 3, 2, 3, 0, 1, 7, 2, 2, 2, 0, 2, 5, 2, 0, 1, 2, 2, 0, 2, 2, 1, 8, 0, 1, 0, 2, 0, 1, 1, 2, 0, 1, 2, 2, 0, 1, 3, 2, 0, 1, 4, 2, 2, 2, 5, 2, 12, 2, 0, 1, 6, 2, 2, 1, 7, 2, 0, 6, 2, 1, 8, 0, 1, 0, 2, 0, 1, 1, 2, 0, 1, 2, 2, 0, 1, 3, 2, 0, 1, 4, 2, 0, 1, 5, 2, 0, 1, 6, 2, 2, 1, 7, 2]
set_option maxRecDepth 1000000 in
theorem ckie_120 : ck_in0 cktb_120 ckcn_120 ckpt_120 4000 ckce_120_0 = true := by decide +kernel
set_option maxRecDepth 1000000 in
theorem ckip_120_0 : ∀ p, ckpt_120[0]? = some p → ck_inP cktb_120 ckcn_120 ckpt_120 4000 p ckce_120_1 = true := by
  intro p hp
  cases hp
  decide +kernel
set_option maxRecDepth 1000000 in
theorem ckip_120_1 : ∀ p, ckpt_120[1]? = some p → ck_inP cktb_120 ckcn_120 ckpt_120 4000 p ckce_120_2 = true := by
  intro p hp
  cases hp
  decide +kernel
theorem ckco_120 : ck_CO ckcn_120 := ck_con (tab := cktb_120) (pats := ckpt_120) (List.forall_mem_cons.mpr ⟨ckco_58, (List.forall_mem_cons.mpr ⟨ckco_116, (List.forall_mem_cons.mpr ⟨ckco_119, (fun _ h => absurd h List.not_mem_nil)⟩)⟩)⟩) ckie_120 (List.forall_mem_cons.mpr ⟨⟨4000, ckce_120_1, ckip_120_0 _ rfl⟩, (List.forall_mem_cons.mpr ⟨⟨4000, ckce_120_2, ckip_120_1 _ rfl⟩, (fun _ h => absurd h List.not_mem_nil)⟩)⟩)
def ckpt_121 : List ck_Pt := []
def cktb_121 : List ck_Co := [ckcn_101, ckcn_120]
def ckce_121_0 : List Nat := [0, 6, 4, 0, 4, 0, 1, 0, 2, 0, 1, 1, 2, 0, 1, 2, 2, 0, 0, 0, 3, 3, 0, 2, 0, 1, 2, 2, 0, 1, 0, 2, 0, 7, 3, 1, 3, 0, 1, 1, 2, 0, 0, 2, 1, 2, 2, 4, 0, 4, 0, 1, 0, 2, 0, 1, 1, 2, 0, 1, 2, 2, 0, 1, 4, 2]
set_option maxRecDepth 1000000 in
theorem ckie_121 : ck_in0 cktb_121 ckcn_121 ckpt_121 4000 ckce_121_0 = true := by decide +kernel
theorem ckco_121 : ck_CO ckcn_121 := ck_con (tab := cktb_121) (pats := ckpt_121) (List.forall_mem_cons.mpr ⟨ckco_101, (List.forall_mem_cons.mpr ⟨ckco_120, (fun _ h => absurd h List.not_mem_nil)⟩)⟩) ckie_121 (fun _ h => absurd h List.not_mem_nil)
def ckpt_122 : List ck_Pt := [(((7, [(0, .ofNat 1, .ofNat 3000), (1, .ofNat 0, .ofNat 2999), (2, .ofNat 3, .ofNat 6), (3, .negSucc 2147483647, .ofNat 2147483647), (4, .ofNat 0, .ofNat 15), (5, .ofNat 0, .ofNat 100000), (6, .ofNat 0, .ofNat 8)], [([(0, .ofNat 1), (1, .negSucc 0)], .ofNat 1, .ofNat 3000), ([(0, .ofNat 1), (5, .ofNat 1)], .ofNat 0, .ofNat 3000)], [(65, (.ofNat 10, []), (.ofNat 0, [(3, .ofNat 1)])), (65, (.ofNat 0, []), (.ofNat 0, [(0, .ofNat 1), (5, .ofNat 1)])), (67, (.negSucc 0, [(0, .ofNat 1), (1, .negSucc 0)]), (.ofNat 0, [(2, .ofNat 1)]))], [(0, (.ofNat 0, []), (.ofNat 0, [])), (5, (.ofNat 0, []), (.ofNat 0, [(0, .ofNat 1), (5, .ofNat 1)]))]), 36, [(0, (2, (.ofNat 65, []))), (1, (2, (.ofNat 18, []))), (2, (2, (.ofNat 55, []))), (3, (0, (.negSucc 0, [(0, .ofNat 1), (1, .negSucc 0)]))), (4, (0, (.ofNat 0, [(2, .ofNat 1)]))), (5, (0, (.ofNat 0, []))), (6, (0, (.negSucc 0, [(4, .ofNat 1)]))), (7, (0, (.ofNat 0, [(6, .ofNat 1)])))], []), (.ofNat 10000000, [(6, .negSucc 0)])), (((8, [(0, .ofNat 1, .ofNat 3000), (1, .ofNat 0, .ofNat 2999), (2, .ofNat 3, .ofNat 5), (3, .negSucc 2147483647, .ofNat 2147483647), (4, .ofNat 0, .ofNat 15), (5, .ofNat 0, .ofNat 100000), (6, .negSucc 2147483647, .ofNat 2147483647), (7, .ofNat 0, .ofNat 8)], [([(0, .ofNat 1), (1, .negSucc 0)], .ofNat 1, .ofNat 3000), ([(0, .ofNat 1), (5, .ofNat 1)], .ofNat 0, .ofNat 3000)], [(65, (.ofNat 10, []), (.ofNat 0, [(3, .ofNat 1)])), (65, (.ofNat 0, []), (.ofNat 0, [(0, .ofNat 1), (5, .ofNat 1)])), (67, (.negSucc 0, [(0, .ofNat 1), (1, .negSucc 0)]), (.ofNat 0, [(2, .ofNat 1)]))], [(0, (.ofNat 0, []), (.ofNat 0, [])), (5, (.ofNat 0, []), (.ofNat 0, [(0, .ofNat 1), (5, .ofNat 1)]))]), 36, [(0, (2, (.ofNat 65, []))), (1, (2, (.ofNat 18, []))), (2, (2, (.ofNat 55, []))), (3, (0, (.negSucc 0, [(0, .ofNat 1), (1, .negSucc 0)]))), (4, (0, (.ofNat 0, [(2, .ofNat 1)]))), (5, (0, (.ofNat 0, [(6, .ofNat 1)]))), (6, (0, (.negSucc 0, [(4, .ofNat 1)]))), (7, (0, (.ofNat 0, [(7, .ofNat 1)])))], []), (.ofNat 10000000, [(7, .negSucc 0)]))]
def cktb_122 : List ck_Co := [ckcn_58, ckcn_116, ckcn_121]
def ckce_122_0 : List Nat := [0, 8, 3, 0, 1, 0, 1, 2, 2, 0, 14, 2, 0, 7, 0, 1, 0, 2, 0, 1, 1, 2, 0, 1, 2, 2, 0, 1, 3, 2, 0, 1, 5, 2, 0, 0, 0, 0, 0, 14, 2, 1, 8, 0, 1, 0, 2, 0, 1, 1, 2, 0, 1, 2, 2, 0, 1, 5, 2, 0, 1, 7, 2, 0, 0, 0, 1, 3, 2, 0, 0]
def ckce_122_1 : List Nat := [0, 4, 4, 0, 4, 0, 1, 0, 2, 0, 1, 1, 2, 0, 1, 2, 2, 0, 1, 5, 2, 0, 3, 4, 0, 4, 0, 1, 0, 2, 0, 1, 1, 2, 0, 1, 2, 2, 0, 1, 5, 2, 0, 3, 0, 8, 2, 0, 7, 0, 1, 0, 2, 0, 1, 1, 2, 0, 1, 2, 2, 0, 1, 3, 2, 0, 1, 4, 2, 0, 1, 5, 2, 2, 1, 6, 2, 0, 3, 0, 2, 2, 0, 7, 0, 1, 0, 2, 0, 1, 1, 2, 0, 1, 2, 2, 0, 1, 3, 2, 0, 1, 4, 2, 0, 1, 5, 2, 2, 1, 6, 2, 0, 8, 2, 0, 7, 0, 1, 0, 2, 0, 1, 1, 2, 0, 1, 2, 2, 0, 1, 3, 2, 0, 1, 4, 2, 0, 1, 5, 2, 2, 1, 6, 2]
def ckce_122_2 : List Nat := [0, 4, 4, 0, 4, 0, 1, 0, 2, 0, 1, 1, 2, 0, 1, 2, 2, 0, 1, 5, 2, 0, 3, 4, 0, 4, 0, 1, 0, 2, 0, 1, 1, 2, 0, 1, 2, 2, 0, 1, 5, 2, 0, 3, 0, 6, 0, 2, 2, 1, 8, 0, 1, 0, 2, 0, 1, 1, 2, 0, 1, 2, 2, 0, 1, 3, 2, 0, 1, 4, 2, 0, 1, 5, 2, 0, 1, 6, 2, 2, 1, 7, 2, 0, 4, 0, 4, 3, 1, 4, 0, 1, 7, 2, 0, 2, 0, 2, 5, 2, 0, 2, 1, 2, 5, 2, 0, 1, 2, 2, 0, 5, 3, 2, 3, 0, 1, 7, 2, 2, 2, 0, 2, 5, 2, 0, 1, 2, 2, 0, 2, 2, 1, 8, 0, 1, 0, 2, 0, 1, 1, 2, 0, 1, 2, 2, 0, 1, 3, 2, 0, 1, 4, 2, 2, 2, 5, 2, 12, 2, 0, 1, 6, 2, 2, 1, 7, 2, 0, 6, 2, 1, 8, 0, 1, 0, 2, 0, 1, 1, 2, 0, 1, 2, 2, 0, 1, 3, 2, 0, 1, 4, 2, 0, 1, 5, 2, 0, 1, 6, 2, 2, 1, 7, 2, 0, 3, 0, 2, 2, 1, 8, 0, 1, 0, 2, 0, 1, 1, 2, 0, 1, 2, 2, 0, 1, 3, 2, 0, 1, 4, 2, 0, 1, 5, 2, 0, 1, 6, 2, 2, 1, 7, 2, 0, 6, 0, 2, 2, 1, 8, 0, 1, 0, 2, 0, 1, 1, 2, 0, 1, 2, 2, 0, 1, 3, 2, 0, 1, 4, 2, 0, 1, 5, 2, 0, 1, 6, 2, 2, 1, 7, 2, 0, 4, 0, 4, 3, 1, 4, 0, 1, 7, 2, 0, 2, 0, 2, 5, 2, 0, 2, 1, 2, 5, 2, 0, 1, 2, 2, 0, 5, 3, 2, 3, 0, 1, 7, 2, 2, 2, 0, 2, 5, 2, 0, 1, 2, 2, 0, 2, 2, 1, 8, 0, 1, 0, 2, 0, 1, 1, 2, 0, 1, 2, 2, 0, 1, 3, 2, 0, 1, 4, 2, 2, 2, 5, 2, 12, 2, 0, 1, 6, 2, 2, 1, 7, 2, 0, 6, 2, 1, 8, 0, 1, 0, 2, 0, 1, 1, 2, 0, 1, 2, 2, 0, 1, 3, 2, 0, 1, 4, 2, 0, 1, 5, 2, 0, 1, 6, 2, 2, 1, 7, 2]
set_option maxRecDepth 1000000 in
theorem ckie_122 : ck_in0 cktb_122 ckcn_122 ckpt_122 4000 ckce_122_0 = true := by decide +kernel
set_option maxRecDepth 1000000 in
theorem ckip_122_0 : ∀ p, ckpt_122[0]? = some p → ck_inP cktb_122 ckcn_122 ckpt_122 4000 p ckce_122_1 = true := by
  intro p hp
  cases hp
  decide +kernel
set_option maxRecDepth 1000000 in
theorem ckip_122_1 : ∀ p, ckpt_122[1]? = some p → ck_inP cktb_122 ckcn_122 ckpt_122 4000 p ckce_122_2 = true := by
  intro p hp
  cases hp
  decide +kernel
theorem ckco_122 : ck_CO ckcn_122 := ck_con (tab := cktb_122) (pats := ckpt_122) (List.forall_mem_cons.mpr ⟨ckco_58, (List.forall_mem_cons.mpr ⟨ckco_116, (List.forall_mem_cons.mpr ⟨ckco_121, (fun _ h => absurd h List.not_mem_nil)⟩)⟩)⟩) ckie_122 (List.forall_mem_cons.mpr ⟨⟨4000, ckce_122_1, ckip_122_0 _ rfl⟩, (List.forall_mem_cons.mpr ⟨⟨4000, ckce_122_2, ckip_122_1 _ rfl⟩, (fun _ h => absurd h List.not_mem_nil)⟩)⟩)
def ckpt_123 : List ck_Pt := []
def cktb_123 : List ck_Co := [ckcn_101, ckcn_122]
def ckce_123_0 : List Nat := [0, 6, 4, 0, 4, 0, 1, 0, 2, 0, 1, 1, 2, 0, 1, 2, 2, 0, 0, 0, 3, 3, 0, 2, 0, 1, 2, 2, 0, 1, 0, 2, 0, 7, 3, 1, 3, 0, 1, 1, 2, 0, 0, 2, 1, 2, 2, 4, 0, 4, 0, 1, 0, 2, 0, 1, 1, 2, 0, 1, 2, 2, 0, 1, 4, 2]
set_option maxRecDepth 1000000 in
theorem ckie_123 : ck_in0 cktb_123 ckcn_123 ckpt_123 4000 ckce_123_0 = true := by decide +kernel
theorem ckco_123 : ck_CO ckcn_123 := ck_con (tab := cktb_123) (pats := ckpt_123) (List.forall_mem_cons.mpr ⟨ckco_101, (List.forall_mem_cons.mpr ⟨ckco_122, (fun _ h => absurd h List.not_mem_nil)⟩)⟩) ckie_123 (fun _ h => absurd h List.not_mem_nil)
def ckpt_124 : List ck_Pt := [(((7, [(0, .ofNat 1, .ofNat 3000), (1, .ofNat 0, .ofNat 2999), (2, .ofNat 2, .ofNat 6), (3, .negSucc 2147483647, .ofNat 2147483647), (4, .ofNat 0, .ofNat 15), (5, .ofNat 0, .ofNat 100000), (6, .ofNat 0, .ofNat 8)], [([(0, .ofNat 1), (1, .negSucc 0)], .ofNat 1, .ofNat 3000), ([(0, .ofNat 1), (5, .ofNat 1)], .ofNat 0, .ofNat 3000)], [(65, (.ofNat 10, []), (.ofNat 0, [(3, .ofNat 1)])), (65, (.ofNat 0, []), (.ofNat 0, [(0, .ofNat 1), (5, .ofNat 1)])), (67, (.negSucc 0, [(0, .ofNat 1), (1, .negSucc 0)]), (.ofNat 0, [(2, .ofNat 1)]))], [(0, (.ofNat 0, []), (.ofNat 0, [])), (5, (.ofNat 0, []), (.ofNat 0, [(0, .ofNat 1), (5, .ofNat 1)]))]), 36, [(0, (2, (.ofNat 65, []))), (1, (2, (.ofNat 18, []))), (2, (2, (.ofNat 55, []))), (3, (0, (.negSucc 0, [(0, .ofNat 1), (1, .negSucc 0)]))), (4, (0, (.ofNat 0, [(2, .ofNat 1)]))), (5, (0, (.ofNat 0, []))), (6, (0, (.negSucc 0, [(4, .ofNat 1)]))), (7, (0, (.ofNat 0, [(6, .ofNat 1)])))], []), (.ofNat 10000000, [(6, .negSucc 0)])), (((8, [(0, .ofNat 1, .ofNat 3000), (1, .ofNat 0, .ofNat 2999), (2, .ofNat 2, .ofNat 5), (3, .negSucc 2147483647, .ofNat 2147483647), (4, .ofNat 0, .ofNat 15), (5, .ofNat 0, .ofNat 100000), (6, .negSucc 2147483647, .ofNat 2147483647), (7, .ofNat 0, .ofNat 8)], [([(0, .ofNat 1), (1, .negSucc 0)], .ofNat 1, .ofNat 3000), ([(0, .ofNat 1), (5, .ofNat 1)], .ofNat 0, .ofNat 3000)], [(65, (.ofNat 10, []), (.ofNat 0, [(3, .ofNat 1)])), (65, (.ofNat 0, []), (.ofNat 0, [(0, .ofNat 1), (5, .ofNat 1)])), (67, (.negSucc 0, [(0, .ofNat 1), (1, .negSucc 0)]), (.ofNat 0, [(2, .ofNat 1)]))], [(0, (.ofNat 0, []), (.ofNat 0, [])), (5, (.ofNat 0, []), (.ofNat 0, [(0, .ofNat 1), (5, .ofNat 1)]))]), 36, [(0, (2, (.ofNat 65, []))), (1, (2, (.ofNat 18, []))), (2, (2, (.ofNat 55, []))), (3, (0, (.negSucc 0, [(0, .ofNat 1), (1, .negSucc 0)]))), (4, (0, (.ofNat 0, [(2, .ofNat 1)]))), (5, (0, (.ofNat 0, [(6, .ofNat 1)]))), (6, (0, (.negSucc 0, [(4, .ofNat 1)]))), (7, (0, (.ofNat 0, [(7, .ofNat 1)])))], []), (.ofNat 10000000, [(7, .negSucc 0)]))]
def cktb_124 : List ck_Co := [ckcn_58, ckcn_116, ckcn_123]
def ckce_124_0 : List Nat := [0, 8, 3, 0, 1, 0, 1, 2, 2, 0, 14, 2, 0, 7, 0, 1, 0, 2, 0, 1, 1, 2, 0, 1, 2, 2, 0, 1, 3, 2, 0, 1, 5, 2, 0, 0, 0, 0, 0, 14, 2, 1, 8, 0, 1, 0, 2, 0, 1, 1, 2, 0, 1, 2, 2, 0, 1, 5, 2, 0, 1, 7, 2, 0, 0, 0, 1, 3, 2, 0, 0]
def ckce_124_1 : List Nat := [0, 4, 4, 0, 4, 0, 1, 0, 2, 0, 1, 1, 2, 0, 1, 2, 2, 0, 1, 5, 2, 0, 3, 4, 0, 4, 0, 1, 0, 2, 0, 1, 1, 2, 0, 1, 2, 2, 0, 1, 5, 2, 0, 3, 0, 8, 2, 0, 7, 0, 1, 0, 2, 0, 1, 1, 2, 0, 1, 2, 2, 0, 1, 3, 2, 0, 1, 4, 2, 0, 1, 5, 2, 2, 1, 6, 2, 0, 3, 0, 2, 2, 0, 7, 0, 1, 0, 2, 0, 1, 1, 2, 0, 1, 2, 2, 0, 1, 3, 2, 0, 1, 4, 2, 0, 1, 5, 2, 2, 1, 6, 2, 0, 8, 2, 0, 7, 0, 1, 0, 2, 0, 1, 1, 2, 0, 1, 2, 2, 0, 1, 3, 2, 0, 1, 4, 2, 0, 1, 5, 2, 2, 1, 6, 2]
def ckce_124_2 : List Nat := [0, 4, 4, 0, 4, 0, 1, 0, 2, 0, 1, 1, 2, 0, 1, 2, 2, 0, 1, 5, 2, 0, 3, 4, 0, 4, 0, 1, 0, 2, 0, 1, 1, 2, 0, 1, 2, 2, 0, 1, 5, 2, 0, 3, 0, 6, 0, 2, 2, 1, 8, 0, 1, 0, 2, 0, 1, 1, 2, 0, 1, 2, 2, 0, 1, 3, 2, 0, 1, 4, 2, 0, 1, 5, 2, 0, 1, 6, 2, 2, 1, 7, 2, 0, 4, 0, 4, 3, 1, 4, 0, 1, 7, 2, 0, 2, 0, 2, 5, 2, 0, 2, 1, 2, 5, 2, 0, 1, 2, 2, 0, 5, 3, 2, 3, 0, 1, 7, 2, 2, 2, 0, 2, 5, 2, 0, 1, 2, 2, 0, 2, 2, 1, 8, 0, 1, 0, 2, 0, 1, 1, 2, 0, 1, 2, 2, 0, 1, 3, 2, 0, 1, 4, 2, 2, 2, 5, 2, 12, 2, 0, 1, 6, 2, 2, 1, 7, 2, 0, 6, 2, 1, 8, 0, 1, 0, 2, 0, 1, 1, 2, 0, 1, 2, 2, 0, 1, 3, 2, 0, 1, 4, 2, 0, 1, 5, 2, 0, 1, 6, 2, 2, 1, 7, 2, 0, 3, 0, 2, 2, 1, 8, 0, 1, 0, 2, 0, 1, 1, 2, 0, 1, 2, 2, 0, 1, 3, 2, 0, 1, 4, 2, 0, 1, 5, 2, 0, 1, 6, 2, 2, 1, 7, 2, 0, 6, 0, 2, 2, 1, 8, 0, 1, 0, 2, 0, 1, 1, 2, 0, 1, 2, 2, 0, 1, 3, 2, 0, 1, 4, 2, 0, 1, 5, 2, 0, 1, 6, 2, 2, 1, 7, 2, 0, 4, 0, 4, 3, 1, 4, 0, 1, 7, 2, 0, 2, 0, 2, 5, 2, 0, 2, 1, 2, 5, 2, 0, 1, 2, 2, 0, 5, 3, 2, 3, 0, 1, 7, 2, 2, 2, 0, 2, 5, 2, 0, 1, 2, 2, 0, 2, 2, 1, 8, 0, 1, 0, 2, 0, 1, 1, 2, 0, 1, 2, 2, 0, 1, 3, 2, 0, 1, 4, 2, 2, 2, 5, 2, 12, 2, 0, 1, 6, 2, 2, 1, 7, 2, 0, 6, 2, 1, 8, 0, 1, 0, 2, 0, 1, 1, 2, 0, 1, 2, 2, 0, 1, 3, 2, 0, 1, 4, 2, 0, 1, 5, 2, 0, 1, 6, 2, 2, 1, 7, 2]
set_option maxRecDepth 1000000 in
theorem ckie_124 : ck_in0 cktb_124 ckcn_124 ckpt_124 4000 ckce_124_0 = true := by decide +kernel
set_option maxRecDepth 1000000 in
theorem ckip_124_0 : ∀ p, ckpt_124[0]? = some p → ck_inP cktb_124 ckcn_124 ckpt_124 4000 p ckce_124_1 = true := by
  intro p hp
  cases hp
  decide +kernel
set_option maxRecDepth 1000000 in
theorem ckip_124_1 : ∀ p, ckpt_124[1]? = some p → ck_inP cktb_124 ckcn_124 ckpt_124 4000 p ckce_124_2 = true := by
  intro p hp
  cases hp
  decide +kernel
theorem ckco_124 : ck_CO ckcn_124 := ck_con (tab := cktb_124) (pats := ckpt_124) (List.forall_mem_cons.mpr ⟨ckco_58, (List.forall_mem_cons.mpr ⟨ckco_116, (List.forall_mem_cons.mpr ⟨ckco_123, (fun _ h => absurd h List.not_mem_nil)⟩)⟩)⟩) ckie_124 (List.forall_mem_cons.mpr ⟨⟨4000, ckce_124_1, ckip_124_0 _ rfl⟩, (List.forall_mem_cons.mpr ⟨⟨4000, ckce_124_2, ckip_124_1 _ rfl⟩, (fun _ h => absurd h List.not_mem_nil)⟩)⟩)
def ckpt_125 : List ck_Pt := []
def cktb_125 : List ck_Co := [ckcn_101, ckcn_124]
def ckce_125_0 : List Nat := [0, 6, 4, 0, 4, 0, 1, 0, 2, 0, 1, 1, 2, 0, 1, 2, 2, 0, 0, 0, 3, 3, 0, 2, 0, 1, 2, 2, 0, 1, 0, 2, 0, 7, 3, 1, 3, 0, 1, 1, 2, 0, 0, 2, 1, 2, 2, 4, 0, 4, 0, 1, 0, 2, 0, 1, 1, 2, 0, 1, 2, 2, 0, 1, 4, 2]
set_option maxRecDepth 1000000 in
theorem ckie_125 : ck_in0 cktb_125 ckcn_125 ckpt_125 4000 ckce_125_0 = true := by decide +kernel
theorem ckco_125 : ck_CO ckcn_125 := ck_con (tab := cktb_125) (pats := ckpt_125) (List.forall_mem_cons.mpr ⟨ckco_101, (List.forall_mem_cons.mpr ⟨ckco_124, (fun _ h => absurd h List.not_mem_nil)⟩)⟩) ckie_125 (fun _ h => absurd h List.not_mem_nil)
def ckpt_126 : List ck_Pt := [(((7, [(0, .ofNat 1, .ofNat 3000), (1, .ofNat 0, .ofNat 2999), (2, .ofNat 1, .ofNat 6), (3, .negSucc 2147483647, .ofNat 2147483647), (4, .ofNat 0, .ofNat 15), (5, .ofNat 0, .ofNat 100000), (6, .ofNat 0, .ofNat 8)], [([(0, .ofNat 1), (1, .negSucc 0)], .ofNat 1, .ofNat 3000), ([(0, .ofNat 1), (5, .ofNat 1)], .ofNat 0, .ofNat 3000)], [(65, (.ofNat 10, []), (.ofNat 0, [(3, .ofNat 1)])), (65, (.ofNat 0, []), (.ofNat 0, [(0, .ofNat 1), (5, .ofNat 1)])), (67, (.negSucc 0, [(0, .ofNat 1), (1, .negSucc 0)]), (.ofNat 0, [(2, .ofNat 1)]))], [(0, (.ofNat 0, []), (.ofNat 0, [])), (5, (.ofNat 0, []), (.ofNat 0, [(0, .ofNat 1), (5, .ofNat 1)]))]), 36, [(0, (2, (.ofNat 65, []))), (1, (2, (.ofNat 18, []))), (2, (2, (.ofNat 55, []))), (3, (0, (.negSucc 0, [(0, .ofNat 1), (1, .negSucc 0)]))), (4, (0, (.ofNat 0, [(2, .ofNat 1)]))), (5, (0, (.ofNat 0, []))), (6, (0, (.negSucc 0, [(4, .ofNat 1)]))), (7, (0, (.ofNat 0, [(6, .ofNat 1)])))], []), (.ofNat 10000000, [(6, .negSucc 0)])), (((8, [(0, .ofNat 1, .ofNat 3000), (1, .ofNat 0, .ofNat 2999), (2, .ofNat 1, .ofNat 5), (3, .negSucc 2147483647, .ofNat 2147483647), (4, .ofNat 0, .ofNat 15), (5, .ofNat 0, .ofNat 100000), (6, .negSucc 2147483647, .ofNat 2147483647), (7, .ofNat 0, .ofNat 8)], [([(0, .ofNat 1), (1, .negSucc 0)], .ofNat 1, .ofNat 3000), ([(0, .ofNat 1), (5, .ofNat 1)], .ofNat 0, .ofNat 3000)], [(65, (.ofNat 10, []), (.ofNat 0, [(3, .ofNat 1)])), (65, (.ofNat 0, []), (.ofNat 0, [(0, .ofNat 1), (5, .ofNat 1)])), (67, (.negSucc 0, [(0, .ofNat 1), (1, .negSucc 0)]), (.ofNat 0, [(2, .ofNat 1)]))], [(0, (.ofNat 0, []), (.ofNat 0, [])), (5, (.ofNat 0, []), (.ofNat 0, [(0, .ofNat 1), (5, .ofNat 1)]))]), 36, [(0, (2, (.ofNat 65, []))), (1, (2, (.ofNat 18, []))), (2, (2, (.ofNat 55, []))), (3, (0, (.negSucc 0, [(0, .ofNat 1), (1, .negSucc 0)]))), (4, (0, (.ofNat 0, [(2, .ofNat 1)]))), (5, (0, (.ofNat 0, [(6, .ofNat 1)]))), (6, (0, (.negSucc 0, [(4, .ofNat 1)]))), (7, (0, (.ofNat 0, [(7, .ofNat 1)])))], []), (.ofNat 10000000, [(7, .negSucc 0)]))]
def cktb_126 : List ck_Co := [ckcn_58, ckcn_116, ckcn_125]
def ckce_126_0 : List Nat := [0, 8, 3, 0, 1, 0, 1, 2, 2, 0, 14, 2, 0, 7, 0, 1, 0, 2, 0, 1, 1, 2, 0, 1, 2, 2, 0, 1, 3, 2, 0, 1, 5, 2, 0, 0, 0, 0, 0, 14, 2, 1, 8, 0, 1, 0, 2, 0, 1, 1, 2, 0, 1, 2, 2, 0, 1, 5, 2, 0, 1, 7, 2, 0, 0, 0, 1, 3, 2, 0, 0]
def ckce_126_1 : List Nat := [0, 4, 4, 0, 4, 0, 1, 0, 2, 0, 1, 1, 2, 0, 1, 2, 2, 0, 1, 5, 2, 0, 3, 4, 0, 4, 0, 1, 0, 2, 0, 1, 1, 2, 0, 1, 2, 2, 0, 1, 5, 2, 0, 3, 0, 8, 2, 0, 7, 0, 1, 0, 2, 0, 1, 1, 2, 0, 1, 2, 2, 0, 1, 3, 2, 0, 1, 4, 2, 0, 1, 5, 2, 2, 1, 6, 2, 0, 3, 0, 2, 2, 0, 7, 0, 1, 0, 2, 0, 1, 1, 2, 0, 1, 2, 2, 0, 1, 3, 2, 0, 1, 4, 2, 0, 1, 5, 2, 2, 1, 6, 2, 0, 8, 2, 0, 7, 0, 1, 0, 2, 0, 1, 1, 2, 0, 1, 2, 2, 0, 1, 3, 2, 0, 1, 4, 2, 0, 1, 5, 2, 2, 1, 6, 2]
def ckce_126_2 : List Nat := [0, 4, 4, 0, 4, 0, 1, 0, 2, 0, 1, 1, 2, 0, 1, 2, 2, 0, 1, 5, 2, 0, 3, 4, 0, 4, 0, 1, 0, 2, 0, 1, 1, 2, 0, 1, 2, 2, 0, 1, 5, 2, 0, 3, 0, 6, 0, 2, 2, 1, 8, 0, 1, 0, 2, 0, 1, 1, 2, 0, 1, 2, 2, 0, 1, 3, 2, 0, 1, 4, 2, 0, 1, 5, 2, 0, 1, 6, 2, 2, 1, 7, 2, 0, 4, 0, 4, 3, 1, 4, 0, 1, 7, 2, 0, 2, 0, 2, 5, 2, 0, 2, 1, 2, 5, 2, 0, 1, 2, 2, 0, 5, 3, 2, 3, 0, 1, 7, 2, 2, 2, 0, 2, 5, 2, 0, 1, 2, 2, 0, 2, 2, 1, 8, 0, 1, 0, 2, 0, 1, 1, 2, 0, 1, 2, 2, 0, 1, 3, 2, 0, 1, 4, 2, 2, 2, 5, 2, 12, 2, 0, 1, 6, 2, 2, 1, 7, 2, 0, 6, 2, 1, 8, 0, 1, 0, 2, 0, 1, 1, 2, 0, 1, 2, 2, 0, 1, 3, 2, 0, 1, 4, 2, 0, 1, 5, 2, 0, 1, 6, 2, 2, 1, 7, 2, 0, 3, 0, 2, 2, 1, 8, 0, 1, 0, 2, 0, 1, 1, 2, 0, 1, 2, 2, 0, 1, 3, 2, 0, 1, 4, 2, 0, 1, 5, 2, 0, 1, 6, 2, 2, 1, 7, 2, 0, 6, 0, 2, 2, 1, 8, 0, 1, 0, 2, 0, 1, 1, 2, 0, 1, 2, 2, 0, 1, 3, 2, 0, 1, 4, 2, 0, 1, 5, 2, 0, 1, 6, 2, 2, 1, 7, 2, 0, 4, 0, 4, 3, 1, 4, 0, 1, 7, 2, 0, 2, 0, 2, 5, 2, 0, 2, 1, 2, 5, 2, 0, 1, 2, 2, 0, 5, 3, 2, 3, 0, 1, 7, 2, 2, 2, 0, 2, 5, 2, 0, 1, 2, 2, 0, 2, 2, 1, 8, 0, 1, 0, 2, 0, 1, 1, 2, 0, 1, 2, 2, 0, 1, 3, 2, 0, 1, 4, 2, 2, 2, 5, 2, 12, 2, 0, 1, 6, 2, 2, 1, 7, 2, 0, 6, 2, 1, 8, 0, 1, 0, 2, 0, 1, 1, 2, 0, 1, 2, 2, 0, 1, 3, 2, 0, 1, 4, 2, 0, 1, 5, 2, 0, 1, 6, 2, 2, 1, 7, 2]
set_option maxRecDepth 1000000 in
theorem ckie_126 : ck_in0 cktb_126 ckcn_126 ckpt_126 4000 ckce_126_0 = true := by decide +kernel
set_option maxRecDepth 1000000 in
theorem ckip_126_0 : ∀ p, ckpt_126[0]? = some p → ck_inP cktb_126 ckcn_126 ckpt_126 4000 p ckce_126_1 = true := by
  intro p hp
  cases hp
  decide +kernel
set_option maxRecDepth 1000000 in
theorem ckip_126_1 : ∀ p, ckpt_126[1]? = some p → ck_inP cktb_126 ckcn_126 ckpt_126 4000 p ckce_126_2 = true := by
  intro p hp
  cases hp
  decide +kernel
theorem ckco_126 : ck_CO ckcn_126 := ck_con (tab := cktb_126) (pats := ckpt_126) (List.forall_mem_cons.mpr ⟨ckco_58, (List.forall_mem_cons.mpr ⟨ckco_116, (List.forall_mem_cons.mpr ⟨ckco_125, (fun _ h => absurd h List.not_mem_nil)⟩)⟩)⟩) ckie_126 (List.forall_mem_cons.mpr ⟨⟨4000, ckce_126_1, ckip_126_0 _ rfl⟩, (List.forall_mem_cons.mpr ⟨⟨4000, ckce_126_2, ckip_126_1 _ rfl⟩, (fun _ h => absurd h List.not_mem_nil)⟩)⟩)
def ckpt_127 : List ck_Pt := []
def cktb_127 : List ck_Co := [ckcn_101, ckcn_126]
def ckce_127_0 : List Nat := [0, 6, 4, 0, 4, 0, 1, 0, 2, 0, 1, 1, 2, 0, 1, 2, 2, 0, 0, 0, 3, 3, 0, 2, 0, 1, 2, 2, 0, 1, 0, 2, 0, 7, 3, 1, 3, 0, 1, 1, 2, 0, 0, 2, 1, 2, 2, 4, 0, 4, 0, 1, 0, 2, 0, 1, 1, 2, 0, 1, 2, 2, 0, 1, 4, 2]
set_option maxRecDepth 1000000 in
theorem ckie_127 : ck_in0 cktb_127 ckcn_127 ckpt_127 4000 ckce_127_0 = true := by decide +kernel
theorem ckco_127 : ck_CO ckcn_127 := ck_con (tab := cktb_127) (pats := ckpt_127) (List.forall_mem_cons.mpr ⟨ckco_101, (List.forall_mem_cons.mpr ⟨ckco_126, (fun _ h => absurd h List.not_mem_nil)⟩)⟩) ckie_127 (fun _ h => absurd h List.not_mem_nil)
def ckpt_128 : List ck_Pt := [(((7, [(0, .ofNat 1, .ofNat 3000), (1, .ofNat 0, .ofNat 2999), (2, .ofNat 0, .ofNat 6), (3, .negSucc 2147483647, .ofNat 2147483647), (4, .ofNat 0, .ofNat 15), (5, .ofNat 0, .ofNat 100000), (6, .ofNat 0, .ofNat 8)], [([(0, .ofNat 1), (1, .negSucc 0)], .ofNat 1, .ofNat 3000), ([(0, .ofNat 1), (5, .ofNat 1)], .ofNat 0, .ofNat 3000)], [(65, (.ofNat 10, []), (.ofNat 0, [(3, .ofNat 1)])), (65, (.ofNat 0, []), (.ofNat 0, [(0, .ofNat 1), (5, .ofNat 1)])), (67, (.negSucc 0, [(0, .ofNat 1), (1, .negSucc 0)]), (.ofNat 0, [(2, .ofNat 1)]))], [(0, (.ofNat 0, []), (.ofNat 0, [])), (5, (.ofNat 0, []), (.ofNat 0, [(0, .ofNat 1), (5, .ofNat 1)]))]), 36, [(0, (2, (.ofNat 65, []))), (1, (2, (.ofNat 18, []))), (2, (2, (.ofNat 55, []))), (3, (0, (.negSucc 0, [(0, .ofNat 1), (1, .negSucc 0)]))), (4, (0, (.ofNat 0, [(2, .ofNat 1)]))), (5, (0, (.ofNat 0, []))), (6, (0, (.negSucc 0, [(4, .ofNat 1)]))), (7, (0, (.ofNat 0, [(6, .ofNat 1)])))], []), (.ofNat 10000000, [(6, .negSucc 0)])), (((8, [(0, .ofNat 1, .ofNat 3000), (1, .ofNat 0, .ofNat 2999), (2, .ofNat 0, .ofNat 5), (3, .negSucc 2147483647, .ofNat 2147483647), (4, .ofNat 0, .ofNat 15), (5, .ofNat 0, .ofNat 100000), (6, .negSucc 2147483647, .ofNat 2147483647), (7, .ofNat 0, .ofNat 8)], [([(0, .ofNat 1), (1, .negSucc 0)], .ofNat 1, .ofNat 3000), ([(0, .ofNat 1), (5, .ofNat 1)], .ofNat 0, .ofNat 3000)], [(65, (.ofNat 10, []), (.ofNat 0, [(3, .ofNat 1)])), (65, (.ofNat 0, []), (.ofNat 0, [(0, .ofNat 1), (5, .ofNat 1)])), (67, (.negSucc 0, [(0, .ofNat 1), (1, .negSucc 0)]), (.ofNat 0, [(2, .ofNat 1)]))], [(0, (.ofNat 0, []), (.ofNat 0, [])), (5, (.ofNat 0, []), (.ofNat 0, [(0, .ofNat 1), (5, .ofNat 1)]))]), 36, [(0, (2, (.ofNat 65, []))), (1, (2, (.ofNat 18, []))), (2, (2, (.ofNat 55, []))), (3, (0, (.negSucc 0, [(0, .ofNat 1), (1, .negSucc 0)]))), (4, (0, (.ofNat 0, [(2, .ofNat 1)]))), (5, (0, (.ofNat 0, [(6, .ofNat 1)]))), (6, (0, (.negSucc 0, [(4, .ofNat 1)]))), (7, (0, (.ofNat 0, [(7, .ofNat 1)])))], []), (.ofNat 10000000, [(7, .negSucc 0)]))]
def cktb_128 : List ck_Co := [ckcn_58, ckcn_116, ckcn_127]
def ckce_128_0 : List Nat := [0, 8, 3, 0, 1, 0, 1, 2, 2, 0, 14, 2, 0, 7, 0, 1, 0, 2, 0, 1, 1, 2, 0, 1, 2, 2, 0, 1, 3, 2, 0, 1, 5, 2, 0, 0, 0, 0, 0, 14, 2, 1, 8, 0, 1, 0, 2, 0, 1, 1, 2, 0, 1, 2, 2, 0, 1, 5, 2, 0, 1, 7, 2, 0, 0, 0, 1, 3, 2, 0, 0]
def ckce_128_1 : List Nat := [0, 4, 4, 0, 4, 0, 1, 0, 2, 0, 1, 1, 2, 0, 1, 2, 2, 0, 1, 5, 2, 0, 3, 4, 0, 4, 0, 1, 0, 2, 0, 1, 1, 2, 0, 1, 2, 2, 0, 1, 5, 2, 0, 3, 0, 8, 2, 0, 7, 0, 1, 0, 2, 0, 1, 1, 2, 0, 1, 2, 2, 0, 1, 3, 2, 0, 1, 4, 2, 0, 1, 5, 2, 2, 1, 6, 2, 0, 3, 0, 2, 2, 0, 7, 0, 1, 0, 2, 0, 1, 1, 2, 0, 1, 2, 2, 0, 1, 3, 2, 0, 1, 4, 2, 0, 1, 5, 2, 2, 1, 6, 2, 0, 8, 2, 0, 7, 0, 1, 0, 2, 0, 1, 1, 2, 0, 1, 2, 2, 0, 1, 3, 2, 0, 1, 4, 2, 0, 1, 5, 2, 2, 1, 6, 2]
def ckce_128_2 : List Nat := [0, 4, 4, 0, 4, 0, 1, 0, 2, 0, 1, 1, 2, 0, 1, 2, 2, 0, 1, 5, 2, 0, 3, 4, 0, 4, 0, 1, 0, 2, 0, 1, 1, 2, 0, 1, 2, 2, 0, 1, 5, 2, 0, 3, 0, 6, 0, 2, 2, 1, 8, 0, 1, 0, 2, 0, 1, 1, 2, 0, 1, 2, 2, 0, 1, 3, 2, 0, 1, 4, 2, 0, 1, 5, 2, 0, 1, 6, 2, 2, 1, 7, 2, 0, 4, 0, 4, 3, 1, 4, 0, 1, 7, 2, 0, 2, 0, 2, 5, 2, 0, 2, 1, 2, 5, 2, 0, 1, 2, 2, 0, 5, 3, 2, 3, 0, 1, 7, 2, 2, 2, 0, 2, 5, 2, 0, 1, 2, 2, 0, 2, 2, 1, 8, 0, 1, 0, 2, 0, 1, 1, 2, 0, 1, 2, 2, 0, 1, 3, 2, 0, 1, 4, 2, 2, 2, 5, 2, 12, 2, 0, 1, 6, 2, 2, 1, 7, 2, 0, 6, 2, 1, 8, 0, 1, 0, 2, 0, 1, 1, 2, 0, 1, 2, 2, 0, 1, 3, 2, 0, 1, 4, 2, 0, 1, 5, 2, 0, 1, 6, 2, 2, 1, 7, 2, 0, 3, 0, 2, 2, 1, 8, 0, 1, 0, 2, 0, 1, 1, 2, 0, 1, 2, 2, 0, 1, 3, 2, 0, 1, 4, 2, 0, 1, 5, 2, 0, 1, 6, 2, 2, 1, 7, 2, 0, 6, 0, 2, 2, 1, 8, 0, 1, 0, 2, 0, 1, 1, 2, 0, 1, 2, 2, 0, 1, 3, 2, 0, 1, 4, 2, 0, 1, 5, 2, 0, 1, 6, 2, 2, 1, 7, 2, 0, 4, 0, 4, 3, 1, 4, 0, 1, 7, 2, 0, 2, 0, 2, 5, 2, 0, 2, 1, 2, 5, 2, 0, 1, 2, 2, 0, 5, 3, 2, 3, 0, 1, 7, 2, 2, 2, 0, 2, 5, 2, 0, 1, 2, 2, 0, 2, 2, 1, 8, 0, 1, 0, 2, 0, 1, 1, 2, 0, 1, 2, 2, 0, 1, 3, 2, 0, 1, 4, 2, 2, 2, 5, 2, 12, 2, 0, 1, 6, 2, 2, 1, 7, 2, 0, 6, 2, 1, 8, 0, 1, 0, 2, 0, 1, 1, 2, 0, 1, 2, 2, 0, 1, 3, 2, 0, 1, 4, 2, 0, 1, 5, 2, 0, 1, 6, 2, 2, 1, 7, 2]
set_option maxRecDepth 1000000 in
theorem ckie_128 : ck_in0 cktb_128 ckcn_128 ckpt_128 4000 ckce_128_0 = true := by decide +kernel
set_option maxRecDepth 1000000 in
theorem ckip_128_0 : ∀ p, ckpt_128[0]? = some p → ck_inP cktb_128 ckcn_128 ckpt_128 4000 p ckce_128_1 = true := by
  intro p hp
  cases hp
  decide +kernel
set_option maxRecDepth 1000000 in
theorem ckip_128_1 : ∀ p, ckpt_128[1]? = some p → ck_inP cktb_128 ckcn_128 ckpt_128 4000 p ckce_128_2 = true := by
  intro p hp
  cases hp
  decide +kernel
theorem ckco_128 : ck_CO ckcn_128 := ck_con (tab := cktb_128) (pats := ckpt_128) (List.forall_mem_cons.mpr ⟨ckco_58, (List.forall_mem_cons.mpr ⟨ckco_116, (List.forall_mem_cons.mpr ⟨ckco_127, (fun _ h => absurd h List.not_mem_nil)⟩)⟩)⟩) ckie_128 (List.forall_mem_cons.mpr ⟨⟨4000, ckce_128_1, ckip_128_0 _ rfl⟩, (List.forall_mem_cons.mpr ⟨⟨4000, ckce_128_2, ckip_128_1 _ rfl⟩, (fun _ h => absurd h List.not_mem_nil)⟩)⟩)
def ckpt_129 : List ck_Pt := [(((4, [(0, .ofNat 0, .ofNat 6), (1, .ofNat 0, .ofNat 3000), (2, .negSucc 2147483647, .ofNat 2147483647), (3, .ofNat 0, .ofNat 6)], [], [(65, (.ofNat 0, []), (.ofNat 0, [(1, .ofNat 1)]))], [(5, (.ofNat 0, []), (.ofNat 0, [(1, .ofNat 1)])), (0, (.ofNat 0, []), (.ofNat 0, []))]), 6, [(0, (2, (.ofNat 65, []))), (1, (2, (.ofNat 18, []))), (2, (2, (.ofNat 55, []))), (3, (2, (.ofNat 39, []))), (4, (0, (.ofNat 0, [(0, .ofNat 1)]))), (5, (0, (.ofNat 0, []))), (6, (0, (.ofNat 0, [(2, .ofNat 1)]))), (7, (0, (.ofNat 0, [(3, .ofNat 1)])))], []), (.ofNat 10000000, [(3, .negSucc 0)]))]
def cktb_129 : List ck_Co := [ckcn_115, ckcn_57, ckcn_128]
def ckce_129_0 : List Nat := [0, 4, 2, 0, 4, 0, 1, 0, 2, 0, 1, 1, 2, 0, 0, 0, 0]
def ckce_129_1 : List Nat := [0, 3, 0, 3, 0, 22, 3, 0, 0, 0, 4, 3, 1, 1, 0, 1, 0, 2, 0, 4, 1, 1, 67, 0, 0, 3, 2, 3, 2, 0, 0, 0, 0, 1, 6, 2, 0, 4, 4, 0, 3, 0, 1, 0, 2, 0, 1, 1, 2, 2, 1, 7, 2, 0, 4, 4, 0, 3, 0, 1, 0, 2, 0, 1, 1, 2, 2, 1, 7, 2, 0, 3, 4, 0, 3, 0, 1, 0, 2, 0, 1, 1, 2, 0, 0, 0, 4, 0, 22, 3, 0, 0, 0, 4, 3, 1, 1, 0, 1, 0, 2, 0, 4, 1, 1, 67, 0, 0, 3, 2, 3, 2, 0, 0, 0, 0, 1, 7, 2, 0, 4, 4, 0, 3, 0, 1, 0, 2, 0, 1, 1, 2, 2, 1, 8, 2, 0, 4, 4, 0, 3, 0, 1, 0, 2, 0, 1, 1, 2, 2, 1, 8, 2, 0, 3, 4, 0, 3, 0, 1, 0, 2, 0, 1, 1, 2, 0, 0, 0, 4, 0, 22, 3, 0, 0, 0, 4, 3, 1, 1, 0, 1, 0, 2, 0, 4, 1, 1, 67, 0, 0, 3, 2, 3, 2, 0, 0, 0, 0, 1, 8, 2, 0, 4, 4, 0, 3, 0, 1, 0, 2, 0, 1, 1, 2, 2, 1, 9, 2, 0, 4, 4, 0, 3, 0, 1, 0, 2, 0, 1, 1, 2, 2, 1, 9, 2, 0, 3, 4, 0, 3, 0, 1, 0, 2, 0, 1, 1, 2, 0, 0, 0, 4, 0, 22, 3, 0, 0, 0, 4, 3, 1, 1, 0, 1, 0, 2, 0, 4, 1, 1, 67, 0, 0, 3, 2, 3, 2, 0, 0, 0, 0, 1, 9, 2, 0, 4, 4, 0, 3, 0, 1, 0, 2, 0, 1, 1, 2, 2, 1, 10, 2, 0, 4, 4, 0, 3, 0, 1, 0, 2, 0, 1, 1, 2, 2, 1, 10, 2, 0, 3, 4, 0, 3, 0, 1, 0, 2, 0, 1, 1, 2, 0, 0, 4, 0, 3, 0, 1, 0, 2, 0, 1, 1, 2, 0, 1, 1, 2, 0, 10, 2, 0, 4, 0, 1, 0, 2, 0, 1, 1, 2, 0, 1, 6, 2, 2, 1, 3, 2]
set_option maxRecDepth 1000000 in
theorem ckie_129 : ck_in0 cktb_129 ckcn_129 ckpt_129 4000 ckce_129_0 = true := by decide +kernel
set_option maxRecDepth 1000000 in
theorem ckip_129_0 : ∀ p, ckpt_129[0]? = some p → ck_inP cktb_129 ckcn_129 ckpt_129 4000 p ckce_129_1 = true := by
  intro p hp
  cases hp
  decide +kernel
theorem ckco_129 : ck_CO ckcn_129 := ck_con (tab := cktb_129) (pats := ckpt_129) (List.forall_mem_cons.mpr ⟨ckco_115, (List.forall_mem_cons.mpr ⟨ckco_57, (List.forall_mem_cons.mpr ⟨ckco_128, (fun _ h => absurd h List.not_mem_nil)⟩)⟩)⟩) ckie_129 (List.forall_mem_cons.mpr ⟨⟨4000, ckce_129_1, ckip_129_0 _ rfl⟩, (fun _ h => absurd h List.not_mem_nil)⟩)
def ckpt_130 : List ck_Pt := []
def cktb_130 : List ck_Co := [ckcn_114, ckcn_129]
def ckce_130_0 : List Nat := [0, 4, 0, 15, 3, 0, 2, 0, 1, 3, 2, 0, 1, 1, 2, 0, 1, 4, 0, 6, 0, 1, 0, 2, 0, 1, 1, 2, 0, 1, 2, 2, 0, 1, 3, 2, 0, 1, 0, 2, 0, 1, 4, 2, 0, 16, 3, 1, 2, 0, 1, 3, 2, 0, 1, 0, 2, 0, 1, 4, 1, 5, 0, 1, 0, 2, 0, 1, 1, 2, 0, 1, 2, 2, 0, 1, 4, 2, 0, 1, 1, 2]
set_option maxRecDepth 1000000 in
theorem ckie_130 : ck_in0 cktb_130 ckcn_130 ckpt_130 4000 ckce_130_0 = true := by decide +kernel
theorem ckco_130 : ck_CO ckcn_130 := ck_con (tab := cktb_130) (pats := ckpt_130) (List.forall_mem_cons.mpr ⟨ckco_114, (List.forall_mem_cons.mpr ⟨ckco_129, (fun _ h => absurd h List.not_mem_nil)⟩)⟩) ckie_130 (fun _ h => absurd h List.not_mem_nil)
def ckpt_131 : List ck_Pt := [(((1, [(0, .ofNat 0, .ofNat 6)], [], [(0, (.ofNat 3, []), (.ofNat 18, [])), (0, (.ofNat 4, []), (.ofNat 28, []))], [(0, (.ofNat 0, []), (.ofNat 0, []))]), 2, [(0, (2, (.ofNat 0, []))), (1, (0, (.ofNat 0, [(0, .ofNat 1)])))], []), (.ofNat 10000000, [(0, .negSucc 0)]))]
def cktb_131 : List ck_Co := []
def ckce_131_0 : List Nat := [0, 2, 2, 0, 1, 0, 0]
def ckce_131_1 : List Nat := [0, 5, 4, 0, 0, 0, 14, 0, 7, 0, 8, 2, 0, 1, 2, 1, 0, 2, 0, 13, 2, 0, 1, 2, 1, 0, 2, 0, 10, 2, 0, 1, 2, 1, 0, 2]
set_option maxRecDepth 1000000 in
theorem ckie_131 : ck_in0 cktb_131 ckcn_131 ckpt_131 4000 ckce_131_0 = true := by decide +kernel
set_option maxRecDepth 1000000 in
theorem ckip_131_0 : ∀ p, ckpt_131[0]? = some p → ck_inP cktb_131 ckcn_131 ckpt_131 4000 p ckce_131_1 = true := by
  intro p hp
  cases hp
  decide +kernel
theorem ckco_131 : ck_CO ckcn_131 := ck_con (tab := cktb_131) (pats := ckpt_131) (fun _ h => absurd h List.not_mem_nil) ckie_131 (List.forall_mem_cons.mpr ⟨⟨4000, ckce_131_1, ckip_131_0 _ rfl⟩, (fun _ h => absurd h List.not_mem_nil)⟩)
def ckpt_132 : List ck_Pt := [(((2, [(0, .ofNat 0, .ofNat 3000), (1, .ofNat 0, .ofNat 3000)], [], [], [(8, (.ofNat 0, []), (.ofNat 0, [(1, .ofNat 1)]))]), 2, [(0, (2, (.ofNat 61, []))), (1, (0, (.ofNat 0, [(0, .ofNat 1)]))), (2, (0, (.negSucc 0, []))), (3, (0, (.ofNat 0, [(1, .ofNat 1)])))], []), (.ofNat 10000000, [(1, .negSucc 0)]))]
def cktb_132 : List ck_Co := []
def ckce_132_0 : List Nat := [0, 2, 2, 0, 2, 0, 1, 0, 2, 0, 0]
def ckce_132_1 : List Nat := [0, 3, 4, 0, 1, 0, 1, 0, 2, 0, 7, 1, 3, 8, 0, 1, 1, 2, 2, 0, 2, 0, 1, 0, 2, 2, 1, 1, 2]
set_option maxRecDepth 1000000 in
theorem ckie_132 : ck_in0 cktb_132 ckcn_132 ckpt_132 4000 ckce_132_0 = true := by decide +kernel
set_option maxRecDepth 1000000 in
theorem ckip_132_0 : ∀ p, ckpt_132[0]? = some p → ck_inP cktb_132 ckcn_132 ckpt_132 4000 p ckce_132_1 = true := by
  intro p hp
  cases hp
  decide +kernel
theorem ckco_132 : ck_CO ckcn_132 := ck_con (tab := cktb_132) (pats := ckpt_132) (fun _ h => absurd h List.not_mem_nil) ckie_132 (List.forall_mem_cons.mpr ⟨⟨4000, ckce_132_1, ckip_132_0 _ rfl⟩, (fun _ h => absurd h List.not_mem_nil)⟩)
